def f_X0_readDeed_b50 (x_t_text_fault : Int32) (x_t_text_place : Int32) (l1 : Int32) : Option (Int32 × Int32 × Int32) :=
  some (l1, x_t_text_fault, x_t_text_place)
def f_X0_readDeed_b32 (x_t_text_end : Int32) (x_t_text_fault : Int32) (x_t_text_place : Int32) (l1 : Int32) : Option (Int32 × Int32 × Int32) :=
  bd1 (f_X9_step x_t_text_end x_t_text_place) (fun w1 =>
  f_X0_readDeed_b50 x_t_text_fault w1 l1)
def f_X0_readDeed (v_t_text_bytes : (Nat → Int32)) (x_t_text_end : Int32) (x_t_text_fault : Int32) (x_t_text_place : Int32) (x_t_text_size : Int32) : Option (Int32 × Int32 × Int32) :=
  bd1 (f_X9_sign v_t_text_bytes x_t_text_end x_t_text_fault x_t_text_place x_t_text_size) (fun r2 =>
  if r2 = (61 : Int32) then
    f_X0_readDeed_b32 x_t_text_end x_t_text_fault x_t_text_place r2
  else
    if r2 = (43 : Int32) then
      f_X0_readDeed_b32 x_t_text_end x_t_text_fault x_t_text_place r2
    else
      if r2 = (45 : Int32) then
        f_X0_readDeed_b32 x_t_text_end x_t_text_fault x_t_text_place r2
      else
        if r2 = (126 : Int32) then
          f_X0_readDeed_b32 x_t_text_end x_t_text_fault x_t_text_place r2
        else
          bd1 (f_X9_fail x_t_text_fault x_t_text_place (1 : Int32)) (fun w3 =>
          f_X0_readDeed_b50 w3 x_t_text_place r2))
set_option maxHeartbeats 4000000 in
set_option maxRecDepth 100000 in
theorem c_X0_readDeed {l : Launch} {D : va_G} {cI cB : ClassId} {A_t A_t_text A_t_signs A_t_words A_t_values A_t_text_bytes : Nat} {x_t_lines x_t_text_size x_t_text_end x_t_text_place x_t_text_fault : Int32} {v_t_text_bytes : Nat → Int32} {o_r o_x_t_text_fault o_x_t_text_place : Int32} (hf : f_X0_readDeed v_t_text_bytes x_t_text_end x_t_text_fault x_t_text_place x_t_text_size = some (o_r, o_x_t_text_fault, o_x_t_text_place)) : CtI l D cI cB yX0_readDeed cX0_readDeed 2 (some .int) 2 43 [.ref A_t] [oX0 A_t A_t_text A_t_signs A_t_words A_t_values x_t_lines, oX9 A_t_text A_t_text_bytes x_t_text_size x_t_text_end x_t_text_place x_t_text_fault, iA cI 260 A_t_text_bytes v_t_text_bytes] [oX0 A_t A_t_text A_t_signs A_t_words A_t_values x_t_lines, oX9 A_t_text A_t_text_bytes x_t_text_size x_t_text_end o_x_t_text_place o_x_t_text_fault, iA cI 260 A_t_text_bytes v_t_text_bytes] o_r := by
  refine x_startI (by decide) (Nat.le_of_ble_eq_true rfl) ?_
  intro p e s m below meth c A C hr hlk hA hK hP hD hS ls hl
  have hl : lv_has ls 2 [(0, .ref A_t)] := hl
  have hx := C.1
  have hb := C.2.1
  unfold f_X0_readDeed at hf
  have hb_50 : ∀ (x_t_text_fault : Int32) (x_t_text_place : Int32) (l1 : Int32) (H : Heap) (locs : List Loc) (ls : Array Slot), lv_has ls 2 [(1, .int l1)] → va_P D vwCl [oX0 A_t A_t_text A_t_signs A_t_words A_t_values x_t_lines, oX9 A_t_text A_t_text_bytes x_t_text_size x_t_text_end x_t_text_place x_t_text_fault, iA cI 260 A_t_text_bytes v_t_text_bytes] H → va_D A [oX0 A_t A_t_text A_t_signs A_t_words A_t_values x_t_lines, oX9 A_t_text A_t_text_bytes x_t_text_size x_t_text_end x_t_text_place x_t_text_fault, iA cI 260 A_t_text_bytes v_t_text_bytes] → va_S A s.heap H locs → f_X0_readDeed_b50 x_t_text_fault x_t_text_place l1 = some (o_r, o_x_t_text_fault, o_x_t_text_place) → W p l e { frames := 2, cells := 0, slots := 0, locals := 43 } s m ([.ref A_t] : List Value).toArray below meth c H locs 0 0 (MQ below (PoI D A [oX0 A_t A_t_text A_t_signs A_t_words A_t_values x_t_lines, oX9 A_t_text A_t_text_bytes x_t_text_size x_t_text_end o_x_t_text_place o_x_t_text_fault, iA cI 260 A_t_text_bytes v_t_text_bytes] o_r) ([.ref A_t] : List Value).toArray s 0 0 A) (F0 m 50 ls []) := by
    intro x_t_text_fault x_t_text_place l1 H locs ls hl hP hD hS hf
    unfold f_X0_readDeed_b50 at hf
    refine lv_iload_n hx hb dX0_readDeed_50 rfl (lv_at hl 0 rfl) ?_
    obtain ⟨rfl, rfl, rfl⟩ := ev3 hf
    exact x_iret C hr hlk hP hD hS dX0_readDeed_51
  have hb_32 : ∀ (x_t_text_fault : Int32) (x_t_text_place : Int32) (l1 : Int32) (H : Heap) (locs : List Loc) (ls : Array Slot), lv_has ls 2 [(0, .ref A_t), (1, .int l1)] → va_P D vwCl [oX0 A_t A_t_text A_t_signs A_t_words A_t_values x_t_lines, oX9 A_t_text A_t_text_bytes x_t_text_size x_t_text_end x_t_text_place x_t_text_fault, iA cI 260 A_t_text_bytes v_t_text_bytes] H → va_D A [oX0 A_t A_t_text A_t_signs A_t_words A_t_values x_t_lines, oX9 A_t_text A_t_text_bytes x_t_text_size x_t_text_end x_t_text_place x_t_text_fault, iA cI 260 A_t_text_bytes v_t_text_bytes] → va_S A s.heap H locs → f_X0_readDeed_b32 x_t_text_end x_t_text_fault x_t_text_place l1 = some (o_r, o_x_t_text_fault, o_x_t_text_place) → W p l e { frames := 2, cells := 0, slots := 0, locals := 43 } s m ([.ref A_t] : List Value).toArray below meth c H locs 0 0 (MQ below (PoI D A [oX0 A_t A_t_text A_t_signs A_t_words A_t_values x_t_lines, oX9 A_t_text A_t_text_bytes x_t_text_size x_t_text_end o_x_t_text_place o_x_t_text_fault, iA cI 260 A_t_text_bytes v_t_text_bytes] o_r) ([.ref A_t] : List Value).toArray s 0 0 A) (F0 m 32 ls []) := by
    intro x_t_text_fault x_t_text_place l1 H locs ls hl hP hD hS hf
    unfold f_X0_readDeed_b32 at hf
    refine lv_aload_n hx hb dX0_readDeed_32 rfl (lv_at hl 0 rfl) ?_
    refine x_get C hK hP fd_X0_21 0 rfl rfl dX0_readDeed_33 ?_
    obtain ⟨w1, hc2, hf⟩ := bd1_e hf
    refine x_callVV (ws' := [oX0 A_t A_t_text A_t_signs A_t_words A_t_values x_t_lines, oX9 A_t_text A_t_text_bytes x_t_text_size x_t_text_end w1 x_t_text_fault, iA cI 260 A_t_text_bytes v_t_text_bytes]) (rest := []) C hK hP hD hS hA hl mf_X0_84 (c_X9_step hc2) [1] 0 9 rfl rfl rfl rfl rfl rfl rfl rfl rfl rfl (Nat.le_of_ble_eq_true rfl) ⟨Nat.le_of_ble_eq_true rfl, Nat.le_of_ble_eq_true rfl⟩ ⟨Nat.le_refl _, Nat.le_refl _⟩ dX0_readDeed_36 ?_
    intro H locs hP hD hS
    refine lv_goto (tgt := 50) hx hb dX0_readDeed_39 (by decide) ?_
    exact hb_50 x_t_text_fault w1 l1 _ _ ls (lv_sub hl [1] rfl) hP hD hS hf
  refine lv_aload_n hx hb dX0_readDeed_0 rfl (lv_at hl 0 rfl) ?_
  refine x_get C hK hP fd_X0_21 0 rfl rfl dX0_readDeed_1 ?_
  obtain ⟨r3, hc4, hf⟩ := bd1_e hf
  refine x_callVI (ws' := [oX0 A_t A_t_text A_t_signs A_t_words A_t_values x_t_lines, oX9 A_t_text A_t_text_bytes x_t_text_size x_t_text_end x_t_text_place x_t_text_fault, iA cI 260 A_t_text_bytes v_t_text_bytes]) (rest := []) C hK hP hD hS hA hl mf_X0_73 (c_X9_sign hc4) [1, 2] 0 9 rfl rfl rfl rfl rfl rfl rfl rfl rfl rfl (Nat.le_of_ble_eq_true rfl) ⟨Nat.le_of_ble_eq_true rfl, Nat.le_of_ble_eq_true rfl⟩ ⟨Nat.le_refl _, Nat.le_refl _⟩ dX0_readDeed_4 ?_
  intro H locs hP hD hS
  refine lv_istore_n (lv' := [(1, .int r3), (0, .ref A_t)]) hx hb dX0_readDeed_7 rfl hl (by decide) rfl (fun ls hl => ?_)
  refine lv_iload_n hx hb dX0_readDeed_8 rfl (lv_at hl 0 rfl) ?_
  refine lv_bipush (v := 61) hx hb dX0_readDeed_9 (by decide) ?_
  refine lv_icmp_eq (tgt := 32) hx hb dX0_readDeed_11 (by decide) (fun q => ?_) (fun q => ?_)
  · have hf := if_t q hf
    exact hb_32 x_t_text_fault x_t_text_place r3 _ _ ls (lv_sub hl [1, 0] rfl) hP hD hS hf
  · have hf := if_f q hf
    refine lv_iload_n hx hb dX0_readDeed_14 rfl (lv_at hl 0 rfl) ?_
    refine lv_bipush (v := 43) hx hb dX0_readDeed_15 (by decide) ?_
    refine lv_icmp_eq (tgt := 32) hx hb dX0_readDeed_17 (by decide) (fun q => ?_) (fun q => ?_)
    · have hf := if_t q hf
      exact hb_32 x_t_text_fault x_t_text_place r3 _ _ ls (lv_sub hl [1, 0] rfl) hP hD hS hf
    · have hf := if_f q hf
      refine lv_iload_n hx hb dX0_readDeed_20 rfl (lv_at hl 0 rfl) ?_
      refine lv_bipush (v := 45) hx hb dX0_readDeed_21 (by decide) ?_
      refine lv_icmp_eq (tgt := 32) hx hb dX0_readDeed_23 (by decide) (fun q => ?_) (fun q => ?_)
      · have hf := if_t q hf
        exact hb_32 x_t_text_fault x_t_text_place r3 _ _ ls (lv_sub hl [1, 0] rfl) hP hD hS hf
      · have hf := if_f q hf
        refine lv_iload_n hx hb dX0_readDeed_26 rfl (lv_at hl 0 rfl) ?_
        refine lv_bipush (v := 126) hx hb dX0_readDeed_27 (by decide) ?_
        refine lv_icmp_ne (tgt := 42) hx hb dX0_readDeed_29 (by decide) (fun q => ?_) (fun q => ?_)
        · have hf := if_f q hf
          refine lv_aload_n hx hb dX0_readDeed_42 rfl (lv_at hl 1 rfl) ?_
          refine x_get C hK hP fd_X0_21 0 rfl rfl dX0_readDeed_43 ?_
          refine lv_iconst (v := 1) hx hb dX0_readDeed_46 (by decide) ?_
          obtain ⟨w5, hc6, hf⟩ := bd1_e hf
          refine x_callVV (ws' := [oX0 A_t A_t_text A_t_signs A_t_words A_t_values x_t_lines, oX9 A_t_text A_t_text_bytes x_t_text_size x_t_text_end x_t_text_place w5, iA cI 260 A_t_text_bytes v_t_text_bytes]) (rest := []) C hK hP hD hS hA hl mf_X0_81 (c_X9_fail hc6) [1] 0 9 rfl rfl rfl rfl rfl rfl rfl rfl rfl rfl (Nat.le_of_ble_eq_true rfl) ⟨Nat.le_of_ble_eq_true rfl, Nat.le_of_ble_eq_true rfl⟩ ⟨Nat.le_refl _, Nat.le_refl _⟩ dX0_readDeed_47 ?_
          intro H locs hP hD hS
          exact hb_50 w5 x_t_text_place r3 _ _ ls (lv_sub hl [0] rfl) hP hD hS hf
        · have hf := if_t q hf
          exact hb_32 x_t_text_fault x_t_text_place r3 _ _ ls (lv_sub hl [1, 0] rfl) hP hD hS hf
def f_X0_readOneOf (v_t_text_bytes : (Nat → Int32)) (x_t_text_end : Int32) (x_t_text_fault : Int32) (x_t_text_place : Int32) (x_t_text_size : Int32) (a1 : Int32) (a2 : Int32) : Option (Int32 × Int32 × Int32) :=
  bd1 (f_X9_sign v_t_text_bytes x_t_text_end x_t_text_fault x_t_text_place x_t_text_size) (fun r1 =>
  bd1 (f_X11_within r1 a1 a2) (fun r2 =>
  if r2 = 0 then
    bd1 (f_X9_fail x_t_text_fault x_t_text_place (1 : Int32)) (fun w4 =>
    some ((0 : Int32), w4, x_t_text_place))
  else
    bd1 (f_X9_step x_t_text_end x_t_text_place) (fun w3 =>
    some ((r1 - a1), x_t_text_fault, w3))))
set_option maxHeartbeats 4000000 in
set_option maxRecDepth 100000 in
theorem c_X0_readOneOf {l : Launch} {D : va_G} {cI cB : ClassId} {A_t A_t_text A_t_signs A_t_words A_t_values A_t_text_bytes : Nat} {x_t_lines x_t_text_size x_t_text_end x_t_text_place x_t_text_fault a1 a2 : Int32} {v_t_text_bytes : Nat → Int32} {o_r o_x_t_text_fault o_x_t_text_place : Int32} (hf : f_X0_readOneOf v_t_text_bytes x_t_text_end x_t_text_fault x_t_text_place x_t_text_size a1 a2 = some (o_r, o_x_t_text_fault, o_x_t_text_place)) : CtI l D cI cB yX0_readOneOf cX0_readOneOf 4 (some .int) 2 43 [.ref A_t, .int a1, .int a2] [oX0 A_t A_t_text A_t_signs A_t_words A_t_values x_t_lines, oX9 A_t_text A_t_text_bytes x_t_text_size x_t_text_end x_t_text_place x_t_text_fault, iA cI 260 A_t_text_bytes v_t_text_bytes] [oX0 A_t A_t_text A_t_signs A_t_words A_t_values x_t_lines, oX9 A_t_text A_t_text_bytes x_t_text_size x_t_text_end o_x_t_text_place o_x_t_text_fault, iA cI 260 A_t_text_bytes v_t_text_bytes] o_r := by
  refine x_startI (by decide) (Nat.le_of_ble_eq_true rfl) ?_
  intro p e s m below meth c A C hr hlk hA hK hP hD hS ls hl
  have hl : lv_has ls 4 [(0, .ref A_t), (1, .int a1), (2, .int a2)] := hl
  have hx := C.1
  have hb := C.2.1
  unfold f_X0_readOneOf at hf
  refine lv_aload_n hx hb dX0_readOneOf_0 rfl (lv_at hl 0 rfl) ?_
  refine x_get C hK hP fd_X0_21 0 rfl rfl dX0_readOneOf_1 ?_
  obtain ⟨r1, hc2, hf⟩ := bd1_e hf
  refine x_callVI (ws' := [oX0 A_t A_t_text A_t_signs A_t_words A_t_values x_t_lines, oX9 A_t_text A_t_text_bytes x_t_text_size x_t_text_end x_t_text_place x_t_text_fault, iA cI 260 A_t_text_bytes v_t_text_bytes]) (rest := []) C hK hP hD hS hA hl mf_X0_73 (c_X9_sign hc2) [1, 2] 0 9 rfl rfl rfl rfl rfl rfl rfl rfl rfl rfl (Nat.le_of_ble_eq_true rfl) ⟨Nat.le_of_ble_eq_true rfl, Nat.le_of_ble_eq_true rfl⟩ ⟨Nat.le_refl _, Nat.le_refl _⟩ dX0_readOneOf_4 ?_
  intro H locs hP hD hS
  refine lv_istore_n (lv' := [(3, .int r1), (0, .ref A_t), (1, .int a1), (2, .int a2)]) hx hb dX0_readOneOf_7 rfl hl (by decide) rfl (fun ls hl => ?_)
  refine lv_iload_n hx hb dX0_readOneOf_8 rfl (lv_at hl 0 rfl) ?_
  refine lv_iload_n hx hb dX0_readOneOf_9 rfl (lv_at hl 2 rfl) ?_
  refine lv_iload_n hx hb dX0_readOneOf_10 rfl (lv_at hl 3 rfl) ?_
  obtain ⟨r3, hc4, hf⟩ := bd1_e hf
  refine x_callSI (ws' := [oX0 A_t A_t_text A_t_signs A_t_words A_t_values x_t_lines, oX9 A_t_text A_t_text_bytes x_t_text_size x_t_text_end x_t_text_place x_t_text_fault, iA cI 260 A_t_text_bytes v_t_text_bytes]) (rest := []) C hK hP hD hS hA hl mf_X0_100 (c_X11_within hc4) [] rfl rfl rfl rfl rfl rfl rfl rfl (Nat.le_of_ble_eq_true rfl) ⟨Nat.le_of_ble_eq_true rfl, Nat.le_of_ble_eq_true rfl⟩ ⟨Nat.le_refl _, Nat.le_refl _⟩ dX0_readOneOf_11 ?_
  intro H locs hP hD hS
  refine lv_if_ne (tgt := 27) hx hb dX0_readOneOf_14 (by decide) (fun q => ?_) (fun q => ?_)
  · have hf := if_f q hf
    refine lv_aload_n hx hb dX0_readOneOf_27 rfl (lv_at hl 1 rfl) ?_
    refine x_get C hK hP fd_X0_21 0 rfl rfl dX0_readOneOf_28 ?_
    obtain ⟨w5, hc6, hf⟩ := bd1_e hf
    refine x_callVV (ws' := [oX0 A_t A_t_text A_t_signs A_t_words A_t_values x_t_lines, oX9 A_t_text A_t_text_bytes x_t_text_size x_t_text_end w5 x_t_text_fault, iA cI 260 A_t_text_bytes v_t_text_bytes]) (rest := []) C hK hP hD hS hA hl mf_X0_84 (c_X9_step hc6) [1] 0 9 rfl rfl rfl rfl rfl rfl rfl rfl rfl rfl (Nat.le_of_ble_eq_true rfl) ⟨Nat.le_of_ble_eq_true rfl, Nat.le_of_ble_eq_true rfl⟩ ⟨Nat.le_refl _, Nat.le_refl _⟩ dX0_readOneOf_31 ?_
    intro H locs hP hD hS
    refine lv_iload_n hx hb dX0_readOneOf_34 rfl (lv_at hl 0 rfl) ?_
    refine lv_iload_n hx hb dX0_readOneOf_35 rfl (lv_at hl 2 rfl) ?_
    refine lv_isub hx hb dX0_readOneOf_36 ?_
    obtain ⟨rfl, rfl, rfl⟩ := ev3 hf
    exact x_iret C hr hlk hP hD hS dX0_readOneOf_37
  · have hf := if_t q hf
    refine lv_aload_n hx hb dX0_readOneOf_17 rfl (lv_at hl 1 rfl) ?_
    refine x_get C hK hP fd_X0_21 0 rfl rfl dX0_readOneOf_18 ?_
    refine lv_iconst (v := 1) hx hb dX0_readOneOf_21 (by decide) ?_
    obtain ⟨w7, hc8, hf⟩ := bd1_e hf
    refine x_callVV (ws' := [oX0 A_t A_t_text A_t_signs A_t_words A_t_values x_t_lines, oX9 A_t_text A_t_text_bytes x_t_text_size x_t_text_end x_t_text_place w7, iA cI 260 A_t_text_bytes v_t_text_bytes]) (rest := []) C hK hP hD hS hA hl mf_X0_81 (c_X9_fail hc8) [1] 0 9 rfl rfl rfl rfl rfl rfl rfl rfl rfl rfl (Nat.le_of_ble_eq_true rfl) ⟨Nat.le_of_ble_eq_true rfl, Nat.le_of_ble_eq_true rfl⟩ ⟨Nat.le_refl _, Nat.le_refl _⟩ dX0_readOneOf_22 ?_
    intro H locs hP hD hS
    refine lv_iconst (v := 0) hx hb dX0_readOneOf_25 (by decide) ?_
    obtain ⟨rfl, rfl, rfl⟩ := ev3 hf
    exact x_iret C hr hlk hP hD hS dX0_readOneOf_26
def f_X0_readValue_b40 (x_t_text_fault : Int32) (x_t_text_place : Int32) (s0 : Int32) : Option (Int32 × Int32 × Int32) :=
  some (s0, x_t_text_fault, x_t_text_place)
def f_X0_readValue (v_t_text_bytes : (Nat → Int32)) (x_t_text_end : Int32) (x_t_text_fault : Int32) (x_t_text_place : Int32) (x_t_text_size : Int32) (a1 : Int32) : Option (Int32 × Int32 × Int32) :=
  if a1 = (126 : Int32) then
    bd3 (f_X0_readOneOf v_t_text_bytes x_t_text_end x_t_text_fault x_t_text_place x_t_text_size (97 : Int32) (112 : Int32)) (fun r7 w8 w9 =>
    some (r7, w8, w9))
  else
    if a1 = (35 : Int32) then
      bd3 (f_X0_readOneOf v_t_text_bytes x_t_text_end x_t_text_fault x_t_text_place x_t_text_size (48 : Int32) (52 : Int32)) (fun r4 w5 w6 =>
      f_X0_readValue_b40 w5 w6 r4)
    else
      bd3 (f_X9_readNumber v_t_text_bytes x_t_text_end x_t_text_fault x_t_text_place x_t_text_size (2 : Int32)) (fun r1 w2 w3 =>
      f_X0_readValue_b40 w2 w3 r1)
set_option maxHeartbeats 4000000 in
set_option maxRecDepth 100000 in
theorem c_X0_readValue {l : Launch} {D : va_G} {cI cB : ClassId} {A_t A_t_text A_t_signs A_t_words A_t_values A_t_text_bytes : Nat} {x_t_lines x_t_text_size x_t_text_end x_t_text_place x_t_text_fault a1 : Int32} {v_t_text_bytes : Nat → Int32} {o_r o_x_t_text_fault o_x_t_text_place : Int32} (hf : f_X0_readValue v_t_text_bytes x_t_text_end x_t_text_fault x_t_text_place x_t_text_size a1 = some (o_r, o_x_t_text_fault, o_x_t_text_place)) : CtI l D cI cB yX0_readValue cX0_readValue 2 (some .int) 3 66 [.ref A_t, .int a1] [oX0 A_t A_t_text A_t_signs A_t_words A_t_values x_t_lines, oX9 A_t_text A_t_text_bytes x_t_text_size x_t_text_end x_t_text_place x_t_text_fault, iA cI 260 A_t_text_bytes v_t_text_bytes] [oX0 A_t A_t_text A_t_signs A_t_words A_t_values x_t_lines, oX9 A_t_text A_t_text_bytes x_t_text_size x_t_text_end o_x_t_text_place o_x_t_text_fault, iA cI 260 A_t_text_bytes v_t_text_bytes] o_r := by
  refine x_startI (by decide) (Nat.le_of_ble_eq_true rfl) ?_
  intro p e s m below meth c A C hr hlk hA hK hP hD hS ls hl
  have hl : lv_has ls 2 [(0, .ref A_t), (1, .int a1)] := hl
  have hx := C.1
  have hb := C.2.1
  unfold f_X0_readValue at hf
  have hb_40 : ∀ (x_t_text_fault : Int32) (x_t_text_place : Int32) (s0 : Int32) (H : Heap) (locs : List Loc) (ls : Array Slot), lv_has ls 2 [] → va_P D vwCl [oX0 A_t A_t_text A_t_signs A_t_words A_t_values x_t_lines, oX9 A_t_text A_t_text_bytes x_t_text_size x_t_text_end x_t_text_place x_t_text_fault, iA cI 260 A_t_text_bytes v_t_text_bytes] H → va_D A [oX0 A_t A_t_text A_t_signs A_t_words A_t_values x_t_lines, oX9 A_t_text A_t_text_bytes x_t_text_size x_t_text_end x_t_text_place x_t_text_fault, iA cI 260 A_t_text_bytes v_t_text_bytes] → va_S A s.heap H locs → f_X0_readValue_b40 x_t_text_fault x_t_text_place s0 = some (o_r, o_x_t_text_fault, o_x_t_text_place) → W p l e { frames := 3, cells := 0, slots := 0, locals := 66 } s m ([.ref A_t, .int a1] : List Value).toArray below meth c H locs 0 0 (MQ below (PoI D A [oX0 A_t A_t_text A_t_signs A_t_words A_t_values x_t_lines, oX9 A_t_text A_t_text_bytes x_t_text_size x_t_text_end o_x_t_text_place o_x_t_text_fault, iA cI 260 A_t_text_bytes v_t_text_bytes] o_r) ([.ref A_t, .int a1] : List Value).toArray s 0 0 A) (F0 m 40 ls [.int s0]) := by
    intro x_t_text_fault x_t_text_place s0 H locs ls hl hP hD hS hf
    unfold f_X0_readValue_b40 at hf
    obtain ⟨rfl, rfl, rfl⟩ := ev3 hf
    exact x_iret C hr hlk hP hD hS dX0_readValue_40
  refine lv_iload_n hx hb dX0_readValue_0 rfl (lv_at hl 1 rfl) ?_
  refine lv_bipush (v := 126) hx hb dX0_readValue_1 (by decide) ?_
  refine lv_icmp_ne (tgt := 15) hx hb dX0_readValue_3 (by decide) (fun q => ?_) (fun q => ?_)
  · have hf := if_f q hf
    refine lv_iload_n hx hb dX0_readValue_15 rfl (lv_at hl 1 rfl) ?_
    refine lv_bipush (v := 35) hx hb dX0_readValue_16 (by decide) ?_
    refine lv_icmp_ne (tgt := 32) hx hb dX0_readValue_18 (by decide) (fun q => ?_) (fun q => ?_)
    · have hf := if_f q hf
      refine lv_aload_n hx hb dX0_readValue_32 rfl (lv_at hl 0 rfl) ?_
      refine x_get C hK hP fd_X0_21 0 rfl rfl dX0_readValue_33 ?_
      refine lv_iconst (v := 2) hx hb dX0_readValue_36 (by decide) ?_
      obtain ⟨r1, w2, w3, hc4, hf⟩ := bd3_e hf
      refine x_callVI (ws' := [oX0 A_t A_t_text A_t_signs A_t_words A_t_values x_t_lines, oX9 A_t_text A_t_text_bytes x_t_text_size x_t_text_end w3 w2, iA cI 260 A_t_text_bytes v_t_text_bytes]) (rest := []) C hK hP hD hS hA hl mf_X0_97 (c_X9_readNumber hc4) [1, 2] 0 9 rfl rfl rfl rfl rfl rfl rfl rfl rfl rfl (Nat.le_of_ble_eq_true rfl) ⟨Nat.le_of_ble_eq_true rfl, Nat.le_of_ble_eq_true rfl⟩ ⟨Nat.le_refl _, Nat.le_refl _⟩ dX0_readValue_37 ?_
      intro H locs hP hD hS
      exact hb_40 w2 w3 r1 _ _ ls (lv_sub hl [] rfl) hP hD hS hf
    · have hf := if_t q hf
      refine lv_aload_n hx hb dX0_readValue_21 rfl (lv_at hl 0 rfl) ?_
      refine lv_bipush (v := 48) hx hb dX0_readValue_22 (by decide) ?_
      refine lv_bipush (v := 52) hx hb dX0_readValue_24 (by decide) ?_
      obtain ⟨r5, w6, w7, hc8, hf⟩ := bd3_e hf
      refine x_callVI (ws' := [oX0 A_t A_t_text A_t_signs A_t_words A_t_values x_t_lines, oX9 A_t_text A_t_text_bytes x_t_text_size x_t_text_end w7 w6, iA cI 260 A_t_text_bytes v_t_text_bytes]) (rest := []) C hK hP hD hS hA hl mf_X0_94 (c_X0_readOneOf hc8) [0, 1, 2] 0 0 rfl rfl rfl rfl rfl rfl rfl rfl rfl rfl (Nat.le_of_ble_eq_true rfl) ⟨Nat.le_of_ble_eq_true rfl, Nat.le_of_ble_eq_true rfl⟩ ⟨Nat.le_refl _, Nat.le_refl _⟩ dX0_readValue_26 ?_
      intro H locs hP hD hS
      refine lv_goto (tgt := 40) hx hb dX0_readValue_29 (by decide) ?_
      exact hb_40 w6 w7 r5 _ _ ls (lv_sub hl [] rfl) hP hD hS hf
  · have hf := if_t q hf
    refine lv_aload_n hx hb dX0_readValue_6 rfl (lv_at hl 0 rfl) ?_
    refine lv_bipush (v := 97) hx hb dX0_readValue_7 (by decide) ?_
    refine lv_bipush (v := 112) hx hb dX0_readValue_9 (by decide) ?_
    obtain ⟨r9, w10, w11, hc12, hf⟩ := bd3_e hf
    refine x_callVI (ws' := [oX0 A_t A_t_text A_t_signs A_t_words A_t_values x_t_lines, oX9 A_t_text A_t_text_bytes x_t_text_size x_t_text_end w11 w10, iA cI 260 A_t_text_bytes v_t_text_bytes]) (rest := []) C hK hP hD hS hA hl mf_X0_94 (c_X0_readOneOf hc12) [0, 1, 2] 0 0 rfl rfl rfl rfl rfl rfl rfl rfl rfl rfl (Nat.le_of_ble_eq_true rfl) ⟨Nat.le_of_ble_eq_true rfl, Nat.le_of_ble_eq_true rfl⟩ ⟨Nat.le_refl _, Nat.le_refl _⟩ dX0_readValue_11 ?_
    intro H locs hP hD hS
    obtain ⟨rfl, rfl, rfl⟩ := ev3 hf
    exact x_iret C hr hlk hP hD hS dX0_readValue_14
def f_X0_readLine_b145 (v_t_signs : (Nat → Int32)) (v_t_values : (Nat → Int32)) (v_t_words : (Nat → Int32)) (x_t_lines : Int32) (x_t_text_fault : Int32) (x_t_text_place : Int32) : Option ((Nat → Int32) × (Nat → Int32) × (Nat → Int32) × Int32 × Int32 × Int32) :=
  some (v_t_signs, v_t_values, v_t_words, x_t_lines, x_t_text_fault, x_t_text_place)
def f_X0_readLine_b112 (v_t_text_bytes : (Nat → Int32)) (x_t_text_end : Int32) (x_t_text_size : Int32) (v_t_signs : (Nat → Int32)) (v_t_values : (Nat → Int32)) (v_t_words : (Nat → Int32)) (x_t_lines : Int32) (x_t_text_fault : Int32) (x_t_text_place : Int32) (s1 : Int32) (s2 : Int32) : Option ((Nat → Int32) × (Nat → Int32) × (Nat → Int32) × Int32 × Int32 × Int32) :=
  sI 20 v_t_signs s1 s2 (fun w1 =>
  gI 20 w1 x_t_lines (fun g2 =>
  bd3 (f_X0_readValue v_t_text_bytes x_t_text_end x_t_text_fault x_t_text_place x_t_text_size g2) (fun r3 w4 w5 =>
  sI 20 v_t_values x_t_lines r3 (fun w6 =>
  f_X0_readLine_b145 w1 w6 v_t_words (x_t_lines + (1 : Int32)) w4 w5))))
def f_X0_readLine_b88 (v_t_text_bytes : (Nat → Int32)) (x_t_text_end : Int32) (x_t_text_size : Int32) (v_t_signs : (Nat → Int32)) (v_t_values : (Nat → Int32)) (v_t_words : (Nat → Int32)) (x_t_lines : Int32) (x_t_text_fault : Int32) (x_t_text_place : Int32) (s1 : Int32) (s2 : Int32) (l1 : Int32) : Option ((Nat → Int32) × (Nat → Int32) × (Nat → Int32) × Int32 × Int32 × Int32) :=
  sI 20 v_t_words s1 s2 (fun w1 =>
  bd1 (f_X11_isWordSign l1) (fun r2 =>
  if r2 = 0 then
    f_X0_readLine_b112 v_t_text_bytes x_t_text_end x_t_text_size v_t_signs v_t_values w1 x_t_lines x_t_text_fault x_t_text_place x_t_lines l1
  else
    bd3 (f_X0_readDeed v_t_text_bytes x_t_text_end x_t_text_fault x_t_text_place x_t_text_size) (fun r3 w4 w5 =>
    f_X0_readLine_b112 v_t_text_bytes x_t_text_end x_t_text_size v_t_signs v_t_values w1 x_t_lines w4 w5 x_t_lines r3)))
def f_X0_readLine_b38 (v_t_text_bytes : (Nat → Int32)) (x_t_text_end : Int32) (x_t_text_size : Int32) (v_t_signs : (Nat → Int32)) (v_t_values : (Nat → Int32)) (v_t_words : (Nat → Int32)) (x_t_lines : Int32) (x_t_text_fault : Int32) (x_t_text_place : Int32) (l1 : Int32) : Option ((Nat → Int32) × (Nat → Int32) × (Nat → Int32) × Int32 × Int32 × Int32) :=
  if x_t_lines < (20 : Int32) then
    bd1 (f_X9_step x_t_text_end x_t_text_place) (fun w1 =>
    bd1 (f_X11_isWordSign l1) (fun r2 =>
    if r2 = 0 then
      f_X0_readLine_b88 v_t_text_bytes x_t_text_end x_t_text_size v_t_signs v_t_values v_t_words x_t_lines x_t_text_fault w1 x_t_lines (0 : Int32) l1
    else
      f_X0_readLine_b88 v_t_text_bytes x_t_text_end x_t_text_size v_t_signs v_t_values v_t_words x_t_lines x_t_text_fault w1 x_t_lines (l1 - (97 : Int32)) l1))
  else
    bd1 (f_X9_fail x_t_text_fault x_t_text_place (4 : Int32)) (fun w3 =>
    f_X0_readLine_b145 v_t_signs v_t_values v_t_words x_t_lines w3 x_t_text_place)
def f_X0_readLine (v_t_signs : (Nat → Int32)) (v_t_text_bytes : (Nat → Int32)) (v_t_values : (Nat → Int32)) (v_t_words : (Nat → Int32)) (x_t_lines : Int32) (x_t_text_end : Int32) (x_t_text_fault : Int32) (x_t_text_place : Int32) (x_t_text_size : Int32) : Option ((Nat → Int32) × (Nat → Int32) × (Nat → Int32) × Int32 × Int32 × Int32) :=
  bd1 (f_X9_sign v_t_text_bytes x_t_text_end x_t_text_fault x_t_text_place x_t_text_size) (fun r4 =>
  bd1 (f_X11_isWordSign r4) (fun r5 =>
  if r5 = 0 then
    if r4 = (33 : Int32) then
      f_X0_readLine_b38 v_t_text_bytes x_t_text_end x_t_text_size v_t_signs v_t_values v_t_words x_t_lines x_t_text_fault x_t_text_place r4
    else
      if r4 = (35 : Int32) then
        f_X0_readLine_b38 v_t_text_bytes x_t_text_end x_t_text_size v_t_signs v_t_values v_t_words x_t_lines x_t_text_fault x_t_text_place r4
      else
        bd1 (f_X9_fail x_t_text_fault x_t_text_place (1 : Int32)) (fun w6 =>
        f_X0_readLine_b145 v_t_signs v_t_values v_t_words x_t_lines w6 x_t_text_place)
  else
    f_X0_readLine_b38 v_t_text_bytes x_t_text_end x_t_text_size v_t_signs v_t_values v_t_words x_t_lines x_t_text_fault x_t_text_place r4))
set_option maxHeartbeats 4000000 in
set_option maxRecDepth 100000 in
theorem c_X0_readLine {l : Launch} {D : va_G} {cI cB : ClassId} {A_t A_t_text A_t_signs A_t_words A_t_values A_t_text_bytes : Nat} {x_t_lines x_t_text_size x_t_text_end x_t_text_place x_t_text_fault : Int32} {v_t_signs v_t_text_bytes v_t_values v_t_words : Nat → Int32} {o_x_t_lines o_x_t_text_fault o_x_t_text_place : Int32} {o_v_t_signs o_v_t_values o_v_t_words : Nat → Int32} (hf : f_X0_readLine v_t_signs v_t_text_bytes v_t_values v_t_words x_t_lines x_t_text_end x_t_text_fault x_t_text_place x_t_text_size = some (o_v_t_signs, o_v_t_values, o_v_t_words, o_x_t_lines, o_x_t_text_fault, o_x_t_text_place)) : CtV l D cI cB yX0_readLine cX0_readLine 2 4 87 [.ref A_t] [oX0 A_t A_t_text A_t_signs A_t_words A_t_values x_t_lines, iA cI 20 A_t_signs v_t_signs, oX9 A_t_text A_t_text_bytes x_t_text_size x_t_text_end x_t_text_place x_t_text_fault, iA cI 260 A_t_text_bytes v_t_text_bytes, iA cI 20 A_t_values v_t_values, iA cI 20 A_t_words v_t_words] [oX0 A_t A_t_text A_t_signs A_t_words A_t_values o_x_t_lines, iA cI 20 A_t_signs o_v_t_signs, oX9 A_t_text A_t_text_bytes x_t_text_size x_t_text_end o_x_t_text_place o_x_t_text_fault, iA cI 260 A_t_text_bytes v_t_text_bytes, iA cI 20 A_t_values o_v_t_values, iA cI 20 A_t_words o_v_t_words] := by
  refine x_startV (by decide) (Nat.le_of_ble_eq_true rfl) ?_
  intro p e s m below meth c A C hr hlk hA hK hP hD hS ls hl
  have hl : lv_has ls 2 [(0, .ref A_t)] := hl
  have hx := C.1
  have hb := C.2.1
  unfold f_X0_readLine at hf
  have hb_145 : ∀ (v_t_signs : (Nat → Int32)) (v_t_values : (Nat → Int32)) (v_t_words : (Nat → Int32)) (x_t_lines : Int32) (x_t_text_fault : Int32) (x_t_text_place : Int32) (H : Heap) (locs : List Loc) (ls : Array Slot), lv_has ls 2 [] → va_P D vwCl [oX0 A_t A_t_text A_t_signs A_t_words A_t_values x_t_lines, iA cI 20 A_t_signs v_t_signs, oX9 A_t_text A_t_text_bytes x_t_text_size x_t_text_end x_t_text_place x_t_text_fault, iA cI 260 A_t_text_bytes v_t_text_bytes, iA cI 20 A_t_values v_t_values, iA cI 20 A_t_words v_t_words] H → va_D A [oX0 A_t A_t_text A_t_signs A_t_words A_t_values x_t_lines, iA cI 20 A_t_signs v_t_signs, oX9 A_t_text A_t_text_bytes x_t_text_size x_t_text_end x_t_text_place x_t_text_fault, iA cI 260 A_t_text_bytes v_t_text_bytes, iA cI 20 A_t_values v_t_values, iA cI 20 A_t_words v_t_words] → va_S A s.heap H locs → f_X0_readLine_b145 v_t_signs v_t_values v_t_words x_t_lines x_t_text_fault x_t_text_place = some (o_v_t_signs, o_v_t_values, o_v_t_words, o_x_t_lines, o_x_t_text_fault, o_x_t_text_place) → W p l e { frames := 4, cells := 0, slots := 0, locals := 87 } s m ([.ref A_t] : List Value).toArray below meth c H locs 0 0 (MQ below (PoV D A [oX0 A_t A_t_text A_t_signs A_t_words A_t_values o_x_t_lines, iA cI 20 A_t_signs o_v_t_signs, oX9 A_t_text A_t_text_bytes x_t_text_size x_t_text_end o_x_t_text_place o_x_t_text_fault, iA cI 260 A_t_text_bytes v_t_text_bytes, iA cI 20 A_t_values o_v_t_values, iA cI 20 A_t_words o_v_t_words]) ([.ref A_t] : List Value).toArray s 0 0 A) (F0 m 145 ls []) := by
    intro v_t_signs v_t_values v_t_words x_t_lines x_t_text_fault x_t_text_place H locs ls hl hP hD hS hf
    unfold f_X0_readLine_b145 at hf
    obtain ⟨rfl, rfl, rfl, rfl, rfl, rfl⟩ := ev6 hf
    exact x_vret C hr hlk hP hD hS dX0_readLine_145
  have hb_112 : ∀ (v_t_signs : (Nat → Int32)) (v_t_values : (Nat → Int32)) (v_t_words : (Nat → Int32)) (x_t_lines : Int32) (x_t_text_fault : Int32) (x_t_text_place : Int32) (s1 : Int32) (s2 : Int32) (H : Heap) (locs : List Loc) (ls : Array Slot), lv_has ls 2 [(0, .ref A_t)] → va_P D vwCl [oX0 A_t A_t_text A_t_signs A_t_words A_t_values x_t_lines, iA cI 20 A_t_signs v_t_signs, oX9 A_t_text A_t_text_bytes x_t_text_size x_t_text_end x_t_text_place x_t_text_fault, iA cI 260 A_t_text_bytes v_t_text_bytes, iA cI 20 A_t_values v_t_values, iA cI 20 A_t_words v_t_words] H → va_D A [oX0 A_t A_t_text A_t_signs A_t_words A_t_values x_t_lines, iA cI 20 A_t_signs v_t_signs, oX9 A_t_text A_t_text_bytes x_t_text_size x_t_text_end x_t_text_place x_t_text_fault, iA cI 260 A_t_text_bytes v_t_text_bytes, iA cI 20 A_t_values v_t_values, iA cI 20 A_t_words v_t_words] → va_S A s.heap H locs → f_X0_readLine_b112 v_t_text_bytes x_t_text_end x_t_text_size v_t_signs v_t_values v_t_words x_t_lines x_t_text_fault x_t_text_place s1 s2 = some (o_v_t_signs, o_v_t_values, o_v_t_words, o_x_t_lines, o_x_t_text_fault, o_x_t_text_place) → W p l e { frames := 4, cells := 0, slots := 0, locals := 87 } s m ([.ref A_t] : List Value).toArray below meth c H locs 0 0 (MQ below (PoV D A [oX0 A_t A_t_text A_t_signs A_t_words A_t_values o_x_t_lines, iA cI 20 A_t_signs o_v_t_signs, oX9 A_t_text A_t_text_bytes x_t_text_size x_t_text_end o_x_t_text_place o_x_t_text_fault, iA cI 260 A_t_text_bytes v_t_text_bytes, iA cI 20 A_t_values o_v_t_values, iA cI 20 A_t_words o_v_t_words]) ([.ref A_t] : List Value).toArray s 0 0 A) (F0 m 112 ls [.int s2, .int s1, .ref A_t_signs]) := by
    intro v_t_signs v_t_values v_t_words x_t_lines x_t_text_fault x_t_text_place s1 s2 H locs ls hl hP hD hS hf
    unfold f_X0_readLine_b112 at hf
    obtain ⟨hi, hf⟩ := sI_e hf
    refine x_iast (ws' := [oX0 A_t A_t_text A_t_signs A_t_words A_t_values x_t_lines, iA cI 20 A_t_signs (upd v_t_signs s1.toNatClampNeg s2), oX9 A_t_text A_t_text_bytes x_t_text_size x_t_text_end x_t_text_place x_t_text_fault, iA cI 260 A_t_text_bytes v_t_text_bytes, iA cI 20 A_t_values v_t_values, iA cI 20 A_t_words v_t_words]) C hK hP hD hS 1 rfl hi rfl dX0_readLine_112 ?_
    intro H locs hP hD hS
    refine lv_aload_n hx hb dX0_readLine_113 rfl (lv_at hl 0 rfl) ?_
    refine x_get C hK hP fd_X0_18 0 rfl rfl dX0_readLine_114 ?_
    refine lv_aload_n hx hb dX0_readLine_117 rfl (lv_at hl 0 rfl) ?_
    refine x_get C hK hP fd_X0_25 0 rfl rfl dX0_readLine_118 ?_
    refine lv_aload_n hx hb dX0_readLine_121 rfl (lv_at hl 0 rfl) ?_
    refine lv_aload_n hx hb dX0_readLine_122 rfl (lv_at hl 0 rfl) ?_
    refine x_get C hK hP fd_X0_11 0 rfl rfl dX0_readLine_123 ?_
    refine lv_aload_n hx hb dX0_readLine_126 rfl (lv_at hl 0 rfl) ?_
    refine x_get C hK hP fd_X0_25 0 rfl rfl dX0_readLine_127 ?_
    obtain ⟨hi, hf⟩ := gI_e hf
    refine x_iald C hK hP 1 rfl hi dX0_readLine_130 ?_
    obtain ⟨r1, w2, w3, hc4, hf⟩ := bd3_e hf
    refine x_callVI (ws' := [oX0 A_t A_t_text A_t_signs A_t_words A_t_values x_t_lines, iA cI 20 A_t_signs (upd v_t_signs s1.toNatClampNeg s2), oX9 A_t_text A_t_text_bytes x_t_text_size x_t_text_end w3 w2, iA cI 260 A_t_text_bytes v_t_text_bytes, iA cI 20 A_t_values v_t_values, iA cI 20 A_t_words v_t_words]) (rest := [.int x_t_lines, .ref A_t_values]) C hK hP hD hS hA hl mf_X0_90 (c_X0_readValue hc4) [0, 2, 3] 0 0 rfl rfl rfl rfl rfl rfl rfl rfl rfl rfl (Nat.le_of_ble_eq_true rfl) ⟨Nat.le_of_ble_eq_true rfl, Nat.le_of_ble_eq_true rfl⟩ ⟨Nat.le_refl _, Nat.le_refl _⟩ dX0_readLine_131 ?_
    intro H locs hP hD hS
    obtain ⟨hi, hf⟩ := sI_e hf
    refine x_iast (ws' := [oX0 A_t A_t_text A_t_signs A_t_words A_t_values x_t_lines, iA cI 20 A_t_signs (upd v_t_signs s1.toNatClampNeg s2), oX9 A_t_text A_t_text_bytes x_t_text_size x_t_text_end w3 w2, iA cI 260 A_t_text_bytes v_t_text_bytes, iA cI 20 A_t_values (upd v_t_values x_t_lines.toNatClampNeg r1), iA cI 20 A_t_words v_t_words]) C hK hP hD hS 4 rfl hi rfl dX0_readLine_134 ?_
    intro H locs hP hD hS
    refine lv_aload_n hx hb dX0_readLine_135 rfl (lv_at hl 0 rfl) ?_
    refine lv_dup hx hb dX0_readLine_136 rfl ?_
    refine x_get C hK hP fd_X0_25 0 rfl rfl dX0_readLine_137 ?_
    refine lv_iconst (v := 1) hx hb dX0_readLine_140 (by decide) ?_
    refine lv_iadd hx hb dX0_readLine_141 ?_
    refine x_put (ws' := [oX0 A_t A_t_text A_t_signs A_t_words A_t_values (x_t_lines + (1 : Int32)), iA cI 20 A_t_signs (upd v_t_signs s1.toNatClampNeg s2), oX9 A_t_text A_t_text_bytes x_t_text_size x_t_text_end w3 w2, iA cI 260 A_t_text_bytes v_t_text_bytes, iA cI 20 A_t_values (upd v_t_values x_t_lines.toNatClampNeg r1), iA cI 20 A_t_words v_t_words]) C hK hP hD hS fp_X0_25 0 rfl rfl rfl (Nat.le_of_ble_eq_true rfl) rfl dX0_readLine_142 ?_
    intro H locs hP hD hS
    exact hb_145 (upd v_t_signs s1.toNatClampNeg s2) (upd v_t_values x_t_lines.toNatClampNeg r1) v_t_words (x_t_lines + (1 : Int32)) w2 w3 _ _ ls (lv_sub hl [] rfl) hP hD hS hf
  have hb_88 : ∀ (v_t_signs : (Nat → Int32)) (v_t_values : (Nat → Int32)) (v_t_words : (Nat → Int32)) (x_t_lines : Int32) (x_t_text_fault : Int32) (x_t_text_place : Int32) (s1 : Int32) (s2 : Int32) (l1 : Int32) (H : Heap) (locs : List Loc) (ls : Array Slot), lv_has ls 2 [(0, .ref A_t), (1, .int l1)] → va_P D vwCl [oX0 A_t A_t_text A_t_signs A_t_words A_t_values x_t_lines, iA cI 20 A_t_signs v_t_signs, oX9 A_t_text A_t_text_bytes x_t_text_size x_t_text_end x_t_text_place x_t_text_fault, iA cI 260 A_t_text_bytes v_t_text_bytes, iA cI 20 A_t_values v_t_values, iA cI 20 A_t_words v_t_words] H → va_D A [oX0 A_t A_t_text A_t_signs A_t_words A_t_values x_t_lines, iA cI 20 A_t_signs v_t_signs, oX9 A_t_text A_t_text_bytes x_t_text_size x_t_text_end x_t_text_place x_t_text_fault, iA cI 260 A_t_text_bytes v_t_text_bytes, iA cI 20 A_t_values v_t_values, iA cI 20 A_t_words v_t_words] → va_S A s.heap H locs → f_X0_readLine_b88 v_t_text_bytes x_t_text_end x_t_text_size v_t_signs v_t_values v_t_words x_t_lines x_t_text_fault x_t_text_place s1 s2 l1 = some (o_v_t_signs, o_v_t_values, o_v_t_words, o_x_t_lines, o_x_t_text_fault, o_x_t_text_place) → W p l e { frames := 4, cells := 0, slots := 0, locals := 87 } s m ([.ref A_t] : List Value).toArray below meth c H locs 0 0 (MQ below (PoV D A [oX0 A_t A_t_text A_t_signs A_t_words A_t_values o_x_t_lines, iA cI 20 A_t_signs o_v_t_signs, oX9 A_t_text A_t_text_bytes x_t_text_size x_t_text_end o_x_t_text_place o_x_t_text_fault, iA cI 260 A_t_text_bytes v_t_text_bytes, iA cI 20 A_t_values o_v_t_values, iA cI 20 A_t_words o_v_t_words]) ([.ref A_t] : List Value).toArray s 0 0 A) (F0 m 88 ls [.int s2, .int s1, .ref A_t_words]) := by
    intro v_t_signs v_t_values v_t_words x_t_lines x_t_text_fault x_t_text_place s1 s2 l1 H locs ls hl hP hD hS hf
    unfold f_X0_readLine_b88 at hf
    obtain ⟨hi, hf⟩ := sI_e hf
    refine x_iast (ws' := [oX0 A_t A_t_text A_t_signs A_t_words A_t_values x_t_lines, iA cI 20 A_t_signs v_t_signs, oX9 A_t_text A_t_text_bytes x_t_text_size x_t_text_end x_t_text_place x_t_text_fault, iA cI 260 A_t_text_bytes v_t_text_bytes, iA cI 20 A_t_values v_t_values, iA cI 20 A_t_words (upd v_t_words s1.toNatClampNeg s2)]) C hK hP hD hS 5 rfl hi rfl dX0_readLine_88 ?_
    intro H locs hP hD hS
    refine lv_aload_n hx hb dX0_readLine_89 rfl (lv_at hl 0 rfl) ?_
    refine x_get C hK hP fd_X0_11 0 rfl rfl dX0_readLine_90 ?_
    refine lv_aload_n hx hb dX0_readLine_93 rfl (lv_at hl 0 rfl) ?_
    refine x_get C hK hP fd_X0_25 0 rfl rfl dX0_readLine_94 ?_
    refine lv_iload_n hx hb dX0_readLine_97 rfl (lv_at hl 1 rfl) ?_
    obtain ⟨r5, hc6, hf⟩ := bd1_e hf
    refine x_callSI (ws' := [oX0 A_t A_t_text A_t_signs A_t_words A_t_values x_t_lines, iA cI 20 A_t_signs v_t_signs, oX9 A_t_text A_t_text_bytes x_t_text_size x_t_text_end x_t_text_place x_t_text_fault, iA cI 260 A_t_text_bytes v_t_text_bytes, iA cI 20 A_t_values v_t_values, iA cI 20 A_t_words (upd v_t_words s1.toNatClampNeg s2)]) (rest := [.int x_t_lines, .ref A_t_signs]) C hK hP hD hS hA hl mf_X0_77 (c_X11_isWordSign hc6) [] rfl rfl rfl rfl rfl rfl rfl rfl (Nat.le_of_ble_eq_true rfl) ⟨Nat.le_of_ble_eq_true rfl, Nat.le_of_ble_eq_true rfl⟩ ⟨Nat.le_refl _, Nat.le_refl _⟩ dX0_readLine_98 ?_
    intro H locs hP hD hS
    refine lv_if_eq (tgt := 111) hx hb dX0_readLine_101 (by decide) (fun q => ?_) (fun q => ?_)
    · have hf := if_t q hf
      refine lv_iload_n hx hb dX0_readLine_111 rfl (lv_at hl 1 rfl) ?_
      exact hb_112 v_t_signs v_t_values (upd v_t_words s1.toNatClampNeg s2) x_t_lines x_t_text_fault x_t_text_place x_t_lines l1 _ _ ls (lv_sub hl [0] rfl) hP hD hS hf
    · have hf := if_f q hf
      refine lv_aload_n hx hb dX0_readLine_104 rfl (lv_at hl 0 rfl) ?_
      obtain ⟨r7, w8, w9, hc10, hf⟩ := bd3_e hf
      refine x_callVI (ws' := [oX0 A_t A_t_text A_t_signs A_t_words A_t_values x_t_lines, iA cI 20 A_t_signs v_t_signs, oX9 A_t_text A_t_text_bytes x_t_text_size x_t_text_end w9 w8, iA cI 260 A_t_text_bytes v_t_text_bytes, iA cI 20 A_t_values v_t_values, iA cI 20 A_t_words (upd v_t_words s1.toNatClampNeg s2)]) (rest := [.int x_t_lines, .ref A_t_signs]) C hK hP hD hS hA hl mf_X0_87 (c_X0_readDeed hc10) [0, 2, 3] 0 0 rfl rfl rfl rfl rfl rfl rfl rfl rfl rfl (Nat.le_of_ble_eq_true rfl) ⟨Nat.le_of_ble_eq_true rfl, Nat.le_of_ble_eq_true rfl⟩ ⟨Nat.le_refl _, Nat.le_refl _⟩ dX0_readLine_105 ?_
      intro H locs hP hD hS
      refine lv_goto (tgt := 112) hx hb dX0_readLine_108 (by decide) ?_
      exact hb_112 v_t_signs v_t_values (upd v_t_words s1.toNatClampNeg s2) x_t_lines w8 w9 x_t_lines r7 _ _ ls (lv_sub hl [0] rfl) hP hD hS hf
  have hb_38 : ∀ (v_t_signs : (Nat → Int32)) (v_t_values : (Nat → Int32)) (v_t_words : (Nat → Int32)) (x_t_lines : Int32) (x_t_text_fault : Int32) (x_t_text_place : Int32) (l1 : Int32) (H : Heap) (locs : List Loc) (ls : Array Slot), lv_has ls 2 [(0, .ref A_t), (1, .int l1)] → va_P D vwCl [oX0 A_t A_t_text A_t_signs A_t_words A_t_values x_t_lines, iA cI 20 A_t_signs v_t_signs, oX9 A_t_text A_t_text_bytes x_t_text_size x_t_text_end x_t_text_place x_t_text_fault, iA cI 260 A_t_text_bytes v_t_text_bytes, iA cI 20 A_t_values v_t_values, iA cI 20 A_t_words v_t_words] H → va_D A [oX0 A_t A_t_text A_t_signs A_t_words A_t_values x_t_lines, iA cI 20 A_t_signs v_t_signs, oX9 A_t_text A_t_text_bytes x_t_text_size x_t_text_end x_t_text_place x_t_text_fault, iA cI 260 A_t_text_bytes v_t_text_bytes, iA cI 20 A_t_values v_t_values, iA cI 20 A_t_words v_t_words] → va_S A s.heap H locs → f_X0_readLine_b38 v_t_text_bytes x_t_text_end x_t_text_size v_t_signs v_t_values v_t_words x_t_lines x_t_text_fault x_t_text_place l1 = some (o_v_t_signs, o_v_t_values, o_v_t_words, o_x_t_lines, o_x_t_text_fault, o_x_t_text_place) → W p l e { frames := 4, cells := 0, slots := 0, locals := 87 } s m ([.ref A_t] : List Value).toArray below meth c H locs 0 0 (MQ below (PoV D A [oX0 A_t A_t_text A_t_signs A_t_words A_t_values o_x_t_lines, iA cI 20 A_t_signs o_v_t_signs, oX9 A_t_text A_t_text_bytes x_t_text_size x_t_text_end o_x_t_text_place o_x_t_text_fault, iA cI 260 A_t_text_bytes v_t_text_bytes, iA cI 20 A_t_values o_v_t_values, iA cI 20 A_t_words o_v_t_words]) ([.ref A_t] : List Value).toArray s 0 0 A) (F0 m 38 ls []) := by
    intro v_t_signs v_t_values v_t_words x_t_lines x_t_text_fault x_t_text_place l1 H locs ls hl hP hD hS hf
    unfold f_X0_readLine_b38 at hf
    refine lv_aload_n hx hb dX0_readLine_38 rfl (lv_at hl 0 rfl) ?_
    refine x_get C hK hP fd_X0_25 0 rfl rfl dX0_readLine_39 ?_
    refine lv_bipush (v := 20) hx hb dX0_readLine_42 (by decide) ?_
    refine lv_icmp_lt (tgt := 58) hx hb dX0_readLine_44 (by decide) (fun q => ?_) (fun q => ?_)
    · have hf := if_t q hf
      refine lv_aload_n hx hb dX0_readLine_58 rfl (lv_at hl 0 rfl) ?_
      refine x_get C hK hP fd_X0_21 0 rfl rfl dX0_readLine_59 ?_
      obtain ⟨w11, hc12, hf⟩ := bd1_e hf
      refine x_callVV (ws' := [oX0 A_t A_t_text A_t_signs A_t_words A_t_values x_t_lines, iA cI 20 A_t_signs v_t_signs, oX9 A_t_text A_t_text_bytes x_t_text_size x_t_text_end w11 x_t_text_fault, iA cI 260 A_t_text_bytes v_t_text_bytes, iA cI 20 A_t_values v_t_values, iA cI 20 A_t_words v_t_words]) (rest := []) C hK hP hD hS hA hl mf_X0_84 (c_X9_step hc12) [2] 0 9 rfl rfl rfl rfl rfl rfl rfl rfl rfl rfl (Nat.le_of_ble_eq_true rfl) ⟨Nat.le_of_ble_eq_true rfl, Nat.le_of_ble_eq_true rfl⟩ ⟨Nat.le_refl _, Nat.le_refl _⟩ dX0_readLine_62 ?_
      intro H locs hP hD hS
      refine lv_aload_n hx hb dX0_readLine_65 rfl (lv_at hl 0 rfl) ?_
      refine x_get C hK hP fd_X0_15 0 rfl rfl dX0_readLine_66 ?_
      refine lv_aload_n hx hb dX0_readLine_69 rfl (lv_at hl 0 rfl) ?_
      refine x_get C hK hP fd_X0_25 0 rfl rfl dX0_readLine_70 ?_
      refine lv_iload_n hx hb dX0_readLine_73 rfl (lv_at hl 1 rfl) ?_
      obtain ⟨r13, hc14, hf⟩ := bd1_e hf
      refine x_callSI (ws' := [oX0 A_t A_t_text A_t_signs A_t_words A_t_values x_t_lines, iA cI 20 A_t_signs v_t_signs, oX9 A_t_text A_t_text_bytes x_t_text_size x_t_text_end w11 x_t_text_fault, iA cI 260 A_t_text_bytes v_t_text_bytes, iA cI 20 A_t_values v_t_values, iA cI 20 A_t_words v_t_words]) (rest := [.int x_t_lines, .ref A_t_words]) C hK hP hD hS hA hl mf_X0_77 (c_X11_isWordSign hc14) [] rfl rfl rfl rfl rfl rfl rfl rfl (Nat.le_of_ble_eq_true rfl) ⟨Nat.le_of_ble_eq_true rfl, Nat.le_of_ble_eq_true rfl⟩ ⟨Nat.le_refl _, Nat.le_refl _⟩ dX0_readLine_74 ?_
      intro H locs hP hD hS
      refine lv_if_eq (tgt := 87) hx hb dX0_readLine_77 (by decide) (fun q => ?_) (fun q => ?_)
      · have hf := if_t q hf
        refine lv_iconst (v := 0) hx hb dX0_readLine_87 (by decide) ?_
        exact hb_88 v_t_signs v_t_values v_t_words x_t_lines x_t_text_fault w11 x_t_lines (0 : Int32) l1 _ _ ls (lv_sub hl [0, 1] rfl) hP hD hS hf
      · have hf := if_f q hf
        refine lv_iload_n hx hb dX0_readLine_80 rfl (lv_at hl 1 rfl) ?_
        refine lv_bipush (v := 97) hx hb dX0_readLine_81 (by decide) ?_
        refine lv_isub hx hb dX0_readLine_83 ?_
        refine lv_goto (tgt := 88) hx hb dX0_readLine_84 (by decide) ?_
        exact hb_88 v_t_signs v_t_values v_t_words x_t_lines x_t_text_fault w11 x_t_lines (l1 - (97 : Int32)) l1 _ _ ls (lv_sub hl [0, 1] rfl) hP hD hS hf
    · have hf := if_f q hf
      refine lv_aload_n hx hb dX0_readLine_47 rfl (lv_at hl 0 rfl) ?_
      refine x_get C hK hP fd_X0_21 0 rfl rfl dX0_readLine_48 ?_
      refine lv_iconst (v := 4) hx hb dX0_readLine_51 (by decide) ?_
      obtain ⟨w15, hc16, hf⟩ := bd1_e hf
      refine x_callVV (ws' := [oX0 A_t A_t_text A_t_signs A_t_words A_t_values x_t_lines, iA cI 20 A_t_signs v_t_signs, oX9 A_t_text A_t_text_bytes x_t_text_size x_t_text_end x_t_text_place w15, iA cI 260 A_t_text_bytes v_t_text_bytes, iA cI 20 A_t_values v_t_values, iA cI 20 A_t_words v_t_words]) (rest := []) C hK hP hD hS hA hl mf_X0_81 (c_X9_fail hc16) [2] 0 9 rfl rfl rfl rfl rfl rfl rfl rfl rfl rfl (Nat.le_of_ble_eq_true rfl) ⟨Nat.le_of_ble_eq_true rfl, Nat.le_of_ble_eq_true rfl⟩ ⟨Nat.le_refl _, Nat.le_refl _⟩ dX0_readLine_52 ?_
      intro H locs hP hD hS
      refine lv_goto (tgt := 145) hx hb dX0_readLine_55 (by decide) ?_
      exact hb_145 v_t_signs v_t_values v_t_words x_t_lines w15 x_t_text_place _ _ ls (lv_sub hl [] rfl) hP hD hS hf
  refine lv_aload_n hx hb dX0_readLine_0 rfl (lv_at hl 0 rfl) ?_
  refine x_get C hK hP fd_X0_21 0 rfl rfl dX0_readLine_1 ?_
  obtain ⟨r17, hc18, hf⟩ := bd1_e hf
  refine x_callVI (ws' := [oX0 A_t A_t_text A_t_signs A_t_words A_t_values x_t_lines, iA cI 20 A_t_signs v_t_signs, oX9 A_t_text A_t_text_bytes x_t_text_size x_t_text_end x_t_text_place x_t_text_fault, iA cI 260 A_t_text_bytes v_t_text_bytes, iA cI 20 A_t_values v_t_values, iA cI 20 A_t_words v_t_words]) (rest := []) C hK hP hD hS hA hl mf_X0_73 (c_X9_sign hc18) [2, 3] 0 9 rfl rfl rfl rfl rfl rfl rfl rfl rfl rfl (Nat.le_of_ble_eq_true rfl) ⟨Nat.le_of_ble_eq_true rfl, Nat.le_of_ble_eq_true rfl⟩ ⟨Nat.le_refl _, Nat.le_refl _⟩ dX0_readLine_4 ?_
  intro H locs hP hD hS
  refine lv_istore_n (lv' := [(1, .int r17), (0, .ref A_t)]) hx hb dX0_readLine_7 rfl hl (by decide) rfl (fun ls hl => ?_)
  refine lv_iload_n hx hb dX0_readLine_8 rfl (lv_at hl 0 rfl) ?_
  obtain ⟨r19, hc20, hf⟩ := bd1_e hf
  refine x_callSI (ws' := [oX0 A_t A_t_text A_t_signs A_t_words A_t_values x_t_lines, iA cI 20 A_t_signs v_t_signs, oX9 A_t_text A_t_text_bytes x_t_text_size x_t_text_end x_t_text_place x_t_text_fault, iA cI 260 A_t_text_bytes v_t_text_bytes, iA cI 20 A_t_values v_t_values, iA cI 20 A_t_words v_t_words]) (rest := []) C hK hP hD hS hA hl mf_X0_77 (c_X11_isWordSign hc20) [] rfl rfl rfl rfl rfl rfl rfl rfl (Nat.le_of_ble_eq_true rfl) ⟨Nat.le_of_ble_eq_true rfl, Nat.le_of_ble_eq_true rfl⟩ ⟨Nat.le_refl _, Nat.le_refl _⟩ dX0_readLine_9 ?_
  intro H locs hP hD hS
  refine lv_if_ne (tgt := 38) hx hb dX0_readLine_12 (by decide) (fun q => ?_) (fun q => ?_)
  · have hf := if_f q hf
    exact hb_38 v_t_signs v_t_values v_t_words x_t_lines x_t_text_fault x_t_text_place r17 _ _ ls (lv_sub hl [1, 0] rfl) hP hD hS hf
  · have hf := if_t q hf
    refine lv_iload_n hx hb dX0_readLine_15 rfl (lv_at hl 0 rfl) ?_
    refine lv_bipush (v := 33) hx hb dX0_readLine_16 (by decide) ?_
    refine lv_icmp_eq (tgt := 38) hx hb dX0_readLine_18 (by decide) (fun q => ?_) (fun q => ?_)
    · have hf := if_t q hf
      exact hb_38 v_t_signs v_t_values v_t_words x_t_lines x_t_text_fault x_t_text_place r17 _ _ ls (lv_sub hl [1, 0] rfl) hP hD hS hf
    · have hf := if_f q hf
      refine lv_iload_n hx hb dX0_readLine_21 rfl (lv_at hl 0 rfl) ?_
      refine lv_bipush (v := 35) hx hb dX0_readLine_22 (by decide) ?_
      refine lv_icmp_eq (tgt := 38) hx hb dX0_readLine_24 (by decide) (fun q => ?_) (fun q => ?_)
      · have hf := if_t q hf
        exact hb_38 v_t_signs v_t_values v_t_words x_t_lines x_t_text_fault x_t_text_place r17 _ _ ls (lv_sub hl [1, 0] rfl) hP hD hS hf
      · have hf := if_f q hf
        refine lv_aload_n hx hb dX0_readLine_27 rfl (lv_at hl 1 rfl) ?_
        refine x_get C hK hP fd_X0_21 0 rfl rfl dX0_readLine_28 ?_
        refine lv_iconst (v := 1) hx hb dX0_readLine_31 (by decide) ?_
        obtain ⟨w21, hc22, hf⟩ := bd1_e hf
        refine x_callVV (ws' := [oX0 A_t A_t_text A_t_signs A_t_words A_t_values x_t_lines, iA cI 20 A_t_signs v_t_signs, oX9 A_t_text A_t_text_bytes x_t_text_size x_t_text_end x_t_text_place w21, iA cI 260 A_t_text_bytes v_t_text_bytes, iA cI 20 A_t_values v_t_values, iA cI 20 A_t_words v_t_words]) (rest := []) C hK hP hD hS hA hl mf_X0_81 (c_X9_fail hc22) [2] 0 9 rfl rfl rfl rfl rfl rfl rfl rfl rfl rfl (Nat.le_of_ble_eq_true rfl) ⟨Nat.le_of_ble_eq_true rfl, Nat.le_of_ble_eq_true rfl⟩ ⟨Nat.le_refl _, Nat.le_refl _⟩ dX0_readLine_32 ?_
        intro H locs hP hD hS
        refine lv_goto (tgt := 145) hx hb dX0_readLine_35 (by decide) ?_
        exact hb_145 v_t_signs v_t_values v_t_words x_t_lines w21 x_t_text_place _ _ ls (lv_sub hl [] rfl) hP hD hS hf
def f_X0_read_b60 (v_t_text_bytes : (Nat → Int32)) (x_t_text_size : Int32) (k15 : (Nat → Int32) → (Nat → Int32) → (Nat → Int32) → Int32 → Int32 → Int32 → Int32 → Int32 → Option (Int32 × (Nat → Int32) × (Nat → Int32) × (Nat → Int32) × Int32 × Int32 × Int32 × Int32)) (v_t_signs : (Nat → Int32)) (v_t_values : (Nat → Int32)) (v_t_words : (Nat → Int32)) (x_t_lines : Int32) (x_t_text_end : Int32) (x_t_text_fault : Int32) (x_t_text_place : Int32) (l2 : Int32) : Option (Int32 × (Nat → Int32) × (Nat → Int32) × (Nat → Int32) × Int32 × Int32 × Int32 × Int32) :=
  bd2 (f_X9_take v_t_text_bytes x_t_text_end x_t_text_fault x_t_text_place x_t_text_size (59 : Int32)) (fun w1 w2 =>
  k15 v_t_signs v_t_values v_t_words x_t_lines x_t_text_end w1 w2 (l2 + (1 : Int32)))
def f_X0_read_b75 (v_t_signs : (Nat → Int32)) (v_t_values : (Nat → Int32)) (v_t_words : (Nat → Int32)) (x_t_lines : Int32) (x_t_text_end : Int32) (x_t_text_fault : Int32) (x_t_text_place : Int32) : Option (Int32 × (Nat → Int32) × (Nat → Int32) × (Nat → Int32) × Int32 × Int32 × Int32 × Int32) :=
  some (x_t_text_fault, v_t_signs, v_t_values, v_t_words, x_t_lines, x_t_text_end, x_t_text_fault, x_t_text_place)
def f_X0_read_b15 (v_t_text_bytes : (Nat → Int32)) (x_t_text_size : Int32) : Nat → (Nat → Int32) → (Nat → Int32) → (Nat → Int32) → Int32 → Int32 → Int32 → Int32 → Int32 → Option (Int32 × (Nat → Int32) × (Nat → Int32) × (Nat → Int32) × Int32 × Int32 × Int32 × Int32)
  | 0, _, _, _, _, _, _, _, _ => none
  | n + 1, v_t_signs, v_t_values, v_t_words, x_t_lines, x_t_text_end, x_t_text_fault, x_t_text_place, l2 =>
    if (20 : Int32) < l2 then
      f_X0_read_b75 v_t_signs v_t_values v_t_words x_t_lines x_t_text_end x_t_text_fault x_t_text_place
    else
      bd1 (f_X9_hasFailed x_t_text_fault) (fun r1 =>
      if r1 = 0 then
        bd6 (f_X0_readLine v_t_signs v_t_text_bytes v_t_values v_t_words x_t_lines x_t_text_end x_t_text_fault x_t_text_place x_t_text_size) (fun w2 w3 w4 w5 w6 w7 =>
        bd1 (f_X9_hasFailed w6) (fun r8 =>
        if r8 = 0 then
          bd1 (f_X9_isAtEnd x_t_text_end w7) (fun r9 =>
          if r9 = 0 then
            f_X0_read_b60 v_t_text_bytes x_t_text_size (f_X0_read_b15 v_t_text_bytes x_t_text_size n) w2 w3 w4 w5 x_t_text_end w6 w7 l2
          else
            some (w5, w2, w3, w4, w5, x_t_text_end, w6, w7))
        else
          f_X0_read_b60 v_t_text_bytes x_t_text_size (f_X0_read_b15 v_t_text_bytes x_t_text_size n) w2 w3 w4 w5 x_t_text_end w6 w7 l2))
      else
        f_X0_read_b75 v_t_signs v_t_values v_t_words x_t_lines x_t_text_end x_t_text_fault x_t_text_place)
def f_X0_read (v_t_signs : (Nat → Int32)) (v_t_text_bytes : (Nat → Int32)) (v_t_values : (Nat → Int32)) (v_t_words : (Nat → Int32)) (x_t_lines : Int32) (x_t_text_end : Int32) (x_t_text_fault : Int32) (x_t_text_place : Int32) (x_t_text_size : Int32) (a1 : Int32) : Option (Int32 × (Nat → Int32) × (Nat → Int32) × (Nat → Int32) × Int32 × Int32 × Int32 × Int32) :=
  bd3 (f_X9_begin x_t_text_end x_t_text_fault x_t_text_place x_t_text_size a1) (fun w10 w11 w12 =>
  f_X0_read_b15 v_t_text_bytes x_t_text_size FU v_t_signs v_t_values v_t_words (0 : Int32) w10 w11 w12 (0 : Int32))
set_option maxHeartbeats 4000000 in
set_option maxRecDepth 100000 in
theorem c_X0_read {l : Launch} {D : va_G} {cI cB : ClassId} {A_t A_t_text A_t_signs A_t_words A_t_values A_t_text_bytes : Nat} {x_t_lines x_t_text_size x_t_text_end x_t_text_place x_t_text_fault a1 : Int32} {v_t_signs v_t_text_bytes v_t_values v_t_words : Nat → Int32} {o_r o_x_t_lines o_x_t_text_end o_x_t_text_fault o_x_t_text_place : Int32} {o_v_t_signs o_v_t_values o_v_t_words : Nat → Int32} (hf : f_X0_read v_t_signs v_t_text_bytes v_t_values v_t_words x_t_lines x_t_text_end x_t_text_fault x_t_text_place x_t_text_size a1 = some (o_r, o_v_t_signs, o_v_t_values, o_v_t_words, o_x_t_lines, o_x_t_text_end, o_x_t_text_fault, o_x_t_text_place)) : CtI l D cI cB yX0_read cX0_read 3 (some .int) 5 108 [.ref A_t, .int a1] [oX0 A_t A_t_text A_t_signs A_t_words A_t_values x_t_lines, iA cI 20 A_t_signs v_t_signs, oX9 A_t_text A_t_text_bytes x_t_text_size x_t_text_end x_t_text_place x_t_text_fault, iA cI 260 A_t_text_bytes v_t_text_bytes, iA cI 20 A_t_values v_t_values, iA cI 20 A_t_words v_t_words] [oX0 A_t A_t_text A_t_signs A_t_words A_t_values o_x_t_lines, iA cI 20 A_t_signs o_v_t_signs, oX9 A_t_text A_t_text_bytes x_t_text_size o_x_t_text_end o_x_t_text_place o_x_t_text_fault, iA cI 260 A_t_text_bytes v_t_text_bytes, iA cI 20 A_t_values o_v_t_values, iA cI 20 A_t_words o_v_t_words] o_r := by
  refine x_startI (by decide) (Nat.le_of_ble_eq_true rfl) ?_
  intro p e s m below meth c A C hr hlk hA hK hP hD hS ls hl
  have hl : lv_has ls 3 [(0, .ref A_t), (1, .int a1)] := hl
  have hx := C.1
  have hb := C.2.1
  unfold f_X0_read at hf
  have hb_75 : ∀ (v_t_signs : (Nat → Int32)) (v_t_values : (Nat → Int32)) (v_t_words : (Nat → Int32)) (x_t_lines : Int32) (x_t_text_end : Int32) (x_t_text_fault : Int32) (x_t_text_place : Int32) (H : Heap) (locs : List Loc) (ls : Array Slot), lv_has ls 3 [(0, .ref A_t)] → va_P D vwCl [oX0 A_t A_t_text A_t_signs A_t_words A_t_values x_t_lines, iA cI 20 A_t_signs v_t_signs, oX9 A_t_text A_t_text_bytes x_t_text_size x_t_text_end x_t_text_place x_t_text_fault, iA cI 260 A_t_text_bytes v_t_text_bytes, iA cI 20 A_t_values v_t_values, iA cI 20 A_t_words v_t_words] H → va_D A [oX0 A_t A_t_text A_t_signs A_t_words A_t_values x_t_lines, iA cI 20 A_t_signs v_t_signs, oX9 A_t_text A_t_text_bytes x_t_text_size x_t_text_end x_t_text_place x_t_text_fault, iA cI 260 A_t_text_bytes v_t_text_bytes, iA cI 20 A_t_values v_t_values, iA cI 20 A_t_words v_t_words] → va_S A s.heap H locs → f_X0_read_b75 v_t_signs v_t_values v_t_words x_t_lines x_t_text_end x_t_text_fault x_t_text_place = some (o_r, o_v_t_signs, o_v_t_values, o_v_t_words, o_x_t_lines, o_x_t_text_end, o_x_t_text_fault, o_x_t_text_place) → W p l e { frames := 5, cells := 0, slots := 0, locals := 108 } s m ([.ref A_t, .int a1] : List Value).toArray below meth c H locs 0 0 (MQ below (PoI D A [oX0 A_t A_t_text A_t_signs A_t_words A_t_values o_x_t_lines, iA cI 20 A_t_signs o_v_t_signs, oX9 A_t_text A_t_text_bytes x_t_text_size o_x_t_text_end o_x_t_text_place o_x_t_text_fault, iA cI 260 A_t_text_bytes v_t_text_bytes, iA cI 20 A_t_values o_v_t_values, iA cI 20 A_t_words o_v_t_words] o_r) ([.ref A_t, .int a1] : List Value).toArray s 0 0 A) (F0 m 75 ls []) := by
    intro v_t_signs v_t_values v_t_words x_t_lines x_t_text_end x_t_text_fault x_t_text_place H locs ls hl hP hD hS hf
    unfold f_X0_read_b75 at hf
    refine lv_aload_n hx hb dX0_read_75 rfl (lv_at hl 0 rfl) ?_
    refine x_get C hK hP fd_X0_21 0 rfl rfl dX0_read_76 ?_
    refine x_get C hK hP fd_X0_48 2 rfl rfl dX0_read_79 ?_
    obtain ⟨rfl, rfl, rfl, rfl, rfl, rfl, rfl, rfl⟩ := ev8 hf
    exact x_iret C hr hlk hP hD hS dX0_read_82
  have hb_15 : ∀ (n_15 : Nat) (v_t_signs : (Nat → Int32)) (v_t_values : (Nat → Int32)) (v_t_words : (Nat → Int32)) (x_t_lines : Int32) (x_t_text_end : Int32) (x_t_text_fault : Int32) (x_t_text_place : Int32) (l2 : Int32) (H : Heap) (locs : List Loc) (ls : Array Slot), lv_has ls 3 [(0, .ref A_t), (2, .int l2)] → va_P D vwCl [oX0 A_t A_t_text A_t_signs A_t_words A_t_values x_t_lines, iA cI 20 A_t_signs v_t_signs, oX9 A_t_text A_t_text_bytes x_t_text_size x_t_text_end x_t_text_place x_t_text_fault, iA cI 260 A_t_text_bytes v_t_text_bytes, iA cI 20 A_t_values v_t_values, iA cI 20 A_t_words v_t_words] H → va_D A [oX0 A_t A_t_text A_t_signs A_t_words A_t_values x_t_lines, iA cI 20 A_t_signs v_t_signs, oX9 A_t_text A_t_text_bytes x_t_text_size x_t_text_end x_t_text_place x_t_text_fault, iA cI 260 A_t_text_bytes v_t_text_bytes, iA cI 20 A_t_values v_t_values, iA cI 20 A_t_words v_t_words] → va_S A s.heap H locs → f_X0_read_b15 v_t_text_bytes x_t_text_size n_15 v_t_signs v_t_values v_t_words x_t_lines x_t_text_end x_t_text_fault x_t_text_place l2 = some (o_r, o_v_t_signs, o_v_t_values, o_v_t_words, o_x_t_lines, o_x_t_text_end, o_x_t_text_fault, o_x_t_text_place) → W p l e { frames := 5, cells := 0, slots := 0, locals := 108 } s m ([.ref A_t, .int a1] : List Value).toArray below meth c H locs 0 0 (MQ below (PoI D A [oX0 A_t A_t_text A_t_signs A_t_words A_t_values o_x_t_lines, iA cI 20 A_t_signs o_v_t_signs, oX9 A_t_text A_t_text_bytes x_t_text_size o_x_t_text_end o_x_t_text_place o_x_t_text_fault, iA cI 260 A_t_text_bytes v_t_text_bytes, iA cI 20 A_t_values o_v_t_values, iA cI 20 A_t_words o_v_t_words] o_r) ([.ref A_t, .int a1] : List Value).toArray s 0 0 A) (F0 m 15 ls []) := by
    intro n_15
    induction n_15 with
    | zero =>
      intro v_t_signs v_t_values v_t_words x_t_lines x_t_text_end x_t_text_fault x_t_text_place l2 H locs ls hl hP hD hS hf
      exact absurd hf (fun h => by rw [f_X0_read_b15] at h; cases h)
    | succ n_15 ih_15 =>
      have hb_60 : ∀ (v_t_signs : (Nat → Int32)) (v_t_values : (Nat → Int32)) (v_t_words : (Nat → Int32)) (x_t_lines : Int32) (x_t_text_end : Int32) (x_t_text_fault : Int32) (x_t_text_place : Int32) (l2 : Int32) (H : Heap) (locs : List Loc) (ls : Array Slot), lv_has ls 3 [(0, .ref A_t), (2, .int l2)] → va_P D vwCl [oX0 A_t A_t_text A_t_signs A_t_words A_t_values x_t_lines, iA cI 20 A_t_signs v_t_signs, oX9 A_t_text A_t_text_bytes x_t_text_size x_t_text_end x_t_text_place x_t_text_fault, iA cI 260 A_t_text_bytes v_t_text_bytes, iA cI 20 A_t_values v_t_values, iA cI 20 A_t_words v_t_words] H → va_D A [oX0 A_t A_t_text A_t_signs A_t_words A_t_values x_t_lines, iA cI 20 A_t_signs v_t_signs, oX9 A_t_text A_t_text_bytes x_t_text_size x_t_text_end x_t_text_place x_t_text_fault, iA cI 260 A_t_text_bytes v_t_text_bytes, iA cI 20 A_t_values v_t_values, iA cI 20 A_t_words v_t_words] → va_S A s.heap H locs → f_X0_read_b60 v_t_text_bytes x_t_text_size (f_X0_read_b15 v_t_text_bytes x_t_text_size n_15) v_t_signs v_t_values v_t_words x_t_lines x_t_text_end x_t_text_fault x_t_text_place l2 = some (o_r, o_v_t_signs, o_v_t_values, o_v_t_words, o_x_t_lines, o_x_t_text_end, o_x_t_text_fault, o_x_t_text_place) → W p l e { frames := 5, cells := 0, slots := 0, locals := 108 } s m ([.ref A_t, .int a1] : List Value).toArray below meth c H locs 0 0 (MQ below (PoI D A [oX0 A_t A_t_text A_t_signs A_t_words A_t_values o_x_t_lines, iA cI 20 A_t_signs o_v_t_signs, oX9 A_t_text A_t_text_bytes x_t_text_size o_x_t_text_end o_x_t_text_place o_x_t_text_fault, iA cI 260 A_t_text_bytes v_t_text_bytes, iA cI 20 A_t_values o_v_t_values, iA cI 20 A_t_words o_v_t_words] o_r) ([.ref A_t, .int a1] : List Value).toArray s 0 0 A) (F0 m 60 ls []) := by
        intro v_t_signs v_t_values v_t_words x_t_lines x_t_text_end x_t_text_fault x_t_text_place l2 H locs ls hl hP hD hS hf
        unfold f_X0_read_b60 at hf
        refine lv_aload_n hx hb dX0_read_60 rfl (lv_at hl 0 rfl) ?_
        refine x_get C hK hP fd_X0_21 0 rfl rfl dX0_read_61 ?_
        refine lv_bipush (v := 59) hx hb dX0_read_64 (by decide) ?_
        obtain ⟨w1, w2, hc3, hf⟩ := bd2_e hf
        refine x_callVV (ws' := [oX0 A_t A_t_text A_t_signs A_t_words A_t_values x_t_lines, iA cI 20 A_t_signs v_t_signs, oX9 A_t_text A_t_text_bytes x_t_text_size x_t_text_end w2 w1, iA cI 260 A_t_text_bytes v_t_text_bytes, iA cI 20 A_t_values v_t_values, iA cI 20 A_t_words v_t_words]) (rest := []) C hK hP hD hS hA hl mf_X0_45 (c_X9_take hc3) [2, 3] 0 9 rfl rfl rfl rfl rfl rfl rfl rfl rfl rfl (Nat.le_of_ble_eq_true rfl) ⟨Nat.le_of_ble_eq_true rfl, Nat.le_of_ble_eq_true rfl⟩ ⟨Nat.le_refl _, Nat.le_refl _⟩ dX0_read_66 ?_
        intro H locs hP hD hS
        refine lv_iinc (v := (l2 + (1 : Int32))) (lv' := [(2, .int (l2 + (1 : Int32))), (0, .ref A_t)]) hx hb dX0_read_69 hl (k := 1) rfl rfl (by decide) rfl (fun ls hl => ?_)
        refine lv_goto (tgt := 15) hx hb dX0_read_72 (by decide) ?_
        exact ih_15 v_t_signs v_t_values v_t_words x_t_lines x_t_text_end w1 w2 (l2 + (1 : Int32)) _ _ ls (lv_sub hl [1, 0] rfl) hP hD hS hf
      intro v_t_signs v_t_values v_t_words x_t_lines x_t_text_end x_t_text_fault x_t_text_place l2 H locs ls hl hP hD hS hf
      rw [f_X0_read_b15] at hf
      refine lv_iload_n hx hb dX0_read_15 rfl (lv_at hl 1 rfl) ?_
      refine lv_bipush (v := 20) hx hb dX0_read_16 (by decide) ?_
      refine lv_icmp_gt (tgt := 75) hx hb dX0_read_18 (by decide) (fun q => ?_) (fun q => ?_)
      · have hf := if_t q hf
        exact hb_75 v_t_signs v_t_values v_t_words x_t_lines x_t_text_end x_t_text_fault x_t_text_place _ _ ls (lv_sub hl [0] rfl) hP hD hS hf
      · have hf := if_f q hf
        refine lv_aload_n hx hb dX0_read_21 rfl (lv_at hl 0 rfl) ?_
        refine x_get C hK hP fd_X0_21 0 rfl rfl dX0_read_22 ?_
        obtain ⟨r4, hc5, hf⟩ := bd1_e hf
        refine x_callVI (ws' := [oX0 A_t A_t_text A_t_signs A_t_words A_t_values x_t_lines, iA cI 20 A_t_signs v_t_signs, oX9 A_t_text A_t_text_bytes x_t_text_size x_t_text_end x_t_text_place x_t_text_fault, iA cI 260 A_t_text_bytes v_t_text_bytes, iA cI 20 A_t_values v_t_values, iA cI 20 A_t_words v_t_words]) (rest := []) C hK hP hD hS hA hl mf_X0_35 (c_X9_hasFailed hc5) [2] 0 9 rfl rfl rfl rfl rfl rfl rfl rfl rfl rfl (Nat.le_of_ble_eq_true rfl) ⟨Nat.le_of_ble_eq_true rfl, Nat.le_of_ble_eq_true rfl⟩ ⟨Nat.le_refl _, Nat.le_refl _⟩ dX0_read_25 ?_
        intro H locs hP hD hS
        refine lv_if_ne (tgt := 75) hx hb dX0_read_28 (by decide) (fun q => ?_) (fun q => ?_)
        · have hf := if_f q hf
          exact hb_75 v_t_signs v_t_values v_t_words x_t_lines x_t_text_end x_t_text_fault x_t_text_place _ _ ls (lv_sub hl [0] rfl) hP hD hS hf
        · have hf := if_t q hf
          refine lv_aload_n hx hb dX0_read_31 rfl (lv_at hl 0 rfl) ?_
          obtain ⟨w6, w7, w8, w9, w10, w11, hc12, hf⟩ := bd6_e hf
          refine x_callVV (ws' := [oX0 A_t A_t_text A_t_signs A_t_words A_t_values w9, iA cI 20 A_t_signs w6, oX9 A_t_text A_t_text_bytes x_t_text_size x_t_text_end w11 w10, iA cI 260 A_t_text_bytes v_t_text_bytes, iA cI 20 A_t_values w7, iA cI 20 A_t_words w8]) (rest := []) C hK hP hD hS hA hl mf_X0_39 (c_X0_readLine hc12) [0, 1, 2, 3, 4, 5] 0 0 rfl rfl rfl rfl rfl rfl rfl rfl rfl rfl (Nat.le_of_ble_eq_true rfl) ⟨Nat.le_of_ble_eq_true rfl, Nat.le_of_ble_eq_true rfl⟩ ⟨Nat.le_refl _, Nat.le_refl _⟩ dX0_read_32 ?_
          intro H locs hP hD hS
          refine lv_aload_n hx hb dX0_read_35 rfl (lv_at hl 0 rfl) ?_
          refine x_get C hK hP fd_X0_21 0 rfl rfl dX0_read_36 ?_
          obtain ⟨r13, hc14, hf⟩ := bd1_e hf
          refine x_callVI (ws' := [oX0 A_t A_t_text A_t_signs A_t_words A_t_values w9, iA cI 20 A_t_signs w6, oX9 A_t_text A_t_text_bytes x_t_text_size x_t_text_end w11 w10, iA cI 260 A_t_text_bytes v_t_text_bytes, iA cI 20 A_t_values w7, iA cI 20 A_t_words w8]) (rest := []) C hK hP hD hS hA hl mf_X0_35 (c_X9_hasFailed hc14) [2] 0 9 rfl rfl rfl rfl rfl rfl rfl rfl rfl rfl (Nat.le_of_ble_eq_true rfl) ⟨Nat.le_of_ble_eq_true rfl, Nat.le_of_ble_eq_true rfl⟩ ⟨Nat.le_refl _, Nat.le_refl _⟩ dX0_read_39 ?_
          intro H locs hP hD hS
          refine lv_if_ne (tgt := 60) hx hb dX0_read_42 (by decide) (fun q => ?_) (fun q => ?_)
          · have hf := if_f q hf
            exact hb_60 w6 w7 w8 w9 x_t_text_end w10 w11 l2 _ _ ls (lv_sub hl [0, 1] rfl) hP hD hS hf
          · have hf := if_t q hf
            refine lv_aload_n hx hb dX0_read_45 rfl (lv_at hl 0 rfl) ?_
            refine x_get C hK hP fd_X0_21 0 rfl rfl dX0_read_46 ?_
            obtain ⟨r15, hc16, hf⟩ := bd1_e hf
            refine x_callVI (ws' := [oX0 A_t A_t_text A_t_signs A_t_words A_t_values w9, iA cI 20 A_t_signs w6, oX9 A_t_text A_t_text_bytes x_t_text_size x_t_text_end w11 w10, iA cI 260 A_t_text_bytes v_t_text_bytes, iA cI 20 A_t_values w7, iA cI 20 A_t_words w8]) (rest := []) C hK hP hD hS hA hl mf_X0_42 (c_X9_isAtEnd hc16) [2] 0 9 rfl rfl rfl rfl rfl rfl rfl rfl rfl rfl (Nat.le_of_ble_eq_true rfl) ⟨Nat.le_of_ble_eq_true rfl, Nat.le_of_ble_eq_true rfl⟩ ⟨Nat.le_refl _, Nat.le_refl _⟩ dX0_read_49 ?_
            intro H locs hP hD hS
            refine lv_if_eq (tgt := 60) hx hb dX0_read_52 (by decide) (fun q => ?_) (fun q => ?_)
            · have hf := if_t q hf
              exact hb_60 w6 w7 w8 w9 x_t_text_end w10 w11 l2 _ _ ls (lv_sub hl [0, 1] rfl) hP hD hS hf
            · have hf := if_f q hf
              refine lv_aload_n hx hb dX0_read_55 rfl (lv_at hl 0 rfl) ?_
              refine x_get C hK hP fd_X0_25 0 rfl rfl dX0_read_56 ?_
              obtain ⟨rfl, rfl, rfl, rfl, rfl, rfl, rfl, rfl⟩ := ev8 hf
              exact x_iret C hr hlk hP hD hS dX0_read_59
  refine lv_aload_n hx hb dX0_read_0 rfl (lv_at hl 0 rfl) ?_
  refine lv_iconst (v := 0) hx hb dX0_read_1 (by decide) ?_
  refine x_put (ws' := [oX0 A_t A_t_text A_t_signs A_t_words A_t_values (0 : Int32), iA cI 20 A_t_signs v_t_signs, oX9 A_t_text A_t_text_bytes x_t_text_size x_t_text_end x_t_text_place x_t_text_fault, iA cI 260 A_t_text_bytes v_t_text_bytes, iA cI 20 A_t_values v_t_values, iA cI 20 A_t_words v_t_words]) C hK hP hD hS fp_X0_25 0 rfl rfl rfl (Nat.le_of_ble_eq_true rfl) rfl dX0_read_2 ?_
  intro H locs hP hD hS
  refine lv_aload_n hx hb dX0_read_5 rfl (lv_at hl 0 rfl) ?_
  refine x_get C hK hP fd_X0_21 0 rfl rfl dX0_read_6 ?_
  refine lv_iload_n hx hb dX0_read_9 rfl (lv_at hl 1 rfl) ?_
  obtain ⟨w17, w18, w19, hc20, hf⟩ := bd3_e hf
  refine x_callVV (ws' := [oX0 A_t A_t_text A_t_signs A_t_words A_t_values (0 : Int32), iA cI 20 A_t_signs v_t_signs, oX9 A_t_text A_t_text_bytes x_t_text_size w17 w19 w18, iA cI 260 A_t_text_bytes v_t_text_bytes, iA cI 20 A_t_values v_t_values, iA cI 20 A_t_words v_t_words]) (rest := []) C hK hP hD hS hA hl mf_X0_29 (c_X9_begin hc20) [2] 0 9 rfl rfl rfl rfl rfl rfl rfl rfl rfl rfl (Nat.le_of_ble_eq_true rfl) ⟨Nat.le_of_ble_eq_true rfl, Nat.le_of_ble_eq_true rfl⟩ ⟨Nat.le_refl _, Nat.le_refl _⟩ dX0_read_10 ?_
  intro H locs hP hD hS
  refine lv_iconst (v := 0) hx hb dX0_read_13 (by decide) ?_
  refine lv_istore_n (lv' := [(2, .int (0 : Int32)), (0, .ref A_t), (1, .int a1)]) hx hb dX0_read_14 rfl hl (by decide) rfl (fun ls hl => ?_)
  exact hb_15 FU v_t_signs v_t_values v_t_words (0 : Int32) w17 w18 w19 (0 : Int32) _ _ ls (lv_sub hl [1, 0] rfl) hP hD hS hf
def f_X0_befall_b176 (a2 : Int32) (k3 : (Nat → Int32) → (Nat → Int32) → (Nat → Int32) → (Nat → Int32) → Int32 → Option ((Nat → Int32) × (Nat → Int32) × (Nat → Int32) × (Nat → Int32))) (v_o1_dread : (Nat → Int32)) (v_o1_kind : (Nat → Int32)) (v_o1_salt : (Nat → Int32)) (v_o3_other : (Nat → Int32)) (l4 : Int32) : Option ((Nat → Int32) × (Nat → Int32) × (Nat → Int32) × (Nat → Int32)) :=
  k3 v_o1_dread v_o1_kind v_o1_salt v_o3_other (l4 + (1 : Int32))
def f_X0_befall_b182 (v_o1_dread : (Nat → Int32)) (v_o1_kind : (Nat → Int32)) (v_o1_salt : (Nat → Int32)) (v_o3_other : (Nat → Int32)) : Option ((Nat → Int32) × (Nat → Int32) × (Nat → Int32) × (Nat → Int32)) :=
  some (v_o1_dread, v_o1_kind, v_o1_salt, v_o3_other)
def f_X0_befall_b3 (v_t_signs : (Nat → Int32)) (v_t_values : (Nat → Int32)) (v_t_words : (Nat → Int32)) (x_t_lines : Int32) (a2 : Int32) : Nat → (Nat → Int32) → (Nat → Int32) → (Nat → Int32) → (Nat → Int32) → Int32 → Option ((Nat → Int32) × (Nat → Int32) × (Nat → Int32) × (Nat → Int32))
  | 0, _, _, _, _, _ => none
  | n + 1, v_o1_dread, v_o1_kind, v_o1_salt, v_o3_other, l4 =>
    if x_t_lines ≤ l4 then
      f_X0_befall_b182 v_o1_dread v_o1_kind v_o1_salt v_o3_other
    else
      if (20 : Int32) ≤ l4 then
        f_X0_befall_b182 v_o1_dread v_o1_kind v_o1_salt v_o3_other
      else
        gI 20 v_t_words l4 (fun g1 =>
        gI 20 v_t_values l4 (fun g2 =>
        gI 20 v_t_signs l4 (fun g3 =>
        if g3 = (33 : Int32) then
          bd1 (f_X8_setSalt v_o1_salt a2 g2) (fun w4 =>
          f_X0_befall_b176 a2 (f_X0_befall_b3 v_t_signs v_t_values v_t_words x_t_lines a2 n) v_o1_dread v_o1_kind w4 v_o3_other l4)
        else
        if g3 = (43 : Int32) then
          bd1 (f_X8_dreadOf v_o1_dread a2 g1) (fun r5 =>
          bd1 (f_X8_setDread v_o1_dread a2 g1 (r5 + g2)) (fun w6 =>
          f_X0_befall_b176 a2 (f_X0_befall_b3 v_t_signs v_t_values v_t_words x_t_lines a2 n) w6 v_o1_kind v_o1_salt v_o3_other l4))
        else
        if g3 = (45 : Int32) then
          bd1 (f_X8_dreadOf v_o1_dread a2 g1) (fun r7 =>
          bd1 (f_X8_setDread v_o1_dread a2 g1 (r7 - g2)) (fun w8 =>
          f_X0_befall_b176 a2 (f_X0_befall_b3 v_t_signs v_t_values v_t_words x_t_lines a2 n) w8 v_o1_kind v_o1_salt v_o3_other l4))
        else
        if g3 = (61 : Int32) then
          bd1 (f_X8_setDread v_o1_dread a2 g1 g2) (fun w9 =>
          f_X0_befall_b176 a2 (f_X0_befall_b3 v_t_signs v_t_values v_t_words x_t_lines a2 n) w9 v_o1_kind v_o1_salt v_o3_other l4)
        else
        if g3 = (126 : Int32) then
          bd1 (f_X4_pair v_o3_other g1 g2) (fun w10 =>
          f_X0_befall_b176 a2 (f_X0_befall_b3 v_t_signs v_t_values v_t_words x_t_lines a2 n) v_o1_dread v_o1_kind v_o1_salt w10 l4)
        else
          bd1 (f_X8_setKind v_o1_kind a2 g2) (fun w11 =>
          f_X0_befall_b176 a2 (f_X0_befall_b3 v_t_signs v_t_values v_t_words x_t_lines a2 n) v_o1_dread w11 v_o1_salt v_o3_other l4))))
def f_X0_befall (v_o1_dread : (Nat → Int32)) (v_o1_kind : (Nat → Int32)) (v_o1_salt : (Nat → Int32)) (v_o3_other : (Nat → Int32)) (v_t_signs : (Nat → Int32)) (v_t_values : (Nat → Int32)) (v_t_words : (Nat → Int32)) (x_t_lines : Int32) (a2 : Int32) : Option ((Nat → Int32) × (Nat → Int32) × (Nat → Int32) × (Nat → Int32)) :=
  f_X0_befall_b3 v_t_signs v_t_values v_t_words x_t_lines a2 FU v_o1_dread v_o1_kind v_o1_salt v_o3_other (0 : Int32)
set_option maxHeartbeats 4000000 in
set_option maxRecDepth 100000 in
theorem c_X0_befall {l : Launch} {D : va_G} {cI cB : ClassId} {A_o1 A_o1_rhymes A_o1_kind A_o1_salt A_o1_ink A_o1_dread A_o1_tries A_o3 A_o3_other A_t A_t_text A_t_signs A_t_words A_t_values : Nat} {x_o1_told x_o1_nerve x_o1_pictures x_o1_written x_o1_day x_o1_x x_t_lines a2 : Int32} {v_o1_dread v_o1_kind v_o1_salt v_o3_other v_t_signs v_t_values v_t_words : Nat → Int32} {o_v_o1_dread o_v_o1_kind o_v_o1_salt o_v_o3_other : Nat → Int32} (hf : f_X0_befall v_o1_dread v_o1_kind v_o1_salt v_o3_other v_t_signs v_t_values v_t_words x_t_lines a2 = some (o_v_o1_dread, o_v_o1_kind, o_v_o1_salt, o_v_o3_other)) : CtV l D cI cB yX0_befall cX0_befall 7 3 65 [.ref A_t, .ref A_o1, .int a2, .ref A_o3] [oX8 A_o1 A_o1_rhymes A_o1_kind A_o1_salt A_o1_ink A_o1_dread A_o1_tries x_o1_told x_o1_nerve x_o1_pictures x_o1_written x_o1_day x_o1_x, oX4 A_o3 A_o3_other, oX0 A_t A_t_text A_t_signs A_t_words A_t_values x_t_lines, iA cI 128 A_o1_dread v_o1_dread, iA cI 8 A_o1_kind v_o1_kind, iA cI 8 A_o1_salt v_o1_salt, iA cI 16 A_o3_other v_o3_other, iA cI 20 A_t_signs v_t_signs, iA cI 20 A_t_values v_t_values, iA cI 20 A_t_words v_t_words] [oX8 A_o1 A_o1_rhymes A_o1_kind A_o1_salt A_o1_ink A_o1_dread A_o1_tries x_o1_told x_o1_nerve x_o1_pictures x_o1_written x_o1_day x_o1_x, oX4 A_o3 A_o3_other, oX0 A_t A_t_text A_t_signs A_t_words A_t_values x_t_lines, iA cI 128 A_o1_dread o_v_o1_dread, iA cI 8 A_o1_kind o_v_o1_kind, iA cI 8 A_o1_salt o_v_o1_salt, iA cI 16 A_o3_other o_v_o3_other, iA cI 20 A_t_signs v_t_signs, iA cI 20 A_t_values v_t_values, iA cI 20 A_t_words v_t_words] := by
  refine x_startV (by decide) (Nat.le_of_ble_eq_true rfl) ?_
  intro p e s m below meth c A C hr hlk hA hK hP hD hS ls hl
  have hl : lv_has ls 7 [(0, .ref A_t), (1, .ref A_o1), (2, .int a2), (3, .ref A_o3)] := hl
  have hx := C.1
  have hb := C.2.1
  unfold f_X0_befall at hf
  have hb_182 : ∀ (v_o1_dread : (Nat → Int32)) (v_o1_kind : (Nat → Int32)) (v_o1_salt : (Nat → Int32)) (v_o3_other : (Nat → Int32)) (H : Heap) (locs : List Loc) (ls : Array Slot), lv_has ls 7 [] → va_P D vwCl [oX8 A_o1 A_o1_rhymes A_o1_kind A_o1_salt A_o1_ink A_o1_dread A_o1_tries x_o1_told x_o1_nerve x_o1_pictures x_o1_written x_o1_day x_o1_x, oX4 A_o3 A_o3_other, oX0 A_t A_t_text A_t_signs A_t_words A_t_values x_t_lines, iA cI 128 A_o1_dread v_o1_dread, iA cI 8 A_o1_kind v_o1_kind, iA cI 8 A_o1_salt v_o1_salt, iA cI 16 A_o3_other v_o3_other, iA cI 20 A_t_signs v_t_signs, iA cI 20 A_t_values v_t_values, iA cI 20 A_t_words v_t_words] H → va_D A [oX8 A_o1 A_o1_rhymes A_o1_kind A_o1_salt A_o1_ink A_o1_dread A_o1_tries x_o1_told x_o1_nerve x_o1_pictures x_o1_written x_o1_day x_o1_x, oX4 A_o3 A_o3_other, oX0 A_t A_t_text A_t_signs A_t_words A_t_values x_t_lines, iA cI 128 A_o1_dread v_o1_dread, iA cI 8 A_o1_kind v_o1_kind, iA cI 8 A_o1_salt v_o1_salt, iA cI 16 A_o3_other v_o3_other, iA cI 20 A_t_signs v_t_signs, iA cI 20 A_t_values v_t_values, iA cI 20 A_t_words v_t_words] → va_S A s.heap H locs → f_X0_befall_b182 v_o1_dread v_o1_kind v_o1_salt v_o3_other = some (o_v_o1_dread, o_v_o1_kind, o_v_o1_salt, o_v_o3_other) → W p l e { frames := 3, cells := 0, slots := 0, locals := 65 } s m ([.ref A_t, .ref A_o1, .int a2, .ref A_o3] : List Value).toArray below meth c H locs 0 0 (MQ below (PoV D A [oX8 A_o1 A_o1_rhymes A_o1_kind A_o1_salt A_o1_ink A_o1_dread A_o1_tries x_o1_told x_o1_nerve x_o1_pictures x_o1_written x_o1_day x_o1_x, oX4 A_o3 A_o3_other, oX0 A_t A_t_text A_t_signs A_t_words A_t_values x_t_lines, iA cI 128 A_o1_dread o_v_o1_dread, iA cI 8 A_o1_kind o_v_o1_kind, iA cI 8 A_o1_salt o_v_o1_salt, iA cI 16 A_o3_other o_v_o3_other, iA cI 20 A_t_signs v_t_signs, iA cI 20 A_t_values v_t_values, iA cI 20 A_t_words v_t_words]) ([.ref A_t, .ref A_o1, .int a2, .ref A_o3] : List Value).toArray s 0 0 A) (F0 m 182 ls []) := by
    intro v_o1_dread v_o1_kind v_o1_salt v_o3_other H locs ls hl hP hD hS hf
    unfold f_X0_befall_b182 at hf
    obtain ⟨rfl, rfl, rfl, rfl⟩ := ev4 hf
    exact x_vret C hr hlk hP hD hS dX0_befall_182
  have hb_3 : ∀ (n_3 : Nat) (v_o1_dread : (Nat → Int32)) (v_o1_kind : (Nat → Int32)) (v_o1_salt : (Nat → Int32)) (v_o3_other : (Nat → Int32)) (l4 : Int32) (H : Heap) (locs : List Loc) (ls : Array Slot), lv_has ls 7 [(0, .ref A_t), (1, .ref A_o1), (2, .int a2), (3, .ref A_o3), (4, .int l4)] → va_P D vwCl [oX8 A_o1 A_o1_rhymes A_o1_kind A_o1_salt A_o1_ink A_o1_dread A_o1_tries x_o1_told x_o1_nerve x_o1_pictures x_o1_written x_o1_day x_o1_x, oX4 A_o3 A_o3_other, oX0 A_t A_t_text A_t_signs A_t_words A_t_values x_t_lines, iA cI 128 A_o1_dread v_o1_dread, iA cI 8 A_o1_kind v_o1_kind, iA cI 8 A_o1_salt v_o1_salt, iA cI 16 A_o3_other v_o3_other, iA cI 20 A_t_signs v_t_signs, iA cI 20 A_t_values v_t_values, iA cI 20 A_t_words v_t_words] H → va_D A [oX8 A_o1 A_o1_rhymes A_o1_kind A_o1_salt A_o1_ink A_o1_dread A_o1_tries x_o1_told x_o1_nerve x_o1_pictures x_o1_written x_o1_day x_o1_x, oX4 A_o3 A_o3_other, oX0 A_t A_t_text A_t_signs A_t_words A_t_values x_t_lines, iA cI 128 A_o1_dread v_o1_dread, iA cI 8 A_o1_kind v_o1_kind, iA cI 8 A_o1_salt v_o1_salt, iA cI 16 A_o3_other v_o3_other, iA cI 20 A_t_signs v_t_signs, iA cI 20 A_t_values v_t_values, iA cI 20 A_t_words v_t_words] → va_S A s.heap H locs → f_X0_befall_b3 v_t_signs v_t_values v_t_words x_t_lines a2 n_3 v_o1_dread v_o1_kind v_o1_salt v_o3_other l4 = some (o_v_o1_dread, o_v_o1_kind, o_v_o1_salt, o_v_o3_other) → W p l e { frames := 3, cells := 0, slots := 0, locals := 65 } s m ([.ref A_t, .ref A_o1, .int a2, .ref A_o3] : List Value).toArray below meth c H locs 0 0 (MQ below (PoV D A [oX8 A_o1 A_o1_rhymes A_o1_kind A_o1_salt A_o1_ink A_o1_dread A_o1_tries x_o1_told x_o1_nerve x_o1_pictures x_o1_written x_o1_day x_o1_x, oX4 A_o3 A_o3_other, oX0 A_t A_t_text A_t_signs A_t_words A_t_values x_t_lines, iA cI 128 A_o1_dread o_v_o1_dread, iA cI 8 A_o1_kind o_v_o1_kind, iA cI 8 A_o1_salt o_v_o1_salt, iA cI 16 A_o3_other o_v_o3_other, iA cI 20 A_t_signs v_t_signs, iA cI 20 A_t_values v_t_values, iA cI 20 A_t_words v_t_words]) ([.ref A_t, .ref A_o1, .int a2, .ref A_o3] : List Value).toArray s 0 0 A) (F0 m 3 ls []) := by
    intro n_3
    induction n_3 with
    | zero =>
      intro v_o1_dread v_o1_kind v_o1_salt v_o3_other l4 H locs ls hl hP hD hS hf
      exact absurd hf (fun h => by rw [f_X0_befall_b3] at h; cases h)
    | succ n_3 ih_3 =>
      have hb_176 : ∀ (v_o1_dread : (Nat → Int32)) (v_o1_kind : (Nat → Int32)) (v_o1_salt : (Nat → Int32)) (v_o3_other : (Nat → Int32)) (l4 : Int32) (H : Heap) (locs : List Loc) (ls : Array Slot), lv_has ls 7 [(0, .ref A_t), (1, .ref A_o1), (2, .int a2), (3, .ref A_o3), (4, .int l4)] → va_P D vwCl [oX8 A_o1 A_o1_rhymes A_o1_kind A_o1_salt A_o1_ink A_o1_dread A_o1_tries x_o1_told x_o1_nerve x_o1_pictures x_o1_written x_o1_day x_o1_x, oX4 A_o3 A_o3_other, oX0 A_t A_t_text A_t_signs A_t_words A_t_values x_t_lines, iA cI 128 A_o1_dread v_o1_dread, iA cI 8 A_o1_kind v_o1_kind, iA cI 8 A_o1_salt v_o1_salt, iA cI 16 A_o3_other v_o3_other, iA cI 20 A_t_signs v_t_signs, iA cI 20 A_t_values v_t_values, iA cI 20 A_t_words v_t_words] H → va_D A [oX8 A_o1 A_o1_rhymes A_o1_kind A_o1_salt A_o1_ink A_o1_dread A_o1_tries x_o1_told x_o1_nerve x_o1_pictures x_o1_written x_o1_day x_o1_x, oX4 A_o3 A_o3_other, oX0 A_t A_t_text A_t_signs A_t_words A_t_values x_t_lines, iA cI 128 A_o1_dread v_o1_dread, iA cI 8 A_o1_kind v_o1_kind, iA cI 8 A_o1_salt v_o1_salt, iA cI 16 A_o3_other v_o3_other, iA cI 20 A_t_signs v_t_signs, iA cI 20 A_t_values v_t_values, iA cI 20 A_t_words v_t_words] → va_S A s.heap H locs → f_X0_befall_b176 a2 (f_X0_befall_b3 v_t_signs v_t_values v_t_words x_t_lines a2 n_3) v_o1_dread v_o1_kind v_o1_salt v_o3_other l4 = some (o_v_o1_dread, o_v_o1_kind, o_v_o1_salt, o_v_o3_other) → W p l e { frames := 3, cells := 0, slots := 0, locals := 65 } s m ([.ref A_t, .ref A_o1, .int a2, .ref A_o3] : List Value).toArray below meth c H locs 0 0 (MQ below (PoV D A [oX8 A_o1 A_o1_rhymes A_o1_kind A_o1_salt A_o1_ink A_o1_dread A_o1_tries x_o1_told x_o1_nerve x_o1_pictures x_o1_written x_o1_day x_o1_x, oX4 A_o3 A_o3_other, oX0 A_t A_t_text A_t_signs A_t_words A_t_values x_t_lines, iA cI 128 A_o1_dread o_v_o1_dread, iA cI 8 A_o1_kind o_v_o1_kind, iA cI 8 A_o1_salt o_v_o1_salt, iA cI 16 A_o3_other o_v_o3_other, iA cI 20 A_t_signs v_t_signs, iA cI 20 A_t_values v_t_values, iA cI 20 A_t_words v_t_words]) ([.ref A_t, .ref A_o1, .int a2, .ref A_o3] : List Value).toArray s 0 0 A) (F0 m 176 ls []) := by
        intro v_o1_dread v_o1_kind v_o1_salt v_o3_other l4 H locs ls hl hP hD hS hf
        unfold f_X0_befall_b176 at hf
        refine lv_iinc (v := (l4 + (1 : Int32))) (lv' := [(4, .int (l4 + (1 : Int32))), (0, .ref A_t), (1, .ref A_o1), (2, .int a2), (3, .ref A_o3)]) hx hb dX0_befall_176 hl (k := 4) rfl rfl (by decide) rfl (fun ls hl => ?_)
        refine lv_goto (tgt := 3) hx hb dX0_befall_179 (by decide) ?_
        exact ih_3 v_o1_dread v_o1_kind v_o1_salt v_o3_other (l4 + (1 : Int32)) _ _ ls (lv_sub hl [1, 2, 3, 4, 0] rfl) hP hD hS hf
      intro v_o1_dread v_o1_kind v_o1_salt v_o3_other l4 H locs ls hl hP hD hS hf
      rw [f_X0_befall_b3] at hf
      refine lv_iload hx hb dX0_befall_3 (lv_at hl 4 rfl) ?_
      refine lv_aload_n hx hb dX0_befall_5 rfl (lv_at hl 0 rfl) ?_
      refine x_get C hK hP fd_X0_25 2 rfl rfl dX0_befall_6 ?_
      refine lv_icmp_ge (tgt := 182) hx hb dX0_befall_9 (by decide) (fun q => ?_) (fun q => ?_)
      · have hf := if_t q hf
        exact hb_182 v_o1_dread v_o1_kind v_o1_salt v_o3_other _ _ ls (lv_sub hl [] rfl) hP hD hS hf
      · have hf := if_f q hf
        refine lv_iload hx hb dX0_befall_12 (lv_at hl 4 rfl) ?_
        refine lv_bipush (v := 20) hx hb dX0_befall_14 (by decide) ?_
        refine lv_icmp_ge (tgt := 182) hx hb dX0_befall_16 (by decide) (fun q => ?_) (fun q => ?_)
        · have hf := if_t q hf
          exact hb_182 v_o1_dread v_o1_kind v_o1_salt v_o3_other _ _ ls (lv_sub hl [] rfl) hP hD hS hf
        · have hf := if_f q hf
          refine lv_aload_n hx hb dX0_befall_19 rfl (lv_at hl 0 rfl) ?_
          refine x_get C hK hP fd_X0_15 2 rfl rfl dX0_befall_20 ?_
          refine lv_iload hx hb dX0_befall_23 (lv_at hl 4 rfl) ?_
          obtain ⟨hi, hf⟩ := gI_e hf
          refine x_iald C hK hP 9 rfl hi dX0_befall_25 ?_
          refine lv_istore (lv' := [(5, .int (v_t_words l4.toNatClampNeg)), (0, .ref A_t), (1, .ref A_o1), (2, .int a2), (3, .ref A_o3), (4, .int l4)]) hx hb dX0_befall_26 hl (by decide) rfl (fun ls hl => ?_)
          refine lv_aload_n hx hb dX0_befall_28 rfl (lv_at hl 1 rfl) ?_
          refine x_get C hK hP fd_X0_18 2 rfl rfl dX0_befall_29 ?_
          refine lv_iload hx hb dX0_befall_32 (lv_at hl 5 rfl) ?_
          obtain ⟨hi, hf⟩ := gI_e hf
          refine x_iald C hK hP 8 rfl hi dX0_befall_34 ?_
          refine lv_istore (lv' := [(6, .int (v_t_values l4.toNatClampNeg)), (5, .int (v_t_words l4.toNatClampNeg)), (0, .ref A_t), (1, .ref A_o1), (2, .int a2), (3, .ref A_o3), (4, .int l4)]) hx hb dX0_befall_35 hl (by decide) rfl (fun ls hl => ?_)
          refine lv_aload_n hx hb dX0_befall_37 rfl (lv_at hl 2 rfl) ?_
          refine x_get C hK hP fd_X0_11 2 rfl rfl dX0_befall_38 ?_
          refine lv_iload hx hb dX0_befall_41 (lv_at hl 6 rfl) ?_
          obtain ⟨hi, hf⟩ := gI_e hf
          refine x_iald C hK hP 7 rfl hi dX0_befall_43 ?_
          by_cases q_33 : (v_t_signs l4.toNatClampNeg) = (33 : Int32)
          · have hf := if_t q_33 hf
            refine lv_lookup (tgt := 159) (off := 115) hx hb dX0_befall_44 (by decide) (by rw [q_33]; decide) (by decide) ?_
            refine lv_aload_n hx hb dX0_befall_159 rfl (lv_at hl 3 rfl) ?_
            refine lv_iload_n hx hb dX0_befall_160 rfl (lv_at hl 4 rfl) ?_
            refine lv_iload hx hb dX0_befall_161 (lv_at hl 0 rfl) ?_
            obtain ⟨w1, hc2, hf⟩ := bd1_e hf
            refine x_callVV (ws' := [oX8 A_o1 A_o1_rhymes A_o1_kind A_o1_salt A_o1_ink A_o1_dread A_o1_tries x_o1_told x_o1_nerve x_o1_pictures x_o1_written x_o1_day x_o1_x, oX4 A_o3 A_o3_other, oX0 A_t A_t_text A_t_signs A_t_words A_t_values x_t_lines, iA cI 128 A_o1_dread v_o1_dread, iA cI 8 A_o1_kind v_o1_kind, iA cI 8 A_o1_salt w1, iA cI 16 A_o3_other v_o3_other, iA cI 20 A_t_signs v_t_signs, iA cI 20 A_t_values v_t_values, iA cI 20 A_t_words v_t_words]) (rest := []) C hK hP hD hS hA hl mf_X0_67 (c_X8_setSalt hc2) [0, 5] 0 8 rfl rfl rfl rfl rfl rfl rfl rfl rfl rfl (Nat.le_of_ble_eq_true rfl) ⟨Nat.le_of_ble_eq_true rfl, Nat.le_of_ble_eq_true rfl⟩ ⟨Nat.le_refl _, Nat.le_refl _⟩ dX0_befall_163 ?_
            intro H locs hP hD hS
            refine lv_goto (tgt := 176) hx hb dX0_befall_166 (by decide) ?_
            exact hb_176 v_o1_dread v_o1_kind w1 v_o3_other l4 _ _ ls (lv_sub hl [2, 3, 4, 5, 6] rfl) hP hD hS hf
          have hf := if_f q_33 hf
          by_cases q_43 : (v_t_signs l4.toNatClampNeg) = (43 : Int32)
          · have hf := if_t q_43 hf
            refine lv_lookup (tgt := 108) (off := 64) hx hb dX0_befall_44 (by decide) (by rw [q_43]; decide) (by decide) ?_
            refine lv_aload_n hx hb dX0_befall_108 rfl (lv_at hl 3 rfl) ?_
            refine lv_iload_n hx hb dX0_befall_109 rfl (lv_at hl 4 rfl) ?_
            refine lv_iload hx hb dX0_befall_110 (lv_at hl 1 rfl) ?_
            refine lv_aload_n hx hb dX0_befall_112 rfl (lv_at hl 3 rfl) ?_
            refine lv_iload_n hx hb dX0_befall_113 rfl (lv_at hl 4 rfl) ?_
            refine lv_iload hx hb dX0_befall_114 (lv_at hl 1 rfl) ?_
            obtain ⟨r3, hc4, hf⟩ := bd1_e hf
            refine x_callVI (ws' := [oX8 A_o1 A_o1_rhymes A_o1_kind A_o1_salt A_o1_ink A_o1_dread A_o1_tries x_o1_told x_o1_nerve x_o1_pictures x_o1_written x_o1_day x_o1_x, oX4 A_o3 A_o3_other, oX0 A_t A_t_text A_t_signs A_t_words A_t_values x_t_lines, iA cI 128 A_o1_dread v_o1_dread, iA cI 8 A_o1_kind v_o1_kind, iA cI 8 A_o1_salt v_o1_salt, iA cI 16 A_o3_other v_o3_other, iA cI 20 A_t_signs v_t_signs, iA cI 20 A_t_values v_t_values, iA cI 20 A_t_words v_t_words]) (rest := [.int (v_t_words l4.toNatClampNeg), .int a2, .ref A_o1]) C hK hP hD hS hA hl mf_X0_57 (c_X8_dreadOf hc4) [0, 3] 0 8 rfl rfl rfl rfl rfl rfl rfl rfl rfl rfl (Nat.le_of_ble_eq_true rfl) ⟨Nat.le_of_ble_eq_true rfl, Nat.le_of_ble_eq_true rfl⟩ ⟨Nat.le_refl _, Nat.le_refl _⟩ dX0_befall_116 ?_
            intro H locs hP hD hS
            refine lv_iload hx hb dX0_befall_119 (lv_at hl 0 rfl) ?_
            refine lv_iadd hx hb dX0_befall_121 ?_
            obtain ⟨w5, hc6, hf⟩ := bd1_e hf
            refine x_callVV (ws' := [oX8 A_o1 A_o1_rhymes A_o1_kind A_o1_salt A_o1_ink A_o1_dread A_o1_tries x_o1_told x_o1_nerve x_o1_pictures x_o1_written x_o1_day x_o1_x, oX4 A_o3 A_o3_other, oX0 A_t A_t_text A_t_signs A_t_words A_t_values x_t_lines, iA cI 128 A_o1_dread w5, iA cI 8 A_o1_kind v_o1_kind, iA cI 8 A_o1_salt v_o1_salt, iA cI 16 A_o3_other v_o3_other, iA cI 20 A_t_signs v_t_signs, iA cI 20 A_t_values v_t_values, iA cI 20 A_t_words v_t_words]) (rest := []) C hK hP hD hS hA hl mf_X0_51 (c_X8_setDread hc6) [0, 3] 0 8 rfl rfl rfl rfl rfl rfl rfl rfl rfl rfl (Nat.le_of_ble_eq_true rfl) ⟨Nat.le_of_ble_eq_true rfl, Nat.le_of_ble_eq_true rfl⟩ ⟨Nat.le_refl _, Nat.le_refl _⟩ dX0_befall_122 ?_
            intro H locs hP hD hS
            refine lv_goto (tgt := 176) hx hb dX0_befall_125 (by decide) ?_
            exact hb_176 w5 v_o1_kind v_o1_salt v_o3_other l4 _ _ ls (lv_sub hl [2, 3, 4, 5, 6] rfl) hP hD hS hf
          have hf := if_f q_43 hf
          by_cases q_45 : (v_t_signs l4.toNatClampNeg) = (45 : Int32)
          · have hf := if_t q_45 hf
            refine lv_lookup (tgt := 128) (off := 84) hx hb dX0_befall_44 (by decide) (by rw [q_45]; decide) (by decide) ?_
            refine lv_aload_n hx hb dX0_befall_128 rfl (lv_at hl 3 rfl) ?_
            refine lv_iload_n hx hb dX0_befall_129 rfl (lv_at hl 4 rfl) ?_
            refine lv_iload hx hb dX0_befall_130 (lv_at hl 1 rfl) ?_
            refine lv_aload_n hx hb dX0_befall_132 rfl (lv_at hl 3 rfl) ?_
            refine lv_iload_n hx hb dX0_befall_133 rfl (lv_at hl 4 rfl) ?_
            refine lv_iload hx hb dX0_befall_134 (lv_at hl 1 rfl) ?_
            obtain ⟨r7, hc8, hf⟩ := bd1_e hf
            refine x_callVI (ws' := [oX8 A_o1 A_o1_rhymes A_o1_kind A_o1_salt A_o1_ink A_o1_dread A_o1_tries x_o1_told x_o1_nerve x_o1_pictures x_o1_written x_o1_day x_o1_x, oX4 A_o3 A_o3_other, oX0 A_t A_t_text A_t_signs A_t_words A_t_values x_t_lines, iA cI 128 A_o1_dread v_o1_dread, iA cI 8 A_o1_kind v_o1_kind, iA cI 8 A_o1_salt v_o1_salt, iA cI 16 A_o3_other v_o3_other, iA cI 20 A_t_signs v_t_signs, iA cI 20 A_t_values v_t_values, iA cI 20 A_t_words v_t_words]) (rest := [.int (v_t_words l4.toNatClampNeg), .int a2, .ref A_o1]) C hK hP hD hS hA hl mf_X0_57 (c_X8_dreadOf hc8) [0, 3] 0 8 rfl rfl rfl rfl rfl rfl rfl rfl rfl rfl (Nat.le_of_ble_eq_true rfl) ⟨Nat.le_of_ble_eq_true rfl, Nat.le_of_ble_eq_true rfl⟩ ⟨Nat.le_refl _, Nat.le_refl _⟩ dX0_befall_136 ?_
            intro H locs hP hD hS
            refine lv_iload hx hb dX0_befall_139 (lv_at hl 0 rfl) ?_
            refine lv_isub hx hb dX0_befall_141 ?_
            obtain ⟨w9, hc10, hf⟩ := bd1_e hf
            refine x_callVV (ws' := [oX8 A_o1 A_o1_rhymes A_o1_kind A_o1_salt A_o1_ink A_o1_dread A_o1_tries x_o1_told x_o1_nerve x_o1_pictures x_o1_written x_o1_day x_o1_x, oX4 A_o3 A_o3_other, oX0 A_t A_t_text A_t_signs A_t_words A_t_values x_t_lines, iA cI 128 A_o1_dread w9, iA cI 8 A_o1_kind v_o1_kind, iA cI 8 A_o1_salt v_o1_salt, iA cI 16 A_o3_other v_o3_other, iA cI 20 A_t_signs v_t_signs, iA cI 20 A_t_values v_t_values, iA cI 20 A_t_words v_t_words]) (rest := []) C hK hP hD hS hA hl mf_X0_51 (c_X8_setDread hc10) [0, 3] 0 8 rfl rfl rfl rfl rfl rfl rfl rfl rfl rfl (Nat.le_of_ble_eq_true rfl) ⟨Nat.le_of_ble_eq_true rfl, Nat.le_of_ble_eq_true rfl⟩ ⟨Nat.le_refl _, Nat.le_refl _⟩ dX0_befall_142 ?_
            intro H locs hP hD hS
            refine lv_goto (tgt := 176) hx hb dX0_befall_145 (by decide) ?_
            exact hb_176 w9 v_o1_kind v_o1_salt v_o3_other l4 _ _ ls (lv_sub hl [2, 3, 4, 5, 6] rfl) hP hD hS hf
          have hf := if_f q_45 hf
          by_cases q_61 : (v_t_signs l4.toNatClampNeg) = (61 : Int32)
          · have hf := if_t q_61 hf
            refine lv_lookup (tgt := 96) (off := 52) hx hb dX0_befall_44 (by decide) (by rw [q_61]; decide) (by decide) ?_
            refine lv_aload_n hx hb dX0_befall_96 rfl (lv_at hl 3 rfl) ?_
            refine lv_iload_n hx hb dX0_befall_97 rfl (lv_at hl 4 rfl) ?_
            refine lv_iload hx hb dX0_befall_98 (lv_at hl 1 rfl) ?_
            refine lv_iload hx hb dX0_befall_100 (lv_at hl 0 rfl) ?_
            obtain ⟨w11, hc12, hf⟩ := bd1_e hf
            refine x_callVV (ws' := [oX8 A_o1 A_o1_rhymes A_o1_kind A_o1_salt A_o1_ink A_o1_dread A_o1_tries x_o1_told x_o1_nerve x_o1_pictures x_o1_written x_o1_day x_o1_x, oX4 A_o3 A_o3_other, oX0 A_t A_t_text A_t_signs A_t_words A_t_values x_t_lines, iA cI 128 A_o1_dread w11, iA cI 8 A_o1_kind v_o1_kind, iA cI 8 A_o1_salt v_o1_salt, iA cI 16 A_o3_other v_o3_other, iA cI 20 A_t_signs v_t_signs, iA cI 20 A_t_values v_t_values, iA cI 20 A_t_words v_t_words]) (rest := []) C hK hP hD hS hA hl mf_X0_51 (c_X8_setDread hc12) [0, 3] 0 8 rfl rfl rfl rfl rfl rfl rfl rfl rfl rfl (Nat.le_of_ble_eq_true rfl) ⟨Nat.le_of_ble_eq_true rfl, Nat.le_of_ble_eq_true rfl⟩ ⟨Nat.le_refl _, Nat.le_refl _⟩ dX0_befall_102 ?_
            intro H locs hP hD hS
            refine lv_goto (tgt := 176) hx hb dX0_befall_105 (by decide) ?_
            exact hb_176 w11 v_o1_kind v_o1_salt v_o3_other l4 _ _ ls (lv_sub hl [2, 3, 4, 5, 6] rfl) hP hD hS hf
          have hf := if_f q_61 hf
          by_cases q_126 : (v_t_signs l4.toNatClampNeg) = (126 : Int32)
          · have hf := if_t q_126 hf
            refine lv_lookup (tgt := 148) (off := 104) hx hb dX0_befall_44 (by decide) (by rw [q_126]; decide) (by decide) ?_
            refine lv_aload_n hx hb dX0_befall_148 rfl (lv_at hl 5 rfl) ?_
            refine lv_iload hx hb dX0_befall_149 (lv_at hl 1 rfl) ?_
            refine lv_iload hx hb dX0_befall_151 (lv_at hl 0 rfl) ?_
            obtain ⟨w13, hc14, hf⟩ := bd1_e hf
            refine x_callVV (ws' := [oX8 A_o1 A_o1_rhymes A_o1_kind A_o1_salt A_o1_ink A_o1_dread A_o1_tries x_o1_told x_o1_nerve x_o1_pictures x_o1_written x_o1_day x_o1_x, oX4 A_o3 A_o3_other, oX0 A_t A_t_text A_t_signs A_t_words A_t_values x_t_lines, iA cI 128 A_o1_dread v_o1_dread, iA cI 8 A_o1_kind v_o1_kind, iA cI 8 A_o1_salt v_o1_salt, iA cI 16 A_o3_other w13, iA cI 20 A_t_signs v_t_signs, iA cI 20 A_t_values v_t_values, iA cI 20 A_t_words v_t_words]) (rest := []) C hK hP hD hS hA hl mf_X0_61 (c_X4_pair hc14) [1, 6] 0 4 rfl rfl rfl rfl rfl rfl rfl rfl rfl rfl (Nat.le_of_ble_eq_true rfl) ⟨Nat.le_of_ble_eq_true rfl, Nat.le_of_ble_eq_true rfl⟩ ⟨Nat.le_refl _, Nat.le_refl _⟩ dX0_befall_153 ?_
            intro H locs hP hD hS
            refine lv_goto (tgt := 176) hx hb dX0_befall_156 (by decide) ?_
            exact hb_176 v_o1_dread v_o1_kind v_o1_salt w13 l4 _ _ ls (lv_sub hl [2, 3, 4, 5, 6] rfl) hP hD hS hf
          have hf := if_f q_126 hf
          have eq_33 : (v_t_signs l4.toNatClampNeg).toInt ≠ 33 := fun h => q_33 (Int32.toInt_inj.mp (h.trans (by decide)))
          have eq_43 : (v_t_signs l4.toNatClampNeg).toInt ≠ 43 := fun h => q_43 (Int32.toInt_inj.mp (h.trans (by decide)))
          have eq_45 : (v_t_signs l4.toNatClampNeg).toInt ≠ 45 := fun h => q_45 (Int32.toInt_inj.mp (h.trans (by decide)))
          have eq_61 : (v_t_signs l4.toNatClampNeg).toInt ≠ 61 := fun h => q_61 (Int32.toInt_inj.mp (h.trans (by decide)))
          have eq_126 : (v_t_signs l4.toNatClampNeg).toInt ≠ 126 := fun h => q_126 (Int32.toInt_inj.mp (h.trans (by decide)))
          refine lv_lookup (tgt := 169) (off := 125) hx hb dX0_befall_44 (by decide) (by simp [Op.lookupswitch.offset, eq_33, Ne.symm eq_33, eq_43, Ne.symm eq_43, eq_45, Ne.symm eq_45, eq_61, Ne.symm eq_61, eq_126, Ne.symm eq_126]) (by decide) ?_
          refine lv_aload_n hx hb dX0_befall_169 rfl (lv_at hl 3 rfl) ?_
          refine lv_iload_n hx hb dX0_befall_170 rfl (lv_at hl 4 rfl) ?_
          refine lv_iload hx hb dX0_befall_171 (lv_at hl 0 rfl) ?_
          obtain ⟨w15, hc16, hf⟩ := bd1_e hf
          refine x_callVV (ws' := [oX8 A_o1 A_o1_rhymes A_o1_kind A_o1_salt A_o1_ink A_o1_dread A_o1_tries x_o1_told x_o1_nerve x_o1_pictures x_o1_written x_o1_day x_o1_x, oX4 A_o3 A_o3_other, oX0 A_t A_t_text A_t_signs A_t_words A_t_values x_t_lines, iA cI 128 A_o1_dread v_o1_dread, iA cI 8 A_o1_kind w15, iA cI 8 A_o1_salt v_o1_salt, iA cI 16 A_o3_other v_o3_other, iA cI 20 A_t_signs v_t_signs, iA cI 20 A_t_values v_t_values, iA cI 20 A_t_words v_t_words]) (rest := []) C hK hP hD hS hA hl mf_X0_70 (c_X8_setKind hc16) [0, 4] 0 8 rfl rfl rfl rfl rfl rfl rfl rfl rfl rfl (Nat.le_of_ble_eq_true rfl) ⟨Nat.le_of_ble_eq_true rfl, Nat.le_of_ble_eq_true rfl⟩ ⟨Nat.le_refl _, Nat.le_refl _⟩ dX0_befall_173 ?_
          intro H locs hP hD hS
          exact hb_176 v_o1_dread w15 v_o1_salt v_o3_other l4 _ _ ls (lv_sub hl [2, 3, 4, 5, 6] rfl) hP hD hS hf
  refine lv_iconst (v := 0) hx hb dX0_befall_0 (by decide) ?_
  refine lv_istore (lv' := [(4, .int (0 : Int32)), (0, .ref A_t), (1, .ref A_o1), (2, .int a2), (3, .ref A_o3)]) hx hb dX0_befall_1 hl (by decide) rfl (fun ls hl => ?_)
  exact hb_3 FU v_o1_dread v_o1_kind v_o1_salt v_o3_other (0 : Int32) _ _ ls (lv_sub hl [1, 2, 3, 4, 0] rfl) hP hD hS hf
