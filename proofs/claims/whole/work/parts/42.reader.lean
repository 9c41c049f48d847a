def f_X2_canOpen (x_t_text_end : Int32) (x_t_text_fault : Int32) (x_t_text_place : Int32) (a1 : Int32) : Option (Int32 × Int32 × Int32) :=
  if a1 < (6 : Int32) then
    bd1 (f_X9_step x_t_text_end x_t_text_place) (fun w1 =>
    some ((1 : Int32), x_t_text_fault, w1))
  else
    bd1 (f_X9_fail x_t_text_fault x_t_text_place (5 : Int32)) (fun w2 =>
    some ((0 : Int32), w2, x_t_text_place))
set_option maxHeartbeats 4000000 in
set_option maxRecDepth 100000 in
theorem c_X2_canOpen {l : Launch} {D : va_G} {cI cB : ClassId} {A_t A_t_text A_t_draft A_t_text_bytes : Nat} {x_t_text_size x_t_text_end x_t_text_place x_t_text_fault a1 : Int32} {o_r o_x_t_text_fault o_x_t_text_place : Int32} (hf : f_X2_canOpen x_t_text_end x_t_text_fault x_t_text_place a1 = some (o_r, o_x_t_text_fault, o_x_t_text_place)) : CtI l D cI cB yX2_canOpen cX2_canOpen 2 (some .boolean) 2 43 [.ref A_t, .int a1] [oX2 A_t A_t_text A_t_draft, oX9 A_t_text A_t_text_bytes x_t_text_size x_t_text_end x_t_text_place x_t_text_fault] [oX2 A_t A_t_text A_t_draft, oX9 A_t_text A_t_text_bytes x_t_text_size x_t_text_end o_x_t_text_place o_x_t_text_fault] o_r := by
  refine x_startI (by decide) (Nat.le_of_ble_eq_true rfl) ?_
  intro p e s m below meth c A C hr hlk hA hK hP hD hS ls hl
  have hl : lv_has ls 2 [(0, .ref A_t), (1, .int a1)] := hl
  have hx := C.1
  have hb := C.2.1
  unfold f_X2_canOpen at hf
  refine lv_iload_n hx hb dX2_canOpen_0 rfl (lv_at hl 1 rfl) ?_
  refine lv_bipush (v := 6) hx hb dX2_canOpen_1 (by decide) ?_
  refine lv_icmp_lt (tgt := 16) hx hb dX2_canOpen_3 (by decide) (fun q => ?_) (fun q => ?_)
  · have hf := if_t q hf
    refine lv_aload_n hx hb dX2_canOpen_16 rfl (lv_at hl 0 rfl) ?_
    refine x_get C hK hP fd_X2_9 0 rfl rfl dX2_canOpen_17 ?_
    obtain ⟨w1, hc2, hf⟩ := bd1_e hf
    refine x_callVV (ws' := [oX2 A_t A_t_text A_t_draft, oX9 A_t_text A_t_text_bytes x_t_text_size x_t_text_end w1 x_t_text_fault]) (rest := []) C hK hP hD hS hA hl mf_X2_58 (c_X9_step hc2) [1] 0 9 rfl rfl rfl rfl rfl rfl rfl rfl rfl rfl (Nat.le_of_ble_eq_true rfl) ⟨Nat.le_of_ble_eq_true rfl, Nat.le_of_ble_eq_true rfl⟩ ⟨Nat.le_refl _, Nat.le_refl _⟩ dX2_canOpen_20 ?_
    intro H locs hP hD hS
    refine lv_iconst (v := 1) hx hb dX2_canOpen_23 (by decide) ?_
    obtain ⟨rfl, rfl, rfl⟩ := ev3 hf
    exact x_zret C hr hlk (Or.inr rfl) hP hD hS dX2_canOpen_24
  · have hf := if_f q hf
    refine lv_aload_n hx hb dX2_canOpen_6 rfl (lv_at hl 0 rfl) ?_
    refine x_get C hK hP fd_X2_9 0 rfl rfl dX2_canOpen_7 ?_
    refine lv_iconst (v := 5) hx hb dX2_canOpen_10 (by decide) ?_
    obtain ⟨w3, hc4, hf⟩ := bd1_e hf
    refine x_callVV (ws' := [oX2 A_t A_t_text A_t_draft, oX9 A_t_text A_t_text_bytes x_t_text_size x_t_text_end x_t_text_place w3]) (rest := []) C hK hP hD hS hA hl mf_X2_55 (c_X9_fail hc4) [1] 0 9 rfl rfl rfl rfl rfl rfl rfl rfl rfl rfl (Nat.le_of_ble_eq_true rfl) ⟨Nat.le_of_ble_eq_true rfl, Nat.le_of_ble_eq_true rfl⟩ ⟨Nat.le_refl _, Nat.le_refl _⟩ dX2_canOpen_11 ?_
    intro H locs hP hD hS
    refine lv_iconst (v := 0) hx hb dX2_canOpen_14 (by decide) ?_
    obtain ⟨rfl, rfl, rfl⟩ := ev3 hf
    exact x_zret C hr hlk (Or.inl rfl) hP hD hS dX2_canOpen_15
def f_X2_readSum_b63 (G_X2_readSum : (Nat → Int32) → (Nat → Int32) → Int32 → Int32 → Int32 → Int32 → Int32 → Int32 → Option ((Nat → Int32) × Int32 × Int32 × Int32)) (G_X2_readTerm : (Nat → Int32) → (Nat → Int32) → Int32 → Int32 → Int32 → Int32 → Int32 → Int32 → Option ((Nat → Int32) × Int32 × Int32 × Int32)) (G_X2_readFactor : (Nat → Int32) → (Nat → Int32) → Int32 → Int32 → Int32 → Int32 → Int32 → Int32 → Option ((Nat → Int32) × Int32 × Int32 × Int32)) (a1 : Int32) (k7 : (Nat → Int32) → Int32 → Int32 → Int32 → Int32 → Option ((Nat → Int32) × Int32 × Int32 × Int32)) (v_t_draft_code : (Nat → Int32)) (x_t_draft_size : Int32) (x_t_text_fault : Int32) (x_t_text_place : Int32) (s1 : Int32) (l2 : Int32) : Option ((Nat → Int32) × Int32 × Int32 × Int32) :=
  bd3 (f_X1_emit v_t_draft_code x_t_draft_size s1 (0 : Int32)) (fun r1 w2 w3 =>
  k7 w2 w3 x_t_text_fault x_t_text_place (l2 + (1 : Int32)))
def f_X2_readSum_b35 (G_X2_readSum : (Nat → Int32) → (Nat → Int32) → Int32 → Int32 → Int32 → Int32 → Int32 → Int32 → Option ((Nat → Int32) × Int32 × Int32 × Int32)) (G_X2_readTerm : (Nat → Int32) → (Nat → Int32) → Int32 → Int32 → Int32 → Int32 → Int32 → Int32 → Option ((Nat → Int32) × Int32 × Int32 × Int32)) (G_X2_readFactor : (Nat → Int32) → (Nat → Int32) → Int32 → Int32 → Int32 → Int32 → Int32 → Int32 → Option ((Nat → Int32) × Int32 × Int32 × Int32)) (v_t_text_bytes : (Nat → Int32)) (x_t_text_end : Int32) (x_t_text_size : Int32) (a1 : Int32) (k7 : (Nat → Int32) → Int32 → Int32 → Int32 → Int32 → Option ((Nat → Int32) × Int32 × Int32 × Int32)) (v_t_draft_code : (Nat → Int32)) (x_t_draft_size : Int32) (x_t_text_fault : Int32) (x_t_text_place : Int32) (l2 : Int32) (l3 : Int32) : Option ((Nat → Int32) × Int32 × Int32 × Int32) :=
  bd1 (f_X9_step x_t_text_end x_t_text_place) (fun w1 =>
  bd4 (G_X2_readTerm v_t_draft_code v_t_text_bytes x_t_draft_size x_t_text_end x_t_text_fault w1 x_t_text_size a1) (fun w2 w3 w4 w5 =>
  if l3 = (43 : Int32) then
    f_X2_readSum_b63 G_X2_readSum G_X2_readTerm G_X2_readFactor a1 k7 w2 w3 w4 w5 (5 : Int32) l2
  else
    f_X2_readSum_b63 G_X2_readSum G_X2_readTerm G_X2_readFactor a1 k7 w2 w3 w4 w5 (6 : Int32) l2))
def f_X2_readSum_b7 (G_X2_readSum : (Nat → Int32) → (Nat → Int32) → Int32 → Int32 → Int32 → Int32 → Int32 → Int32 → Option ((Nat → Int32) × Int32 × Int32 × Int32)) (G_X2_readTerm : (Nat → Int32) → (Nat → Int32) → Int32 → Int32 → Int32 → Int32 → Int32 → Int32 → Option ((Nat → Int32) × Int32 × Int32 × Int32)) (G_X2_readFactor : (Nat → Int32) → (Nat → Int32) → Int32 → Int32 → Int32 → Int32 → Int32 → Int32 → Option ((Nat → Int32) × Int32 × Int32 × Int32)) (v_t_text_bytes : (Nat → Int32)) (x_t_text_end : Int32) (x_t_text_size : Int32) (a1 : Int32) : Nat → (Nat → Int32) → Int32 → Int32 → Int32 → Int32 → Option ((Nat → Int32) × Int32 × Int32 × Int32)
  | 0, _, _, _, _, _ => none
  | n + 1, v_t_draft_code, x_t_draft_size, x_t_text_fault, x_t_text_place, l2 =>
    if (240 : Int32) ≤ l2 then
      some (v_t_draft_code, x_t_draft_size, x_t_text_fault, x_t_text_place)
    else
      bd1 (f_X9_sign v_t_text_bytes x_t_text_end x_t_text_fault x_t_text_place x_t_text_size) (fun r1 =>
      if r1 = (43 : Int32) then
        f_X2_readSum_b35 G_X2_readSum G_X2_readTerm G_X2_readFactor v_t_text_bytes x_t_text_end x_t_text_size a1 (f_X2_readSum_b7 G_X2_readSum G_X2_readTerm G_X2_readFactor v_t_text_bytes x_t_text_end x_t_text_size a1 n) v_t_draft_code x_t_draft_size x_t_text_fault x_t_text_place l2 r1
      else
        if r1 = (45 : Int32) then
          f_X2_readSum_b35 G_X2_readSum G_X2_readTerm G_X2_readFactor v_t_text_bytes x_t_text_end x_t_text_size a1 (f_X2_readSum_b7 G_X2_readSum G_X2_readTerm G_X2_readFactor v_t_text_bytes x_t_text_end x_t_text_size a1 n) v_t_draft_code x_t_draft_size x_t_text_fault x_t_text_place l2 r1
        else
          some (v_t_draft_code, x_t_draft_size, x_t_text_fault, x_t_text_place))
def fo_X2_readSum (G_X2_readSum : (Nat → Int32) → (Nat → Int32) → Int32 → Int32 → Int32 → Int32 → Int32 → Int32 → Option ((Nat → Int32) × Int32 × Int32 × Int32)) (G_X2_readTerm : (Nat → Int32) → (Nat → Int32) → Int32 → Int32 → Int32 → Int32 → Int32 → Int32 → Option ((Nat → Int32) × Int32 × Int32 × Int32)) (G_X2_readFactor : (Nat → Int32) → (Nat → Int32) → Int32 → Int32 → Int32 → Int32 → Int32 → Int32 → Option ((Nat → Int32) × Int32 × Int32 × Int32)) (v_t_draft_code : (Nat → Int32)) (v_t_text_bytes : (Nat → Int32)) (x_t_draft_size : Int32) (x_t_text_end : Int32) (x_t_text_fault : Int32) (x_t_text_place : Int32) (x_t_text_size : Int32) (a1 : Int32) : Option ((Nat → Int32) × Int32 × Int32 × Int32) :=
  bd4 (G_X2_readTerm v_t_draft_code v_t_text_bytes x_t_draft_size x_t_text_end x_t_text_fault x_t_text_place x_t_text_size a1) (fun w2 w3 w4 w5 =>
  f_X2_readSum_b7 G_X2_readSum G_X2_readTerm G_X2_readFactor v_t_text_bytes x_t_text_end x_t_text_size a1 FU w2 w3 w4 w5 (0 : Int32))
def f_X2_readTerm_b95 (G_X2_readSum : (Nat → Int32) → (Nat → Int32) → Int32 → Int32 → Int32 → Int32 → Int32 → Int32 → Option ((Nat → Int32) × Int32 × Int32 × Int32)) (G_X2_readTerm : (Nat → Int32) → (Nat → Int32) → Int32 → Int32 → Int32 → Int32 → Int32 → Int32 → Option ((Nat → Int32) × Int32 × Int32 × Int32)) (G_X2_readFactor : (Nat → Int32) → (Nat → Int32) → Int32 → Int32 → Int32 → Int32 → Int32 → Int32 → Option ((Nat → Int32) × Int32 × Int32 × Int32)) (a1 : Int32) (k7 : (Nat → Int32) → Int32 → Int32 → Int32 → Int32 → Option ((Nat → Int32) × Int32 × Int32 × Int32)) (v_t_draft_code : (Nat → Int32)) (x_t_draft_size : Int32) (x_t_text_fault : Int32) (x_t_text_place : Int32) (l2 : Int32) : Option ((Nat → Int32) × Int32 × Int32 × Int32) :=
  k7 v_t_draft_code x_t_draft_size x_t_text_fault x_t_text_place (l2 + (1 : Int32))
def f_X2_readTerm_b90 (G_X2_readSum : (Nat → Int32) → (Nat → Int32) → Int32 → Int32 → Int32 → Int32 → Int32 → Int32 → Option ((Nat → Int32) × Int32 × Int32 × Int32)) (G_X2_readTerm : (Nat → Int32) → (Nat → Int32) → Int32 → Int32 → Int32 → Int32 → Int32 → Int32 → Option ((Nat → Int32) × Int32 × Int32 × Int32)) (G_X2_readFactor : (Nat → Int32) → (Nat → Int32) → Int32 → Int32 → Int32 → Int32 → Int32 → Int32 → Option ((Nat → Int32) × Int32 × Int32 × Int32)) (a1 : Int32) (k7 : (Nat → Int32) → Int32 → Int32 → Int32 → Int32 → Option ((Nat → Int32) × Int32 × Int32 × Int32)) (v_t_draft_code : (Nat → Int32)) (x_t_draft_size : Int32) (x_t_text_fault : Int32) (x_t_text_place : Int32) (s1 : Int32) (l2 : Int32) : Option ((Nat → Int32) × Int32 × Int32 × Int32) :=
  bd3 (f_X1_emit v_t_draft_code x_t_draft_size s1 (0 : Int32)) (fun r1 w2 w3 =>
  f_X2_readTerm_b95 G_X2_readSum G_X2_readTerm G_X2_readFactor a1 k7 w2 w3 x_t_text_fault x_t_text_place l2)
def f_X2_readTerm_b41 (G_X2_readSum : (Nat → Int32) → (Nat → Int32) → Int32 → Int32 → Int32 → Int32 → Int32 → Int32 → Option ((Nat → Int32) × Int32 × Int32 × Int32)) (G_X2_readTerm : (Nat → Int32) → (Nat → Int32) → Int32 → Int32 → Int32 → Int32 → Int32 → Int32 → Option ((Nat → Int32) × Int32 × Int32 × Int32)) (G_X2_readFactor : (Nat → Int32) → (Nat → Int32) → Int32 → Int32 → Int32 → Int32 → Int32 → Int32 → Option ((Nat → Int32) × Int32 × Int32 × Int32)) (v_t_text_bytes : (Nat → Int32)) (x_t_text_end : Int32) (x_t_text_size : Int32) (a1 : Int32) (k7 : (Nat → Int32) → Int32 → Int32 → Int32 → Int32 → Option ((Nat → Int32) × Int32 × Int32 × Int32)) (v_t_draft_code : (Nat → Int32)) (x_t_draft_size : Int32) (x_t_text_fault : Int32) (x_t_text_place : Int32) (l2 : Int32) (l3 : Int32) : Option ((Nat → Int32) × Int32 × Int32 × Int32) :=
  bd1 (f_X9_step x_t_text_end x_t_text_place) (fun w1 =>
  bd4 (G_X2_readFactor v_t_draft_code v_t_text_bytes x_t_draft_size x_t_text_end x_t_text_fault w1 x_t_text_size a1) (fun w2 w3 w4 w5 =>
  if l3 = (42 : Int32) then
    bd3 (f_X1_emit w2 w3 (7 : Int32) (0 : Int32)) (fun r6 w7 w8 =>
    f_X2_readTerm_b95 G_X2_readSum G_X2_readTerm G_X2_readFactor a1 k7 w7 w8 w4 w5 l2)
  else
    if l3 = (47 : Int32) then
      f_X2_readTerm_b90 G_X2_readSum G_X2_readTerm G_X2_readFactor a1 k7 w2 w3 w4 w5 (8 : Int32) l2
    else
      f_X2_readTerm_b90 G_X2_readSum G_X2_readTerm G_X2_readFactor a1 k7 w2 w3 w4 w5 (9 : Int32) l2))
def f_X2_readTerm_b7 (G_X2_readSum : (Nat → Int32) → (Nat → Int32) → Int32 → Int32 → Int32 → Int32 → Int32 → Int32 → Option ((Nat → Int32) × Int32 × Int32 × Int32)) (G_X2_readTerm : (Nat → Int32) → (Nat → Int32) → Int32 → Int32 → Int32 → Int32 → Int32 → Int32 → Option ((Nat → Int32) × Int32 × Int32 × Int32)) (G_X2_readFactor : (Nat → Int32) → (Nat → Int32) → Int32 → Int32 → Int32 → Int32 → Int32 → Int32 → Option ((Nat → Int32) × Int32 × Int32 × Int32)) (v_t_text_bytes : (Nat → Int32)) (x_t_text_end : Int32) (x_t_text_size : Int32) (a1 : Int32) : Nat → (Nat → Int32) → Int32 → Int32 → Int32 → Int32 → Option ((Nat → Int32) × Int32 × Int32 × Int32)
  | 0, _, _, _, _, _ => none
  | n + 1, v_t_draft_code, x_t_draft_size, x_t_text_fault, x_t_text_place, l2 =>
    if (240 : Int32) ≤ l2 then
      some (v_t_draft_code, x_t_draft_size, x_t_text_fault, x_t_text_place)
    else
      bd1 (f_X9_sign v_t_text_bytes x_t_text_end x_t_text_fault x_t_text_place x_t_text_size) (fun r1 =>
      if r1 = (42 : Int32) then
        f_X2_readTerm_b41 G_X2_readSum G_X2_readTerm G_X2_readFactor v_t_text_bytes x_t_text_end x_t_text_size a1 (f_X2_readTerm_b7 G_X2_readSum G_X2_readTerm G_X2_readFactor v_t_text_bytes x_t_text_end x_t_text_size a1 n) v_t_draft_code x_t_draft_size x_t_text_fault x_t_text_place l2 r1
      else
        if r1 = (47 : Int32) then
          f_X2_readTerm_b41 G_X2_readSum G_X2_readTerm G_X2_readFactor v_t_text_bytes x_t_text_end x_t_text_size a1 (f_X2_readTerm_b7 G_X2_readSum G_X2_readTerm G_X2_readFactor v_t_text_bytes x_t_text_end x_t_text_size a1 n) v_t_draft_code x_t_draft_size x_t_text_fault x_t_text_place l2 r1
        else
          if r1 = (37 : Int32) then
            f_X2_readTerm_b41 G_X2_readSum G_X2_readTerm G_X2_readFactor v_t_text_bytes x_t_text_end x_t_text_size a1 (f_X2_readTerm_b7 G_X2_readSum G_X2_readTerm G_X2_readFactor v_t_text_bytes x_t_text_end x_t_text_size a1 n) v_t_draft_code x_t_draft_size x_t_text_fault x_t_text_place l2 r1
          else
            some (v_t_draft_code, x_t_draft_size, x_t_text_fault, x_t_text_place))
def fo_X2_readTerm (G_X2_readSum : (Nat → Int32) → (Nat → Int32) → Int32 → Int32 → Int32 → Int32 → Int32 → Int32 → Option ((Nat → Int32) × Int32 × Int32 × Int32)) (G_X2_readTerm : (Nat → Int32) → (Nat → Int32) → Int32 → Int32 → Int32 → Int32 → Int32 → Int32 → Option ((Nat → Int32) × Int32 × Int32 × Int32)) (G_X2_readFactor : (Nat → Int32) → (Nat → Int32) → Int32 → Int32 → Int32 → Int32 → Int32 → Int32 → Option ((Nat → Int32) × Int32 × Int32 × Int32)) (v_t_draft_code : (Nat → Int32)) (v_t_text_bytes : (Nat → Int32)) (x_t_draft_size : Int32) (x_t_text_end : Int32) (x_t_text_fault : Int32) (x_t_text_place : Int32) (x_t_text_size : Int32) (a1 : Int32) : Option ((Nat → Int32) × Int32 × Int32 × Int32) :=
  bd4 (G_X2_readFactor v_t_draft_code v_t_text_bytes x_t_draft_size x_t_text_end x_t_text_fault x_t_text_place x_t_text_size a1) (fun w2 w3 w4 w5 =>
  f_X2_readTerm_b7 G_X2_readSum G_X2_readTerm G_X2_readFactor v_t_text_bytes x_t_text_end x_t_text_size a1 FU w2 w3 w4 w5 (0 : Int32))
def f_X2_readFactor_b116 (G_X2_readSum : (Nat → Int32) → (Nat → Int32) → Int32 → Int32 → Int32 → Int32 → Int32 → Int32 → Option ((Nat → Int32) × Int32 × Int32 × Int32)) (G_X2_readTerm : (Nat → Int32) → (Nat → Int32) → Int32 → Int32 → Int32 → Int32 → Int32 → Int32 → Option ((Nat → Int32) × Int32 × Int32 × Int32)) (G_X2_readFactor : (Nat → Int32) → (Nat → Int32) → Int32 → Int32 → Int32 → Int32 → Int32 → Int32 → Option ((Nat → Int32) × Int32 × Int32 × Int32)) (v_t_draft_code : (Nat → Int32)) (x_t_draft_size : Int32) (x_t_text_fault : Int32) (x_t_text_place : Int32) : Option ((Nat → Int32) × Int32 × Int32 × Int32) :=
  some (v_t_draft_code, x_t_draft_size, x_t_text_fault, x_t_text_place)
def f_X2_readFactor_b23 (G_X2_readSum : (Nat → Int32) → (Nat → Int32) → Int32 → Int32 → Int32 → Int32 → Int32 → Int32 → Option ((Nat → Int32) × Int32 × Int32 × Int32)) (G_X2_readTerm : (Nat → Int32) → (Nat → Int32) → Int32 → Int32 → Int32 → Int32 → Int32 → Int32 → Option ((Nat → Int32) × Int32 × Int32 × Int32)) (G_X2_readFactor : (Nat → Int32) → (Nat → Int32) → Int32 → Int32 → Int32 → Int32 → Int32 → Int32 → Option ((Nat → Int32) × Int32 × Int32 × Int32)) (v_t_text_bytes : (Nat → Int32)) (x_t_text_end : Int32) (x_t_text_size : Int32) (a1 : Int32) (v_t_draft_code : (Nat → Int32)) (x_t_draft_size : Int32) (x_t_text_fault : Int32) (x_t_text_place : Int32) (s0 : Int32) (l2 : Int32) : Option ((Nat → Int32) × Int32 × Int32 × Int32) :=
  if l2 = (91 : Int32) then
    bd3 (f_X2_canOpen x_t_text_end x_t_text_fault x_t_text_place a1) (fun r13 w14 w15 =>
    if r13 = 0 then
      f_X2_readFactor_b116 G_X2_readSum G_X2_readTerm G_X2_readFactor v_t_draft_code x_t_draft_size w14 w15
    else
      bd4 (G_X2_readSum v_t_draft_code v_t_text_bytes x_t_draft_size x_t_text_end w14 w15 x_t_text_size (a1 + (1 : Int32))) (fun w16 w17 w18 w19 =>
      bd2 (f_X9_take v_t_text_bytes x_t_text_end w18 w19 x_t_text_size (93 : Int32)) (fun w20 w21 =>
      f_X2_readFactor_b116 G_X2_readSum G_X2_readTerm G_X2_readFactor w16 w17 w20 w21)))
  else
    bd1 (f_X11_isDigit l2) (fun r1 =>
    if r1 = 0 then
      if s0 < 0 then
        bd1 (f_X9_fail x_t_text_fault x_t_text_place (1 : Int32)) (fun w2 =>
        f_X2_readFactor_b116 G_X2_readSum G_X2_readTerm G_X2_readFactor v_t_draft_code x_t_draft_size w2 x_t_text_place)
      else
        bd1 (f_X9_step x_t_text_end x_t_text_place) (fun w3 =>
        bd3 (f_X1_emit v_t_draft_code x_t_draft_size (1 : Int32) s0) (fun r4 w5 w6 =>
        f_X2_readFactor_b116 G_X2_readSum G_X2_readTerm G_X2_readFactor w5 w6 x_t_text_fault w3))
    else
      bd3 (f_X9_readNumber v_t_text_bytes x_t_text_end x_t_text_fault x_t_text_place x_t_text_size (5 : Int32)) (fun r7 w8 w9 =>
      bd3 (f_X1_emit v_t_draft_code x_t_draft_size (0 : Int32) r7) (fun r10 w11 w12 =>
      f_X2_readFactor_b116 G_X2_readSum G_X2_readTerm G_X2_readFactor w11 w12 w8 w9)))
def fo_X2_readFactor (G_X2_readSum : (Nat → Int32) → (Nat → Int32) → Int32 → Int32 → Int32 → Int32 → Int32 → Int32 → Option ((Nat → Int32) × Int32 × Int32 × Int32)) (G_X2_readTerm : (Nat → Int32) → (Nat → Int32) → Int32 → Int32 → Int32 → Int32 → Int32 → Int32 → Option ((Nat → Int32) × Int32 × Int32 × Int32)) (G_X2_readFactor : (Nat → Int32) → (Nat → Int32) → Int32 → Int32 → Int32 → Int32 → Int32 → Int32 → Option ((Nat → Int32) × Int32 × Int32 × Int32)) (v_t_draft_code : (Nat → Int32)) (v_t_text_bytes : (Nat → Int32)) (x_t_draft_size : Int32) (x_t_text_end : Int32) (x_t_text_fault : Int32) (x_t_text_place : Int32) (x_t_text_size : Int32) (a1 : Int32) : Option ((Nat → Int32) × Int32 × Int32 × Int32) :=
  bd1 (f_X9_sign v_t_text_bytes x_t_text_end x_t_text_fault x_t_text_place x_t_text_size) (fun r22 =>
  if 0 ≤ r22 then
    bd1 (f_J0_indexOf_0f7a4 ((r22.toUInt32 % 65536).toInt32)) (fun r23 =>
    f_X2_readFactor_b23 G_X2_readSum G_X2_readTerm G_X2_readFactor v_t_text_bytes x_t_text_end x_t_text_size a1 v_t_draft_code x_t_draft_size x_t_text_fault x_t_text_place r23 r22)
  else
    f_X2_readFactor_b23 G_X2_readSum G_X2_readTerm G_X2_readFactor v_t_text_bytes x_t_text_end x_t_text_size a1 v_t_draft_code x_t_draft_size x_t_text_fault x_t_text_place (-1 : Int32) r22)
def frec_X2_readSum : Nat → (((Nat → Int32) → (Nat → Int32) → Int32 → Int32 → Int32 → Int32 → Int32 → Int32 → Option ((Nat → Int32) × Int32 × Int32 × Int32)) × ((Nat → Int32) → (Nat → Int32) → Int32 → Int32 → Int32 → Int32 → Int32 → Int32 → Option ((Nat → Int32) × Int32 × Int32 × Int32)) × ((Nat → Int32) → (Nat → Int32) → Int32 → Int32 → Int32 → Int32 → Int32 → Int32 → Option ((Nat → Int32) × Int32 × Int32 × Int32)))
  | 0 => (fun _ _ _ _ _ _ _ _ => none, fun _ _ _ _ _ _ _ _ => none, fun _ _ _ _ _ _ _ _ => none)
  | d + 1 => (fo_X2_readSum (frec_X2_readSum d).1 (frec_X2_readSum d).2.1 (frec_X2_readSum d).2.2, fo_X2_readTerm (frec_X2_readSum d).1 (frec_X2_readSum d).2.1 (frec_X2_readSum d).2.2, fo_X2_readFactor (frec_X2_readSum d).1 (frec_X2_readSum d).2.1 (frec_X2_readSum d).2.2)
def f_X2_readSum (d : Nat) : (Nat → Int32) → (Nat → Int32) → Int32 → Int32 → Int32 → Int32 → Int32 → Int32 → Option ((Nat → Int32) × Int32 × Int32 × Int32) := (frec_X2_readSum d).1
def f_X2_readTerm (d : Nat) : (Nat → Int32) → (Nat → Int32) → Int32 → Int32 → Int32 → Int32 → Int32 → Int32 → Option ((Nat → Int32) × Int32 × Int32 × Int32) := (frec_X2_readSum d).2.1
def f_X2_readFactor (d : Nat) : (Nat → Int32) → (Nat → Int32) → Int32 → Int32 → Int32 → Int32 → Int32 → Int32 → Option ((Nat → Int32) × Int32 × Int32 × Int32) := (frec_X2_readSum d).2.2
set_option maxHeartbeats 8000000 in
set_option maxRecDepth 100000 in
theorem cc_X2_readSum (l : Launch) (D : va_G) (cI cB : ClassId) : ∀ dp : Nat, (∀ {A_t A_t_text A_t_draft A_t_draft_code A_t_draft_letters A_t_draft_valueFrom A_t_draft_testFrom A_t_draft_testEnd A_t_draft_facts A_t_draft_stack A_t_text_bytes : Nat} {x_t_draft_size x_t_draft_rules x_t_draft_height x_t_draft_refused x_t_text_size x_t_text_end x_t_text_place x_t_text_fault a1 : Int32} {v_t_draft_code v_t_text_bytes : Nat → Int32} {o_x_t_draft_size o_x_t_text_fault o_x_t_text_place : Int32} {o_v_t_draft_code : Nat → Int32}, f_X2_readSum dp v_t_draft_code v_t_text_bytes x_t_draft_size x_t_text_end x_t_text_fault x_t_text_place x_t_text_size a1 = some (o_v_t_draft_code, o_x_t_draft_size, o_x_t_text_fault, o_x_t_text_place) → CtV l D cI cB yX2_readSum cX2_readSum 4 (dp + 4) (dp * 23 + 91) [.ref A_t, .int a1] [oX2 A_t A_t_text A_t_draft, oX1 A_t_draft A_t_draft_code A_t_draft_letters A_t_draft_valueFrom A_t_draft_testFrom A_t_draft_testEnd A_t_draft_facts A_t_draft_stack x_t_draft_size x_t_draft_rules x_t_draft_height x_t_draft_refused, iA cI 240 A_t_draft_code v_t_draft_code, oX9 A_t_text A_t_text_bytes x_t_text_size x_t_text_end x_t_text_place x_t_text_fault, iA cI 260 A_t_text_bytes v_t_text_bytes] [oX2 A_t A_t_text A_t_draft, oX1 A_t_draft A_t_draft_code A_t_draft_letters A_t_draft_valueFrom A_t_draft_testFrom A_t_draft_testEnd A_t_draft_facts A_t_draft_stack o_x_t_draft_size x_t_draft_rules x_t_draft_height x_t_draft_refused, iA cI 240 A_t_draft_code o_v_t_draft_code, oX9 A_t_text A_t_text_bytes x_t_text_size x_t_text_end o_x_t_text_place o_x_t_text_fault, iA cI 260 A_t_text_bytes v_t_text_bytes]) ∧ (∀ {A_t A_t_text A_t_draft A_t_draft_code A_t_draft_letters A_t_draft_valueFrom A_t_draft_testFrom A_t_draft_testEnd A_t_draft_facts A_t_draft_stack A_t_text_bytes : Nat} {x_t_draft_size x_t_draft_rules x_t_draft_height x_t_draft_refused x_t_text_size x_t_text_end x_t_text_place x_t_text_fault a1 : Int32} {v_t_draft_code v_t_text_bytes : Nat → Int32} {o_x_t_draft_size o_x_t_text_fault o_x_t_text_place : Int32} {o_v_t_draft_code : Nat → Int32}, f_X2_readTerm dp v_t_draft_code v_t_text_bytes x_t_draft_size x_t_text_end x_t_text_fault x_t_text_place x_t_text_size a1 = some (o_v_t_draft_code, o_x_t_draft_size, o_x_t_text_fault, o_x_t_text_place) → CtV l D cI cB yX2_readTerm cX2_readTerm 4 (dp + 4) (dp * 23 + 91) [.ref A_t, .int a1] [oX2 A_t A_t_text A_t_draft, oX1 A_t_draft A_t_draft_code A_t_draft_letters A_t_draft_valueFrom A_t_draft_testFrom A_t_draft_testEnd A_t_draft_facts A_t_draft_stack x_t_draft_size x_t_draft_rules x_t_draft_height x_t_draft_refused, iA cI 240 A_t_draft_code v_t_draft_code, oX9 A_t_text A_t_text_bytes x_t_text_size x_t_text_end x_t_text_place x_t_text_fault, iA cI 260 A_t_text_bytes v_t_text_bytes] [oX2 A_t A_t_text A_t_draft, oX1 A_t_draft A_t_draft_code A_t_draft_letters A_t_draft_valueFrom A_t_draft_testFrom A_t_draft_testEnd A_t_draft_facts A_t_draft_stack o_x_t_draft_size x_t_draft_rules x_t_draft_height x_t_draft_refused, iA cI 240 A_t_draft_code o_v_t_draft_code, oX9 A_t_text A_t_text_bytes x_t_text_size x_t_text_end o_x_t_text_place o_x_t_text_fault, iA cI 260 A_t_text_bytes v_t_text_bytes]) ∧ (∀ {A_t A_t_text A_t_draft A_t_draft_code A_t_draft_letters A_t_draft_valueFrom A_t_draft_testFrom A_t_draft_testEnd A_t_draft_facts A_t_draft_stack A_t_text_bytes : Nat} {x_t_draft_size x_t_draft_rules x_t_draft_height x_t_draft_refused x_t_text_size x_t_text_end x_t_text_place x_t_text_fault a1 : Int32} {v_t_draft_code v_t_text_bytes : Nat → Int32} {o_x_t_draft_size o_x_t_text_fault o_x_t_text_place : Int32} {o_v_t_draft_code : Nat → Int32}, f_X2_readFactor dp v_t_draft_code v_t_text_bytes x_t_draft_size x_t_text_end x_t_text_fault x_t_text_place x_t_text_size a1 = some (o_v_t_draft_code, o_x_t_draft_size, o_x_t_text_fault, o_x_t_text_place) → CtV l D cI cB yX2_readFactor cX2_readFactor 4 (dp + 4) (dp * 23 + 91) [.ref A_t, .int a1] [oX2 A_t A_t_text A_t_draft, oX1 A_t_draft A_t_draft_code A_t_draft_letters A_t_draft_valueFrom A_t_draft_testFrom A_t_draft_testEnd A_t_draft_facts A_t_draft_stack x_t_draft_size x_t_draft_rules x_t_draft_height x_t_draft_refused, iA cI 240 A_t_draft_code v_t_draft_code, oX9 A_t_text A_t_text_bytes x_t_text_size x_t_text_end x_t_text_place x_t_text_fault, iA cI 260 A_t_text_bytes v_t_text_bytes] [oX2 A_t A_t_text A_t_draft, oX1 A_t_draft A_t_draft_code A_t_draft_letters A_t_draft_valueFrom A_t_draft_testFrom A_t_draft_testEnd A_t_draft_facts A_t_draft_stack o_x_t_draft_size x_t_draft_rules x_t_draft_height x_t_draft_refused, iA cI 240 A_t_draft_code o_v_t_draft_code, oX9 A_t_text A_t_text_bytes x_t_text_size x_t_text_end o_x_t_text_place o_x_t_text_fault, iA cI 260 A_t_text_bytes v_t_text_bytes]) := by
  intro dp
  induction dp with
  | zero =>
    refine ⟨?_, ?_, ?_⟩
    · intro A_t A_t_text A_t_draft A_t_draft_code A_t_draft_letters A_t_draft_valueFrom A_t_draft_testFrom A_t_draft_testEnd A_t_draft_facts A_t_draft_stack A_t_text_bytes x_t_draft_size x_t_draft_rules x_t_draft_height x_t_draft_refused x_t_text_size x_t_text_end x_t_text_place x_t_text_fault a1 v_t_draft_code v_t_text_bytes o_x_t_draft_size o_x_t_text_fault o_x_t_text_place o_v_t_draft_code hf
      exact absurd (show none = some _ from hf) (fun h => by cases h)
    · intro A_t A_t_text A_t_draft A_t_draft_code A_t_draft_letters A_t_draft_valueFrom A_t_draft_testFrom A_t_draft_testEnd A_t_draft_facts A_t_draft_stack A_t_text_bytes x_t_draft_size x_t_draft_rules x_t_draft_height x_t_draft_refused x_t_text_size x_t_text_end x_t_text_place x_t_text_fault a1 v_t_draft_code v_t_text_bytes o_x_t_draft_size o_x_t_text_fault o_x_t_text_place o_v_t_draft_code hf
      exact absurd (show none = some _ from hf) (fun h => by cases h)
    · intro A_t A_t_text A_t_draft A_t_draft_code A_t_draft_letters A_t_draft_valueFrom A_t_draft_testFrom A_t_draft_testEnd A_t_draft_facts A_t_draft_stack A_t_text_bytes x_t_draft_size x_t_draft_rules x_t_draft_height x_t_draft_refused x_t_text_size x_t_text_end x_t_text_place x_t_text_fault a1 v_t_draft_code v_t_text_bytes o_x_t_draft_size o_x_t_text_fault o_x_t_text_place o_v_t_draft_code hf
      exact absurd (show none = some _ from hf) (fun h => by cases h)
  | succ dp ih =>
    obtain ⟨ih_X2_readSum, ih_X2_readTerm, ih_X2_readFactor⟩ := ih
    refine ⟨?_, ?_, ?_⟩
    · intro A_t A_t_text A_t_draft A_t_draft_code A_t_draft_letters A_t_draft_valueFrom A_t_draft_testFrom A_t_draft_testEnd A_t_draft_facts A_t_draft_stack A_t_text_bytes x_t_draft_size x_t_draft_rules x_t_draft_height x_t_draft_refused x_t_text_size x_t_text_end x_t_text_place x_t_text_fault a1 v_t_draft_code v_t_text_bytes o_x_t_draft_size o_x_t_text_fault o_x_t_text_place o_v_t_draft_code hf
      have hf : fo_X2_readSum (f_X2_readSum dp) (f_X2_readTerm dp) (f_X2_readFactor dp) v_t_draft_code v_t_text_bytes x_t_draft_size x_t_text_end x_t_text_fault x_t_text_place x_t_text_size a1 = some (o_v_t_draft_code, o_x_t_draft_size, o_x_t_text_fault, o_x_t_text_place) := hf
      refine x_startV (by decide) (Nat.le_of_ble_eq_true rfl) ?_
      intro p e s m below meth c A C hr hlk hA hK hP hD hS ls hl
      have hl : lv_has ls 4 [(0, .ref A_t), (1, .int a1)] := hl
      have hx := C.1
      have hb := C.2.1
      unfold fo_X2_readSum at hf
      have hb_7 : ∀ (n_7 : Nat) (v_t_draft_code : (Nat → Int32)) (x_t_draft_size : Int32) (x_t_text_fault : Int32) (x_t_text_place : Int32) (l2 : Int32) (H : Heap) (locs : List Loc) (ls : Array Slot), lv_has ls 4 [(0, .ref A_t), (1, .int a1), (2, .int l2)] → va_P D vwCl [oX2 A_t A_t_text A_t_draft, oX1 A_t_draft A_t_draft_code A_t_draft_letters A_t_draft_valueFrom A_t_draft_testFrom A_t_draft_testEnd A_t_draft_facts A_t_draft_stack x_t_draft_size x_t_draft_rules x_t_draft_height x_t_draft_refused, iA cI 240 A_t_draft_code v_t_draft_code, oX9 A_t_text A_t_text_bytes x_t_text_size x_t_text_end x_t_text_place x_t_text_fault, iA cI 260 A_t_text_bytes v_t_text_bytes] H → va_D A [oX2 A_t A_t_text A_t_draft, oX1 A_t_draft A_t_draft_code A_t_draft_letters A_t_draft_valueFrom A_t_draft_testFrom A_t_draft_testEnd A_t_draft_facts A_t_draft_stack x_t_draft_size x_t_draft_rules x_t_draft_height x_t_draft_refused, iA cI 240 A_t_draft_code v_t_draft_code, oX9 A_t_text A_t_text_bytes x_t_text_size x_t_text_end x_t_text_place x_t_text_fault, iA cI 260 A_t_text_bytes v_t_text_bytes] → va_S A s.heap H locs → f_X2_readSum_b7 (f_X2_readSum dp) (f_X2_readTerm dp) (f_X2_readFactor dp) v_t_text_bytes x_t_text_end x_t_text_size a1 n_7 v_t_draft_code x_t_draft_size x_t_text_fault x_t_text_place l2 = some (o_v_t_draft_code, o_x_t_draft_size, o_x_t_text_fault, o_x_t_text_place) → W p l e { frames := dp + 1 + 4, cells := 0, slots := 0, locals := (dp + 1) * 23 + 91 } s m ([.ref A_t, .int a1] : List Value).toArray below meth c H locs 0 0 (MQ below (PoV D A [oX2 A_t A_t_text A_t_draft, oX1 A_t_draft A_t_draft_code A_t_draft_letters A_t_draft_valueFrom A_t_draft_testFrom A_t_draft_testEnd A_t_draft_facts A_t_draft_stack o_x_t_draft_size x_t_draft_rules x_t_draft_height x_t_draft_refused, iA cI 240 A_t_draft_code o_v_t_draft_code, oX9 A_t_text A_t_text_bytes x_t_text_size x_t_text_end o_x_t_text_place o_x_t_text_fault, iA cI 260 A_t_text_bytes v_t_text_bytes]) ([.ref A_t, .int a1] : List Value).toArray s 0 0 A) (F0 m 7 ls []) := by
        intro n_7
        induction n_7 with
        | zero =>
          intro v_t_draft_code x_t_draft_size x_t_text_fault x_t_text_place l2 H locs ls hl hP hD hS hf
          exact absurd hf (fun h => by rw [f_X2_readSum_b7] at h; cases h)
        | succ n_7 ih_7 =>
          have hb_63 : ∀ (v_t_draft_code : (Nat → Int32)) (x_t_draft_size : Int32) (x_t_text_fault : Int32) (x_t_text_place : Int32) (s1 : Int32) (l2 : Int32) (H : Heap) (locs : List Loc) (ls : Array Slot), lv_has ls 4 [(0, .ref A_t), (1, .int a1), (2, .int l2)] → va_P D vwCl [oX2 A_t A_t_text A_t_draft, oX1 A_t_draft A_t_draft_code A_t_draft_letters A_t_draft_valueFrom A_t_draft_testFrom A_t_draft_testEnd A_t_draft_facts A_t_draft_stack x_t_draft_size x_t_draft_rules x_t_draft_height x_t_draft_refused, iA cI 240 A_t_draft_code v_t_draft_code, oX9 A_t_text A_t_text_bytes x_t_text_size x_t_text_end x_t_text_place x_t_text_fault, iA cI 260 A_t_text_bytes v_t_text_bytes] H → va_D A [oX2 A_t A_t_text A_t_draft, oX1 A_t_draft A_t_draft_code A_t_draft_letters A_t_draft_valueFrom A_t_draft_testFrom A_t_draft_testEnd A_t_draft_facts A_t_draft_stack x_t_draft_size x_t_draft_rules x_t_draft_height x_t_draft_refused, iA cI 240 A_t_draft_code v_t_draft_code, oX9 A_t_text A_t_text_bytes x_t_text_size x_t_text_end x_t_text_place x_t_text_fault, iA cI 260 A_t_text_bytes v_t_text_bytes] → va_S A s.heap H locs → f_X2_readSum_b63 (f_X2_readSum dp) (f_X2_readTerm dp) (f_X2_readFactor dp) a1 (f_X2_readSum_b7 (f_X2_readSum dp) (f_X2_readTerm dp) (f_X2_readFactor dp) v_t_text_bytes x_t_text_end x_t_text_size a1 n_7) v_t_draft_code x_t_draft_size x_t_text_fault x_t_text_place s1 l2 = some (o_v_t_draft_code, o_x_t_draft_size, o_x_t_text_fault, o_x_t_text_place) → W p l e { frames := dp + 1 + 4, cells := 0, slots := 0, locals := (dp + 1) * 23 + 91 } s m ([.ref A_t, .int a1] : List Value).toArray below meth c H locs 0 0 (MQ below (PoV D A [oX2 A_t A_t_text A_t_draft, oX1 A_t_draft A_t_draft_code A_t_draft_letters A_t_draft_valueFrom A_t_draft_testFrom A_t_draft_testEnd A_t_draft_facts A_t_draft_stack o_x_t_draft_size x_t_draft_rules x_t_draft_height x_t_draft_refused, iA cI 240 A_t_draft_code o_v_t_draft_code, oX9 A_t_text A_t_text_bytes x_t_text_size x_t_text_end o_x_t_text_place o_x_t_text_fault, iA cI 260 A_t_text_bytes v_t_text_bytes]) ([.ref A_t, .int a1] : List Value).toArray s 0 0 A) (F0 m 63 ls [.int s1, .ref A_t_draft]) := by
            intro v_t_draft_code x_t_draft_size x_t_text_fault x_t_text_place s1 l2 H locs ls hl hP hD hS hf
            unfold f_X2_readSum_b63 at hf
            refine lv_iconst (v := 0) hx hb dX2_readSum_63 (by decide) ?_
            obtain ⟨r1, w2, w3, hc4, hf⟩ := bd3_e hf
            refine x_callVI (ws' := [oX2 A_t A_t_text A_t_draft, oX1 A_t_draft A_t_draft_code A_t_draft_letters A_t_draft_valueFrom A_t_draft_testFrom A_t_draft_testEnd A_t_draft_facts A_t_draft_stack w3 x_t_draft_rules x_t_draft_height x_t_draft_refused, iA cI 240 A_t_draft_code w2, oX9 A_t_text A_t_text_bytes x_t_text_size x_t_text_end x_t_text_place x_t_text_fault, iA cI 260 A_t_text_bytes v_t_text_bytes]) (rest := []) C hK hP hD hS hA hl mf_X2_81 (c_X1_emit hc4) [1, 2] 0 1 rfl rfl rfl rfl rfl rfl rfl rfl rfl rfl (Nat.le_of_ble_eq_true rfl) ⟨(show 0 + 1 ≤ dp + 1 + 4 by omega), (show 8 + (4 + 11) + 0 ≤ (dp + 1) * 23 + 91 by omega)⟩ ⟨Nat.le_refl _, Nat.le_refl _⟩ dX2_readSum_64 ?_
            intro H locs hP hD hS
            refine lv_pop hx hb dX2_readSum_67 rfl ?_
            refine lv_iinc (v := (l2 + (1 : Int32))) (lv' := [(2, .int (l2 + (1 : Int32))), (0, .ref A_t), (1, .int a1)]) hx hb dX2_readSum_68 hl (k := 2) rfl rfl (by decide) rfl (fun ls hl => ?_)
            refine lv_goto (tgt := 7) hx hb dX2_readSum_71 (by decide) ?_
            exact ih_7 w2 w3 x_t_text_fault x_t_text_place (l2 + (1 : Int32)) _ _ ls (lv_sub hl [1, 2, 0] rfl) hP hD hS hf
          have hb_35 : ∀ (v_t_draft_code : (Nat → Int32)) (x_t_draft_size : Int32) (x_t_text_fault : Int32) (x_t_text_place : Int32) (l2 : Int32) (l3 : Int32) (H : Heap) (locs : List Loc) (ls : Array Slot), lv_has ls 4 [(0, .ref A_t), (1, .int a1), (2, .int l2), (3, .int l3)] → va_P D vwCl [oX2 A_t A_t_text A_t_draft, oX1 A_t_draft A_t_draft_code A_t_draft_letters A_t_draft_valueFrom A_t_draft_testFrom A_t_draft_testEnd A_t_draft_facts A_t_draft_stack x_t_draft_size x_t_draft_rules x_t_draft_height x_t_draft_refused, iA cI 240 A_t_draft_code v_t_draft_code, oX9 A_t_text A_t_text_bytes x_t_text_size x_t_text_end x_t_text_place x_t_text_fault, iA cI 260 A_t_text_bytes v_t_text_bytes] H → va_D A [oX2 A_t A_t_text A_t_draft, oX1 A_t_draft A_t_draft_code A_t_draft_letters A_t_draft_valueFrom A_t_draft_testFrom A_t_draft_testEnd A_t_draft_facts A_t_draft_stack x_t_draft_size x_t_draft_rules x_t_draft_height x_t_draft_refused, iA cI 240 A_t_draft_code v_t_draft_code, oX9 A_t_text A_t_text_bytes x_t_text_size x_t_text_end x_t_text_place x_t_text_fault, iA cI 260 A_t_text_bytes v_t_text_bytes] → va_S A s.heap H locs → f_X2_readSum_b35 (f_X2_readSum dp) (f_X2_readTerm dp) (f_X2_readFactor dp) v_t_text_bytes x_t_text_end x_t_text_size a1 (f_X2_readSum_b7 (f_X2_readSum dp) (f_X2_readTerm dp) (f_X2_readFactor dp) v_t_text_bytes x_t_text_end x_t_text_size a1 n_7) v_t_draft_code x_t_draft_size x_t_text_fault x_t_text_place l2 l3 = some (o_v_t_draft_code, o_x_t_draft_size, o_x_t_text_fault, o_x_t_text_place) → W p l e { frames := dp + 1 + 4, cells := 0, slots := 0, locals := (dp + 1) * 23 + 91 } s m ([.ref A_t, .int a1] : List Value).toArray below meth c H locs 0 0 (MQ below (PoV D A [oX2 A_t A_t_text A_t_draft, oX1 A_t_draft A_t_draft_code A_t_draft_letters A_t_draft_valueFrom A_t_draft_testFrom A_t_draft_testEnd A_t_draft_facts A_t_draft_stack o_x_t_draft_size x_t_draft_rules x_t_draft_height x_t_draft_refused, iA cI 240 A_t_draft_code o_v_t_draft_code, oX9 A_t_text A_t_text_bytes x_t_text_size x_t_text_end o_x_t_text_place o_x_t_text_fault, iA cI 260 A_t_text_bytes v_t_text_bytes]) ([.ref A_t, .int a1] : List Value).toArray s 0 0 A) (F0 m 35 ls []) := by
            intro v_t_draft_code x_t_draft_size x_t_text_fault x_t_text_place l2 l3 H locs ls hl hP hD hS hf
            unfold f_X2_readSum_b35 at hf
            refine lv_aload_n hx hb dX2_readSum_35 rfl (lv_at hl 0 rfl) ?_
            refine x_get C hK hP fd_X2_9 0 rfl rfl dX2_readSum_36 ?_
            obtain ⟨w5, hc6, hf⟩ := bd1_e hf
            refine x_callVV (ws' := [oX2 A_t A_t_text A_t_draft, oX1 A_t_draft A_t_draft_code A_t_draft_letters A_t_draft_valueFrom A_t_draft_testFrom A_t_draft_testEnd A_t_draft_facts A_t_draft_stack x_t_draft_size x_t_draft_rules x_t_draft_height x_t_draft_refused, iA cI 240 A_t_draft_code v_t_draft_code, oX9 A_t_text A_t_text_bytes x_t_text_size x_t_text_end w5 x_t_text_fault, iA cI 260 A_t_text_bytes v_t_text_bytes]) (rest := []) C hK hP hD hS hA hl mf_X2_58 (c_X9_step hc6) [3] 0 9 rfl rfl rfl rfl rfl rfl rfl rfl rfl rfl (Nat.le_of_ble_eq_true rfl) ⟨(show 0 + 1 ≤ dp + 1 + 4 by omega), (show 8 + (1 + 11) + 0 ≤ (dp + 1) * 23 + 91 by omega)⟩ ⟨Nat.le_refl _, Nat.le_refl _⟩ dX2_readSum_39 ?_
            intro H locs hP hD hS
            refine lv_aload_n hx hb dX2_readSum_42 rfl (lv_at hl 0 rfl) ?_
            refine lv_iload_n hx hb dX2_readSum_43 rfl (lv_at hl 1 rfl) ?_
            obtain ⟨w7, w8, w9, w10, hc11, hf⟩ := bd4_e hf
            refine x_callVV (ws' := [oX2 A_t A_t_text A_t_draft, oX1 A_t_draft A_t_draft_code A_t_draft_letters A_t_draft_valueFrom A_t_draft_testFrom A_t_draft_testEnd A_t_draft_facts A_t_draft_stack w8 x_t_draft_rules x_t_draft_height x_t_draft_refused, iA cI 240 A_t_draft_code w7, oX9 A_t_text A_t_text_bytes x_t_text_size x_t_text_end w10 w9, iA cI 260 A_t_text_bytes v_t_text_bytes]) (rest := []) C hK hP hD hS hA hl mf_X2_95 (ih_X2_readTerm hc11) [0, 1, 2, 3, 4] 0 2 rfl rfl rfl rfl rfl rfl rfl rfl rfl rfl (Nat.le_of_ble_eq_true rfl) ⟨(show dp + 4 + 1 ≤ dp + 1 + 4 by omega), (show 8 + (4 + 11) + (dp * 23 + 91) ≤ (dp + 1) * 23 + 91 by omega)⟩ ⟨Nat.le_refl _, Nat.le_refl _⟩ dX2_readSum_44 ?_
            intro H locs hP hD hS
            refine lv_aload_n hx hb dX2_readSum_47 rfl (lv_at hl 0 rfl) ?_
            refine x_get C hK hP fd_X2_18 0 rfl rfl dX2_readSum_48 ?_
            refine lv_iload_n hx hb dX2_readSum_51 rfl (lv_at hl 3 rfl) ?_
            refine lv_bipush (v := 43) hx hb dX2_readSum_52 (by decide) ?_
            refine lv_icmp_ne (tgt := 61) hx hb dX2_readSum_54 (by decide) (fun q => ?_) (fun q => ?_)
            · have hf := if_f q hf
              refine lv_bipush (v := 6) hx hb dX2_readSum_61 (by decide) ?_
              exact hb_63 w7 w8 w9 w10 (6 : Int32) l2 _ _ ls (lv_sub hl [0, 1, 2] rfl) hP hD hS hf
            · have hf := if_t q hf
              refine lv_iconst (v := 5) hx hb dX2_readSum_57 (by decide) ?_
              refine lv_goto (tgt := 63) hx hb dX2_readSum_58 (by decide) ?_
              exact hb_63 w7 w8 w9 w10 (5 : Int32) l2 _ _ ls (lv_sub hl [0, 1, 2] rfl) hP hD hS hf
          intro v_t_draft_code x_t_draft_size x_t_text_fault x_t_text_place l2 H locs ls hl hP hD hS hf
          rw [f_X2_readSum_b7] at hf
          refine lv_iload_n hx hb dX2_readSum_7 rfl (lv_at hl 2 rfl) ?_
          refine lv_sipush (v := 240) hx hb dX2_readSum_8 (by decide) ?_
          refine lv_icmp_ge (tgt := 74) hx hb dX2_readSum_11 (by decide) (fun q => ?_) (fun q => ?_)
          · have hf := if_t q hf
            obtain ⟨rfl, rfl, rfl, rfl⟩ := ev4 hf
            exact x_vret C hr hlk hP hD hS dX2_readSum_74
          · have hf := if_f q hf
            refine lv_aload_n hx hb dX2_readSum_14 rfl (lv_at hl 0 rfl) ?_
            refine x_get C hK hP fd_X2_9 0 rfl rfl dX2_readSum_15 ?_
            obtain ⟨r12, hc13, hf⟩ := bd1_e hf
            refine x_callVI (ws' := [oX2 A_t A_t_text A_t_draft, oX1 A_t_draft A_t_draft_code A_t_draft_letters A_t_draft_valueFrom A_t_draft_testFrom A_t_draft_testEnd A_t_draft_facts A_t_draft_stack x_t_draft_size x_t_draft_rules x_t_draft_height x_t_draft_refused, iA cI 240 A_t_draft_code v_t_draft_code, oX9 A_t_text A_t_text_bytes x_t_text_size x_t_text_end x_t_text_place x_t_text_fault, iA cI 260 A_t_text_bytes v_t_text_bytes]) (rest := []) C hK hP hD hS hA hl mf_X2_51 (c_X9_sign hc13) [3, 4] 0 9 rfl rfl rfl rfl rfl rfl rfl rfl rfl rfl (Nat.le_of_ble_eq_true rfl) ⟨(show 1 + 1 ≤ dp + 1 + 4 by omega), (show 8 + (1 + 11) + 21 ≤ (dp + 1) * 23 + 91 by omega)⟩ ⟨Nat.le_refl _, Nat.le_refl _⟩ dX2_readSum_18 ?_
            intro H locs hP hD hS
            refine lv_istore_n (lv' := [(3, .int r12), (0, .ref A_t), (1, .int a1), (2, .int l2)]) hx hb dX2_readSum_21 rfl hl (by decide) rfl (fun ls hl => ?_)
            refine lv_iload_n hx hb dX2_readSum_22 rfl (lv_at hl 0 rfl) ?_
            refine lv_bipush (v := 43) hx hb dX2_readSum_23 (by decide) ?_
            refine lv_icmp_eq (tgt := 35) hx hb dX2_readSum_25 (by decide) (fun q => ?_) (fun q => ?_)
            · have hf := if_t q hf
              exact hb_35 v_t_draft_code x_t_draft_size x_t_text_fault x_t_text_place l2 r12 _ _ ls (lv_sub hl [1, 2, 3, 0] rfl) hP hD hS hf
            · have hf := if_f q hf
              refine lv_iload_n hx hb dX2_readSum_28 rfl (lv_at hl 0 rfl) ?_
              refine lv_bipush (v := 45) hx hb dX2_readSum_29 (by decide) ?_
              refine lv_icmp_eq (tgt := 35) hx hb dX2_readSum_31 (by decide) (fun q => ?_) (fun q => ?_)
              · have hf := if_t q hf
                exact hb_35 v_t_draft_code x_t_draft_size x_t_text_fault x_t_text_place l2 r12 _ _ ls (lv_sub hl [1, 2, 3, 0] rfl) hP hD hS hf
              · have hf := if_f q hf
                obtain ⟨rfl, rfl, rfl, rfl⟩ := ev4 hf
                exact x_vret C hr hlk hP hD hS dX2_readSum_34
      refine lv_aload_n hx hb dX2_readSum_0 rfl (lv_at hl 0 rfl) ?_
      refine lv_iload_n hx hb dX2_readSum_1 rfl (lv_at hl 1 rfl) ?_
      obtain ⟨w14, w15, w16, w17, hc18, hf⟩ := bd4_e hf
      refine x_callVV (ws' := [oX2 A_t A_t_text A_t_draft, oX1 A_t_draft A_t_draft_code A_t_draft_letters A_t_draft_valueFrom A_t_draft_testFrom A_t_draft_testEnd A_t_draft_facts A_t_draft_stack w15 x_t_draft_rules x_t_draft_height x_t_draft_refused, iA cI 240 A_t_draft_code w14, oX9 A_t_text A_t_text_bytes x_t_text_size x_t_text_end w17 w16, iA cI 260 A_t_text_bytes v_t_text_bytes]) (rest := []) C hK hP hD hS hA hl mf_X2_95 (ih_X2_readTerm hc18) [0, 1, 2, 3, 4] 0 2 rfl rfl rfl rfl rfl rfl rfl rfl rfl rfl (Nat.le_of_ble_eq_true rfl) ⟨(show dp + 4 + 1 ≤ dp + 1 + 4 by omega), (show 8 + (4 + 11) + (dp * 23 + 91) ≤ (dp + 1) * 23 + 91 by omega)⟩ ⟨Nat.le_refl _, Nat.le_refl _⟩ dX2_readSum_2 ?_
      intro H locs hP hD hS
      refine lv_iconst (v := 0) hx hb dX2_readSum_5 (by decide) ?_
      refine lv_istore_n (lv' := [(2, .int (0 : Int32)), (0, .ref A_t), (1, .int a1)]) hx hb dX2_readSum_6 rfl hl (by decide) rfl (fun ls hl => ?_)
      exact hb_7 FU w14 w15 w16 w17 (0 : Int32) _ _ ls (lv_sub hl [1, 2, 0] rfl) hP hD hS hf
    · intro A_t A_t_text A_t_draft A_t_draft_code A_t_draft_letters A_t_draft_valueFrom A_t_draft_testFrom A_t_draft_testEnd A_t_draft_facts A_t_draft_stack A_t_text_bytes x_t_draft_size x_t_draft_rules x_t_draft_height x_t_draft_refused x_t_text_size x_t_text_end x_t_text_place x_t_text_fault a1 v_t_draft_code v_t_text_bytes o_x_t_draft_size o_x_t_text_fault o_x_t_text_place o_v_t_draft_code hf
      have hf : fo_X2_readTerm (f_X2_readSum dp) (f_X2_readTerm dp) (f_X2_readFactor dp) v_t_draft_code v_t_text_bytes x_t_draft_size x_t_text_end x_t_text_fault x_t_text_place x_t_text_size a1 = some (o_v_t_draft_code, o_x_t_draft_size, o_x_t_text_fault, o_x_t_text_place) := hf
      refine x_startV (by decide) (Nat.le_of_ble_eq_true rfl) ?_
      intro p e s m below meth c A C hr hlk hA hK hP hD hS ls hl
      have hl : lv_has ls 4 [(0, .ref A_t), (1, .int a1)] := hl
      have hx := C.1
      have hb := C.2.1
      unfold fo_X2_readTerm at hf
      have hb_7 : ∀ (n_7 : Nat) (v_t_draft_code : (Nat → Int32)) (x_t_draft_size : Int32) (x_t_text_fault : Int32) (x_t_text_place : Int32) (l2 : Int32) (H : Heap) (locs : List Loc) (ls : Array Slot), lv_has ls 4 [(0, .ref A_t), (1, .int a1), (2, .int l2)] → va_P D vwCl [oX2 A_t A_t_text A_t_draft, oX1 A_t_draft A_t_draft_code A_t_draft_letters A_t_draft_valueFrom A_t_draft_testFrom A_t_draft_testEnd A_t_draft_facts A_t_draft_stack x_t_draft_size x_t_draft_rules x_t_draft_height x_t_draft_refused, iA cI 240 A_t_draft_code v_t_draft_code, oX9 A_t_text A_t_text_bytes x_t_text_size x_t_text_end x_t_text_place x_t_text_fault, iA cI 260 A_t_text_bytes v_t_text_bytes] H → va_D A [oX2 A_t A_t_text A_t_draft, oX1 A_t_draft A_t_draft_code A_t_draft_letters A_t_draft_valueFrom A_t_draft_testFrom A_t_draft_testEnd A_t_draft_facts A_t_draft_stack x_t_draft_size x_t_draft_rules x_t_draft_height x_t_draft_refused, iA cI 240 A_t_draft_code v_t_draft_code, oX9 A_t_text A_t_text_bytes x_t_text_size x_t_text_end x_t_text_place x_t_text_fault, iA cI 260 A_t_text_bytes v_t_text_bytes] → va_S A s.heap H locs → f_X2_readTerm_b7 (f_X2_readSum dp) (f_X2_readTerm dp) (f_X2_readFactor dp) v_t_text_bytes x_t_text_end x_t_text_size a1 n_7 v_t_draft_code x_t_draft_size x_t_text_fault x_t_text_place l2 = some (o_v_t_draft_code, o_x_t_draft_size, o_x_t_text_fault, o_x_t_text_place) → W p l e { frames := dp + 1 + 4, cells := 0, slots := 0, locals := (dp + 1) * 23 + 91 } s m ([.ref A_t, .int a1] : List Value).toArray below meth c H locs 0 0 (MQ below (PoV D A [oX2 A_t A_t_text A_t_draft, oX1 A_t_draft A_t_draft_code A_t_draft_letters A_t_draft_valueFrom A_t_draft_testFrom A_t_draft_testEnd A_t_draft_facts A_t_draft_stack o_x_t_draft_size x_t_draft_rules x_t_draft_height x_t_draft_refused, iA cI 240 A_t_draft_code o_v_t_draft_code, oX9 A_t_text A_t_text_bytes x_t_text_size x_t_text_end o_x_t_text_place o_x_t_text_fault, iA cI 260 A_t_text_bytes v_t_text_bytes]) ([.ref A_t, .int a1] : List Value).toArray s 0 0 A) (F0 m 7 ls []) := by
        intro n_7
        induction n_7 with
        | zero =>
          intro v_t_draft_code x_t_draft_size x_t_text_fault x_t_text_place l2 H locs ls hl hP hD hS hf
          exact absurd hf (fun h => by rw [f_X2_readTerm_b7] at h; cases h)
        | succ n_7 ih_7 =>
          have hb_95 : ∀ (v_t_draft_code : (Nat → Int32)) (x_t_draft_size : Int32) (x_t_text_fault : Int32) (x_t_text_place : Int32) (l2 : Int32) (H : Heap) (locs : List Loc) (ls : Array Slot), lv_has ls 4 [(0, .ref A_t), (1, .int a1), (2, .int l2)] → va_P D vwCl [oX2 A_t A_t_text A_t_draft, oX1 A_t_draft A_t_draft_code A_t_draft_letters A_t_draft_valueFrom A_t_draft_testFrom A_t_draft_testEnd A_t_draft_facts A_t_draft_stack x_t_draft_size x_t_draft_rules x_t_draft_height x_t_draft_refused, iA cI 240 A_t_draft_code v_t_draft_code, oX9 A_t_text A_t_text_bytes x_t_text_size x_t_text_end x_t_text_place x_t_text_fault, iA cI 260 A_t_text_bytes v_t_text_bytes] H → va_D A [oX2 A_t A_t_text A_t_draft, oX1 A_t_draft A_t_draft_code A_t_draft_letters A_t_draft_valueFrom A_t_draft_testFrom A_t_draft_testEnd A_t_draft_facts A_t_draft_stack x_t_draft_size x_t_draft_rules x_t_draft_height x_t_draft_refused, iA cI 240 A_t_draft_code v_t_draft_code, oX9 A_t_text A_t_text_bytes x_t_text_size x_t_text_end x_t_text_place x_t_text_fault, iA cI 260 A_t_text_bytes v_t_text_bytes] → va_S A s.heap H locs → f_X2_readTerm_b95 (f_X2_readSum dp) (f_X2_readTerm dp) (f_X2_readFactor dp) a1 (f_X2_readTerm_b7 (f_X2_readSum dp) (f_X2_readTerm dp) (f_X2_readFactor dp) v_t_text_bytes x_t_text_end x_t_text_size a1 n_7) v_t_draft_code x_t_draft_size x_t_text_fault x_t_text_place l2 = some (o_v_t_draft_code, o_x_t_draft_size, o_x_t_text_fault, o_x_t_text_place) → W p l e { frames := dp + 1 + 4, cells := 0, slots := 0, locals := (dp + 1) * 23 + 91 } s m ([.ref A_t, .int a1] : List Value).toArray below meth c H locs 0 0 (MQ below (PoV D A [oX2 A_t A_t_text A_t_draft, oX1 A_t_draft A_t_draft_code A_t_draft_letters A_t_draft_valueFrom A_t_draft_testFrom A_t_draft_testEnd A_t_draft_facts A_t_draft_stack o_x_t_draft_size x_t_draft_rules x_t_draft_height x_t_draft_refused, iA cI 240 A_t_draft_code o_v_t_draft_code, oX9 A_t_text A_t_text_bytes x_t_text_size x_t_text_end o_x_t_text_place o_x_t_text_fault, iA cI 260 A_t_text_bytes v_t_text_bytes]) ([.ref A_t, .int a1] : List Value).toArray s 0 0 A) (F0 m 95 ls []) := by
            intro v_t_draft_code x_t_draft_size x_t_text_fault x_t_text_place l2 H locs ls hl hP hD hS hf
            unfold f_X2_readTerm_b95 at hf
            refine lv_iinc (v := (l2 + (1 : Int32))) (lv' := [(2, .int (l2 + (1 : Int32))), (0, .ref A_t), (1, .int a1)]) hx hb dX2_readTerm_95 hl (k := 2) rfl rfl (by decide) rfl (fun ls hl => ?_)
            refine lv_goto (tgt := 7) hx hb dX2_readTerm_98 (by decide) ?_
            exact ih_7 v_t_draft_code x_t_draft_size x_t_text_fault x_t_text_place (l2 + (1 : Int32)) _ _ ls (lv_sub hl [1, 2, 0] rfl) hP hD hS hf
          have hb_90 : ∀ (v_t_draft_code : (Nat → Int32)) (x_t_draft_size : Int32) (x_t_text_fault : Int32) (x_t_text_place : Int32) (s1 : Int32) (l2 : Int32) (H : Heap) (locs : List Loc) (ls : Array Slot), lv_has ls 4 [(0, .ref A_t), (1, .int a1), (2, .int l2)] → va_P D vwCl [oX2 A_t A_t_text A_t_draft, oX1 A_t_draft A_t_draft_code A_t_draft_letters A_t_draft_valueFrom A_t_draft_testFrom A_t_draft_testEnd A_t_draft_facts A_t_draft_stack x_t_draft_size x_t_draft_rules x_t_draft_height x_t_draft_refused, iA cI 240 A_t_draft_code v_t_draft_code, oX9 A_t_text A_t_text_bytes x_t_text_size x_t_text_end x_t_text_place x_t_text_fault, iA cI 260 A_t_text_bytes v_t_text_bytes] H → va_D A [oX2 A_t A_t_text A_t_draft, oX1 A_t_draft A_t_draft_code A_t_draft_letters A_t_draft_valueFrom A_t_draft_testFrom A_t_draft_testEnd A_t_draft_facts A_t_draft_stack x_t_draft_size x_t_draft_rules x_t_draft_height x_t_draft_refused, iA cI 240 A_t_draft_code v_t_draft_code, oX9 A_t_text A_t_text_bytes x_t_text_size x_t_text_end x_t_text_place x_t_text_fault, iA cI 260 A_t_text_bytes v_t_text_bytes] → va_S A s.heap H locs → f_X2_readTerm_b90 (f_X2_readSum dp) (f_X2_readTerm dp) (f_X2_readFactor dp) a1 (f_X2_readTerm_b7 (f_X2_readSum dp) (f_X2_readTerm dp) (f_X2_readFactor dp) v_t_text_bytes x_t_text_end x_t_text_size a1 n_7) v_t_draft_code x_t_draft_size x_t_text_fault x_t_text_place s1 l2 = some (o_v_t_draft_code, o_x_t_draft_size, o_x_t_text_fault, o_x_t_text_place) → W p l e { frames := dp + 1 + 4, cells := 0, slots := 0, locals := (dp + 1) * 23 + 91 } s m ([.ref A_t, .int a1] : List Value).toArray below meth c H locs 0 0 (MQ below (PoV D A [oX2 A_t A_t_text A_t_draft, oX1 A_t_draft A_t_draft_code A_t_draft_letters A_t_draft_valueFrom A_t_draft_testFrom A_t_draft_testEnd A_t_draft_facts A_t_draft_stack o_x_t_draft_size x_t_draft_rules x_t_draft_height x_t_draft_refused, iA cI 240 A_t_draft_code o_v_t_draft_code, oX9 A_t_text A_t_text_bytes x_t_text_size x_t_text_end o_x_t_text_place o_x_t_text_fault, iA cI 260 A_t_text_bytes v_t_text_bytes]) ([.ref A_t, .int a1] : List Value).toArray s 0 0 A) (F0 m 90 ls [.int s1, .ref A_t_draft]) := by
            intro v_t_draft_code x_t_draft_size x_t_text_fault x_t_text_place s1 l2 H locs ls hl hP hD hS hf
            unfold f_X2_readTerm_b90 at hf
            refine lv_iconst (v := 0) hx hb dX2_readTerm_90 (by decide) ?_
            obtain ⟨r1, w2, w3, hc4, hf⟩ := bd3_e hf
            refine x_callVI (ws' := [oX2 A_t A_t_text A_t_draft, oX1 A_t_draft A_t_draft_code A_t_draft_letters A_t_draft_valueFrom A_t_draft_testFrom A_t_draft_testEnd A_t_draft_facts A_t_draft_stack w3 x_t_draft_rules x_t_draft_height x_t_draft_refused, iA cI 240 A_t_draft_code w2, oX9 A_t_text A_t_text_bytes x_t_text_size x_t_text_end x_t_text_place x_t_text_fault, iA cI 260 A_t_text_bytes v_t_text_bytes]) (rest := []) C hK hP hD hS hA hl mf_X2_81 (c_X1_emit hc4) [1, 2] 0 1 rfl rfl rfl rfl rfl rfl rfl rfl rfl rfl (Nat.le_of_ble_eq_true rfl) ⟨(show 0 + 1 ≤ dp + 1 + 4 by omega), (show 8 + (4 + 11) + 0 ≤ (dp + 1) * 23 + 91 by omega)⟩ ⟨Nat.le_refl _, Nat.le_refl _⟩ dX2_readTerm_91 ?_
            intro H locs hP hD hS
            refine lv_pop hx hb dX2_readTerm_94 rfl ?_
            exact hb_95 w2 w3 x_t_text_fault x_t_text_place l2 _ _ ls (lv_sub hl [0, 1, 2] rfl) hP hD hS hf
          have hb_41 : ∀ (v_t_draft_code : (Nat → Int32)) (x_t_draft_size : Int32) (x_t_text_fault : Int32) (x_t_text_place : Int32) (l2 : Int32) (l3 : Int32) (H : Heap) (locs : List Loc) (ls : Array Slot), lv_has ls 4 [(0, .ref A_t), (1, .int a1), (2, .int l2), (3, .int l3)] → va_P D vwCl [oX2 A_t A_t_text A_t_draft, oX1 A_t_draft A_t_draft_code A_t_draft_letters A_t_draft_valueFrom A_t_draft_testFrom A_t_draft_testEnd A_t_draft_facts A_t_draft_stack x_t_draft_size x_t_draft_rules x_t_draft_height x_t_draft_refused, iA cI 240 A_t_draft_code v_t_draft_code, oX9 A_t_text A_t_text_bytes x_t_text_size x_t_text_end x_t_text_place x_t_text_fault, iA cI 260 A_t_text_bytes v_t_text_bytes] H → va_D A [oX2 A_t A_t_text A_t_draft, oX1 A_t_draft A_t_draft_code A_t_draft_letters A_t_draft_valueFrom A_t_draft_testFrom A_t_draft_testEnd A_t_draft_facts A_t_draft_stack x_t_draft_size x_t_draft_rules x_t_draft_height x_t_draft_refused, iA cI 240 A_t_draft_code v_t_draft_code, oX9 A_t_text A_t_text_bytes x_t_text_size x_t_text_end x_t_text_place x_t_text_fault, iA cI 260 A_t_text_bytes v_t_text_bytes] → va_S A s.heap H locs → f_X2_readTerm_b41 (f_X2_readSum dp) (f_X2_readTerm dp) (f_X2_readFactor dp) v_t_text_bytes x_t_text_end x_t_text_size a1 (f_X2_readTerm_b7 (f_X2_readSum dp) (f_X2_readTerm dp) (f_X2_readFactor dp) v_t_text_bytes x_t_text_end x_t_text_size a1 n_7) v_t_draft_code x_t_draft_size x_t_text_fault x_t_text_place l2 l3 = some (o_v_t_draft_code, o_x_t_draft_size, o_x_t_text_fault, o_x_t_text_place) → W p l e { frames := dp + 1 + 4, cells := 0, slots := 0, locals := (dp + 1) * 23 + 91 } s m ([.ref A_t, .int a1] : List Value).toArray below meth c H locs 0 0 (MQ below (PoV D A [oX2 A_t A_t_text A_t_draft, oX1 A_t_draft A_t_draft_code A_t_draft_letters A_t_draft_valueFrom A_t_draft_testFrom A_t_draft_testEnd A_t_draft_facts A_t_draft_stack o_x_t_draft_size x_t_draft_rules x_t_draft_height x_t_draft_refused, iA cI 240 A_t_draft_code o_v_t_draft_code, oX9 A_t_text A_t_text_bytes x_t_text_size x_t_text_end o_x_t_text_place o_x_t_text_fault, iA cI 260 A_t_text_bytes v_t_text_bytes]) ([.ref A_t, .int a1] : List Value).toArray s 0 0 A) (F0 m 41 ls []) := by
            intro v_t_draft_code x_t_draft_size x_t_text_fault x_t_text_place l2 l3 H locs ls hl hP hD hS hf
            unfold f_X2_readTerm_b41 at hf
            refine lv_aload_n hx hb dX2_readTerm_41 rfl (lv_at hl 0 rfl) ?_
            refine x_get C hK hP fd_X2_9 0 rfl rfl dX2_readTerm_42 ?_
            obtain ⟨w5, hc6, hf⟩ := bd1_e hf
            refine x_callVV (ws' := [oX2 A_t A_t_text A_t_draft, oX1 A_t_draft A_t_draft_code A_t_draft_letters A_t_draft_valueFrom A_t_draft_testFrom A_t_draft_testEnd A_t_draft_facts A_t_draft_stack x_t_draft_size x_t_draft_rules x_t_draft_height x_t_draft_refused, iA cI 240 A_t_draft_code v_t_draft_code, oX9 A_t_text A_t_text_bytes x_t_text_size x_t_text_end w5 x_t_text_fault, iA cI 260 A_t_text_bytes v_t_text_bytes]) (rest := []) C hK hP hD hS hA hl mf_X2_58 (c_X9_step hc6) [3] 0 9 rfl rfl rfl rfl rfl rfl rfl rfl rfl rfl (Nat.le_of_ble_eq_true rfl) ⟨(show 0 + 1 ≤ dp + 1 + 4 by omega), (show 8 + (1 + 11) + 0 ≤ (dp + 1) * 23 + 91 by omega)⟩ ⟨Nat.le_refl _, Nat.le_refl _⟩ dX2_readTerm_45 ?_
            intro H locs hP hD hS
            refine lv_aload_n hx hb dX2_readTerm_48 rfl (lv_at hl 0 rfl) ?_
            refine lv_iload_n hx hb dX2_readTerm_49 rfl (lv_at hl 1 rfl) ?_
            obtain ⟨w7, w8, w9, w10, hc11, hf⟩ := bd4_e hf
            refine x_callVV (ws' := [oX2 A_t A_t_text A_t_draft, oX1 A_t_draft A_t_draft_code A_t_draft_letters A_t_draft_valueFrom A_t_draft_testFrom A_t_draft_testEnd A_t_draft_facts A_t_draft_stack w8 x_t_draft_rules x_t_draft_height x_t_draft_refused, iA cI 240 A_t_draft_code w7, oX9 A_t_text A_t_text_bytes x_t_text_size x_t_text_end w10 w9, iA cI 260 A_t_text_bytes v_t_text_bytes]) (rest := []) C hK hP hD hS hA hl mf_X2_98 (ih_X2_readFactor hc11) [0, 1, 2, 3, 4] 0 2 rfl rfl rfl rfl rfl rfl rfl rfl rfl rfl (Nat.le_of_ble_eq_true rfl) ⟨(show dp + 4 + 1 ≤ dp + 1 + 4 by omega), (show 8 + (4 + 11) + (dp * 23 + 91) ≤ (dp + 1) * 23 + 91 by omega)⟩ ⟨Nat.le_refl _, Nat.le_refl _⟩ dX2_readTerm_50 ?_
            intro H locs hP hD hS
            refine lv_iload_n hx hb dX2_readTerm_53 rfl (lv_at hl 3 rfl) ?_
            refine lv_bipush (v := 42) hx hb dX2_readTerm_54 (by decide) ?_
            refine lv_icmp_ne (tgt := 73) hx hb dX2_readTerm_56 (by decide) (fun q => ?_) (fun q => ?_)
            · have hf := if_f q hf
              refine lv_aload_n hx hb dX2_readTerm_73 rfl (lv_at hl 0 rfl) ?_
              refine x_get C hK hP fd_X2_18 0 rfl rfl dX2_readTerm_74 ?_
              refine lv_iload_n hx hb dX2_readTerm_77 rfl (lv_at hl 3 rfl) ?_
              refine lv_bipush (v := 47) hx hb dX2_readTerm_78 (by decide) ?_
              refine lv_icmp_ne (tgt := 88) hx hb dX2_readTerm_80 (by decide) (fun q => ?_) (fun q => ?_)
              · have hf := if_f q hf
                refine lv_bipush (v := 9) hx hb dX2_readTerm_88 (by decide) ?_
                exact hb_90 w7 w8 w9 w10 (9 : Int32) l2 _ _ ls (lv_sub hl [0, 1, 2] rfl) hP hD hS hf
              · have hf := if_t q hf
                refine lv_bipush (v := 8) hx hb dX2_readTerm_83 (by decide) ?_
                refine lv_goto (tgt := 90) hx hb dX2_readTerm_85 (by decide) ?_
                exact hb_90 w7 w8 w9 w10 (8 : Int32) l2 _ _ ls (lv_sub hl [0, 1, 2] rfl) hP hD hS hf
            · have hf := if_t q hf
              refine lv_aload_n hx hb dX2_readTerm_59 rfl (lv_at hl 0 rfl) ?_
              refine x_get C hK hP fd_X2_18 0 rfl rfl dX2_readTerm_60 ?_
              refine lv_bipush (v := 7) hx hb dX2_readTerm_63 (by decide) ?_
              refine lv_iconst (v := 0) hx hb dX2_readTerm_65 (by decide) ?_
              obtain ⟨r12, w13, w14, hc15, hf⟩ := bd3_e hf
              refine x_callVI (ws' := [oX2 A_t A_t_text A_t_draft, oX1 A_t_draft A_t_draft_code A_t_draft_letters A_t_draft_valueFrom A_t_draft_testFrom A_t_draft_testEnd A_t_draft_facts A_t_draft_stack w14 x_t_draft_rules x_t_draft_height x_t_draft_refused, iA cI 240 A_t_draft_code w13, oX9 A_t_text A_t_text_bytes x_t_text_size x_t_text_end w10 w9, iA cI 260 A_t_text_bytes v_t_text_bytes]) (rest := []) C hK hP hD hS hA hl mf_X2_81 (c_X1_emit hc15) [1, 2] 0 1 rfl rfl rfl rfl rfl rfl rfl rfl rfl rfl (Nat.le_of_ble_eq_true rfl) ⟨(show 0 + 1 ≤ dp + 1 + 4 by omega), (show 8 + (4 + 11) + 0 ≤ (dp + 1) * 23 + 91 by omega)⟩ ⟨Nat.le_refl _, Nat.le_refl _⟩ dX2_readTerm_66 ?_
              intro H locs hP hD hS
              refine lv_pop hx hb dX2_readTerm_69 rfl ?_
              refine lv_goto (tgt := 95) hx hb dX2_readTerm_70 (by decide) ?_
              exact hb_95 w13 w14 w9 w10 l2 _ _ ls (lv_sub hl [0, 1, 2] rfl) hP hD hS hf
          intro v_t_draft_code x_t_draft_size x_t_text_fault x_t_text_place l2 H locs ls hl hP hD hS hf
          rw [f_X2_readTerm_b7] at hf
          refine lv_iload_n hx hb dX2_readTerm_7 rfl (lv_at hl 2 rfl) ?_
          refine lv_sipush (v := 240) hx hb dX2_readTerm_8 (by decide) ?_
          refine lv_icmp_ge (tgt := 101) hx hb dX2_readTerm_11 (by decide) (fun q => ?_) (fun q => ?_)
          · have hf := if_t q hf
            obtain ⟨rfl, rfl, rfl, rfl⟩ := ev4 hf
            exact x_vret C hr hlk hP hD hS dX2_readTerm_101
          · have hf := if_f q hf
            refine lv_aload_n hx hb dX2_readTerm_14 rfl (lv_at hl 0 rfl) ?_
            refine x_get C hK hP fd_X2_9 0 rfl rfl dX2_readTerm_15 ?_
            obtain ⟨r16, hc17, hf⟩ := bd1_e hf
            refine x_callVI (ws' := [oX2 A_t A_t_text A_t_draft, oX1 A_t_draft A_t_draft_code A_t_draft_letters A_t_draft_valueFrom A_t_draft_testFrom A_t_draft_testEnd A_t_draft_facts A_t_draft_stack x_t_draft_size x_t_draft_rules x_t_draft_height x_t_draft_refused, iA cI 240 A_t_draft_code v_t_draft_code, oX9 A_t_text A_t_text_bytes x_t_text_size x_t_text_end x_t_text_place x_t_text_fault, iA cI 260 A_t_text_bytes v_t_text_bytes]) (rest := []) C hK hP hD hS hA hl mf_X2_51 (c_X9_sign hc17) [3, 4] 0 9 rfl rfl rfl rfl rfl rfl rfl rfl rfl rfl (Nat.le_of_ble_eq_true rfl) ⟨(show 1 + 1 ≤ dp + 1 + 4 by omega), (show 8 + (1 + 11) + 21 ≤ (dp + 1) * 23 + 91 by omega)⟩ ⟨Nat.le_refl _, Nat.le_refl _⟩ dX2_readTerm_18 ?_
            intro H locs hP hD hS
            refine lv_istore_n (lv' := [(3, .int r16), (0, .ref A_t), (1, .int a1), (2, .int l2)]) hx hb dX2_readTerm_21 rfl hl (by decide) rfl (fun ls hl => ?_)
            refine lv_iload_n hx hb dX2_readTerm_22 rfl (lv_at hl 0 rfl) ?_
            refine lv_bipush (v := 42) hx hb dX2_readTerm_23 (by decide) ?_
            refine lv_icmp_eq (tgt := 41) hx hb dX2_readTerm_25 (by decide) (fun q => ?_) (fun q => ?_)
            · have hf := if_t q hf
              exact hb_41 v_t_draft_code x_t_draft_size x_t_text_fault x_t_text_place l2 r16 _ _ ls (lv_sub hl [1, 2, 3, 0] rfl) hP hD hS hf
            · have hf := if_f q hf
              refine lv_iload_n hx hb dX2_readTerm_28 rfl (lv_at hl 0 rfl) ?_
              refine lv_bipush (v := 47) hx hb dX2_readTerm_29 (by decide) ?_
              refine lv_icmp_eq (tgt := 41) hx hb dX2_readTerm_31 (by decide) (fun q => ?_) (fun q => ?_)
              · have hf := if_t q hf
                exact hb_41 v_t_draft_code x_t_draft_size x_t_text_fault x_t_text_place l2 r16 _ _ ls (lv_sub hl [1, 2, 3, 0] rfl) hP hD hS hf
              · have hf := if_f q hf
                refine lv_iload_n hx hb dX2_readTerm_34 rfl (lv_at hl 0 rfl) ?_
                refine lv_bipush (v := 37) hx hb dX2_readTerm_35 (by decide) ?_
                refine lv_icmp_eq (tgt := 41) hx hb dX2_readTerm_37 (by decide) (fun q => ?_) (fun q => ?_)
                · have hf := if_t q hf
                  exact hb_41 v_t_draft_code x_t_draft_size x_t_text_fault x_t_text_place l2 r16 _ _ ls (lv_sub hl [1, 2, 3, 0] rfl) hP hD hS hf
                · have hf := if_f q hf
                  obtain ⟨rfl, rfl, rfl, rfl⟩ := ev4 hf
                  exact x_vret C hr hlk hP hD hS dX2_readTerm_40
      refine lv_aload_n hx hb dX2_readTerm_0 rfl (lv_at hl 0 rfl) ?_
      refine lv_iload_n hx hb dX2_readTerm_1 rfl (lv_at hl 1 rfl) ?_
      obtain ⟨w18, w19, w20, w21, hc22, hf⟩ := bd4_e hf
      refine x_callVV (ws' := [oX2 A_t A_t_text A_t_draft, oX1 A_t_draft A_t_draft_code A_t_draft_letters A_t_draft_valueFrom A_t_draft_testFrom A_t_draft_testEnd A_t_draft_facts A_t_draft_stack w19 x_t_draft_rules x_t_draft_height x_t_draft_refused, iA cI 240 A_t_draft_code w18, oX9 A_t_text A_t_text_bytes x_t_text_size x_t_text_end w21 w20, iA cI 260 A_t_text_bytes v_t_text_bytes]) (rest := []) C hK hP hD hS hA hl mf_X2_98 (ih_X2_readFactor hc22) [0, 1, 2, 3, 4] 0 2 rfl rfl rfl rfl rfl rfl rfl rfl rfl rfl (Nat.le_of_ble_eq_true rfl) ⟨(show dp + 4 + 1 ≤ dp + 1 + 4 by omega), (show 8 + (4 + 11) + (dp * 23 + 91) ≤ (dp + 1) * 23 + 91 by omega)⟩ ⟨Nat.le_refl _, Nat.le_refl _⟩ dX2_readTerm_2 ?_
      intro H locs hP hD hS
      refine lv_iconst (v := 0) hx hb dX2_readTerm_5 (by decide) ?_
      refine lv_istore_n (lv' := [(2, .int (0 : Int32)), (0, .ref A_t), (1, .int a1)]) hx hb dX2_readTerm_6 rfl hl (by decide) rfl (fun ls hl => ?_)
      exact hb_7 FU w18 w19 w20 w21 (0 : Int32) _ _ ls (lv_sub hl [1, 2, 0] rfl) hP hD hS hf
    · intro A_t A_t_text A_t_draft A_t_draft_code A_t_draft_letters A_t_draft_valueFrom A_t_draft_testFrom A_t_draft_testEnd A_t_draft_facts A_t_draft_stack A_t_text_bytes x_t_draft_size x_t_draft_rules x_t_draft_height x_t_draft_refused x_t_text_size x_t_text_end x_t_text_place x_t_text_fault a1 v_t_draft_code v_t_text_bytes o_x_t_draft_size o_x_t_text_fault o_x_t_text_place o_v_t_draft_code hf
      have hf : fo_X2_readFactor (f_X2_readSum dp) (f_X2_readTerm dp) (f_X2_readFactor dp) v_t_draft_code v_t_text_bytes x_t_draft_size x_t_text_end x_t_text_fault x_t_text_place x_t_text_size a1 = some (o_v_t_draft_code, o_x_t_draft_size, o_x_t_text_fault, o_x_t_text_place) := hf
      refine x_startV (by decide) (Nat.le_of_ble_eq_true rfl) ?_
      intro p e s m below meth c A C hr hlk hA hK hP hD hS ls hl
      have hl : lv_has ls 4 [(0, .ref A_t), (1, .int a1)] := hl
      have hx := C.1
      have hb := C.2.1
      unfold fo_X2_readFactor at hf
      have hb_116 : ∀ (v_t_draft_code : (Nat → Int32)) (x_t_draft_size : Int32) (x_t_text_fault : Int32) (x_t_text_place : Int32) (H : Heap) (locs : List Loc) (ls : Array Slot), lv_has ls 4 [] → va_P D vwCl [oX2 A_t A_t_text A_t_draft, oX1 A_t_draft A_t_draft_code A_t_draft_letters A_t_draft_valueFrom A_t_draft_testFrom A_t_draft_testEnd A_t_draft_facts A_t_draft_stack x_t_draft_size x_t_draft_rules x_t_draft_height x_t_draft_refused, iA cI 240 A_t_draft_code v_t_draft_code, oX9 A_t_text A_t_text_bytes x_t_text_size x_t_text_end x_t_text_place x_t_text_fault, iA cI 260 A_t_text_bytes v_t_text_bytes] H → va_D A [oX2 A_t A_t_text A_t_draft, oX1 A_t_draft A_t_draft_code A_t_draft_letters A_t_draft_valueFrom A_t_draft_testFrom A_t_draft_testEnd A_t_draft_facts A_t_draft_stack x_t_draft_size x_t_draft_rules x_t_draft_height x_t_draft_refused, iA cI 240 A_t_draft_code v_t_draft_code, oX9 A_t_text A_t_text_bytes x_t_text_size x_t_text_end x_t_text_place x_t_text_fault, iA cI 260 A_t_text_bytes v_t_text_bytes] → va_S A s.heap H locs → f_X2_readFactor_b116 (f_X2_readSum dp) (f_X2_readTerm dp) (f_X2_readFactor dp) v_t_draft_code x_t_draft_size x_t_text_fault x_t_text_place = some (o_v_t_draft_code, o_x_t_draft_size, o_x_t_text_fault, o_x_t_text_place) → W p l e { frames := dp + 1 + 4, cells := 0, slots := 0, locals := (dp + 1) * 23 + 91 } s m ([.ref A_t, .int a1] : List Value).toArray below meth c H locs 0 0 (MQ below (PoV D A [oX2 A_t A_t_text A_t_draft, oX1 A_t_draft A_t_draft_code A_t_draft_letters A_t_draft_valueFrom A_t_draft_testFrom A_t_draft_testEnd A_t_draft_facts A_t_draft_stack o_x_t_draft_size x_t_draft_rules x_t_draft_height x_t_draft_refused, iA cI 240 A_t_draft_code o_v_t_draft_code, oX9 A_t_text A_t_text_bytes x_t_text_size x_t_text_end o_x_t_text_place o_x_t_text_fault, iA cI 260 A_t_text_bytes v_t_text_bytes]) ([.ref A_t, .int a1] : List Value).toArray s 0 0 A) (F0 m 116 ls []) := by
        intro v_t_draft_code x_t_draft_size x_t_text_fault x_t_text_place H locs ls hl hP hD hS hf
        unfold f_X2_readFactor_b116 at hf
        obtain ⟨rfl, rfl, rfl, rfl⟩ := ev4 hf
        exact x_vret C hr hlk hP hD hS dX2_readFactor_116
      have hb_23 : ∀ (v_t_draft_code : (Nat → Int32)) (x_t_draft_size : Int32) (x_t_text_fault : Int32) (x_t_text_place : Int32) (s0 : Int32) (l2 : Int32) (H : Heap) (locs : List Loc) (ls : Array Slot), lv_has ls 4 [(0, .ref A_t), (1, .int a1), (2, .int l2)] → va_P D vwCl [oX2 A_t A_t_text A_t_draft, oX1 A_t_draft A_t_draft_code A_t_draft_letters A_t_draft_valueFrom A_t_draft_testFrom A_t_draft_testEnd A_t_draft_facts A_t_draft_stack x_t_draft_size x_t_draft_rules x_t_draft_height x_t_draft_refused, iA cI 240 A_t_draft_code v_t_draft_code, oX9 A_t_text A_t_text_bytes x_t_text_size x_t_text_end x_t_text_place x_t_text_fault, iA cI 260 A_t_text_bytes v_t_text_bytes] H → va_D A [oX2 A_t A_t_text A_t_draft, oX1 A_t_draft A_t_draft_code A_t_draft_letters A_t_draft_valueFrom A_t_draft_testFrom A_t_draft_testEnd A_t_draft_facts A_t_draft_stack x_t_draft_size x_t_draft_rules x_t_draft_height x_t_draft_refused, iA cI 240 A_t_draft_code v_t_draft_code, oX9 A_t_text A_t_text_bytes x_t_text_size x_t_text_end x_t_text_place x_t_text_fault, iA cI 260 A_t_text_bytes v_t_text_bytes] → va_S A s.heap H locs → f_X2_readFactor_b23 (f_X2_readSum dp) (f_X2_readTerm dp) (f_X2_readFactor dp) v_t_text_bytes x_t_text_end x_t_text_size a1 v_t_draft_code x_t_draft_size x_t_text_fault x_t_text_place s0 l2 = some (o_v_t_draft_code, o_x_t_draft_size, o_x_t_text_fault, o_x_t_text_place) → W p l e { frames := dp + 1 + 4, cells := 0, slots := 0, locals := (dp + 1) * 23 + 91 } s m ([.ref A_t, .int a1] : List Value).toArray below meth c H locs 0 0 (MQ below (PoV D A [oX2 A_t A_t_text A_t_draft, oX1 A_t_draft A_t_draft_code A_t_draft_letters A_t_draft_valueFrom A_t_draft_testFrom A_t_draft_testEnd A_t_draft_facts A_t_draft_stack o_x_t_draft_size x_t_draft_rules x_t_draft_height x_t_draft_refused, iA cI 240 A_t_draft_code o_v_t_draft_code, oX9 A_t_text A_t_text_bytes x_t_text_size x_t_text_end o_x_t_text_place o_x_t_text_fault, iA cI 260 A_t_text_bytes v_t_text_bytes]) ([.ref A_t, .int a1] : List Value).toArray s 0 0 A) (F0 m 23 ls [.int s0]) := by
        intro v_t_draft_code x_t_draft_size x_t_text_fault x_t_text_place s0 l2 H locs ls hl hP hD hS hf
        unfold f_X2_readFactor_b23 at hf
        refine lv_istore_n (lv' := [(3, .int s0), (0, .ref A_t), (1, .int a1), (2, .int l2)]) hx hb dX2_readFactor_23 rfl hl (by decide) rfl (fun ls hl => ?_)
        refine lv_iload_n hx hb dX2_readFactor_24 rfl (lv_at hl 3 rfl) ?_
        refine lv_bipush (v := 91) hx hb dX2_readFactor_25 (by decide) ?_
        refine lv_icmp_ne (tgt := 57) hx hb dX2_readFactor_27 (by decide) (fun q => ?_) (fun q => ?_)
        · have hf := if_f q hf
          refine lv_iload_n hx hb dX2_readFactor_57 rfl (lv_at hl 3 rfl) ?_
          obtain ⟨r1, hc2, hf⟩ := bd1_e hf
          refine x_callSI (ws' := [oX2 A_t A_t_text A_t_draft, oX1 A_t_draft A_t_draft_code A_t_draft_letters A_t_draft_valueFrom A_t_draft_testFrom A_t_draft_testEnd A_t_draft_facts A_t_draft_stack x_t_draft_size x_t_draft_rules x_t_draft_height x_t_draft_refused, iA cI 240 A_t_draft_code v_t_draft_code, oX9 A_t_text A_t_text_bytes x_t_text_size x_t_text_end x_t_text_place x_t_text_fault, iA cI 260 A_t_text_bytes v_t_text_bytes]) (rest := []) C hK hP hD hS hA hl mf_X2_109 (c_X11_isDigit hc2) [] rfl rfl rfl rfl rfl rfl rfl rfl (Nat.le_of_ble_eq_true rfl) ⟨(show 0 + 1 ≤ dp + 1 + 4 by omega), (show 8 + (1 + 11) + 0 ≤ (dp + 1) * 23 + 91 by omega)⟩ ⟨Nat.le_refl _, Nat.le_refl _⟩ dX2_readFactor_58 ?_
          intro H locs hP hD hS
          refine lv_if_eq (tgt := 84) hx hb dX2_readFactor_61 (by decide) (fun q => ?_) (fun q => ?_)
          · have hf := if_t q hf
            refine lv_iload_n hx hb dX2_readFactor_84 rfl (lv_at hl 0 rfl) ?_
            refine lv_if_lt (tgt := 108) hx hb dX2_readFactor_85 (by decide) (fun q => ?_) (fun q => ?_)
            · have hf := if_t q hf
              refine lv_aload_n hx hb dX2_readFactor_108 rfl (lv_at hl 1 rfl) ?_
              refine x_get C hK hP fd_X2_9 0 rfl rfl dX2_readFactor_109 ?_
              refine lv_iconst (v := 1) hx hb dX2_readFactor_112 (by decide) ?_
              obtain ⟨w3, hc4, hf⟩ := bd1_e hf
              refine x_callVV (ws' := [oX2 A_t A_t_text A_t_draft, oX1 A_t_draft A_t_draft_code A_t_draft_letters A_t_draft_valueFrom A_t_draft_testFrom A_t_draft_testEnd A_t_draft_facts A_t_draft_stack x_t_draft_size x_t_draft_rules x_t_draft_height x_t_draft_refused, iA cI 240 A_t_draft_code v_t_draft_code, oX9 A_t_text A_t_text_bytes x_t_text_size x_t_text_end x_t_text_place w3, iA cI 260 A_t_text_bytes v_t_text_bytes]) (rest := []) C hK hP hD hS hA hl mf_X2_55 (c_X9_fail hc4) [3] 0 9 rfl rfl rfl rfl rfl rfl rfl rfl rfl rfl (Nat.le_of_ble_eq_true rfl) ⟨(show 1 + 1 ≤ dp + 1 + 4 by omega), (show 8 + (2 + 11) + 22 ≤ (dp + 1) * 23 + 91 by omega)⟩ ⟨Nat.le_refl _, Nat.le_refl _⟩ dX2_readFactor_113 ?_
              intro H locs hP hD hS
              exact hb_116 v_t_draft_code x_t_draft_size w3 x_t_text_place _ _ ls (lv_sub hl [] rfl) hP hD hS hf
            · have hf := if_f q hf
              refine lv_aload_n hx hb dX2_readFactor_88 rfl (lv_at hl 1 rfl) ?_
              refine x_get C hK hP fd_X2_9 0 rfl rfl dX2_readFactor_89 ?_
              obtain ⟨w5, hc6, hf⟩ := bd1_e hf
              refine x_callVV (ws' := [oX2 A_t A_t_text A_t_draft, oX1 A_t_draft A_t_draft_code A_t_draft_letters A_t_draft_valueFrom A_t_draft_testFrom A_t_draft_testEnd A_t_draft_facts A_t_draft_stack x_t_draft_size x_t_draft_rules x_t_draft_height x_t_draft_refused, iA cI 240 A_t_draft_code v_t_draft_code, oX9 A_t_text A_t_text_bytes x_t_text_size x_t_text_end w5 x_t_text_fault, iA cI 260 A_t_text_bytes v_t_text_bytes]) (rest := []) C hK hP hD hS hA hl mf_X2_58 (c_X9_step hc6) [3] 0 9 rfl rfl rfl rfl rfl rfl rfl rfl rfl rfl (Nat.le_of_ble_eq_true rfl) ⟨(show 0 + 1 ≤ dp + 1 + 4 by omega), (show 8 + (1 + 11) + 0 ≤ (dp + 1) * 23 + 91 by omega)⟩ ⟨Nat.le_refl _, Nat.le_refl _⟩ dX2_readFactor_92 ?_
              intro H locs hP hD hS
              refine lv_aload_n hx hb dX2_readFactor_95 rfl (lv_at hl 1 rfl) ?_
              refine x_get C hK hP fd_X2_18 0 rfl rfl dX2_readFactor_96 ?_
              refine lv_iconst (v := 1) hx hb dX2_readFactor_99 (by decide) ?_
              refine lv_iload_n hx hb dX2_readFactor_100 rfl (lv_at hl 0 rfl) ?_
              obtain ⟨r7, w8, w9, hc10, hf⟩ := bd3_e hf
              refine x_callVI (ws' := [oX2 A_t A_t_text A_t_draft, oX1 A_t_draft A_t_draft_code A_t_draft_letters A_t_draft_valueFrom A_t_draft_testFrom A_t_draft_testEnd A_t_draft_facts A_t_draft_stack w9 x_t_draft_rules x_t_draft_height x_t_draft_refused, iA cI 240 A_t_draft_code w8, oX9 A_t_text A_t_text_bytes x_t_text_size x_t_text_end w5 x_t_text_fault, iA cI 260 A_t_text_bytes v_t_text_bytes]) (rest := []) C hK hP hD hS hA hl mf_X2_81 (c_X1_emit hc10) [1, 2] 0 1 rfl rfl rfl rfl rfl rfl rfl rfl rfl rfl (Nat.le_of_ble_eq_true rfl) ⟨(show 0 + 1 ≤ dp + 1 + 4 by omega), (show 8 + (4 + 11) + 0 ≤ (dp + 1) * 23 + 91 by omega)⟩ ⟨Nat.le_refl _, Nat.le_refl _⟩ dX2_readFactor_101 ?_
              intro H locs hP hD hS
              refine lv_pop hx hb dX2_readFactor_104 rfl ?_
              refine lv_goto (tgt := 116) hx hb dX2_readFactor_105 (by decide) ?_
              exact hb_116 w8 w9 x_t_text_fault w5 _ _ ls (lv_sub hl [] rfl) hP hD hS hf
          · have hf := if_f q hf
            refine lv_aload_n hx hb dX2_readFactor_64 rfl (lv_at hl 1 rfl) ?_
            refine x_get C hK hP fd_X2_18 0 rfl rfl dX2_readFactor_65 ?_
            refine lv_iconst (v := 0) hx hb dX2_readFactor_68 (by decide) ?_
            refine lv_aload_n hx hb dX2_readFactor_69 rfl (lv_at hl 1 rfl) ?_
            refine x_get C hK hP fd_X2_9 0 rfl rfl dX2_readFactor_70 ?_
            refine lv_iconst (v := 5) hx hb dX2_readFactor_73 (by decide) ?_
            obtain ⟨r11, w12, w13, hc14, hf⟩ := bd3_e hf
            refine x_callVI (ws' := [oX2 A_t A_t_text A_t_draft, oX1 A_t_draft A_t_draft_code A_t_draft_letters A_t_draft_valueFrom A_t_draft_testFrom A_t_draft_testEnd A_t_draft_facts A_t_draft_stack x_t_draft_size x_t_draft_rules x_t_draft_height x_t_draft_refused, iA cI 240 A_t_draft_code v_t_draft_code, oX9 A_t_text A_t_text_bytes x_t_text_size x_t_text_end w13 w12, iA cI 260 A_t_text_bytes v_t_text_bytes]) (rest := [.int (0 : Int32), .ref A_t_draft]) C hK hP hD hS hA hl mf_X2_112 (c_X9_readNumber hc14) [3, 4] 0 9 rfl rfl rfl rfl rfl rfl rfl rfl rfl rfl (Nat.le_of_ble_eq_true rfl) ⟨(show 2 + 1 ≤ dp + 1 + 4 by omega), (show 8 + (4 + 11) + 43 ≤ (dp + 1) * 23 + 91 by omega)⟩ ⟨Nat.le_refl _, Nat.le_refl _⟩ dX2_readFactor_74 ?_
            intro H locs hP hD hS
            obtain ⟨r15, w16, w17, hc18, hf⟩ := bd3_e hf
            refine x_callVI (ws' := [oX2 A_t A_t_text A_t_draft, oX1 A_t_draft A_t_draft_code A_t_draft_letters A_t_draft_valueFrom A_t_draft_testFrom A_t_draft_testEnd A_t_draft_facts A_t_draft_stack w17 x_t_draft_rules x_t_draft_height x_t_draft_refused, iA cI 240 A_t_draft_code w16, oX9 A_t_text A_t_text_bytes x_t_text_size x_t_text_end w13 w12, iA cI 260 A_t_text_bytes v_t_text_bytes]) (rest := []) C hK hP hD hS hA hl mf_X2_81 (c_X1_emit hc18) [1, 2] 0 1 rfl rfl rfl rfl rfl rfl rfl rfl rfl rfl (Nat.le_of_ble_eq_true rfl) ⟨(show 0 + 1 ≤ dp + 1 + 4 by omega), (show 8 + (4 + 11) + 0 ≤ (dp + 1) * 23 + 91 by omega)⟩ ⟨Nat.le_refl _, Nat.le_refl _⟩ dX2_readFactor_77 ?_
            intro H locs hP hD hS
            refine lv_pop hx hb dX2_readFactor_80 rfl ?_
            refine lv_goto (tgt := 116) hx hb dX2_readFactor_81 (by decide) ?_
            exact hb_116 w16 w17 w12 w13 _ _ ls (lv_sub hl [] rfl) hP hD hS hf
        · have hf := if_t q hf
          refine lv_aload_n hx hb dX2_readFactor_30 rfl (lv_at hl 1 rfl) ?_
          refine lv_iload_n hx hb dX2_readFactor_31 rfl (lv_at hl 2 rfl) ?_
          obtain ⟨r19, w20, w21, hc22, hf⟩ := bd3_e hf
          refine x_callVI (ws' := [oX2 A_t A_t_text A_t_draft, oX1 A_t_draft A_t_draft_code A_t_draft_letters A_t_draft_valueFrom A_t_draft_testFrom A_t_draft_testEnd A_t_draft_facts A_t_draft_stack x_t_draft_size x_t_draft_rules x_t_draft_height x_t_draft_refused, iA cI 240 A_t_draft_code v_t_draft_code, oX9 A_t_text A_t_text_bytes x_t_text_size x_t_text_end w21 w20, iA cI 260 A_t_text_bytes v_t_text_bytes]) (rest := []) C hK hP hD hS hA hl mf_X2_88 (c_X2_canOpen hc22) [0, 3] 0 2 rfl rfl rfl rfl rfl rfl rfl rfl rfl rfl (Nat.le_of_ble_eq_true rfl) ⟨(show 2 + 1 ≤ dp + 1 + 4 by omega), (show 8 + (2 + 11) + 43 ≤ (dp + 1) * 23 + 91 by omega)⟩ ⟨Nat.le_refl _, Nat.le_refl _⟩ dX2_readFactor_32 ?_
          intro H locs hP hD hS
          refine lv_if_eq (tgt := 116) hx hb dX2_readFactor_35 (by decide) (fun q => ?_) (fun q => ?_)
          · have hf := if_t q hf
            exact hb_116 v_t_draft_code x_t_draft_size w20 w21 _ _ ls (lv_sub hl [] rfl) hP hD hS hf
          · have hf := if_f q hf
            refine lv_aload_n hx hb dX2_readFactor_38 rfl (lv_at hl 1 rfl) ?_
            refine lv_iload_n hx hb dX2_readFactor_39 rfl (lv_at hl 2 rfl) ?_
            refine lv_iconst (v := 1) hx hb dX2_readFactor_40 (by decide) ?_
            refine lv_iadd hx hb dX2_readFactor_41 ?_
            obtain ⟨w23, w24, w25, w26, hc27, hf⟩ := bd4_e hf
            refine x_callVV (ws' := [oX2 A_t A_t_text A_t_draft, oX1 A_t_draft A_t_draft_code A_t_draft_letters A_t_draft_valueFrom A_t_draft_testFrom A_t_draft_testEnd A_t_draft_facts A_t_draft_stack w24 x_t_draft_rules x_t_draft_height x_t_draft_refused, iA cI 240 A_t_draft_code w23, oX9 A_t_text A_t_text_bytes x_t_text_size x_t_text_end w26 w25, iA cI 260 A_t_text_bytes v_t_text_bytes]) (rest := []) C hK hP hD hS hA hl mf_X2_64 (ih_X2_readSum hc27) [0, 1, 2, 3, 4] 0 2 rfl rfl rfl rfl rfl rfl rfl rfl rfl rfl (Nat.le_of_ble_eq_true rfl) ⟨(show dp + 4 + 1 ≤ dp + 1 + 4 by omega), (show 8 + (4 + 11) + (dp * 23 + 91) ≤ (dp + 1) * 23 + 91 by omega)⟩ ⟨Nat.le_refl _, Nat.le_refl _⟩ dX2_readFactor_42 ?_
            intro H locs hP hD hS
            refine lv_aload_n hx hb dX2_readFactor_45 rfl (lv_at hl 1 rfl) ?_
            refine x_get C hK hP fd_X2_9 0 rfl rfl dX2_readFactor_46 ?_
            refine lv_bipush (v := 93) hx hb dX2_readFactor_49 (by decide) ?_
            obtain ⟨w28, w29, hc30, hf⟩ := bd2_e hf
            refine x_callVV (ws' := [oX2 A_t A_t_text A_t_draft, oX1 A_t_draft A_t_draft_code A_t_draft_letters A_t_draft_valueFrom A_t_draft_testFrom A_t_draft_testEnd A_t_draft_facts A_t_draft_stack w24 x_t_draft_rules x_t_draft_height x_t_draft_refused, iA cI 240 A_t_draft_code w23, oX9 A_t_text A_t_text_bytes x_t_text_size x_t_text_end w29 w28, iA cI 260 A_t_text_bytes v_t_text_bytes]) (rest := []) C hK hP hD hS hA hl mf_X2_45 (c_X9_take hc30) [3, 4] 0 9 rfl rfl rfl rfl rfl rfl rfl rfl rfl rfl (Nat.le_of_ble_eq_true rfl) ⟨(show 2 + 1 ≤ dp + 1 + 4 by omega), (show 8 + (2 + 11) + 43 ≤ (dp + 1) * 23 + 91 by omega)⟩ ⟨Nat.le_refl _, Nat.le_refl _⟩ dX2_readFactor_51 ?_
            intro H locs hP hD hS
            refine lv_goto (tgt := 116) hx hb dX2_readFactor_54 (by decide) ?_
            exact hb_116 w23 w24 w28 w29 _ _ ls (lv_sub hl [] rfl) hP hD hS hf
      refine lv_aload_n hx hb dX2_readFactor_0 rfl (lv_at hl 0 rfl) ?_
      refine x_get C hK hP fd_X2_9 0 rfl rfl dX2_readFactor_1 ?_
      obtain ⟨r31, hc32, hf⟩ := bd1_e hf
      refine x_callVI (ws' := [oX2 A_t A_t_text A_t_draft, oX1 A_t_draft A_t_draft_code A_t_draft_letters A_t_draft_valueFrom A_t_draft_testFrom A_t_draft_testEnd A_t_draft_facts A_t_draft_stack x_t_draft_size x_t_draft_rules x_t_draft_height x_t_draft_refused, iA cI 240 A_t_draft_code v_t_draft_code, oX9 A_t_text A_t_text_bytes x_t_text_size x_t_text_end x_t_text_place x_t_text_fault, iA cI 260 A_t_text_bytes v_t_text_bytes]) (rest := []) C hK hP hD hS hA hl mf_X2_51 (c_X9_sign hc32) [3, 4] 0 9 rfl rfl rfl rfl rfl rfl rfl rfl rfl rfl (Nat.le_of_ble_eq_true rfl) ⟨(show 1 + 1 ≤ dp + 1 + 4 by omega), (show 8 + (1 + 11) + 21 ≤ (dp + 1) * 23 + 91 by omega)⟩ ⟨Nat.le_refl _, Nat.le_refl _⟩ dX2_readFactor_4 ?_
      intro H locs hP hD hS
      refine lv_istore_n (lv' := [(2, .int r31), (0, .ref A_t), (1, .int a1)]) hx hb dX2_readFactor_7 rfl hl (by decide) rfl (fun ls hl => ?_)
      refine lv_iload_n hx hb dX2_readFactor_8 rfl (lv_at hl 0 rfl) ?_
      refine lv_if_ge (tgt := 16) hx hb dX2_readFactor_9 (by decide) (fun q => ?_) (fun q => ?_)
      · have hf := if_t q hf
        obtain ⟨aK, aV, hZ, hE⟩ := hK.2.2
        refine va_ldcS hx hb C.2.2.2.1 hZ dX2_readFactor_16 ?_
        refine lv_iload_n hx hb dX2_readFactor_18 rfl (lv_at hl 0 rfl) ?_
        refine lv_i2c hx hb dX2_readFactor_19 rfl ?_
        obtain ⟨r33, hc34, hf⟩ := bd1_e hf
        refine x_callJV (rest := []) C hK hP hD hS hA hl hE mf_X2_103 (c_J0_indexOf_0f7a4 hc34) rfl rfl (Nat.le_of_ble_eq_true rfl) ⟨(show 3 + 1 ≤ dp + 1 + 4 by omega), (show 8 + (2 + 11) + 70 ≤ (dp + 1) * 23 + 91 by omega)⟩ ⟨Nat.le_refl _, Nat.le_refl _⟩ dX2_readFactor_20 ?_
        intro H locs hP hD hS
        exact hb_23 v_t_draft_code x_t_draft_size x_t_text_fault x_t_text_place r33 r31 _ _ ls (lv_sub hl [1, 2, 0] rfl) hP hD hS hf
      · have hf := if_f q hf
        refine lv_iconst (v := -1) hx hb dX2_readFactor_12 (by decide) ?_
        refine lv_goto (tgt := 23) hx hb dX2_readFactor_13 (by decide) ?_
        exact hb_23 v_t_draft_code x_t_draft_size x_t_text_fault x_t_text_place (-1 : Int32) r31 _ _ ls (lv_sub hl [1, 2, 0] rfl) hP hD hS hf
theorem c_X2_readSum {l : Launch} {D : va_G} {cI cB : ClassId} {A_t A_t_text A_t_draft A_t_draft_code A_t_draft_letters A_t_draft_valueFrom A_t_draft_testFrom A_t_draft_testEnd A_t_draft_facts A_t_draft_stack A_t_text_bytes : Nat} {x_t_draft_size x_t_draft_rules x_t_draft_height x_t_draft_refused x_t_text_size x_t_text_end x_t_text_place x_t_text_fault a1 : Int32} {v_t_draft_code v_t_text_bytes : Nat → Int32} {o_x_t_draft_size o_x_t_text_fault o_x_t_text_place : Int32} {o_v_t_draft_code : Nat → Int32} (hf : f_X2_readSum DP v_t_draft_code v_t_text_bytes x_t_draft_size x_t_text_end x_t_text_fault x_t_text_place x_t_text_size a1 = some (o_v_t_draft_code, o_x_t_draft_size, o_x_t_text_fault, o_x_t_text_place)) : CtV l D cI cB yX2_readSum cX2_readSum 4 44 1011 [.ref A_t, .int a1] [oX2 A_t A_t_text A_t_draft, oX1 A_t_draft A_t_draft_code A_t_draft_letters A_t_draft_valueFrom A_t_draft_testFrom A_t_draft_testEnd A_t_draft_facts A_t_draft_stack x_t_draft_size x_t_draft_rules x_t_draft_height x_t_draft_refused, iA cI 240 A_t_draft_code v_t_draft_code, oX9 A_t_text A_t_text_bytes x_t_text_size x_t_text_end x_t_text_place x_t_text_fault, iA cI 260 A_t_text_bytes v_t_text_bytes] [oX2 A_t A_t_text A_t_draft, oX1 A_t_draft A_t_draft_code A_t_draft_letters A_t_draft_valueFrom A_t_draft_testFrom A_t_draft_testEnd A_t_draft_facts A_t_draft_stack o_x_t_draft_size x_t_draft_rules x_t_draft_height x_t_draft_refused, iA cI 240 A_t_draft_code o_v_t_draft_code, oX9 A_t_text A_t_text_bytes x_t_text_size x_t_text_end o_x_t_text_place o_x_t_text_fault, iA cI 260 A_t_text_bytes v_t_text_bytes] := (cc_X2_readSum l D cI cB DP).1 hf
theorem c_X2_readTerm {l : Launch} {D : va_G} {cI cB : ClassId} {A_t A_t_text A_t_draft A_t_draft_code A_t_draft_letters A_t_draft_valueFrom A_t_draft_testFrom A_t_draft_testEnd A_t_draft_facts A_t_draft_stack A_t_text_bytes : Nat} {x_t_draft_size x_t_draft_rules x_t_draft_height x_t_draft_refused x_t_text_size x_t_text_end x_t_text_place x_t_text_fault a1 : Int32} {v_t_draft_code v_t_text_bytes : Nat → Int32} {o_x_t_draft_size o_x_t_text_fault o_x_t_text_place : Int32} {o_v_t_draft_code : Nat → Int32} (hf : f_X2_readTerm DP v_t_draft_code v_t_text_bytes x_t_draft_size x_t_text_end x_t_text_fault x_t_text_place x_t_text_size a1 = some (o_v_t_draft_code, o_x_t_draft_size, o_x_t_text_fault, o_x_t_text_place)) : CtV l D cI cB yX2_readTerm cX2_readTerm 4 44 1011 [.ref A_t, .int a1] [oX2 A_t A_t_text A_t_draft, oX1 A_t_draft A_t_draft_code A_t_draft_letters A_t_draft_valueFrom A_t_draft_testFrom A_t_draft_testEnd A_t_draft_facts A_t_draft_stack x_t_draft_size x_t_draft_rules x_t_draft_height x_t_draft_refused, iA cI 240 A_t_draft_code v_t_draft_code, oX9 A_t_text A_t_text_bytes x_t_text_size x_t_text_end x_t_text_place x_t_text_fault, iA cI 260 A_t_text_bytes v_t_text_bytes] [oX2 A_t A_t_text A_t_draft, oX1 A_t_draft A_t_draft_code A_t_draft_letters A_t_draft_valueFrom A_t_draft_testFrom A_t_draft_testEnd A_t_draft_facts A_t_draft_stack o_x_t_draft_size x_t_draft_rules x_t_draft_height x_t_draft_refused, iA cI 240 A_t_draft_code o_v_t_draft_code, oX9 A_t_text A_t_text_bytes x_t_text_size x_t_text_end o_x_t_text_place o_x_t_text_fault, iA cI 260 A_t_text_bytes v_t_text_bytes] := (cc_X2_readSum l D cI cB DP).2.1 hf
theorem c_X2_readFactor {l : Launch} {D : va_G} {cI cB : ClassId} {A_t A_t_text A_t_draft A_t_draft_code A_t_draft_letters A_t_draft_valueFrom A_t_draft_testFrom A_t_draft_testEnd A_t_draft_facts A_t_draft_stack A_t_text_bytes : Nat} {x_t_draft_size x_t_draft_rules x_t_draft_height x_t_draft_refused x_t_text_size x_t_text_end x_t_text_place x_t_text_fault a1 : Int32} {v_t_draft_code v_t_text_bytes : Nat → Int32} {o_x_t_draft_size o_x_t_text_fault o_x_t_text_place : Int32} {o_v_t_draft_code : Nat → Int32} (hf : f_X2_readFactor DP v_t_draft_code v_t_text_bytes x_t_draft_size x_t_text_end x_t_text_fault x_t_text_place x_t_text_size a1 = some (o_v_t_draft_code, o_x_t_draft_size, o_x_t_text_fault, o_x_t_text_place)) : CtV l D cI cB yX2_readFactor cX2_readFactor 4 44 1011 [.ref A_t, .int a1] [oX2 A_t A_t_text A_t_draft, oX1 A_t_draft A_t_draft_code A_t_draft_letters A_t_draft_valueFrom A_t_draft_testFrom A_t_draft_testEnd A_t_draft_facts A_t_draft_stack x_t_draft_size x_t_draft_rules x_t_draft_height x_t_draft_refused, iA cI 240 A_t_draft_code v_t_draft_code, oX9 A_t_text A_t_text_bytes x_t_text_size x_t_text_end x_t_text_place x_t_text_fault, iA cI 260 A_t_text_bytes v_t_text_bytes] [oX2 A_t A_t_text A_t_draft, oX1 A_t_draft A_t_draft_code A_t_draft_letters A_t_draft_valueFrom A_t_draft_testFrom A_t_draft_testEnd A_t_draft_facts A_t_draft_stack o_x_t_draft_size x_t_draft_rules x_t_draft_height x_t_draft_refused, iA cI 240 A_t_draft_code o_v_t_draft_code, oX9 A_t_text A_t_text_bytes x_t_text_size x_t_text_end o_x_t_text_place o_x_t_text_fault, iA cI 260 A_t_text_bytes v_t_text_bytes] := (cc_X2_readSum l D cI cB DP).2.2 hf
def f_X2_readComparison_b66 (x_t_text_fault : Int32) (x_t_text_place : Int32) (s0 : Int32) : Option (Int32 × Int32 × Int32) :=
  some (s0, x_t_text_fault, x_t_text_place)
def f_X2_readComparison_b37 (x_t_text_end : Int32) (x_t_text_fault : Int32) (x_t_text_place : Int32) (l1 : Int32) : Option (Int32 × Int32 × Int32) :=
  bd1 (f_X9_step x_t_text_end x_t_text_place) (fun w1 =>
  if l1 = (61 : Int32) then
    some ((12 : Int32), x_t_text_fault, w1)
  else
    if l1 = (60 : Int32) then
      f_X2_readComparison_b66 x_t_text_fault w1 (10 : Int32)
    else
      f_X2_readComparison_b66 x_t_text_fault w1 (11 : Int32))
def f_X2_readComparison (v_t_text_bytes : (Nat → Int32)) (x_t_text_end : Int32) (x_t_text_fault : Int32) (x_t_text_place : Int32) (x_t_text_size : Int32) : Option (Int32 × Int32 × Int32) :=
  bd1 (f_X9_sign v_t_text_bytes x_t_text_end x_t_text_fault x_t_text_place x_t_text_size) (fun r2 =>
  if r2 = (60 : Int32) then
    f_X2_readComparison_b37 x_t_text_end x_t_text_fault x_t_text_place r2
  else
    if r2 = (62 : Int32) then
      f_X2_readComparison_b37 x_t_text_end x_t_text_fault x_t_text_place r2
    else
      if r2 = (61 : Int32) then
        f_X2_readComparison_b37 x_t_text_end x_t_text_fault x_t_text_place r2
      else
        bd1 (f_X9_fail x_t_text_fault x_t_text_place (1 : Int32)) (fun w3 =>
        some ((12 : Int32), w3, x_t_text_place)))
set_option maxHeartbeats 4000000 in
set_option maxRecDepth 100000 in
theorem c_X2_readComparison {l : Launch} {D : va_G} {cI cB : ClassId} {A_t A_t_text A_t_draft A_t_text_bytes : Nat} {x_t_text_size x_t_text_end x_t_text_place x_t_text_fault : Int32} {v_t_text_bytes : Nat → Int32} {o_r o_x_t_text_fault o_x_t_text_place : Int32} (hf : f_X2_readComparison v_t_text_bytes x_t_text_end x_t_text_fault x_t_text_place x_t_text_size = some (o_r, o_x_t_text_fault, o_x_t_text_place)) : CtI l D cI cB yX2_readComparison cX2_readComparison 2 (some .int) 2 43 [.ref A_t] [oX2 A_t A_t_text A_t_draft, oX9 A_t_text A_t_text_bytes x_t_text_size x_t_text_end x_t_text_place x_t_text_fault, iA cI 260 A_t_text_bytes v_t_text_bytes] [oX2 A_t A_t_text A_t_draft, oX9 A_t_text A_t_text_bytes x_t_text_size x_t_text_end o_x_t_text_place o_x_t_text_fault, iA cI 260 A_t_text_bytes v_t_text_bytes] o_r := by
  refine x_startI (by decide) (Nat.le_of_ble_eq_true rfl) ?_
  intro p e s m below meth c A C hr hlk hA hK hP hD hS ls hl
  have hl : lv_has ls 2 [(0, .ref A_t)] := hl
  have hx := C.1
  have hb := C.2.1
  unfold f_X2_readComparison at hf
  have hb_66 : ∀ (x_t_text_fault : Int32) (x_t_text_place : Int32) (s0 : Int32) (H : Heap) (locs : List Loc) (ls : Array Slot), lv_has ls 2 [] → va_P D vwCl [oX2 A_t A_t_text A_t_draft, oX9 A_t_text A_t_text_bytes x_t_text_size x_t_text_end x_t_text_place x_t_text_fault, iA cI 260 A_t_text_bytes v_t_text_bytes] H → va_D A [oX2 A_t A_t_text A_t_draft, oX9 A_t_text A_t_text_bytes x_t_text_size x_t_text_end x_t_text_place x_t_text_fault, iA cI 260 A_t_text_bytes v_t_text_bytes] → va_S A s.heap H locs → f_X2_readComparison_b66 x_t_text_fault x_t_text_place s0 = some (o_r, o_x_t_text_fault, o_x_t_text_place) → W p l e { frames := 2, cells := 0, slots := 0, locals := 43 } s m ([.ref A_t] : List Value).toArray below meth c H locs 0 0 (MQ below (PoI D A [oX2 A_t A_t_text A_t_draft, oX9 A_t_text A_t_text_bytes x_t_text_size x_t_text_end o_x_t_text_place o_x_t_text_fault, iA cI 260 A_t_text_bytes v_t_text_bytes] o_r) ([.ref A_t] : List Value).toArray s 0 0 A) (F0 m 66 ls [.int s0]) := by
    intro x_t_text_fault x_t_text_place s0 H locs ls hl hP hD hS hf
    unfold f_X2_readComparison_b66 at hf
    obtain ⟨rfl, rfl, rfl⟩ := ev3 hf
    exact x_iret C hr hlk hP hD hS dX2_readComparison_66
  have hb_37 : ∀ (x_t_text_fault : Int32) (x_t_text_place : Int32) (l1 : Int32) (H : Heap) (locs : List Loc) (ls : Array Slot), lv_has ls 2 [(0, .ref A_t), (1, .int l1)] → va_P D vwCl [oX2 A_t A_t_text A_t_draft, oX9 A_t_text A_t_text_bytes x_t_text_size x_t_text_end x_t_text_place x_t_text_fault, iA cI 260 A_t_text_bytes v_t_text_bytes] H → va_D A [oX2 A_t A_t_text A_t_draft, oX9 A_t_text A_t_text_bytes x_t_text_size x_t_text_end x_t_text_place x_t_text_fault, iA cI 260 A_t_text_bytes v_t_text_bytes] → va_S A s.heap H locs → f_X2_readComparison_b37 x_t_text_end x_t_text_fault x_t_text_place l1 = some (o_r, o_x_t_text_fault, o_x_t_text_place) → W p l e { frames := 2, cells := 0, slots := 0, locals := 43 } s m ([.ref A_t] : List Value).toArray below meth c H locs 0 0 (MQ below (PoI D A [oX2 A_t A_t_text A_t_draft, oX9 A_t_text A_t_text_bytes x_t_text_size x_t_text_end o_x_t_text_place o_x_t_text_fault, iA cI 260 A_t_text_bytes v_t_text_bytes] o_r) ([.ref A_t] : List Value).toArray s 0 0 A) (F0 m 37 ls []) := by
    intro x_t_text_fault x_t_text_place l1 H locs ls hl hP hD hS hf
    unfold f_X2_readComparison_b37 at hf
    refine lv_aload_n hx hb dX2_readComparison_37 rfl (lv_at hl 0 rfl) ?_
    refine x_get C hK hP fd_X2_9 0 rfl rfl dX2_readComparison_38 ?_
    obtain ⟨w1, hc2, hf⟩ := bd1_e hf
    refine x_callVV (ws' := [oX2 A_t A_t_text A_t_draft, oX9 A_t_text A_t_text_bytes x_t_text_size x_t_text_end w1 x_t_text_fault, iA cI 260 A_t_text_bytes v_t_text_bytes]) (rest := []) C hK hP hD hS hA hl mf_X2_58 (c_X9_step hc2) [1] 0 9 rfl rfl rfl rfl rfl rfl rfl rfl rfl rfl (Nat.le_of_ble_eq_true rfl) ⟨Nat.le_of_ble_eq_true rfl, Nat.le_of_ble_eq_true rfl⟩ ⟨Nat.le_refl _, Nat.le_refl _⟩ dX2_readComparison_41 ?_
    intro H locs hP hD hS
    refine lv_iload_n hx hb dX2_readComparison_44 rfl (lv_at hl 1 rfl) ?_
    refine lv_bipush (v := 61) hx hb dX2_readComparison_45 (by decide) ?_
    refine lv_icmp_ne (tgt := 53) hx hb dX2_readComparison_47 (by decide) (fun q => ?_) (fun q => ?_)
    · have hf := if_f q hf
      refine lv_iload_n hx hb dX2_readComparison_53 rfl (lv_at hl 1 rfl) ?_
      refine lv_bipush (v := 60) hx hb dX2_readComparison_54 (by decide) ?_
      refine lv_icmp_ne (tgt := 64) hx hb dX2_readComparison_56 (by decide) (fun q => ?_) (fun q => ?_)
      · have hf := if_f q hf
        refine lv_bipush (v := 11) hx hb dX2_readComparison_64 (by decide) ?_
        exact hb_66 x_t_text_fault w1 (11 : Int32) _ _ ls (lv_sub hl [] rfl) hP hD hS hf
      · have hf := if_t q hf
        refine lv_bipush (v := 10) hx hb dX2_readComparison_59 (by decide) ?_
        refine lv_goto (tgt := 66) hx hb dX2_readComparison_61 (by decide) ?_
        exact hb_66 x_t_text_fault w1 (10 : Int32) _ _ ls (lv_sub hl [] rfl) hP hD hS hf
    · have hf := if_t q hf
      refine lv_bipush (v := 12) hx hb dX2_readComparison_50 (by decide) ?_
      obtain ⟨rfl, rfl, rfl⟩ := ev3 hf
      exact x_iret C hr hlk hP hD hS dX2_readComparison_52
  refine lv_aload_n hx hb dX2_readComparison_0 rfl (lv_at hl 0 rfl) ?_
  refine x_get C hK hP fd_X2_9 0 rfl rfl dX2_readComparison_1 ?_
  obtain ⟨r3, hc4, hf⟩ := bd1_e hf
  refine x_callVI (ws' := [oX2 A_t A_t_text A_t_draft, oX9 A_t_text A_t_text_bytes x_t_text_size x_t_text_end x_t_text_place x_t_text_fault, iA cI 260 A_t_text_bytes v_t_text_bytes]) (rest := []) C hK hP hD hS hA hl mf_X2_51 (c_X9_sign hc4) [1, 2] 0 9 rfl rfl rfl rfl rfl rfl rfl rfl rfl rfl (Nat.le_of_ble_eq_true rfl) ⟨Nat.le_of_ble_eq_true rfl, Nat.le_of_ble_eq_true rfl⟩ ⟨Nat.le_refl _, Nat.le_refl _⟩ dX2_readComparison_4 ?_
  intro H locs hP hD hS
  refine lv_istore_n (lv' := [(1, .int r3), (0, .ref A_t)]) hx hb dX2_readComparison_7 rfl hl (by decide) rfl (fun ls hl => ?_)
  refine lv_iload_n hx hb dX2_readComparison_8 rfl (lv_at hl 0 rfl) ?_
  refine lv_bipush (v := 60) hx hb dX2_readComparison_9 (by decide) ?_
  refine lv_icmp_eq (tgt := 37) hx hb dX2_readComparison_11 (by decide) (fun q => ?_) (fun q => ?_)
  · have hf := if_t q hf
    exact hb_37 x_t_text_fault x_t_text_place r3 _ _ ls (lv_sub hl [1, 0] rfl) hP hD hS hf
  · have hf := if_f q hf
    refine lv_iload_n hx hb dX2_readComparison_14 rfl (lv_at hl 0 rfl) ?_
    refine lv_bipush (v := 62) hx hb dX2_readComparison_15 (by decide) ?_
    refine lv_icmp_eq (tgt := 37) hx hb dX2_readComparison_17 (by decide) (fun q => ?_) (fun q => ?_)
    · have hf := if_t q hf
      exact hb_37 x_t_text_fault x_t_text_place r3 _ _ ls (lv_sub hl [1, 0] rfl) hP hD hS hf
    · have hf := if_f q hf
      refine lv_iload_n hx hb dX2_readComparison_20 rfl (lv_at hl 0 rfl) ?_
      refine lv_bipush (v := 61) hx hb dX2_readComparison_21 (by decide) ?_
      refine lv_icmp_eq (tgt := 37) hx hb dX2_readComparison_23 (by decide) (fun q => ?_) (fun q => ?_)
      · have hf := if_t q hf
        exact hb_37 x_t_text_fault x_t_text_place r3 _ _ ls (lv_sub hl [1, 0] rfl) hP hD hS hf
      · have hf := if_f q hf
        refine lv_aload_n hx hb dX2_readComparison_26 rfl (lv_at hl 1 rfl) ?_
        refine x_get C hK hP fd_X2_9 0 rfl rfl dX2_readComparison_27 ?_
        refine lv_iconst (v := 1) hx hb dX2_readComparison_30 (by decide) ?_
        obtain ⟨w5, hc6, hf⟩ := bd1_e hf
        refine x_callVV (ws' := [oX2 A_t A_t_text A_t_draft, oX9 A_t_text A_t_text_bytes x_t_text_size x_t_text_end x_t_text_place w5, iA cI 260 A_t_text_bytes v_t_text_bytes]) (rest := []) C hK hP hD hS hA hl mf_X2_55 (c_X9_fail hc6) [1] 0 9 rfl rfl rfl rfl rfl rfl rfl rfl rfl rfl (Nat.le_of_ble_eq_true rfl) ⟨Nat.le_of_ble_eq_true rfl, Nat.le_of_ble_eq_true rfl⟩ ⟨Nat.le_refl _, Nat.le_refl _⟩ dX2_readComparison_31 ?_
        intro H locs hP hD hS
        refine lv_bipush (v := 12) hx hb dX2_readComparison_34 (by decide) ?_
        obtain ⟨rfl, rfl, rfl⟩ := ev3 hf
        exact x_iret C hr hlk hP hD hS dX2_readComparison_36
def f_X2_readAny_b71 (G_X2_readAny : (Nat → Int32) → (Nat → Int32) → Int32 → Int32 → Int32 → Int32 → Int32 → Int32 → Option ((Nat → Int32) × Int32 × Int32 × Int32)) (G_X2_readAll : (Nat → Int32) → (Nat → Int32) → Int32 → Int32 → Int32 → Int32 → Int32 → Int32 → Option ((Nat → Int32) × Int32 × Int32 × Int32)) (G_X2_readTest : (Nat → Int32) → (Nat → Int32) → Int32 → Int32 → Int32 → Int32 → Int32 → Int32 → Option ((Nat → Int32) × Int32 × Int32 × Int32)) (v_t_draft_code : (Nat → Int32)) (x_t_draft_size : Int32) (x_t_text_fault : Int32) (x_t_text_place : Int32) (l2 : Int32) : Option ((Nat → Int32) × Int32 × Int32 × Int32) :=
  bd1 (f_X1_leapTo v_t_draft_code l2 x_t_draft_size) (fun w1 =>
  some (w1, x_t_draft_size, x_t_text_fault, x_t_text_place))
def f_X2_readAny_b9 (G_X2_readAny : (Nat → Int32) → (Nat → Int32) → Int32 → Int32 → Int32 → Int32 → Int32 → Int32 → Option ((Nat → Int32) × Int32 × Int32 × Int32)) (G_X2_readAll : (Nat → Int32) → (Nat → Int32) → Int32 → Int32 → Int32 → Int32 → Int32 → Int32 → Option ((Nat → Int32) × Int32 × Int32 × Int32)) (G_X2_readTest : (Nat → Int32) → (Nat → Int32) → Int32 → Int32 → Int32 → Int32 → Int32 → Int32 → Option ((Nat → Int32) × Int32 × Int32 × Int32)) (v_t_text_bytes : (Nat → Int32)) (x_t_text_end : Int32) (x_t_text_size : Int32) (a1 : Int32) : Nat → (Nat → Int32) → Int32 → Int32 → Int32 → Int32 → Int32 → Option ((Nat → Int32) × Int32 × Int32 × Int32)
  | 0, _, _, _, _, _, _ => none
  | n + 1, v_t_draft_code, x_t_draft_size, x_t_text_fault, x_t_text_place, l2, l3 =>
    if (240 : Int32) ≤ l3 then
      f_X2_readAny_b71 G_X2_readAny G_X2_readAll G_X2_readTest v_t_draft_code x_t_draft_size x_t_text_fault x_t_text_place l2
    else
      bd1 (f_X9_sign v_t_text_bytes x_t_text_end x_t_text_fault x_t_text_place x_t_text_size) (fun r1 =>
      if r1 = (124 : Int32) then
        bd1 (f_X9_step x_t_text_end x_t_text_place) (fun w2 =>
        bd1 (f_X1_leapTo v_t_draft_code l2 x_t_draft_size) (fun w3 =>
        bd3 (f_X1_emit w3 x_t_draft_size (3 : Int32) (0 : Int32)) (fun r4 w5 w6 =>
        bd4 (G_X2_readAll w5 v_t_text_bytes w6 x_t_text_end x_t_text_fault w2 x_t_text_size a1) (fun w7 w8 w9 w10 =>
        f_X2_readAny_b9 G_X2_readAny G_X2_readAll G_X2_readTest v_t_text_bytes x_t_text_end x_t_text_size a1 n w7 w8 w9 w10 r4 (l3 + (1 : Int32))))))
      else
        f_X2_readAny_b71 G_X2_readAny G_X2_readAll G_X2_readTest v_t_draft_code x_t_draft_size x_t_text_fault x_t_text_place l2)
def fo_X2_readAny (G_X2_readAny : (Nat → Int32) → (Nat → Int32) → Int32 → Int32 → Int32 → Int32 → Int32 → Int32 → Option ((Nat → Int32) × Int32 × Int32 × Int32)) (G_X2_readAll : (Nat → Int32) → (Nat → Int32) → Int32 → Int32 → Int32 → Int32 → Int32 → Int32 → Option ((Nat → Int32) × Int32 × Int32 × Int32)) (G_X2_readTest : (Nat → Int32) → (Nat → Int32) → Int32 → Int32 → Int32 → Int32 → Int32 → Int32 → Option ((Nat → Int32) × Int32 × Int32 × Int32)) (v_t_draft_code : (Nat → Int32)) (v_t_text_bytes : (Nat → Int32)) (x_t_draft_size : Int32) (x_t_text_end : Int32) (x_t_text_fault : Int32) (x_t_text_place : Int32) (x_t_text_size : Int32) (a1 : Int32) : Option ((Nat → Int32) × Int32 × Int32 × Int32) :=
  bd4 (G_X2_readAll v_t_draft_code v_t_text_bytes x_t_draft_size x_t_text_end x_t_text_fault x_t_text_place x_t_text_size a1) (fun w11 w12 w13 w14 =>
  f_X2_readAny_b9 G_X2_readAny G_X2_readAll G_X2_readTest v_t_text_bytes x_t_text_end x_t_text_size a1 FU w11 w12 w13 w14 (-1 : Int32) (0 : Int32))
def f_X2_readAll_b71 (G_X2_readAny : (Nat → Int32) → (Nat → Int32) → Int32 → Int32 → Int32 → Int32 → Int32 → Int32 → Option ((Nat → Int32) × Int32 × Int32 × Int32)) (G_X2_readAll : (Nat → Int32) → (Nat → Int32) → Int32 → Int32 → Int32 → Int32 → Int32 → Int32 → Option ((Nat → Int32) × Int32 × Int32 × Int32)) (G_X2_readTest : (Nat → Int32) → (Nat → Int32) → Int32 → Int32 → Int32 → Int32 → Int32 → Int32 → Option ((Nat → Int32) × Int32 × Int32 × Int32)) (v_t_draft_code : (Nat → Int32)) (x_t_draft_size : Int32) (x_t_text_fault : Int32) (x_t_text_place : Int32) (l2 : Int32) : Option ((Nat → Int32) × Int32 × Int32 × Int32) :=
  bd1 (f_X1_leapTo v_t_draft_code l2 x_t_draft_size) (fun w1 =>
  some (w1, x_t_draft_size, x_t_text_fault, x_t_text_place))
def f_X2_readAll_b9 (G_X2_readAny : (Nat → Int32) → (Nat → Int32) → Int32 → Int32 → Int32 → Int32 → Int32 → Int32 → Option ((Nat → Int32) × Int32 × Int32 × Int32)) (G_X2_readAll : (Nat → Int32) → (Nat → Int32) → Int32 → Int32 → Int32 → Int32 → Int32 → Int32 → Option ((Nat → Int32) × Int32 × Int32 × Int32)) (G_X2_readTest : (Nat → Int32) → (Nat → Int32) → Int32 → Int32 → Int32 → Int32 → Int32 → Int32 → Option ((Nat → Int32) × Int32 × Int32 × Int32)) (v_t_text_bytes : (Nat → Int32)) (x_t_text_end : Int32) (x_t_text_size : Int32) (a1 : Int32) : Nat → (Nat → Int32) → Int32 → Int32 → Int32 → Int32 → Int32 → Option ((Nat → Int32) × Int32 × Int32 × Int32)
  | 0, _, _, _, _, _, _ => none
  | n + 1, v_t_draft_code, x_t_draft_size, x_t_text_fault, x_t_text_place, l2, l3 =>
    if (240 : Int32) ≤ l3 then
      f_X2_readAll_b71 G_X2_readAny G_X2_readAll G_X2_readTest v_t_draft_code x_t_draft_size x_t_text_fault x_t_text_place l2
    else
      bd1 (f_X9_sign v_t_text_bytes x_t_text_end x_t_text_fault x_t_text_place x_t_text_size) (fun r1 =>
      if r1 = (38 : Int32) then
        bd1 (f_X9_step x_t_text_end x_t_text_place) (fun w2 =>
        bd1 (f_X1_leapTo v_t_draft_code l2 x_t_draft_size) (fun w3 =>
        bd3 (f_X1_emit w3 x_t_draft_size (4 : Int32) (0 : Int32)) (fun r4 w5 w6 =>
        bd4 (G_X2_readTest w5 v_t_text_bytes w6 x_t_text_end x_t_text_fault w2 x_t_text_size a1) (fun w7 w8 w9 w10 =>
        f_X2_readAll_b9 G_X2_readAny G_X2_readAll G_X2_readTest v_t_text_bytes x_t_text_end x_t_text_size a1 n w7 w8 w9 w10 r4 (l3 + (1 : Int32))))))
      else
        f_X2_readAll_b71 G_X2_readAny G_X2_readAll G_X2_readTest v_t_draft_code x_t_draft_size x_t_text_fault x_t_text_place l2)
def fo_X2_readAll (G_X2_readAny : (Nat → Int32) → (Nat → Int32) → Int32 → Int32 → Int32 → Int32 → Int32 → Int32 → Option ((Nat → Int32) × Int32 × Int32 × Int32)) (G_X2_readAll : (Nat → Int32) → (Nat → Int32) → Int32 → Int32 → Int32 → Int32 → Int32 → Int32 → Option ((Nat → Int32) × Int32 × Int32 × Int32)) (G_X2_readTest : (Nat → Int32) → (Nat → Int32) → Int32 → Int32 → Int32 → Int32 → Int32 → Int32 → Option ((Nat → Int32) × Int32 × Int32 × Int32)) (v_t_draft_code : (Nat → Int32)) (v_t_text_bytes : (Nat → Int32)) (x_t_draft_size : Int32) (x_t_text_end : Int32) (x_t_text_fault : Int32) (x_t_text_place : Int32) (x_t_text_size : Int32) (a1 : Int32) : Option ((Nat → Int32) × Int32 × Int32 × Int32) :=
  bd4 (G_X2_readTest v_t_draft_code v_t_text_bytes x_t_draft_size x_t_text_end x_t_text_fault x_t_text_place x_t_text_size a1) (fun w11 w12 w13 w14 =>
  f_X2_readAll_b9 G_X2_readAny G_X2_readAll G_X2_readTest v_t_text_bytes x_t_text_end x_t_text_size a1 FU w11 w12 w13 w14 (-1 : Int32) (0 : Int32))
def f_X2_readTest_b100 (G_X2_readAny : (Nat → Int32) → (Nat → Int32) → Int32 → Int32 → Int32 → Int32 → Int32 → Int32 → Option ((Nat → Int32) × Int32 × Int32 × Int32)) (G_X2_readAll : (Nat → Int32) → (Nat → Int32) → Int32 → Int32 → Int32 → Int32 → Int32 → Int32 → Option ((Nat → Int32) × Int32 × Int32 × Int32)) (G_X2_readTest : (Nat → Int32) → (Nat → Int32) → Int32 → Int32 → Int32 → Int32 → Int32 → Int32 → Option ((Nat → Int32) × Int32 × Int32 × Int32)) (v_t_draft_code : (Nat → Int32)) (x_t_draft_size : Int32) (x_t_text_fault : Int32) (x_t_text_place : Int32) : Option ((Nat → Int32) × Int32 × Int32 × Int32) :=
  some (v_t_draft_code, x_t_draft_size, x_t_text_fault, x_t_text_place)
def fo_X2_readTest (G_X2_readAny : (Nat → Int32) → (Nat → Int32) → Int32 → Int32 → Int32 → Int32 → Int32 → Int32 → Option ((Nat → Int32) × Int32 × Int32 × Int32)) (G_X2_readAll : (Nat → Int32) → (Nat → Int32) → Int32 → Int32 → Int32 → Int32 → Int32 → Int32 → Option ((Nat → Int32) × Int32 × Int32 × Int32)) (G_X2_readTest : (Nat → Int32) → (Nat → Int32) → Int32 → Int32 → Int32 → Int32 → Int32 → Int32 → Option ((Nat → Int32) × Int32 × Int32 × Int32)) (v_t_draft_code : (Nat → Int32)) (v_t_text_bytes : (Nat → Int32)) (x_t_draft_size : Int32) (x_t_text_end : Int32) (x_t_text_fault : Int32) (x_t_text_place : Int32) (x_t_text_size : Int32) (a1 : Int32) : Option ((Nat → Int32) × Int32 × Int32 × Int32) :=
  bd1 (f_X9_sign v_t_text_bytes x_t_text_end x_t_text_fault x_t_text_place x_t_text_size) (fun r1 =>
  if r1 = (33 : Int32) then
    bd3 (f_X2_canOpen x_t_text_end x_t_text_fault x_t_text_place a1) (fun r25 w26 w27 =>
    if r25 = 0 then
      f_X2_readTest_b100 G_X2_readAny G_X2_readAll G_X2_readTest v_t_draft_code x_t_draft_size w26 w27
    else
      bd4 (G_X2_readTest v_t_draft_code v_t_text_bytes x_t_draft_size x_t_text_end w26 w27 x_t_text_size (a1 + (1 : Int32))) (fun w28 w29 w30 w31 =>
      bd3 (f_X1_emit w28 w29 (2 : Int32) (0 : Int32)) (fun r32 w33 w34 =>
      f_X2_readTest_b100 G_X2_readAny G_X2_readAll G_X2_readTest w33 w34 w30 w31)))
  else
    if r1 = (40 : Int32) then
      bd3 (f_X2_canOpen x_t_text_end x_t_text_fault x_t_text_place a1) (fun r16 w17 w18 =>
      if r16 = 0 then
        f_X2_readTest_b100 G_X2_readAny G_X2_readAll G_X2_readTest v_t_draft_code x_t_draft_size w17 w18
      else
        bd4 (G_X2_readAny v_t_draft_code v_t_text_bytes x_t_draft_size x_t_text_end w17 w18 x_t_text_size (a1 + (1 : Int32))) (fun w19 w20 w21 w22 =>
        bd2 (f_X9_take v_t_text_bytes x_t_text_end w21 w22 x_t_text_size (41 : Int32)) (fun w23 w24 =>
        f_X2_readTest_b100 G_X2_readAny G_X2_readAll G_X2_readTest w19 w20 w23 w24)))
    else
      bd4 (f_X2_readSum DP v_t_draft_code v_t_text_bytes x_t_draft_size x_t_text_end x_t_text_fault x_t_text_place x_t_text_size a1) (fun w2 w3 w4 w5 =>
      bd3 (f_X2_readComparison v_t_text_bytes x_t_text_end w4 w5 x_t_text_size) (fun r6 w7 w8 =>
      bd4 (f_X2_readSum DP w2 v_t_text_bytes w3 x_t_text_end w7 w8 x_t_text_size a1) (fun w9 w10 w11 w12 =>
      bd3 (f_X1_emit w9 w10 r6 (0 : Int32)) (fun r13 w14 w15 =>
      f_X2_readTest_b100 G_X2_readAny G_X2_readAll G_X2_readTest w14 w15 w11 w12)))))
def frec_X2_readAny : Nat → (((Nat → Int32) → (Nat → Int32) → Int32 → Int32 → Int32 → Int32 → Int32 → Int32 → Option ((Nat → Int32) × Int32 × Int32 × Int32)) × ((Nat → Int32) → (Nat → Int32) → Int32 → Int32 → Int32 → Int32 → Int32 → Int32 → Option ((Nat → Int32) × Int32 × Int32 × Int32)) × ((Nat → Int32) → (Nat → Int32) → Int32 → Int32 → Int32 → Int32 → Int32 → Int32 → Option ((Nat → Int32) × Int32 × Int32 × Int32)))
  | 0 => (fun _ _ _ _ _ _ _ _ => none, fun _ _ _ _ _ _ _ _ => none, fun _ _ _ _ _ _ _ _ => none)
  | d + 1 => (fo_X2_readAny (frec_X2_readAny d).1 (frec_X2_readAny d).2.1 (frec_X2_readAny d).2.2, fo_X2_readAll (frec_X2_readAny d).1 (frec_X2_readAny d).2.1 (frec_X2_readAny d).2.2, fo_X2_readTest (frec_X2_readAny d).1 (frec_X2_readAny d).2.1 (frec_X2_readAny d).2.2)
def f_X2_readAny (d : Nat) : (Nat → Int32) → (Nat → Int32) → Int32 → Int32 → Int32 → Int32 → Int32 → Int32 → Option ((Nat → Int32) × Int32 × Int32 × Int32) := (frec_X2_readAny d).1
def f_X2_readAll (d : Nat) : (Nat → Int32) → (Nat → Int32) → Int32 → Int32 → Int32 → Int32 → Int32 → Int32 → Option ((Nat → Int32) × Int32 × Int32 × Int32) := (frec_X2_readAny d).2.1
def f_X2_readTest (d : Nat) : (Nat → Int32) → (Nat → Int32) → Int32 → Int32 → Int32 → Int32 → Int32 → Int32 → Option ((Nat → Int32) × Int32 × Int32 × Int32) := (frec_X2_readAny d).2.2
set_option maxHeartbeats 8000000 in
set_option maxRecDepth 100000 in
theorem cc_X2_readAny (l : Launch) (D : va_G) (cI cB : ClassId) : ∀ dp : Nat, (∀ {A_t A_t_text A_t_draft A_t_draft_code A_t_draft_letters A_t_draft_valueFrom A_t_draft_testFrom A_t_draft_testEnd A_t_draft_facts A_t_draft_stack A_t_text_bytes : Nat} {x_t_draft_size x_t_draft_rules x_t_draft_height x_t_draft_refused x_t_text_size x_t_text_end x_t_text_place x_t_text_fault a1 : Int32} {v_t_draft_code v_t_text_bytes : Nat → Int32} {o_x_t_draft_size o_x_t_text_fault o_x_t_text_place : Int32} {o_v_t_draft_code : Nat → Int32}, f_X2_readAny dp v_t_draft_code v_t_text_bytes x_t_draft_size x_t_text_end x_t_text_fault x_t_text_place x_t_text_size a1 = some (o_v_t_draft_code, o_x_t_draft_size, o_x_t_text_fault, o_x_t_text_place) → CtV l D cI cB yX2_readAny cX2_readAny 4 (dp + 45) (dp * 23 + 1034) [.ref A_t, .int a1] [oX2 A_t A_t_text A_t_draft, oX1 A_t_draft A_t_draft_code A_t_draft_letters A_t_draft_valueFrom A_t_draft_testFrom A_t_draft_testEnd A_t_draft_facts A_t_draft_stack x_t_draft_size x_t_draft_rules x_t_draft_height x_t_draft_refused, iA cI 240 A_t_draft_code v_t_draft_code, oX9 A_t_text A_t_text_bytes x_t_text_size x_t_text_end x_t_text_place x_t_text_fault, iA cI 260 A_t_text_bytes v_t_text_bytes] [oX2 A_t A_t_text A_t_draft, oX1 A_t_draft A_t_draft_code A_t_draft_letters A_t_draft_valueFrom A_t_draft_testFrom A_t_draft_testEnd A_t_draft_facts A_t_draft_stack o_x_t_draft_size x_t_draft_rules x_t_draft_height x_t_draft_refused, iA cI 240 A_t_draft_code o_v_t_draft_code, oX9 A_t_text A_t_text_bytes x_t_text_size x_t_text_end o_x_t_text_place o_x_t_text_fault, iA cI 260 A_t_text_bytes v_t_text_bytes]) ∧ (∀ {A_t A_t_text A_t_draft A_t_draft_code A_t_draft_letters A_t_draft_valueFrom A_t_draft_testFrom A_t_draft_testEnd A_t_draft_facts A_t_draft_stack A_t_text_bytes : Nat} {x_t_draft_size x_t_draft_rules x_t_draft_height x_t_draft_refused x_t_text_size x_t_text_end x_t_text_place x_t_text_fault a1 : Int32} {v_t_draft_code v_t_text_bytes : Nat → Int32} {o_x_t_draft_size o_x_t_text_fault o_x_t_text_place : Int32} {o_v_t_draft_code : Nat → Int32}, f_X2_readAll dp v_t_draft_code v_t_text_bytes x_t_draft_size x_t_text_end x_t_text_fault x_t_text_place x_t_text_size a1 = some (o_v_t_draft_code, o_x_t_draft_size, o_x_t_text_fault, o_x_t_text_place) → CtV l D cI cB yX2_readAll cX2_readAll 4 (dp + 45) (dp * 23 + 1034) [.ref A_t, .int a1] [oX2 A_t A_t_text A_t_draft, oX1 A_t_draft A_t_draft_code A_t_draft_letters A_t_draft_valueFrom A_t_draft_testFrom A_t_draft_testEnd A_t_draft_facts A_t_draft_stack x_t_draft_size x_t_draft_rules x_t_draft_height x_t_draft_refused, iA cI 240 A_t_draft_code v_t_draft_code, oX9 A_t_text A_t_text_bytes x_t_text_size x_t_text_end x_t_text_place x_t_text_fault, iA cI 260 A_t_text_bytes v_t_text_bytes] [oX2 A_t A_t_text A_t_draft, oX1 A_t_draft A_t_draft_code A_t_draft_letters A_t_draft_valueFrom A_t_draft_testFrom A_t_draft_testEnd A_t_draft_facts A_t_draft_stack o_x_t_draft_size x_t_draft_rules x_t_draft_height x_t_draft_refused, iA cI 240 A_t_draft_code o_v_t_draft_code, oX9 A_t_text A_t_text_bytes x_t_text_size x_t_text_end o_x_t_text_place o_x_t_text_fault, iA cI 260 A_t_text_bytes v_t_text_bytes]) ∧ (∀ {A_t A_t_text A_t_draft A_t_draft_code A_t_draft_letters A_t_draft_valueFrom A_t_draft_testFrom A_t_draft_testEnd A_t_draft_facts A_t_draft_stack A_t_text_bytes : Nat} {x_t_draft_size x_t_draft_rules x_t_draft_height x_t_draft_refused x_t_text_size x_t_text_end x_t_text_place x_t_text_fault a1 : Int32} {v_t_draft_code v_t_text_bytes : Nat → Int32} {o_x_t_draft_size o_x_t_text_fault o_x_t_text_place : Int32} {o_v_t_draft_code : Nat → Int32}, f_X2_readTest dp v_t_draft_code v_t_text_bytes x_t_draft_size x_t_text_end x_t_text_fault x_t_text_place x_t_text_size a1 = some (o_v_t_draft_code, o_x_t_draft_size, o_x_t_text_fault, o_x_t_text_place) → CtV l D cI cB yX2_readTest cX2_readTest 4 (dp + 45) (dp * 23 + 1034) [.ref A_t, .int a1] [oX2 A_t A_t_text A_t_draft, oX1 A_t_draft A_t_draft_code A_t_draft_letters A_t_draft_valueFrom A_t_draft_testFrom A_t_draft_testEnd A_t_draft_facts A_t_draft_stack x_t_draft_size x_t_draft_rules x_t_draft_height x_t_draft_refused, iA cI 240 A_t_draft_code v_t_draft_code, oX9 A_t_text A_t_text_bytes x_t_text_size x_t_text_end x_t_text_place x_t_text_fault, iA cI 260 A_t_text_bytes v_t_text_bytes] [oX2 A_t A_t_text A_t_draft, oX1 A_t_draft A_t_draft_code A_t_draft_letters A_t_draft_valueFrom A_t_draft_testFrom A_t_draft_testEnd A_t_draft_facts A_t_draft_stack o_x_t_draft_size x_t_draft_rules x_t_draft_height x_t_draft_refused, iA cI 240 A_t_draft_code o_v_t_draft_code, oX9 A_t_text A_t_text_bytes x_t_text_size x_t_text_end o_x_t_text_place o_x_t_text_fault, iA cI 260 A_t_text_bytes v_t_text_bytes]) := by
  intro dp
  induction dp with
  | zero =>
    refine ⟨?_, ?_, ?_⟩
    · intro A_t A_t_text A_t_draft A_t_draft_code A_t_draft_letters A_t_draft_valueFrom A_t_draft_testFrom A_t_draft_testEnd A_t_draft_facts A_t_draft_stack A_t_text_bytes x_t_draft_size x_t_draft_rules x_t_draft_height x_t_draft_refused x_t_text_size x_t_text_end x_t_text_place x_t_text_fault a1 v_t_draft_code v_t_text_bytes o_x_t_draft_size o_x_t_text_fault o_x_t_text_place o_v_t_draft_code hf
      exact absurd (show none = some _ from hf) (fun h => by cases h)
    · intro A_t A_t_text A_t_draft A_t_draft_code A_t_draft_letters A_t_draft_valueFrom A_t_draft_testFrom A_t_draft_testEnd A_t_draft_facts A_t_draft_stack A_t_text_bytes x_t_draft_size x_t_draft_rules x_t_draft_height x_t_draft_refused x_t_text_size x_t_text_end x_t_text_place x_t_text_fault a1 v_t_draft_code v_t_text_bytes o_x_t_draft_size o_x_t_text_fault o_x_t_text_place o_v_t_draft_code hf
      exact absurd (show none = some _ from hf) (fun h => by cases h)
    · intro A_t A_t_text A_t_draft A_t_draft_code A_t_draft_letters A_t_draft_valueFrom A_t_draft_testFrom A_t_draft_testEnd A_t_draft_facts A_t_draft_stack A_t_text_bytes x_t_draft_size x_t_draft_rules x_t_draft_height x_t_draft_refused x_t_text_size x_t_text_end x_t_text_place x_t_text_fault a1 v_t_draft_code v_t_text_bytes o_x_t_draft_size o_x_t_text_fault o_x_t_text_place o_v_t_draft_code hf
      exact absurd (show none = some _ from hf) (fun h => by cases h)
  | succ dp ih =>
    obtain ⟨ih_X2_readAny, ih_X2_readAll, ih_X2_readTest⟩ := ih
    refine ⟨?_, ?_, ?_⟩
    · intro A_t A_t_text A_t_draft A_t_draft_code A_t_draft_letters A_t_draft_valueFrom A_t_draft_testFrom A_t_draft_testEnd A_t_draft_facts A_t_draft_stack A_t_text_bytes x_t_draft_size x_t_draft_rules x_t_draft_height x_t_draft_refused x_t_text_size x_t_text_end x_t_text_place x_t_text_fault a1 v_t_draft_code v_t_text_bytes o_x_t_draft_size o_x_t_text_fault o_x_t_text_place o_v_t_draft_code hf
      have hf : fo_X2_readAny (f_X2_readAny dp) (f_X2_readAll dp) (f_X2_readTest dp) v_t_draft_code v_t_text_bytes x_t_draft_size x_t_text_end x_t_text_fault x_t_text_place x_t_text_size a1 = some (o_v_t_draft_code, o_x_t_draft_size, o_x_t_text_fault, o_x_t_text_place) := hf
      refine x_startV (by decide) (Nat.le_of_ble_eq_true rfl) ?_
      intro p e s m below meth c A C hr hlk hA hK hP hD hS ls hl
      have hl : lv_has ls 4 [(0, .ref A_t), (1, .int a1)] := hl
      have hx := C.1
      have hb := C.2.1
      unfold fo_X2_readAny at hf
      have hb_71 : ∀ (v_t_draft_code : (Nat → Int32)) (x_t_draft_size : Int32) (x_t_text_fault : Int32) (x_t_text_place : Int32) (l2 : Int32) (H : Heap) (locs : List Loc) (ls : Array Slot), lv_has ls 4 [(0, .ref A_t), (2, .int l2)] → va_P D vwCl [oX2 A_t A_t_text A_t_draft, oX1 A_t_draft A_t_draft_code A_t_draft_letters A_t_draft_valueFrom A_t_draft_testFrom A_t_draft_testEnd A_t_draft_facts A_t_draft_stack x_t_draft_size x_t_draft_rules x_t_draft_height x_t_draft_refused, iA cI 240 A_t_draft_code v_t_draft_code, oX9 A_t_text A_t_text_bytes x_t_text_size x_t_text_end x_t_text_place x_t_text_fault, iA cI 260 A_t_text_bytes v_t_text_bytes] H → va_D A [oX2 A_t A_t_text A_t_draft, oX1 A_t_draft A_t_draft_code A_t_draft_letters A_t_draft_valueFrom A_t_draft_testFrom A_t_draft_testEnd A_t_draft_facts A_t_draft_stack x_t_draft_size x_t_draft_rules x_t_draft_height x_t_draft_refused, iA cI 240 A_t_draft_code v_t_draft_code, oX9 A_t_text A_t_text_bytes x_t_text_size x_t_text_end x_t_text_place x_t_text_fault, iA cI 260 A_t_text_bytes v_t_text_bytes] → va_S A s.heap H locs → f_X2_readAny_b71 (f_X2_readAny dp) (f_X2_readAll dp) (f_X2_readTest dp) v_t_draft_code x_t_draft_size x_t_text_fault x_t_text_place l2 = some (o_v_t_draft_code, o_x_t_draft_size, o_x_t_text_fault, o_x_t_text_place) → W p l e { frames := dp + 1 + 45, cells := 0, slots := 0, locals := (dp + 1) * 23 + 1034 } s m ([.ref A_t, .int a1] : List Value).toArray below meth c H locs 0 0 (MQ below (PoV D A [oX2 A_t A_t_text A_t_draft, oX1 A_t_draft A_t_draft_code A_t_draft_letters A_t_draft_valueFrom A_t_draft_testFrom A_t_draft_testEnd A_t_draft_facts A_t_draft_stack o_x_t_draft_size x_t_draft_rules x_t_draft_height x_t_draft_refused, iA cI 240 A_t_draft_code o_v_t_draft_code, oX9 A_t_text A_t_text_bytes x_t_text_size x_t_text_end o_x_t_text_place o_x_t_text_fault, iA cI 260 A_t_text_bytes v_t_text_bytes]) ([.ref A_t, .int a1] : List Value).toArray s 0 0 A) (F0 m 71 ls []) := by
        intro v_t_draft_code x_t_draft_size x_t_text_fault x_t_text_place l2 H locs ls hl hP hD hS hf
        unfold f_X2_readAny_b71 at hf
        refine lv_aload_n hx hb dX2_readAny_71 rfl (lv_at hl 0 rfl) ?_
        refine x_get C hK hP fd_X2_18 0 rfl rfl dX2_readAny_72 ?_
        refine lv_iload_n hx hb dX2_readAny_75 rfl (lv_at hl 1 rfl) ?_
        refine lv_aload_n hx hb dX2_readAny_76 rfl (lv_at hl 0 rfl) ?_
        refine x_get C hK hP fd_X2_18 0 rfl rfl dX2_readAny_77 ?_
        refine x_get C hK hP fd_X2_61 1 rfl rfl dX2_readAny_80 ?_
        obtain ⟨w1, hc2, hf⟩ := bd1_e hf
        refine x_callVV (ws' := [oX2 A_t A_t_text A_t_draft, oX1 A_t_draft A_t_draft_code A_t_draft_letters A_t_draft_valueFrom A_t_draft_testFrom A_t_draft_testEnd A_t_draft_facts A_t_draft_stack x_t_draft_size x_t_draft_rules x_t_draft_height x_t_draft_refused, iA cI 240 A_t_draft_code w1, oX9 A_t_text A_t_text_bytes x_t_text_size x_t_text_end x_t_text_place x_t_text_fault, iA cI 260 A_t_text_bytes v_t_text_bytes]) (rest := []) C hK hP hD hS hA hl mf_X2_77 (c_X1_leapTo hc2) [1, 2] 0 1 rfl rfl rfl rfl rfl rfl rfl rfl rfl rfl (Nat.le_of_ble_eq_true rfl) ⟨(show 0 + 1 ≤ dp + 1 + 45 by omega), (show 8 + (3 + 11) + 0 ≤ (dp + 1) * 23 + 1034 by omega)⟩ ⟨Nat.le_refl _, Nat.le_refl _⟩ dX2_readAny_83 ?_
        intro H locs hP hD hS
        obtain ⟨rfl, rfl, rfl, rfl⟩ := ev4 hf
        exact x_vret C hr hlk hP hD hS dX2_readAny_86
      have hb_9 : ∀ (n_9 : Nat) (v_t_draft_code : (Nat → Int32)) (x_t_draft_size : Int32) (x_t_text_fault : Int32) (x_t_text_place : Int32) (l2 : Int32) (l3 : Int32) (H : Heap) (locs : List Loc) (ls : Array Slot), lv_has ls 4 [(0, .ref A_t), (1, .int a1), (2, .int l2), (3, .int l3)] → va_P D vwCl [oX2 A_t A_t_text A_t_draft, oX1 A_t_draft A_t_draft_code A_t_draft_letters A_t_draft_valueFrom A_t_draft_testFrom A_t_draft_testEnd A_t_draft_facts A_t_draft_stack x_t_draft_size x_t_draft_rules x_t_draft_height x_t_draft_refused, iA cI 240 A_t_draft_code v_t_draft_code, oX9 A_t_text A_t_text_bytes x_t_text_size x_t_text_end x_t_text_place x_t_text_fault, iA cI 260 A_t_text_bytes v_t_text_bytes] H → va_D A [oX2 A_t A_t_text A_t_draft, oX1 A_t_draft A_t_draft_code A_t_draft_letters A_t_draft_valueFrom A_t_draft_testFrom A_t_draft_testEnd A_t_draft_facts A_t_draft_stack x_t_draft_size x_t_draft_rules x_t_draft_height x_t_draft_refused, iA cI 240 A_t_draft_code v_t_draft_code, oX9 A_t_text A_t_text_bytes x_t_text_size x_t_text_end x_t_text_place x_t_text_fault, iA cI 260 A_t_text_bytes v_t_text_bytes] → va_S A s.heap H locs → f_X2_readAny_b9 (f_X2_readAny dp) (f_X2_readAll dp) (f_X2_readTest dp) v_t_text_bytes x_t_text_end x_t_text_size a1 n_9 v_t_draft_code x_t_draft_size x_t_text_fault x_t_text_place l2 l3 = some (o_v_t_draft_code, o_x_t_draft_size, o_x_t_text_fault, o_x_t_text_place) → W p l e { frames := dp + 1 + 45, cells := 0, slots := 0, locals := (dp + 1) * 23 + 1034 } s m ([.ref A_t, .int a1] : List Value).toArray below meth c H locs 0 0 (MQ below (PoV D A [oX2 A_t A_t_text A_t_draft, oX1 A_t_draft A_t_draft_code A_t_draft_letters A_t_draft_valueFrom A_t_draft_testFrom A_t_draft_testEnd A_t_draft_facts A_t_draft_stack o_x_t_draft_size x_t_draft_rules x_t_draft_height x_t_draft_refused, iA cI 240 A_t_draft_code o_v_t_draft_code, oX9 A_t_text A_t_text_bytes x_t_text_size x_t_text_end o_x_t_text_place o_x_t_text_fault, iA cI 260 A_t_text_bytes v_t_text_bytes]) ([.ref A_t, .int a1] : List Value).toArray s 0 0 A) (F0 m 9 ls []) := by
        intro n_9
        induction n_9 with
        | zero =>
          intro v_t_draft_code x_t_draft_size x_t_text_fault x_t_text_place l2 l3 H locs ls hl hP hD hS hf
          exact absurd hf (fun h => by rw [f_X2_readAny_b9] at h; cases h)
        | succ n_9 ih_9 =>
          intro v_t_draft_code x_t_draft_size x_t_text_fault x_t_text_place l2 l3 H locs ls hl hP hD hS hf
          rw [f_X2_readAny_b9] at hf
          refine lv_iload_n hx hb dX2_readAny_9 rfl (lv_at hl 3 rfl) ?_
          refine lv_sipush (v := 240) hx hb dX2_readAny_10 (by decide) ?_
          refine lv_icmp_ge (tgt := 71) hx hb dX2_readAny_13 (by decide) (fun q => ?_) (fun q => ?_)
          · have hf := if_t q hf
            exact hb_71 v_t_draft_code x_t_draft_size x_t_text_fault x_t_text_place l2 _ _ ls (lv_sub hl [0, 2] rfl) hP hD hS hf
          · have hf := if_f q hf
            refine lv_aload_n hx hb dX2_readAny_16 rfl (lv_at hl 0 rfl) ?_
            refine x_get C hK hP fd_X2_9 0 rfl rfl dX2_readAny_17 ?_
            obtain ⟨r3, hc4, hf⟩ := bd1_e hf
            refine x_callVI (ws' := [oX2 A_t A_t_text A_t_draft, oX1 A_t_draft A_t_draft_code A_t_draft_letters A_t_draft_valueFrom A_t_draft_testFrom A_t_draft_testEnd A_t_draft_facts A_t_draft_stack x_t_draft_size x_t_draft_rules x_t_draft_height x_t_draft_refused, iA cI 240 A_t_draft_code v_t_draft_code, oX9 A_t_text A_t_text_bytes x_t_text_size x_t_text_end x_t_text_place x_t_text_fault, iA cI 260 A_t_text_bytes v_t_text_bytes]) (rest := []) C hK hP hD hS hA hl mf_X2_51 (c_X9_sign hc4) [3, 4] 0 9 rfl rfl rfl rfl rfl rfl rfl rfl rfl rfl (Nat.le_of_ble_eq_true rfl) ⟨(show 1 + 1 ≤ dp + 1 + 45 by omega), (show 8 + (1 + 11) + 21 ≤ (dp + 1) * 23 + 1034 by omega)⟩ ⟨Nat.le_refl _, Nat.le_refl _⟩ dX2_readAny_20 ?_
            intro H locs hP hD hS
            refine lv_bipush (v := 124) hx hb dX2_readAny_23 (by decide) ?_
            refine lv_icmp_ne (tgt := 71) hx hb dX2_readAny_25 (by decide) (fun q => ?_) (fun q => ?_)
            · have hf := if_f q hf
              exact hb_71 v_t_draft_code x_t_draft_size x_t_text_fault x_t_text_place l2 _ _ ls (lv_sub hl [0, 2] rfl) hP hD hS hf
            · have hf := if_t q hf
              refine lv_aload_n hx hb dX2_readAny_28 rfl (lv_at hl 0 rfl) ?_
              refine x_get C hK hP fd_X2_9 0 rfl rfl dX2_readAny_29 ?_
              obtain ⟨w5, hc6, hf⟩ := bd1_e hf
              refine x_callVV (ws' := [oX2 A_t A_t_text A_t_draft, oX1 A_t_draft A_t_draft_code A_t_draft_letters A_t_draft_valueFrom A_t_draft_testFrom A_t_draft_testEnd A_t_draft_facts A_t_draft_stack x_t_draft_size x_t_draft_rules x_t_draft_height x_t_draft_refused, iA cI 240 A_t_draft_code v_t_draft_code, oX9 A_t_text A_t_text_bytes x_t_text_size x_t_text_end w5 x_t_text_fault, iA cI 260 A_t_text_bytes v_t_text_bytes]) (rest := []) C hK hP hD hS hA hl mf_X2_58 (c_X9_step hc6) [3] 0 9 rfl rfl rfl rfl rfl rfl rfl rfl rfl rfl (Nat.le_of_ble_eq_true rfl) ⟨(show 0 + 1 ≤ dp + 1 + 45 by omega), (show 8 + (1 + 11) + 0 ≤ (dp + 1) * 23 + 1034 by omega)⟩ ⟨Nat.le_refl _, Nat.le_refl _⟩ dX2_readAny_32 ?_
              intro H locs hP hD hS
              refine lv_aload_n hx hb dX2_readAny_35 rfl (lv_at hl 0 rfl) ?_
              refine x_get C hK hP fd_X2_18 0 rfl rfl dX2_readAny_36 ?_
              refine lv_iload_n hx hb dX2_readAny_39 rfl (lv_at hl 2 rfl) ?_
              refine lv_aload_n hx hb dX2_readAny_40 rfl (lv_at hl 0 rfl) ?_
              refine x_get C hK hP fd_X2_18 0 rfl rfl dX2_readAny_41 ?_
              refine x_get C hK hP fd_X2_61 1 rfl rfl dX2_readAny_44 ?_
              obtain ⟨w7, hc8, hf⟩ := bd1_e hf
              refine x_callVV (ws' := [oX2 A_t A_t_text A_t_draft, oX1 A_t_draft A_t_draft_code A_t_draft_letters A_t_draft_valueFrom A_t_draft_testFrom A_t_draft_testEnd A_t_draft_facts A_t_draft_stack x_t_draft_size x_t_draft_rules x_t_draft_height x_t_draft_refused, iA cI 240 A_t_draft_code w7, oX9 A_t_text A_t_text_bytes x_t_text_size x_t_text_end w5 x_t_text_fault, iA cI 260 A_t_text_bytes v_t_text_bytes]) (rest := []) C hK hP hD hS hA hl mf_X2_77 (c_X1_leapTo hc8) [1, 2] 0 1 rfl rfl rfl rfl rfl rfl rfl rfl rfl rfl (Nat.le_of_ble_eq_true rfl) ⟨(show 0 + 1 ≤ dp + 1 + 45 by omega), (show 8 + (3 + 11) + 0 ≤ (dp + 1) * 23 + 1034 by omega)⟩ ⟨Nat.le_refl _, Nat.le_refl _⟩ dX2_readAny_47 ?_
              intro H locs hP hD hS
              refine lv_aload_n hx hb dX2_readAny_50 rfl (lv_at hl 0 rfl) ?_
              refine x_get C hK hP fd_X2_18 0 rfl rfl dX2_readAny_51 ?_
              refine lv_iconst (v := 3) hx hb dX2_readAny_54 (by decide) ?_
              refine lv_iconst (v := 0) hx hb dX2_readAny_55 (by decide) ?_
              obtain ⟨r9, w10, w11, hc12, hf⟩ := bd3_e hf
              refine x_callVI (ws' := [oX2 A_t A_t_text A_t_draft, oX1 A_t_draft A_t_draft_code A_t_draft_letters A_t_draft_valueFrom A_t_draft_testFrom A_t_draft_testEnd A_t_draft_facts A_t_draft_stack w11 x_t_draft_rules x_t_draft_height x_t_draft_refused, iA cI 240 A_t_draft_code w10, oX9 A_t_text A_t_text_bytes x_t_text_size x_t_text_end w5 x_t_text_fault, iA cI 260 A_t_text_bytes v_t_text_bytes]) (rest := []) C hK hP hD hS hA hl mf_X2_81 (c_X1_emit hc12) [1, 2] 0 1 rfl rfl rfl rfl rfl rfl rfl rfl rfl rfl (Nat.le_of_ble_eq_true rfl) ⟨(show 0 + 1 ≤ dp + 1 + 45 by omega), (show 8 + (4 + 11) + 0 ≤ (dp + 1) * 23 + 1034 by omega)⟩ ⟨Nat.le_refl _, Nat.le_refl _⟩ dX2_readAny_56 ?_
              intro H locs hP hD hS
              refine lv_istore_n (lv' := [(2, .int r9), (0, .ref A_t), (1, .int a1), (3, .int l3)]) hx hb dX2_readAny_59 rfl hl (by decide) rfl (fun ls hl => ?_)
              refine lv_aload_n hx hb dX2_readAny_60 rfl (lv_at hl 1 rfl) ?_
              refine lv_iload_n hx hb dX2_readAny_61 rfl (lv_at hl 2 rfl) ?_
              obtain ⟨w13, w14, w15, w16, hc17, hf⟩ := bd4_e hf
              refine x_callVV (ws' := [oX2 A_t A_t_text A_t_draft, oX1 A_t_draft A_t_draft_code A_t_draft_letters A_t_draft_valueFrom A_t_draft_testFrom A_t_draft_testEnd A_t_draft_facts A_t_draft_stack w14 x_t_draft_rules x_t_draft_height x_t_draft_refused, iA cI 240 A_t_draft_code w13, oX9 A_t_text A_t_text_bytes x_t_text_size x_t_text_end w16 w15, iA cI 260 A_t_text_bytes v_t_text_bytes]) (rest := []) C hK hP hD hS hA hl mf_X2_74 (ih_X2_readAll hc17) [0, 1, 2, 3, 4] 0 2 rfl rfl rfl rfl rfl rfl rfl rfl rfl rfl (Nat.le_of_ble_eq_true rfl) ⟨(show dp + 45 + 1 ≤ dp + 1 + 45 by omega), (show 8 + (4 + 11) + (dp * 23 + 1034) ≤ (dp + 1) * 23 + 1034 by omega)⟩ ⟨Nat.le_refl _, Nat.le_refl _⟩ dX2_readAny_62 ?_
              intro H locs hP hD hS
              refine lv_iinc (v := (l3 + (1 : Int32))) (lv' := [(3, .int (l3 + (1 : Int32))), (2, .int r9), (0, .ref A_t), (1, .int a1)]) hx hb dX2_readAny_65 hl (k := 3) rfl rfl (by decide) rfl (fun ls hl => ?_)
              refine lv_goto (tgt := 9) hx hb dX2_readAny_68 (by decide) ?_
              exact ih_9 w13 w14 w15 w16 r9 (l3 + (1 : Int32)) _ _ ls (lv_sub hl [2, 3, 1, 0] rfl) hP hD hS hf
      refine lv_iconst (v := -1) hx hb dX2_readAny_0 (by decide) ?_
      refine lv_istore_n (lv' := [(2, .int (-1 : Int32)), (0, .ref A_t), (1, .int a1)]) hx hb dX2_readAny_1 rfl hl (by decide) rfl (fun ls hl => ?_)
      refine lv_aload_n hx hb dX2_readAny_2 rfl (lv_at hl 1 rfl) ?_
      refine lv_iload_n hx hb dX2_readAny_3 rfl (lv_at hl 2 rfl) ?_
      obtain ⟨w18, w19, w20, w21, hc22, hf⟩ := bd4_e hf
      refine x_callVV (ws' := [oX2 A_t A_t_text A_t_draft, oX1 A_t_draft A_t_draft_code A_t_draft_letters A_t_draft_valueFrom A_t_draft_testFrom A_t_draft_testEnd A_t_draft_facts A_t_draft_stack w19 x_t_draft_rules x_t_draft_height x_t_draft_refused, iA cI 240 A_t_draft_code w18, oX9 A_t_text A_t_text_bytes x_t_text_size x_t_text_end w21 w20, iA cI 260 A_t_text_bytes v_t_text_bytes]) (rest := []) C hK hP hD hS hA hl mf_X2_74 (ih_X2_readAll hc22) [0, 1, 2, 3, 4] 0 2 rfl rfl rfl rfl rfl rfl rfl rfl rfl rfl (Nat.le_of_ble_eq_true rfl) ⟨(show dp + 45 + 1 ≤ dp + 1 + 45 by omega), (show 8 + (4 + 11) + (dp * 23 + 1034) ≤ (dp + 1) * 23 + 1034 by omega)⟩ ⟨Nat.le_refl _, Nat.le_refl _⟩ dX2_readAny_4 ?_
      intro H locs hP hD hS
      refine lv_iconst (v := 0) hx hb dX2_readAny_7 (by decide) ?_
      refine lv_istore_n (lv' := [(3, .int (0 : Int32)), (2, .int (-1 : Int32)), (0, .ref A_t), (1, .int a1)]) hx hb dX2_readAny_8 rfl hl (by decide) rfl (fun ls hl => ?_)
      exact hb_9 FU w18 w19 w20 w21 (-1 : Int32) (0 : Int32) _ _ ls (lv_sub hl [2, 3, 1, 0] rfl) hP hD hS hf
    · intro A_t A_t_text A_t_draft A_t_draft_code A_t_draft_letters A_t_draft_valueFrom A_t_draft_testFrom A_t_draft_testEnd A_t_draft_facts A_t_draft_stack A_t_text_bytes x_t_draft_size x_t_draft_rules x_t_draft_height x_t_draft_refused x_t_text_size x_t_text_end x_t_text_place x_t_text_fault a1 v_t_draft_code v_t_text_bytes o_x_t_draft_size o_x_t_text_fault o_x_t_text_place o_v_t_draft_code hf
      have hf : fo_X2_readAll (f_X2_readAny dp) (f_X2_readAll dp) (f_X2_readTest dp) v_t_draft_code v_t_text_bytes x_t_draft_size x_t_text_end x_t_text_fault x_t_text_place x_t_text_size a1 = some (o_v_t_draft_code, o_x_t_draft_size, o_x_t_text_fault, o_x_t_text_place) := hf
      refine x_startV (by decide) (Nat.le_of_ble_eq_true rfl) ?_
      intro p e s m below meth c A C hr hlk hA hK hP hD hS ls hl
      have hl : lv_has ls 4 [(0, .ref A_t), (1, .int a1)] := hl
      have hx := C.1
      have hb := C.2.1
      unfold fo_X2_readAll at hf
      have hb_71 : ∀ (v_t_draft_code : (Nat → Int32)) (x_t_draft_size : Int32) (x_t_text_fault : Int32) (x_t_text_place : Int32) (l2 : Int32) (H : Heap) (locs : List Loc) (ls : Array Slot), lv_has ls 4 [(0, .ref A_t), (2, .int l2)] → va_P D vwCl [oX2 A_t A_t_text A_t_draft, oX1 A_t_draft A_t_draft_code A_t_draft_letters A_t_draft_valueFrom A_t_draft_testFrom A_t_draft_testEnd A_t_draft_facts A_t_draft_stack x_t_draft_size x_t_draft_rules x_t_draft_height x_t_draft_refused, iA cI 240 A_t_draft_code v_t_draft_code, oX9 A_t_text A_t_text_bytes x_t_text_size x_t_text_end x_t_text_place x_t_text_fault, iA cI 260 A_t_text_bytes v_t_text_bytes] H → va_D A [oX2 A_t A_t_text A_t_draft, oX1 A_t_draft A_t_draft_code A_t_draft_letters A_t_draft_valueFrom A_t_draft_testFrom A_t_draft_testEnd A_t_draft_facts A_t_draft_stack x_t_draft_size x_t_draft_rules x_t_draft_height x_t_draft_refused, iA cI 240 A_t_draft_code v_t_draft_code, oX9 A_t_text A_t_text_bytes x_t_text_size x_t_text_end x_t_text_place x_t_text_fault, iA cI 260 A_t_text_bytes v_t_text_bytes] → va_S A s.heap H locs → f_X2_readAll_b71 (f_X2_readAny dp) (f_X2_readAll dp) (f_X2_readTest dp) v_t_draft_code x_t_draft_size x_t_text_fault x_t_text_place l2 = some (o_v_t_draft_code, o_x_t_draft_size, o_x_t_text_fault, o_x_t_text_place) → W p l e { frames := dp + 1 + 45, cells := 0, slots := 0, locals := (dp + 1) * 23 + 1034 } s m ([.ref A_t, .int a1] : List Value).toArray below meth c H locs 0 0 (MQ below (PoV D A [oX2 A_t A_t_text A_t_draft, oX1 A_t_draft A_t_draft_code A_t_draft_letters A_t_draft_valueFrom A_t_draft_testFrom A_t_draft_testEnd A_t_draft_facts A_t_draft_stack o_x_t_draft_size x_t_draft_rules x_t_draft_height x_t_draft_refused, iA cI 240 A_t_draft_code o_v_t_draft_code, oX9 A_t_text A_t_text_bytes x_t_text_size x_t_text_end o_x_t_text_place o_x_t_text_fault, iA cI 260 A_t_text_bytes v_t_text_bytes]) ([.ref A_t, .int a1] : List Value).toArray s 0 0 A) (F0 m 71 ls []) := by
        intro v_t_draft_code x_t_draft_size x_t_text_fault x_t_text_place l2 H locs ls hl hP hD hS hf
        unfold f_X2_readAll_b71 at hf
        refine lv_aload_n hx hb dX2_readAll_71 rfl (lv_at hl 0 rfl) ?_
        refine x_get C hK hP fd_X2_18 0 rfl rfl dX2_readAll_72 ?_
        refine lv_iload_n hx hb dX2_readAll_75 rfl (lv_at hl 1 rfl) ?_
        refine lv_aload_n hx hb dX2_readAll_76 rfl (lv_at hl 0 rfl) ?_
        refine x_get C hK hP fd_X2_18 0 rfl rfl dX2_readAll_77 ?_
        refine x_get C hK hP fd_X2_61 1 rfl rfl dX2_readAll_80 ?_
        obtain ⟨w1, hc2, hf⟩ := bd1_e hf
        refine x_callVV (ws' := [oX2 A_t A_t_text A_t_draft, oX1 A_t_draft A_t_draft_code A_t_draft_letters A_t_draft_valueFrom A_t_draft_testFrom A_t_draft_testEnd A_t_draft_facts A_t_draft_stack x_t_draft_size x_t_draft_rules x_t_draft_height x_t_draft_refused, iA cI 240 A_t_draft_code w1, oX9 A_t_text A_t_text_bytes x_t_text_size x_t_text_end x_t_text_place x_t_text_fault, iA cI 260 A_t_text_bytes v_t_text_bytes]) (rest := []) C hK hP hD hS hA hl mf_X2_77 (c_X1_leapTo hc2) [1, 2] 0 1 rfl rfl rfl rfl rfl rfl rfl rfl rfl rfl (Nat.le_of_ble_eq_true rfl) ⟨(show 0 + 1 ≤ dp + 1 + 45 by omega), (show 8 + (3 + 11) + 0 ≤ (dp + 1) * 23 + 1034 by omega)⟩ ⟨Nat.le_refl _, Nat.le_refl _⟩ dX2_readAll_83 ?_
        intro H locs hP hD hS
        obtain ⟨rfl, rfl, rfl, rfl⟩ := ev4 hf
        exact x_vret C hr hlk hP hD hS dX2_readAll_86
      have hb_9 : ∀ (n_9 : Nat) (v_t_draft_code : (Nat → Int32)) (x_t_draft_size : Int32) (x_t_text_fault : Int32) (x_t_text_place : Int32) (l2 : Int32) (l3 : Int32) (H : Heap) (locs : List Loc) (ls : Array Slot), lv_has ls 4 [(0, .ref A_t), (1, .int a1), (2, .int l2), (3, .int l3)] → va_P D vwCl [oX2 A_t A_t_text A_t_draft, oX1 A_t_draft A_t_draft_code A_t_draft_letters A_t_draft_valueFrom A_t_draft_testFrom A_t_draft_testEnd A_t_draft_facts A_t_draft_stack x_t_draft_size x_t_draft_rules x_t_draft_height x_t_draft_refused, iA cI 240 A_t_draft_code v_t_draft_code, oX9 A_t_text A_t_text_bytes x_t_text_size x_t_text_end x_t_text_place x_t_text_fault, iA cI 260 A_t_text_bytes v_t_text_bytes] H → va_D A [oX2 A_t A_t_text A_t_draft, oX1 A_t_draft A_t_draft_code A_t_draft_letters A_t_draft_valueFrom A_t_draft_testFrom A_t_draft_testEnd A_t_draft_facts A_t_draft_stack x_t_draft_size x_t_draft_rules x_t_draft_height x_t_draft_refused, iA cI 240 A_t_draft_code v_t_draft_code, oX9 A_t_text A_t_text_bytes x_t_text_size x_t_text_end x_t_text_place x_t_text_fault, iA cI 260 A_t_text_bytes v_t_text_bytes] → va_S A s.heap H locs → f_X2_readAll_b9 (f_X2_readAny dp) (f_X2_readAll dp) (f_X2_readTest dp) v_t_text_bytes x_t_text_end x_t_text_size a1 n_9 v_t_draft_code x_t_draft_size x_t_text_fault x_t_text_place l2 l3 = some (o_v_t_draft_code, o_x_t_draft_size, o_x_t_text_fault, o_x_t_text_place) → W p l e { frames := dp + 1 + 45, cells := 0, slots := 0, locals := (dp + 1) * 23 + 1034 } s m ([.ref A_t, .int a1] : List Value).toArray below meth c H locs 0 0 (MQ below (PoV D A [oX2 A_t A_t_text A_t_draft, oX1 A_t_draft A_t_draft_code A_t_draft_letters A_t_draft_valueFrom A_t_draft_testFrom A_t_draft_testEnd A_t_draft_facts A_t_draft_stack o_x_t_draft_size x_t_draft_rules x_t_draft_height x_t_draft_refused, iA cI 240 A_t_draft_code o_v_t_draft_code, oX9 A_t_text A_t_text_bytes x_t_text_size x_t_text_end o_x_t_text_place o_x_t_text_fault, iA cI 260 A_t_text_bytes v_t_text_bytes]) ([.ref A_t, .int a1] : List Value).toArray s 0 0 A) (F0 m 9 ls []) := by
        intro n_9
        induction n_9 with
        | zero =>
          intro v_t_draft_code x_t_draft_size x_t_text_fault x_t_text_place l2 l3 H locs ls hl hP hD hS hf
          exact absurd hf (fun h => by rw [f_X2_readAll_b9] at h; cases h)
        | succ n_9 ih_9 =>
          intro v_t_draft_code x_t_draft_size x_t_text_fault x_t_text_place l2 l3 H locs ls hl hP hD hS hf
          rw [f_X2_readAll_b9] at hf
          refine lv_iload_n hx hb dX2_readAll_9 rfl (lv_at hl 3 rfl) ?_
          refine lv_sipush (v := 240) hx hb dX2_readAll_10 (by decide) ?_
          refine lv_icmp_ge (tgt := 71) hx hb dX2_readAll_13 (by decide) (fun q => ?_) (fun q => ?_)
          · have hf := if_t q hf
            exact hb_71 v_t_draft_code x_t_draft_size x_t_text_fault x_t_text_place l2 _ _ ls (lv_sub hl [0, 2] rfl) hP hD hS hf
          · have hf := if_f q hf
            refine lv_aload_n hx hb dX2_readAll_16 rfl (lv_at hl 0 rfl) ?_
            refine x_get C hK hP fd_X2_9 0 rfl rfl dX2_readAll_17 ?_
            obtain ⟨r3, hc4, hf⟩ := bd1_e hf
            refine x_callVI (ws' := [oX2 A_t A_t_text A_t_draft, oX1 A_t_draft A_t_draft_code A_t_draft_letters A_t_draft_valueFrom A_t_draft_testFrom A_t_draft_testEnd A_t_draft_facts A_t_draft_stack x_t_draft_size x_t_draft_rules x_t_draft_height x_t_draft_refused, iA cI 240 A_t_draft_code v_t_draft_code, oX9 A_t_text A_t_text_bytes x_t_text_size x_t_text_end x_t_text_place x_t_text_fault, iA cI 260 A_t_text_bytes v_t_text_bytes]) (rest := []) C hK hP hD hS hA hl mf_X2_51 (c_X9_sign hc4) [3, 4] 0 9 rfl rfl rfl rfl rfl rfl rfl rfl rfl rfl (Nat.le_of_ble_eq_true rfl) ⟨(show 1 + 1 ≤ dp + 1 + 45 by omega), (show 8 + (1 + 11) + 21 ≤ (dp + 1) * 23 + 1034 by omega)⟩ ⟨Nat.le_refl _, Nat.le_refl _⟩ dX2_readAll_20 ?_
            intro H locs hP hD hS
            refine lv_bipush (v := 38) hx hb dX2_readAll_23 (by decide) ?_
            refine lv_icmp_ne (tgt := 71) hx hb dX2_readAll_25 (by decide) (fun q => ?_) (fun q => ?_)
            · have hf := if_f q hf
              exact hb_71 v_t_draft_code x_t_draft_size x_t_text_fault x_t_text_place l2 _ _ ls (lv_sub hl [0, 2] rfl) hP hD hS hf
            · have hf := if_t q hf
              refine lv_aload_n hx hb dX2_readAll_28 rfl (lv_at hl 0 rfl) ?_
              refine x_get C hK hP fd_X2_9 0 rfl rfl dX2_readAll_29 ?_
              obtain ⟨w5, hc6, hf⟩ := bd1_e hf
              refine x_callVV (ws' := [oX2 A_t A_t_text A_t_draft, oX1 A_t_draft A_t_draft_code A_t_draft_letters A_t_draft_valueFrom A_t_draft_testFrom A_t_draft_testEnd A_t_draft_facts A_t_draft_stack x_t_draft_size x_t_draft_rules x_t_draft_height x_t_draft_refused, iA cI 240 A_t_draft_code v_t_draft_code, oX9 A_t_text A_t_text_bytes x_t_text_size x_t_text_end w5 x_t_text_fault, iA cI 260 A_t_text_bytes v_t_text_bytes]) (rest := []) C hK hP hD hS hA hl mf_X2_58 (c_X9_step hc6) [3] 0 9 rfl rfl rfl rfl rfl rfl rfl rfl rfl rfl (Nat.le_of_ble_eq_true rfl) ⟨(show 0 + 1 ≤ dp + 1 + 45 by omega), (show 8 + (1 + 11) + 0 ≤ (dp + 1) * 23 + 1034 by omega)⟩ ⟨Nat.le_refl _, Nat.le_refl _⟩ dX2_readAll_32 ?_
              intro H locs hP hD hS
              refine lv_aload_n hx hb dX2_readAll_35 rfl (lv_at hl 0 rfl) ?_
              refine x_get C hK hP fd_X2_18 0 rfl rfl dX2_readAll_36 ?_
              refine lv_iload_n hx hb dX2_readAll_39 rfl (lv_at hl 2 rfl) ?_
              refine lv_aload_n hx hb dX2_readAll_40 rfl (lv_at hl 0 rfl) ?_
              refine x_get C hK hP fd_X2_18 0 rfl rfl dX2_readAll_41 ?_
              refine x_get C hK hP fd_X2_61 1 rfl rfl dX2_readAll_44 ?_
              obtain ⟨w7, hc8, hf⟩ := bd1_e hf
              refine x_callVV (ws' := [oX2 A_t A_t_text A_t_draft, oX1 A_t_draft A_t_draft_code A_t_draft_letters A_t_draft_valueFrom A_t_draft_testFrom A_t_draft_testEnd A_t_draft_facts A_t_draft_stack x_t_draft_size x_t_draft_rules x_t_draft_height x_t_draft_refused, iA cI 240 A_t_draft_code w7, oX9 A_t_text A_t_text_bytes x_t_text_size x_t_text_end w5 x_t_text_fault, iA cI 260 A_t_text_bytes v_t_text_bytes]) (rest := []) C hK hP hD hS hA hl mf_X2_77 (c_X1_leapTo hc8) [1, 2] 0 1 rfl rfl rfl rfl rfl rfl rfl rfl rfl rfl (Nat.le_of_ble_eq_true rfl) ⟨(show 0 + 1 ≤ dp + 1 + 45 by omega), (show 8 + (3 + 11) + 0 ≤ (dp + 1) * 23 + 1034 by omega)⟩ ⟨Nat.le_refl _, Nat.le_refl _⟩ dX2_readAll_47 ?_
              intro H locs hP hD hS
              refine lv_aload_n hx hb dX2_readAll_50 rfl (lv_at hl 0 rfl) ?_
              refine x_get C hK hP fd_X2_18 0 rfl rfl dX2_readAll_51 ?_
              refine lv_iconst (v := 4) hx hb dX2_readAll_54 (by decide) ?_
              refine lv_iconst (v := 0) hx hb dX2_readAll_55 (by decide) ?_
              obtain ⟨r9, w10, w11, hc12, hf⟩ := bd3_e hf
              refine x_callVI (ws' := [oX2 A_t A_t_text A_t_draft, oX1 A_t_draft A_t_draft_code A_t_draft_letters A_t_draft_valueFrom A_t_draft_testFrom A_t_draft_testEnd A_t_draft_facts A_t_draft_stack w11 x_t_draft_rules x_t_draft_height x_t_draft_refused, iA cI 240 A_t_draft_code w10, oX9 A_t_text A_t_text_bytes x_t_text_size x_t_text_end w5 x_t_text_fault, iA cI 260 A_t_text_bytes v_t_text_bytes]) (rest := []) C hK hP hD hS hA hl mf_X2_81 (c_X1_emit hc12) [1, 2] 0 1 rfl rfl rfl rfl rfl rfl rfl rfl rfl rfl (Nat.le_of_ble_eq_true rfl) ⟨(show 0 + 1 ≤ dp + 1 + 45 by omega), (show 8 + (4 + 11) + 0 ≤ (dp + 1) * 23 + 1034 by omega)⟩ ⟨Nat.le_refl _, Nat.le_refl _⟩ dX2_readAll_56 ?_
              intro H locs hP hD hS
              refine lv_istore_n (lv' := [(2, .int r9), (0, .ref A_t), (1, .int a1), (3, .int l3)]) hx hb dX2_readAll_59 rfl hl (by decide) rfl (fun ls hl => ?_)
              refine lv_aload_n hx hb dX2_readAll_60 rfl (lv_at hl 1 rfl) ?_
              refine lv_iload_n hx hb dX2_readAll_61 rfl (lv_at hl 2 rfl) ?_
              obtain ⟨w13, w14, w15, w16, hc17, hf⟩ := bd4_e hf
              refine x_callVV (ws' := [oX2 A_t A_t_text A_t_draft, oX1 A_t_draft A_t_draft_code A_t_draft_letters A_t_draft_valueFrom A_t_draft_testFrom A_t_draft_testEnd A_t_draft_facts A_t_draft_stack w14 x_t_draft_rules x_t_draft_height x_t_draft_refused, iA cI 240 A_t_draft_code w13, oX9 A_t_text A_t_text_bytes x_t_text_size x_t_text_end w16 w15, iA cI 260 A_t_text_bytes v_t_text_bytes]) (rest := []) C hK hP hD hS hA hl mf_X2_85 (ih_X2_readTest hc17) [0, 1, 2, 3, 4] 0 2 rfl rfl rfl rfl rfl rfl rfl rfl rfl rfl (Nat.le_of_ble_eq_true rfl) ⟨(show dp + 45 + 1 ≤ dp + 1 + 45 by omega), (show 8 + (4 + 11) + (dp * 23 + 1034) ≤ (dp + 1) * 23 + 1034 by omega)⟩ ⟨Nat.le_refl _, Nat.le_refl _⟩ dX2_readAll_62 ?_
              intro H locs hP hD hS
              refine lv_iinc (v := (l3 + (1 : Int32))) (lv' := [(3, .int (l3 + (1 : Int32))), (2, .int r9), (0, .ref A_t), (1, .int a1)]) hx hb dX2_readAll_65 hl (k := 3) rfl rfl (by decide) rfl (fun ls hl => ?_)
              refine lv_goto (tgt := 9) hx hb dX2_readAll_68 (by decide) ?_
              exact ih_9 w13 w14 w15 w16 r9 (l3 + (1 : Int32)) _ _ ls (lv_sub hl [2, 3, 1, 0] rfl) hP hD hS hf
      refine lv_iconst (v := -1) hx hb dX2_readAll_0 (by decide) ?_
      refine lv_istore_n (lv' := [(2, .int (-1 : Int32)), (0, .ref A_t), (1, .int a1)]) hx hb dX2_readAll_1 rfl hl (by decide) rfl (fun ls hl => ?_)
      refine lv_aload_n hx hb dX2_readAll_2 rfl (lv_at hl 1 rfl) ?_
      refine lv_iload_n hx hb dX2_readAll_3 rfl (lv_at hl 2 rfl) ?_
      obtain ⟨w18, w19, w20, w21, hc22, hf⟩ := bd4_e hf
      refine x_callVV (ws' := [oX2 A_t A_t_text A_t_draft, oX1 A_t_draft A_t_draft_code A_t_draft_letters A_t_draft_valueFrom A_t_draft_testFrom A_t_draft_testEnd A_t_draft_facts A_t_draft_stack w19 x_t_draft_rules x_t_draft_height x_t_draft_refused, iA cI 240 A_t_draft_code w18, oX9 A_t_text A_t_text_bytes x_t_text_size x_t_text_end w21 w20, iA cI 260 A_t_text_bytes v_t_text_bytes]) (rest := []) C hK hP hD hS hA hl mf_X2_85 (ih_X2_readTest hc22) [0, 1, 2, 3, 4] 0 2 rfl rfl rfl rfl rfl rfl rfl rfl rfl rfl (Nat.le_of_ble_eq_true rfl) ⟨(show dp + 45 + 1 ≤ dp + 1 + 45 by omega), (show 8 + (4 + 11) + (dp * 23 + 1034) ≤ (dp + 1) * 23 + 1034 by omega)⟩ ⟨Nat.le_refl _, Nat.le_refl _⟩ dX2_readAll_4 ?_
      intro H locs hP hD hS
      refine lv_iconst (v := 0) hx hb dX2_readAll_7 (by decide) ?_
      refine lv_istore_n (lv' := [(3, .int (0 : Int32)), (2, .int (-1 : Int32)), (0, .ref A_t), (1, .int a1)]) hx hb dX2_readAll_8 rfl hl (by decide) rfl (fun ls hl => ?_)
      exact hb_9 FU w18 w19 w20 w21 (-1 : Int32) (0 : Int32) _ _ ls (lv_sub hl [2, 3, 1, 0] rfl) hP hD hS hf
    · intro A_t A_t_text A_t_draft A_t_draft_code A_t_draft_letters A_t_draft_valueFrom A_t_draft_testFrom A_t_draft_testEnd A_t_draft_facts A_t_draft_stack A_t_text_bytes x_t_draft_size x_t_draft_rules x_t_draft_height x_t_draft_refused x_t_text_size x_t_text_end x_t_text_place x_t_text_fault a1 v_t_draft_code v_t_text_bytes o_x_t_draft_size o_x_t_text_fault o_x_t_text_place o_v_t_draft_code hf
      have hf : fo_X2_readTest (f_X2_readAny dp) (f_X2_readAll dp) (f_X2_readTest dp) v_t_draft_code v_t_text_bytes x_t_draft_size x_t_text_end x_t_text_fault x_t_text_place x_t_text_size a1 = some (o_v_t_draft_code, o_x_t_draft_size, o_x_t_text_fault, o_x_t_text_place) := hf
      refine x_startV (by decide) (Nat.le_of_ble_eq_true rfl) ?_
      intro p e s m below meth c A C hr hlk hA hK hP hD hS ls hl
      have hl : lv_has ls 4 [(0, .ref A_t), (1, .int a1)] := hl
      have hx := C.1
      have hb := C.2.1
      unfold fo_X2_readTest at hf
      have hb_100 : ∀ (v_t_draft_code : (Nat → Int32)) (x_t_draft_size : Int32) (x_t_text_fault : Int32) (x_t_text_place : Int32) (H : Heap) (locs : List Loc) (ls : Array Slot), lv_has ls 4 [] → va_P D vwCl [oX2 A_t A_t_text A_t_draft, oX1 A_t_draft A_t_draft_code A_t_draft_letters A_t_draft_valueFrom A_t_draft_testFrom A_t_draft_testEnd A_t_draft_facts A_t_draft_stack x_t_draft_size x_t_draft_rules x_t_draft_height x_t_draft_refused, iA cI 240 A_t_draft_code v_t_draft_code, oX9 A_t_text A_t_text_bytes x_t_text_size x_t_text_end x_t_text_place x_t_text_fault, iA cI 260 A_t_text_bytes v_t_text_bytes] H → va_D A [oX2 A_t A_t_text A_t_draft, oX1 A_t_draft A_t_draft_code A_t_draft_letters A_t_draft_valueFrom A_t_draft_testFrom A_t_draft_testEnd A_t_draft_facts A_t_draft_stack x_t_draft_size x_t_draft_rules x_t_draft_height x_t_draft_refused, iA cI 240 A_t_draft_code v_t_draft_code, oX9 A_t_text A_t_text_bytes x_t_text_size x_t_text_end x_t_text_place x_t_text_fault, iA cI 260 A_t_text_bytes v_t_text_bytes] → va_S A s.heap H locs → f_X2_readTest_b100 (f_X2_readAny dp) (f_X2_readAll dp) (f_X2_readTest dp) v_t_draft_code x_t_draft_size x_t_text_fault x_t_text_place = some (o_v_t_draft_code, o_x_t_draft_size, o_x_t_text_fault, o_x_t_text_place) → W p l e { frames := dp + 1 + 45, cells := 0, slots := 0, locals := (dp + 1) * 23 + 1034 } s m ([.ref A_t, .int a1] : List Value).toArray below meth c H locs 0 0 (MQ below (PoV D A [oX2 A_t A_t_text A_t_draft, oX1 A_t_draft A_t_draft_code A_t_draft_letters A_t_draft_valueFrom A_t_draft_testFrom A_t_draft_testEnd A_t_draft_facts A_t_draft_stack o_x_t_draft_size x_t_draft_rules x_t_draft_height x_t_draft_refused, iA cI 240 A_t_draft_code o_v_t_draft_code, oX9 A_t_text A_t_text_bytes x_t_text_size x_t_text_end o_x_t_text_place o_x_t_text_fault, iA cI 260 A_t_text_bytes v_t_text_bytes]) ([.ref A_t, .int a1] : List Value).toArray s 0 0 A) (F0 m 100 ls []) := by
        intro v_t_draft_code x_t_draft_size x_t_text_fault x_t_text_place H locs ls hl hP hD hS hf
        unfold f_X2_readTest_b100 at hf
        obtain ⟨rfl, rfl, rfl, rfl⟩ := ev4 hf
        exact x_vret C hr hlk hP hD hS dX2_readTest_100
      refine lv_aload_n hx hb dX2_readTest_0 rfl (lv_at hl 0 rfl) ?_
      refine x_get C hK hP fd_X2_9 0 rfl rfl dX2_readTest_1 ?_
      obtain ⟨r1, hc2, hf⟩ := bd1_e hf
      refine x_callVI (ws' := [oX2 A_t A_t_text A_t_draft, oX1 A_t_draft A_t_draft_code A_t_draft_letters A_t_draft_valueFrom A_t_draft_testFrom A_t_draft_testEnd A_t_draft_facts A_t_draft_stack x_t_draft_size x_t_draft_rules x_t_draft_height x_t_draft_refused, iA cI 240 A_t_draft_code v_t_draft_code, oX9 A_t_text A_t_text_bytes x_t_text_size x_t_text_end x_t_text_place x_t_text_fault, iA cI 260 A_t_text_bytes v_t_text_bytes]) (rest := []) C hK hP hD hS hA hl mf_X2_51 (c_X9_sign hc2) [3, 4] 0 9 rfl rfl rfl rfl rfl rfl rfl rfl rfl rfl (Nat.le_of_ble_eq_true rfl) ⟨(show 1 + 1 ≤ dp + 1 + 45 by omega), (show 8 + (1 + 11) + 21 ≤ (dp + 1) * 23 + 1034 by omega)⟩ ⟨Nat.le_refl _, Nat.le_refl _⟩ dX2_readTest_4 ?_
      intro H locs hP hD hS
      refine lv_istore_n (lv' := [(2, .int r1), (0, .ref A_t), (1, .int a1)]) hx hb dX2_readTest_7 rfl hl (by decide) rfl (fun ls hl => ?_)
      refine lv_iload_n hx hb dX2_readTest_8 rfl (lv_at hl 0 rfl) ?_
      refine lv_bipush (v := 33) hx hb dX2_readTest_9 (by decide) ?_
      refine lv_icmp_ne (tgt := 42) hx hb dX2_readTest_11 (by decide) (fun q => ?_) (fun q => ?_)
      · have hf := if_f q hf
        refine lv_iload_n hx hb dX2_readTest_42 rfl (lv_at hl 0 rfl) ?_
        refine lv_bipush (v := 40) hx hb dX2_readTest_43 (by decide) ?_
        refine lv_icmp_ne (tgt := 75) hx hb dX2_readTest_45 (by decide) (fun q => ?_) (fun q => ?_)
        · have hf := if_f q hf
          refine lv_aload_n hx hb dX2_readTest_75 rfl (lv_at hl 1 rfl) ?_
          refine lv_iload_n hx hb dX2_readTest_76 rfl (lv_at hl 2 rfl) ?_
          obtain ⟨w3, w4, w5, w6, hc7, hf⟩ := bd4_e hf
          refine x_callVV (ws' := [oX2 A_t A_t_text A_t_draft, oX1 A_t_draft A_t_draft_code A_t_draft_letters A_t_draft_valueFrom A_t_draft_testFrom A_t_draft_testEnd A_t_draft_facts A_t_draft_stack w4 x_t_draft_rules x_t_draft_height x_t_draft_refused, iA cI 240 A_t_draft_code w3, oX9 A_t_text A_t_text_bytes x_t_text_size x_t_text_end w6 w5, iA cI 260 A_t_text_bytes v_t_text_bytes]) (rest := []) C hK hP hD hS hA hl mf_X2_64 (c_X2_readSum hc7) [0, 1, 2, 3, 4] 0 2 rfl rfl rfl rfl rfl rfl rfl rfl rfl rfl (Nat.le_of_ble_eq_true rfl) ⟨(show 44 + 1 ≤ dp + 1 + 45 by omega), (show 8 + (4 + 11) + 1011 ≤ (dp + 1) * 23 + 1034 by omega)⟩ ⟨Nat.le_refl _, Nat.le_refl _⟩ dX2_readTest_77 ?_
          intro H locs hP hD hS
          refine lv_aload_n hx hb dX2_readTest_80 rfl (lv_at hl 1 rfl) ?_
          obtain ⟨r8, w9, w10, hc11, hf⟩ := bd3_e hf
          refine x_callVI (ws' := [oX2 A_t A_t_text A_t_draft, oX1 A_t_draft A_t_draft_code A_t_draft_letters A_t_draft_valueFrom A_t_draft_testFrom A_t_draft_testEnd A_t_draft_facts A_t_draft_stack w4 x_t_draft_rules x_t_draft_height x_t_draft_refused, iA cI 240 A_t_draft_code w3, oX9 A_t_text A_t_text_bytes x_t_text_size x_t_text_end w10 w9, iA cI 260 A_t_text_bytes v_t_text_bytes]) (rest := []) C hK hP hD hS hA hl mf_X2_92 (c_X2_readComparison hc11) [0, 3, 4] 0 2 rfl rfl rfl rfl rfl rfl rfl rfl rfl rfl (Nat.le_of_ble_eq_true rfl) ⟨(show 2 + 1 ≤ dp + 1 + 45 by omega), (show 8 + (2 + 11) + 43 ≤ (dp + 1) * 23 + 1034 by omega)⟩ ⟨Nat.le_refl _, Nat.le_refl _⟩ dX2_readTest_81 ?_
          intro H locs hP hD hS
          refine lv_istore_n (lv' := [(3, .int r8), (2, .int r1), (0, .ref A_t), (1, .int a1)]) hx hb dX2_readTest_84 rfl hl (by decide) rfl (fun ls hl => ?_)
          refine lv_aload_n hx hb dX2_readTest_85 rfl (lv_at hl 2 rfl) ?_
          refine lv_iload_n hx hb dX2_readTest_86 rfl (lv_at hl 3 rfl) ?_
          obtain ⟨w12, w13, w14, w15, hc16, hf⟩ := bd4_e hf
          refine x_callVV (ws' := [oX2 A_t A_t_text A_t_draft, oX1 A_t_draft A_t_draft_code A_t_draft_letters A_t_draft_valueFrom A_t_draft_testFrom A_t_draft_testEnd A_t_draft_facts A_t_draft_stack w13 x_t_draft_rules x_t_draft_height x_t_draft_refused, iA cI 240 A_t_draft_code w12, oX9 A_t_text A_t_text_bytes x_t_text_size x_t_text_end w15 w14, iA cI 260 A_t_text_bytes v_t_text_bytes]) (rest := []) C hK hP hD hS hA hl mf_X2_64 (c_X2_readSum hc16) [0, 1, 2, 3, 4] 0 2 rfl rfl rfl rfl rfl rfl rfl rfl rfl rfl (Nat.le_of_ble_eq_true rfl) ⟨(show 44 + 1 ≤ dp + 1 + 45 by omega), (show 8 + (4 + 11) + 1011 ≤ (dp + 1) * 23 + 1034 by omega)⟩ ⟨Nat.le_refl _, Nat.le_refl _⟩ dX2_readTest_87 ?_
          intro H locs hP hD hS
          refine lv_aload_n hx hb dX2_readTest_90 rfl (lv_at hl 2 rfl) ?_
          refine x_get C hK hP fd_X2_18 0 rfl rfl dX2_readTest_91 ?_
          refine lv_iload_n hx hb dX2_readTest_94 rfl (lv_at hl 0 rfl) ?_
          refine lv_iconst (v := 0) hx hb dX2_readTest_95 (by decide) ?_
          obtain ⟨r17, w18, w19, hc20, hf⟩ := bd3_e hf
          refine x_callVI (ws' := [oX2 A_t A_t_text A_t_draft, oX1 A_t_draft A_t_draft_code A_t_draft_letters A_t_draft_valueFrom A_t_draft_testFrom A_t_draft_testEnd A_t_draft_facts A_t_draft_stack w19 x_t_draft_rules x_t_draft_height x_t_draft_refused, iA cI 240 A_t_draft_code w18, oX9 A_t_text A_t_text_bytes x_t_text_size x_t_text_end w15 w14, iA cI 260 A_t_text_bytes v_t_text_bytes]) (rest := []) C hK hP hD hS hA hl mf_X2_81 (c_X1_emit hc20) [1, 2] 0 1 rfl rfl rfl rfl rfl rfl rfl rfl rfl rfl (Nat.le_of_ble_eq_true rfl) ⟨(show 0 + 1 ≤ dp + 1 + 45 by omega), (show 8 + (4 + 11) + 0 ≤ (dp + 1) * 23 + 1034 by omega)⟩ ⟨Nat.le_refl _, Nat.le_refl _⟩ dX2_readTest_96 ?_
          intro H locs hP hD hS
          refine lv_pop hx hb dX2_readTest_99 rfl ?_
          exact hb_100 w18 w19 w14 w15 _ _ ls (lv_sub hl [] rfl) hP hD hS hf
        · have hf := if_t q hf
          refine lv_aload_n hx hb dX2_readTest_48 rfl (lv_at hl 1 rfl) ?_
          refine lv_iload_n hx hb dX2_readTest_49 rfl (lv_at hl 2 rfl) ?_
          obtain ⟨r21, w22, w23, hc24, hf⟩ := bd3_e hf
          refine x_callVI (ws' := [oX2 A_t A_t_text A_t_draft, oX1 A_t_draft A_t_draft_code A_t_draft_letters A_t_draft_valueFrom A_t_draft_testFrom A_t_draft_testEnd A_t_draft_facts A_t_draft_stack x_t_draft_size x_t_draft_rules x_t_draft_height x_t_draft_refused, iA cI 240 A_t_draft_code v_t_draft_code, oX9 A_t_text A_t_text_bytes x_t_text_size x_t_text_end w23 w22, iA cI 260 A_t_text_bytes v_t_text_bytes]) (rest := []) C hK hP hD hS hA hl mf_X2_88 (c_X2_canOpen hc24) [0, 3] 0 2 rfl rfl rfl rfl rfl rfl rfl rfl rfl rfl (Nat.le_of_ble_eq_true rfl) ⟨(show 2 + 1 ≤ dp + 1 + 45 by omega), (show 8 + (2 + 11) + 43 ≤ (dp + 1) * 23 + 1034 by omega)⟩ ⟨Nat.le_refl _, Nat.le_refl _⟩ dX2_readTest_50 ?_
          intro H locs hP hD hS
          refine lv_if_eq (tgt := 100) hx hb dX2_readTest_53 (by decide) (fun q => ?_) (fun q => ?_)
          · have hf := if_t q hf
            exact hb_100 v_t_draft_code x_t_draft_size w22 w23 _ _ ls (lv_sub hl [] rfl) hP hD hS hf
          · have hf := if_f q hf
            refine lv_aload_n hx hb dX2_readTest_56 rfl (lv_at hl 1 rfl) ?_
            refine lv_iload_n hx hb dX2_readTest_57 rfl (lv_at hl 2 rfl) ?_
            refine lv_iconst (v := 1) hx hb dX2_readTest_58 (by decide) ?_
            refine lv_iadd hx hb dX2_readTest_59 ?_
            obtain ⟨w25, w26, w27, w28, hc29, hf⟩ := bd4_e hf
            refine x_callVV (ws' := [oX2 A_t A_t_text A_t_draft, oX1 A_t_draft A_t_draft_code A_t_draft_letters A_t_draft_valueFrom A_t_draft_testFrom A_t_draft_testEnd A_t_draft_facts A_t_draft_stack w26 x_t_draft_rules x_t_draft_height x_t_draft_refused, iA cI 240 A_t_draft_code w25, oX9 A_t_text A_t_text_bytes x_t_text_size x_t_text_end w28 w27, iA cI 260 A_t_text_bytes v_t_text_bytes]) (rest := []) C hK hP hD hS hA hl mf_X2_67 (ih_X2_readAny hc29) [0, 1, 2, 3, 4] 0 2 rfl rfl rfl rfl rfl rfl rfl rfl rfl rfl (Nat.le_of_ble_eq_true rfl) ⟨(show dp + 45 + 1 ≤ dp + 1 + 45 by omega), (show 8 + (4 + 11) + (dp * 23 + 1034) ≤ (dp + 1) * 23 + 1034 by omega)⟩ ⟨Nat.le_refl _, Nat.le_refl _⟩ dX2_readTest_60 ?_
            intro H locs hP hD hS
            refine lv_aload_n hx hb dX2_readTest_63 rfl (lv_at hl 1 rfl) ?_
            refine x_get C hK hP fd_X2_9 0 rfl rfl dX2_readTest_64 ?_
            refine lv_bipush (v := 41) hx hb dX2_readTest_67 (by decide) ?_
            obtain ⟨w30, w31, hc32, hf⟩ := bd2_e hf
            refine x_callVV (ws' := [oX2 A_t A_t_text A_t_draft, oX1 A_t_draft A_t_draft_code A_t_draft_letters A_t_draft_valueFrom A_t_draft_testFrom A_t_draft_testEnd A_t_draft_facts A_t_draft_stack w26 x_t_draft_rules x_t_draft_height x_t_draft_refused, iA cI 240 A_t_draft_code w25, oX9 A_t_text A_t_text_bytes x_t_text_size x_t_text_end w31 w30, iA cI 260 A_t_text_bytes v_t_text_bytes]) (rest := []) C hK hP hD hS hA hl mf_X2_45 (c_X9_take hc32) [3, 4] 0 9 rfl rfl rfl rfl rfl rfl rfl rfl rfl rfl (Nat.le_of_ble_eq_true rfl) ⟨(show 2 + 1 ≤ dp + 1 + 45 by omega), (show 8 + (2 + 11) + 43 ≤ (dp + 1) * 23 + 1034 by omega)⟩ ⟨Nat.le_refl _, Nat.le_refl _⟩ dX2_readTest_69 ?_
            intro H locs hP hD hS
            refine lv_goto (tgt := 100) hx hb dX2_readTest_72 (by decide) ?_
            exact hb_100 w25 w26 w30 w31 _ _ ls (lv_sub hl [] rfl) hP hD hS hf
      · have hf := if_t q hf
        refine lv_aload_n hx hb dX2_readTest_14 rfl (lv_at hl 1 rfl) ?_
        refine lv_iload_n hx hb dX2_readTest_15 rfl (lv_at hl 2 rfl) ?_
        obtain ⟨r33, w34, w35, hc36, hf⟩ := bd3_e hf
        refine x_callVI (ws' := [oX2 A_t A_t_text A_t_draft, oX1 A_t_draft A_t_draft_code A_t_draft_letters A_t_draft_valueFrom A_t_draft_testFrom A_t_draft_testEnd A_t_draft_facts A_t_draft_stack x_t_draft_size x_t_draft_rules x_t_draft_height x_t_draft_refused, iA cI 240 A_t_draft_code v_t_draft_code, oX9 A_t_text A_t_text_bytes x_t_text_size x_t_text_end w35 w34, iA cI 260 A_t_text_bytes v_t_text_bytes]) (rest := []) C hK hP hD hS hA hl mf_X2_88 (c_X2_canOpen hc36) [0, 3] 0 2 rfl rfl rfl rfl rfl rfl rfl rfl rfl rfl (Nat.le_of_ble_eq_true rfl) ⟨(show 2 + 1 ≤ dp + 1 + 45 by omega), (show 8 + (2 + 11) + 43 ≤ (dp + 1) * 23 + 1034 by omega)⟩ ⟨Nat.le_refl _, Nat.le_refl _⟩ dX2_readTest_16 ?_
        intro H locs hP hD hS
        refine lv_if_eq (tgt := 100) hx hb dX2_readTest_19 (by decide) (fun q => ?_) (fun q => ?_)
        · have hf := if_t q hf
          exact hb_100 v_t_draft_code x_t_draft_size w34 w35 _ _ ls (lv_sub hl [] rfl) hP hD hS hf
        · have hf := if_f q hf
          refine lv_aload_n hx hb dX2_readTest_22 rfl (lv_at hl 1 rfl) ?_
          refine lv_iload_n hx hb dX2_readTest_23 rfl (lv_at hl 2 rfl) ?_
          refine lv_iconst (v := 1) hx hb dX2_readTest_24 (by decide) ?_
          refine lv_iadd hx hb dX2_readTest_25 ?_
          obtain ⟨w37, w38, w39, w40, hc41, hf⟩ := bd4_e hf
          refine x_callVV (ws' := [oX2 A_t A_t_text A_t_draft, oX1 A_t_draft A_t_draft_code A_t_draft_letters A_t_draft_valueFrom A_t_draft_testFrom A_t_draft_testEnd A_t_draft_facts A_t_draft_stack w38 x_t_draft_rules x_t_draft_height x_t_draft_refused, iA cI 240 A_t_draft_code w37, oX9 A_t_text A_t_text_bytes x_t_text_size x_t_text_end w40 w39, iA cI 260 A_t_text_bytes v_t_text_bytes]) (rest := []) C hK hP hD hS hA hl mf_X2_85 (ih_X2_readTest hc41) [0, 1, 2, 3, 4] 0 2 rfl rfl rfl rfl rfl rfl rfl rfl rfl rfl (Nat.le_of_ble_eq_true rfl) ⟨(show dp + 45 + 1 ≤ dp + 1 + 45 by omega), (show 8 + (4 + 11) + (dp * 23 + 1034) ≤ (dp + 1) * 23 + 1034 by omega)⟩ ⟨Nat.le_refl _, Nat.le_refl _⟩ dX2_readTest_26 ?_
          intro H locs hP hD hS
          refine lv_aload_n hx hb dX2_readTest_29 rfl (lv_at hl 1 rfl) ?_
          refine x_get C hK hP fd_X2_18 0 rfl rfl dX2_readTest_30 ?_
          refine lv_iconst (v := 2) hx hb dX2_readTest_33 (by decide) ?_
          refine lv_iconst (v := 0) hx hb dX2_readTest_34 (by decide) ?_
          obtain ⟨r42, w43, w44, hc45, hf⟩ := bd3_e hf
          refine x_callVI (ws' := [oX2 A_t A_t_text A_t_draft, oX1 A_t_draft A_t_draft_code A_t_draft_letters A_t_draft_valueFrom A_t_draft_testFrom A_t_draft_testEnd A_t_draft_facts A_t_draft_stack w44 x_t_draft_rules x_t_draft_height x_t_draft_refused, iA cI 240 A_t_draft_code w43, oX9 A_t_text A_t_text_bytes x_t_text_size x_t_text_end w40 w39, iA cI 260 A_t_text_bytes v_t_text_bytes]) (rest := []) C hK hP hD hS hA hl mf_X2_81 (c_X1_emit hc45) [1, 2] 0 1 rfl rfl rfl rfl rfl rfl rfl rfl rfl rfl (Nat.le_of_ble_eq_true rfl) ⟨(show 0 + 1 ≤ dp + 1 + 45 by omega), (show 8 + (4 + 11) + 0 ≤ (dp + 1) * 23 + 1034 by omega)⟩ ⟨Nat.le_refl _, Nat.le_refl _⟩ dX2_readTest_35 ?_
          intro H locs hP hD hS
          refine lv_pop hx hb dX2_readTest_38 rfl ?_
          refine lv_goto (tgt := 100) hx hb dX2_readTest_39 (by decide) ?_
          exact hb_100 w43 w44 w39 w40 _ _ ls (lv_sub hl [] rfl) hP hD hS hf
theorem c_X2_readAny {l : Launch} {D : va_G} {cI cB : ClassId} {A_t A_t_text A_t_draft A_t_draft_code A_t_draft_letters A_t_draft_valueFrom A_t_draft_testFrom A_t_draft_testEnd A_t_draft_facts A_t_draft_stack A_t_text_bytes : Nat} {x_t_draft_size x_t_draft_rules x_t_draft_height x_t_draft_refused x_t_text_size x_t_text_end x_t_text_place x_t_text_fault a1 : Int32} {v_t_draft_code v_t_text_bytes : Nat → Int32} {o_x_t_draft_size o_x_t_text_fault o_x_t_text_place : Int32} {o_v_t_draft_code : Nat → Int32} (hf : f_X2_readAny DP v_t_draft_code v_t_text_bytes x_t_draft_size x_t_text_end x_t_text_fault x_t_text_place x_t_text_size a1 = some (o_v_t_draft_code, o_x_t_draft_size, o_x_t_text_fault, o_x_t_text_place)) : CtV l D cI cB yX2_readAny cX2_readAny 4 85 1954 [.ref A_t, .int a1] [oX2 A_t A_t_text A_t_draft, oX1 A_t_draft A_t_draft_code A_t_draft_letters A_t_draft_valueFrom A_t_draft_testFrom A_t_draft_testEnd A_t_draft_facts A_t_draft_stack x_t_draft_size x_t_draft_rules x_t_draft_height x_t_draft_refused, iA cI 240 A_t_draft_code v_t_draft_code, oX9 A_t_text A_t_text_bytes x_t_text_size x_t_text_end x_t_text_place x_t_text_fault, iA cI 260 A_t_text_bytes v_t_text_bytes] [oX2 A_t A_t_text A_t_draft, oX1 A_t_draft A_t_draft_code A_t_draft_letters A_t_draft_valueFrom A_t_draft_testFrom A_t_draft_testEnd A_t_draft_facts A_t_draft_stack o_x_t_draft_size x_t_draft_rules x_t_draft_height x_t_draft_refused, iA cI 240 A_t_draft_code o_v_t_draft_code, oX9 A_t_text A_t_text_bytes x_t_text_size x_t_text_end o_x_t_text_place o_x_t_text_fault, iA cI 260 A_t_text_bytes v_t_text_bytes] := (cc_X2_readAny l D cI cB DP).1 hf
theorem c_X2_readAll {l : Launch} {D : va_G} {cI cB : ClassId} {A_t A_t_text A_t_draft A_t_draft_code A_t_draft_letters A_t_draft_valueFrom A_t_draft_testFrom A_t_draft_testEnd A_t_draft_facts A_t_draft_stack A_t_text_bytes : Nat} {x_t_draft_size x_t_draft_rules x_t_draft_height x_t_draft_refused x_t_text_size x_t_text_end x_t_text_place x_t_text_fault a1 : Int32} {v_t_draft_code v_t_text_bytes : Nat → Int32} {o_x_t_draft_size o_x_t_text_fault o_x_t_text_place : Int32} {o_v_t_draft_code : Nat → Int32} (hf : f_X2_readAll DP v_t_draft_code v_t_text_bytes x_t_draft_size x_t_text_end x_t_text_fault x_t_text_place x_t_text_size a1 = some (o_v_t_draft_code, o_x_t_draft_size, o_x_t_text_fault, o_x_t_text_place)) : CtV l D cI cB yX2_readAll cX2_readAll 4 85 1954 [.ref A_t, .int a1] [oX2 A_t A_t_text A_t_draft, oX1 A_t_draft A_t_draft_code A_t_draft_letters A_t_draft_valueFrom A_t_draft_testFrom A_t_draft_testEnd A_t_draft_facts A_t_draft_stack x_t_draft_size x_t_draft_rules x_t_draft_height x_t_draft_refused, iA cI 240 A_t_draft_code v_t_draft_code, oX9 A_t_text A_t_text_bytes x_t_text_size x_t_text_end x_t_text_place x_t_text_fault, iA cI 260 A_t_text_bytes v_t_text_bytes] [oX2 A_t A_t_text A_t_draft, oX1 A_t_draft A_t_draft_code A_t_draft_letters A_t_draft_valueFrom A_t_draft_testFrom A_t_draft_testEnd A_t_draft_facts A_t_draft_stack o_x_t_draft_size x_t_draft_rules x_t_draft_height x_t_draft_refused, iA cI 240 A_t_draft_code o_v_t_draft_code, oX9 A_t_text A_t_text_bytes x_t_text_size x_t_text_end o_x_t_text_place o_x_t_text_fault, iA cI 260 A_t_text_bytes v_t_text_bytes] := (cc_X2_readAny l D cI cB DP).2.1 hf
theorem c_X2_readTest {l : Launch} {D : va_G} {cI cB : ClassId} {A_t A_t_text A_t_draft A_t_draft_code A_t_draft_letters A_t_draft_valueFrom A_t_draft_testFrom A_t_draft_testEnd A_t_draft_facts A_t_draft_stack A_t_text_bytes : Nat} {x_t_draft_size x_t_draft_rules x_t_draft_height x_t_draft_refused x_t_text_size x_t_text_end x_t_text_place x_t_text_fault a1 : Int32} {v_t_draft_code v_t_text_bytes : Nat → Int32} {o_x_t_draft_size o_x_t_text_fault o_x_t_text_place : Int32} {o_v_t_draft_code : Nat → Int32} (hf : f_X2_readTest DP v_t_draft_code v_t_text_bytes x_t_draft_size x_t_text_end x_t_text_fault x_t_text_place x_t_text_size a1 = some (o_v_t_draft_code, o_x_t_draft_size, o_x_t_text_fault, o_x_t_text_place)) : CtV l D cI cB yX2_readTest cX2_readTest 4 85 1954 [.ref A_t, .int a1] [oX2 A_t A_t_text A_t_draft, oX1 A_t_draft A_t_draft_code A_t_draft_letters A_t_draft_valueFrom A_t_draft_testFrom A_t_draft_testEnd A_t_draft_facts A_t_draft_stack x_t_draft_size x_t_draft_rules x_t_draft_height x_t_draft_refused, iA cI 240 A_t_draft_code v_t_draft_code, oX9 A_t_text A_t_text_bytes x_t_text_size x_t_text_end x_t_text_place x_t_text_fault, iA cI 260 A_t_text_bytes v_t_text_bytes] [oX2 A_t A_t_text A_t_draft, oX1 A_t_draft A_t_draft_code A_t_draft_letters A_t_draft_valueFrom A_t_draft_testFrom A_t_draft_testEnd A_t_draft_facts A_t_draft_stack o_x_t_draft_size x_t_draft_rules x_t_draft_height x_t_draft_refused, iA cI 240 A_t_draft_code o_v_t_draft_code, oX9 A_t_text A_t_text_bytes x_t_text_size x_t_text_end o_x_t_text_place o_x_t_text_fault, iA cI 260 A_t_text_bytes v_t_text_bytes] := (cc_X2_readAny l D cI cB DP).2.2 hf
def f_X2_readRule_b82 (v_t_text_bytes : (Nat → Int32)) (x_t_text_end : Int32) (x_t_text_size : Int32) (v_t_draft_code : (Nat → Int32)) (v_t_draft_letters : (Nat → Int32)) (v_t_draft_testEnd : (Nat → Int32)) (v_t_draft_testFrom : (Nat → Int32)) (v_t_draft_valueFrom : (Nat → Int32)) (x_t_draft_rules : Int32) (x_t_draft_size : Int32) (x_t_text_fault : Int32) (x_t_text_place : Int32) (l1 : Int32) (l2 : Int32) : Option ((Nat → Int32) × (Nat → Int32) × (Nat → Int32) × (Nat → Int32) × (Nat → Int32) × Int32 × Int32 × Int32 × Int32) :=
  bd2 (f_X9_take v_t_text_bytes x_t_text_end x_t_text_fault x_t_text_place x_t_text_size (40 : Int32)) (fun w1 w2 =>
  bd4 (f_X2_readAny DP v_t_draft_code v_t_text_bytes x_t_draft_size x_t_text_end w1 w2 x_t_text_size (1 : Int32)) (fun w3 w4 w5 w6 =>
  bd2 (f_X9_take v_t_text_bytes x_t_text_end w5 w6 x_t_text_size (41 : Int32)) (fun w7 w8 =>
  bd5 (f_X1_addRule v_t_draft_letters v_t_draft_testEnd v_t_draft_testFrom v_t_draft_valueFrom x_t_draft_rules w4 l1 l2 x_t_draft_size) (fun w9 w10 w11 w12 w13 =>
  some (w3, w9, w10, w11, w12, w13, w4, w7, w8)))))
def f_X2_readRule_b35 (v_t_text_bytes : (Nat → Int32)) (x_t_text_end : Int32) (x_t_text_size : Int32) (v_t_draft_code : (Nat → Int32)) (v_t_draft_letters : (Nat → Int32)) (v_t_draft_testEnd : (Nat → Int32)) (v_t_draft_testFrom : (Nat → Int32)) (v_t_draft_valueFrom : (Nat → Int32)) (x_t_draft_rules : Int32) (x_t_draft_size : Int32) (x_t_text_fault : Int32) (x_t_text_place : Int32) (l1 : Int32) : Option ((Nat → Int32) × (Nat → Int32) × (Nat → Int32) × (Nat → Int32) × (Nat → Int32) × Int32 × Int32 × Int32 × Int32) :=
  if x_t_draft_rules < (16 : Int32) then
    bd1 (f_X9_step x_t_text_end x_t_text_place) (fun w1 =>
    if l1 = (120 : Int32) then
      f_X2_readRule_b82 v_t_text_bytes x_t_text_end x_t_text_size v_t_draft_code v_t_draft_letters v_t_draft_testEnd v_t_draft_testFrom v_t_draft_valueFrom x_t_draft_rules x_t_draft_size x_t_text_fault w1 l1 x_t_draft_size
    else
      bd4 (f_X2_readSum DP v_t_draft_code v_t_text_bytes x_t_draft_size x_t_text_end x_t_text_fault w1 x_t_text_size (0 : Int32)) (fun w2 w3 w4 w5 =>
      f_X2_readRule_b82 v_t_text_bytes x_t_text_end x_t_text_size w2 v_t_draft_letters v_t_draft_testEnd v_t_draft_testFrom v_t_draft_valueFrom x_t_draft_rules w3 w4 w5 l1 x_t_draft_size))
  else
    bd1 (f_X9_fail x_t_text_fault x_t_text_place (4 : Int32)) (fun w6 =>
    some (v_t_draft_code, v_t_draft_letters, v_t_draft_testEnd, v_t_draft_testFrom, v_t_draft_valueFrom, x_t_draft_rules, x_t_draft_size, w6, x_t_text_place))
def f_X2_readRule (v_t_draft_code : (Nat → Int32)) (v_t_draft_letters : (Nat → Int32)) (v_t_draft_testEnd : (Nat → Int32)) (v_t_draft_testFrom : (Nat → Int32)) (v_t_draft_valueFrom : (Nat → Int32)) (v_t_text_bytes : (Nat → Int32)) (x_t_draft_rules : Int32) (x_t_draft_size : Int32) (x_t_text_end : Int32) (x_t_text_fault : Int32) (x_t_text_place : Int32) (x_t_text_size : Int32) : Option ((Nat → Int32) × (Nat → Int32) × (Nat → Int32) × (Nat → Int32) × (Nat → Int32) × Int32 × Int32 × Int32 × Int32) :=
  bd1 (f_X9_sign v_t_text_bytes x_t_text_end x_t_text_fault x_t_text_place x_t_text_size) (fun r7 =>
  if r7 = (102 : Int32) then
    f_X2_readRule_b35 v_t_text_bytes x_t_text_end x_t_text_size v_t_draft_code v_t_draft_letters v_t_draft_testEnd v_t_draft_testFrom v_t_draft_valueFrom x_t_draft_rules x_t_draft_size x_t_text_fault x_t_text_place r7
  else
    if r7 = (101 : Int32) then
      f_X2_readRule_b35 v_t_text_bytes x_t_text_end x_t_text_size v_t_draft_code v_t_draft_letters v_t_draft_testEnd v_t_draft_testFrom v_t_draft_valueFrom x_t_draft_rules x_t_draft_size x_t_text_fault x_t_text_place r7
    else
      if r7 = (120 : Int32) then
        f_X2_readRule_b35 v_t_text_bytes x_t_text_end x_t_text_size v_t_draft_code v_t_draft_letters v_t_draft_testEnd v_t_draft_testFrom v_t_draft_valueFrom x_t_draft_rules x_t_draft_size x_t_text_fault x_t_text_place r7
      else
        bd1 (f_X9_fail x_t_text_fault x_t_text_place (1 : Int32)) (fun w8 =>
        some (v_t_draft_code, v_t_draft_letters, v_t_draft_testEnd, v_t_draft_testFrom, v_t_draft_valueFrom, x_t_draft_rules, x_t_draft_size, w8, x_t_text_place)))
set_option maxHeartbeats 4000000 in
set_option maxRecDepth 100000 in
theorem c_X2_readRule {l : Launch} {D : va_G} {cI cB : ClassId} {A_t A_t_text A_t_draft A_t_draft_code A_t_draft_letters A_t_draft_valueFrom A_t_draft_testFrom A_t_draft_testEnd A_t_draft_facts A_t_draft_stack A_t_text_bytes : Nat} {x_t_draft_size x_t_draft_rules x_t_draft_height x_t_draft_refused x_t_text_size x_t_text_end x_t_text_place x_t_text_fault : Int32} {v_t_draft_code v_t_draft_letters v_t_draft_testEnd v_t_draft_testFrom v_t_draft_valueFrom v_t_text_bytes : Nat → Int32} {o_x_t_draft_rules o_x_t_draft_size o_x_t_text_fault o_x_t_text_place : Int32} {o_v_t_draft_code o_v_t_draft_letters o_v_t_draft_testEnd o_v_t_draft_testFrom o_v_t_draft_valueFrom : Nat → Int32} (hf : f_X2_readRule v_t_draft_code v_t_draft_letters v_t_draft_testEnd v_t_draft_testFrom v_t_draft_valueFrom v_t_text_bytes x_t_draft_rules x_t_draft_size x_t_text_end x_t_text_fault x_t_text_place x_t_text_size = some (o_v_t_draft_code, o_v_t_draft_letters, o_v_t_draft_testEnd, o_v_t_draft_testFrom, o_v_t_draft_valueFrom, o_x_t_draft_rules, o_x_t_draft_size, o_x_t_text_fault, o_x_t_text_place)) : CtV l D cI cB yX2_readRule cX2_readRule 4 86 1977 [.ref A_t] [oX2 A_t A_t_text A_t_draft, oX1 A_t_draft A_t_draft_code A_t_draft_letters A_t_draft_valueFrom A_t_draft_testFrom A_t_draft_testEnd A_t_draft_facts A_t_draft_stack x_t_draft_size x_t_draft_rules x_t_draft_height x_t_draft_refused, iA cI 240 A_t_draft_code v_t_draft_code, iA cI 16 A_t_draft_letters v_t_draft_letters, iA cI 16 A_t_draft_testEnd v_t_draft_testEnd, iA cI 16 A_t_draft_testFrom v_t_draft_testFrom, iA cI 16 A_t_draft_valueFrom v_t_draft_valueFrom, oX9 A_t_text A_t_text_bytes x_t_text_size x_t_text_end x_t_text_place x_t_text_fault, iA cI 260 A_t_text_bytes v_t_text_bytes] [oX2 A_t A_t_text A_t_draft, oX1 A_t_draft A_t_draft_code A_t_draft_letters A_t_draft_valueFrom A_t_draft_testFrom A_t_draft_testEnd A_t_draft_facts A_t_draft_stack o_x_t_draft_size o_x_t_draft_rules x_t_draft_height x_t_draft_refused, iA cI 240 A_t_draft_code o_v_t_draft_code, iA cI 16 A_t_draft_letters o_v_t_draft_letters, iA cI 16 A_t_draft_testEnd o_v_t_draft_testEnd, iA cI 16 A_t_draft_testFrom o_v_t_draft_testFrom, iA cI 16 A_t_draft_valueFrom o_v_t_draft_valueFrom, oX9 A_t_text A_t_text_bytes x_t_text_size x_t_text_end o_x_t_text_place o_x_t_text_fault, iA cI 260 A_t_text_bytes v_t_text_bytes] := by
  refine x_startV (by decide) (Nat.le_of_ble_eq_true rfl) ?_
  intro p e s m below meth c A C hr hlk hA hK hP hD hS ls hl
  have hl : lv_has ls 4 [(0, .ref A_t)] := hl
  have hx := C.1
  have hb := C.2.1
  unfold f_X2_readRule at hf
  have hb_82 : ∀ (v_t_draft_code : (Nat → Int32)) (v_t_draft_letters : (Nat → Int32)) (v_t_draft_testEnd : (Nat → Int32)) (v_t_draft_testFrom : (Nat → Int32)) (v_t_draft_valueFrom : (Nat → Int32)) (x_t_draft_rules : Int32) (x_t_draft_size : Int32) (x_t_text_fault : Int32) (x_t_text_place : Int32) (l1 : Int32) (l2 : Int32) (H : Heap) (locs : List Loc) (ls : Array Slot), lv_has ls 4 [(0, .ref A_t), (1, .int l1), (2, .int l2)] → va_P D vwCl [oX2 A_t A_t_text A_t_draft, oX1 A_t_draft A_t_draft_code A_t_draft_letters A_t_draft_valueFrom A_t_draft_testFrom A_t_draft_testEnd A_t_draft_facts A_t_draft_stack x_t_draft_size x_t_draft_rules x_t_draft_height x_t_draft_refused, iA cI 240 A_t_draft_code v_t_draft_code, iA cI 16 A_t_draft_letters v_t_draft_letters, iA cI 16 A_t_draft_testEnd v_t_draft_testEnd, iA cI 16 A_t_draft_testFrom v_t_draft_testFrom, iA cI 16 A_t_draft_valueFrom v_t_draft_valueFrom, oX9 A_t_text A_t_text_bytes x_t_text_size x_t_text_end x_t_text_place x_t_text_fault, iA cI 260 A_t_text_bytes v_t_text_bytes] H → va_D A [oX2 A_t A_t_text A_t_draft, oX1 A_t_draft A_t_draft_code A_t_draft_letters A_t_draft_valueFrom A_t_draft_testFrom A_t_draft_testEnd A_t_draft_facts A_t_draft_stack x_t_draft_size x_t_draft_rules x_t_draft_height x_t_draft_refused, iA cI 240 A_t_draft_code v_t_draft_code, iA cI 16 A_t_draft_letters v_t_draft_letters, iA cI 16 A_t_draft_testEnd v_t_draft_testEnd, iA cI 16 A_t_draft_testFrom v_t_draft_testFrom, iA cI 16 A_t_draft_valueFrom v_t_draft_valueFrom, oX9 A_t_text A_t_text_bytes x_t_text_size x_t_text_end x_t_text_place x_t_text_fault, iA cI 260 A_t_text_bytes v_t_text_bytes] → va_S A s.heap H locs → f_X2_readRule_b82 v_t_text_bytes x_t_text_end x_t_text_size v_t_draft_code v_t_draft_letters v_t_draft_testEnd v_t_draft_testFrom v_t_draft_valueFrom x_t_draft_rules x_t_draft_size x_t_text_fault x_t_text_place l1 l2 = some (o_v_t_draft_code, o_v_t_draft_letters, o_v_t_draft_testEnd, o_v_t_draft_testFrom, o_v_t_draft_valueFrom, o_x_t_draft_rules, o_x_t_draft_size, o_x_t_text_fault, o_x_t_text_place) → W p l e { frames := 86, cells := 0, slots := 0, locals := 1977 } s m ([.ref A_t] : List Value).toArray below meth c H locs 0 0 (MQ below (PoV D A [oX2 A_t A_t_text A_t_draft, oX1 A_t_draft A_t_draft_code A_t_draft_letters A_t_draft_valueFrom A_t_draft_testFrom A_t_draft_testEnd A_t_draft_facts A_t_draft_stack o_x_t_draft_size o_x_t_draft_rules x_t_draft_height x_t_draft_refused, iA cI 240 A_t_draft_code o_v_t_draft_code, iA cI 16 A_t_draft_letters o_v_t_draft_letters, iA cI 16 A_t_draft_testEnd o_v_t_draft_testEnd, iA cI 16 A_t_draft_testFrom o_v_t_draft_testFrom, iA cI 16 A_t_draft_valueFrom o_v_t_draft_valueFrom, oX9 A_t_text A_t_text_bytes x_t_text_size x_t_text_end o_x_t_text_place o_x_t_text_fault, iA cI 260 A_t_text_bytes v_t_text_bytes]) ([.ref A_t] : List Value).toArray s 0 0 A) (F0 m 82 ls []) := by
    intro v_t_draft_code v_t_draft_letters v_t_draft_testEnd v_t_draft_testFrom v_t_draft_valueFrom x_t_draft_rules x_t_draft_size x_t_text_fault x_t_text_place l1 l2 H locs ls hl hP hD hS hf
    unfold f_X2_readRule_b82 at hf
    refine lv_aload_n hx hb dX2_readRule_82 rfl (lv_at hl 0 rfl) ?_
    refine x_get C hK hP fd_X2_18 0 rfl rfl dX2_readRule_83 ?_
    refine x_get C hK hP fd_X2_61 1 rfl rfl dX2_readRule_86 ?_
    refine lv_istore_n (lv' := [(3, .int x_t_draft_size), (0, .ref A_t), (1, .int l1), (2, .int l2)]) hx hb dX2_readRule_89 rfl hl (by decide) rfl (fun ls hl => ?_)
    refine lv_aload_n hx hb dX2_readRule_90 rfl (lv_at hl 1 rfl) ?_
    refine x_get C hK hP fd_X2_9 0 rfl rfl dX2_readRule_91 ?_
    refine lv_bipush (v := 40) hx hb dX2_readRule_94 (by decide) ?_
    obtain ⟨w1, w2, hc3, hf⟩ := bd2_e hf
    refine x_callVV (ws' := [oX2 A_t A_t_text A_t_draft, oX1 A_t_draft A_t_draft_code A_t_draft_letters A_t_draft_valueFrom A_t_draft_testFrom A_t_draft_testEnd A_t_draft_facts A_t_draft_stack x_t_draft_size x_t_draft_rules x_t_draft_height x_t_draft_refused, iA cI 240 A_t_draft_code v_t_draft_code, iA cI 16 A_t_draft_letters v_t_draft_letters, iA cI 16 A_t_draft_testEnd v_t_draft_testEnd, iA cI 16 A_t_draft_testFrom v_t_draft_testFrom, iA cI 16 A_t_draft_valueFrom v_t_draft_valueFrom, oX9 A_t_text A_t_text_bytes x_t_text_size x_t_text_end w2 w1, iA cI 260 A_t_text_bytes v_t_text_bytes]) (rest := []) C hK hP hD hS hA hl mf_X2_45 (c_X9_take hc3) [7, 8] 0 9 rfl rfl rfl rfl rfl rfl rfl rfl rfl rfl (Nat.le_of_ble_eq_true rfl) ⟨Nat.le_of_ble_eq_true rfl, Nat.le_of_ble_eq_true rfl⟩ ⟨Nat.le_refl _, Nat.le_refl _⟩ dX2_readRule_96 ?_
    intro H locs hP hD hS
    refine lv_aload_n hx hb dX2_readRule_99 rfl (lv_at hl 1 rfl) ?_
    refine lv_iconst (v := 1) hx hb dX2_readRule_100 (by decide) ?_
    obtain ⟨w4, w5, w6, w7, hc8, hf⟩ := bd4_e hf
    refine x_callVV (ws' := [oX2 A_t A_t_text A_t_draft, oX1 A_t_draft A_t_draft_code A_t_draft_letters A_t_draft_valueFrom A_t_draft_testFrom A_t_draft_testEnd A_t_draft_facts A_t_draft_stack w5 x_t_draft_rules x_t_draft_height x_t_draft_refused, iA cI 240 A_t_draft_code w4, iA cI 16 A_t_draft_letters v_t_draft_letters, iA cI 16 A_t_draft_testEnd v_t_draft_testEnd, iA cI 16 A_t_draft_testFrom v_t_draft_testFrom, iA cI 16 A_t_draft_valueFrom v_t_draft_valueFrom, oX9 A_t_text A_t_text_bytes x_t_text_size x_t_text_end w7 w6, iA cI 260 A_t_text_bytes v_t_text_bytes]) (rest := []) C hK hP hD hS hA hl mf_X2_67 (c_X2_readAny hc8) [0, 1, 2, 7, 8] 0 2 rfl rfl rfl rfl rfl rfl rfl rfl rfl rfl (Nat.le_of_ble_eq_true rfl) ⟨Nat.le_of_ble_eq_true rfl, Nat.le_of_ble_eq_true rfl⟩ ⟨Nat.le_refl _, Nat.le_refl _⟩ dX2_readRule_101 ?_
    intro H locs hP hD hS
    refine lv_aload_n hx hb dX2_readRule_104 rfl (lv_at hl 1 rfl) ?_
    refine x_get C hK hP fd_X2_9 0 rfl rfl dX2_readRule_105 ?_
    refine lv_bipush (v := 41) hx hb dX2_readRule_108 (by decide) ?_
    obtain ⟨w9, w10, hc11, hf⟩ := bd2_e hf
    refine x_callVV (ws' := [oX2 A_t A_t_text A_t_draft, oX1 A_t_draft A_t_draft_code A_t_draft_letters A_t_draft_valueFrom A_t_draft_testFrom A_t_draft_testEnd A_t_draft_facts A_t_draft_stack w5 x_t_draft_rules x_t_draft_height x_t_draft_refused, iA cI 240 A_t_draft_code w4, iA cI 16 A_t_draft_letters v_t_draft_letters, iA cI 16 A_t_draft_testEnd v_t_draft_testEnd, iA cI 16 A_t_draft_testFrom v_t_draft_testFrom, iA cI 16 A_t_draft_valueFrom v_t_draft_valueFrom, oX9 A_t_text A_t_text_bytes x_t_text_size x_t_text_end w10 w9, iA cI 260 A_t_text_bytes v_t_text_bytes]) (rest := []) C hK hP hD hS hA hl mf_X2_45 (c_X9_take hc11) [7, 8] 0 9 rfl rfl rfl rfl rfl rfl rfl rfl rfl rfl (Nat.le_of_ble_eq_true rfl) ⟨Nat.le_of_ble_eq_true rfl, Nat.le_of_ble_eq_true rfl⟩ ⟨Nat.le_refl _, Nat.le_refl _⟩ dX2_readRule_110 ?_
    intro H locs hP hD hS
    refine lv_aload_n hx hb dX2_readRule_113 rfl (lv_at hl 1 rfl) ?_
    refine x_get C hK hP fd_X2_18 0 rfl rfl dX2_readRule_114 ?_
    refine lv_iload_n hx hb dX2_readRule_117 rfl (lv_at hl 2 rfl) ?_
    refine lv_iload_n hx hb dX2_readRule_118 rfl (lv_at hl 3 rfl) ?_
    refine lv_iload_n hx hb dX2_readRule_119 rfl (lv_at hl 0 rfl) ?_
    obtain ⟨w12, w13, w14, w15, w16, hc17, hf⟩ := bd5_e hf
    refine x_callVV (ws' := [oX2 A_t A_t_text A_t_draft, oX1 A_t_draft A_t_draft_code A_t_draft_letters A_t_draft_valueFrom A_t_draft_testFrom A_t_draft_testEnd A_t_draft_facts A_t_draft_stack w5 w16 x_t_draft_height x_t_draft_refused, iA cI 240 A_t_draft_code w4, iA cI 16 A_t_draft_letters w12, iA cI 16 A_t_draft_testEnd w13, iA cI 16 A_t_draft_testFrom w14, iA cI 16 A_t_draft_valueFrom w15, oX9 A_t_text A_t_text_bytes x_t_text_size x_t_text_end w10 w9, iA cI 260 A_t_text_bytes v_t_text_bytes]) (rest := []) C hK hP hD hS hA hl mf_X2_70 (c_X1_addRule hc17) [1, 3, 4, 5, 6] 0 1 rfl rfl rfl rfl rfl rfl rfl rfl rfl rfl (Nat.le_of_ble_eq_true rfl) ⟨Nat.le_of_ble_eq_true rfl, Nat.le_of_ble_eq_true rfl⟩ ⟨Nat.le_refl _, Nat.le_refl _⟩ dX2_readRule_120 ?_
    intro H locs hP hD hS
    obtain ⟨rfl, rfl, rfl, rfl, rfl, rfl, rfl, rfl, rfl⟩ := ev9 hf
    exact x_vret C hr hlk hP hD hS dX2_readRule_123
  have hb_35 : ∀ (v_t_draft_code : (Nat → Int32)) (v_t_draft_letters : (Nat → Int32)) (v_t_draft_testEnd : (Nat → Int32)) (v_t_draft_testFrom : (Nat → Int32)) (v_t_draft_valueFrom : (Nat → Int32)) (x_t_draft_rules : Int32) (x_t_draft_size : Int32) (x_t_text_fault : Int32) (x_t_text_place : Int32) (l1 : Int32) (H : Heap) (locs : List Loc) (ls : Array Slot), lv_has ls 4 [(0, .ref A_t), (1, .int l1)] → va_P D vwCl [oX2 A_t A_t_text A_t_draft, oX1 A_t_draft A_t_draft_code A_t_draft_letters A_t_draft_valueFrom A_t_draft_testFrom A_t_draft_testEnd A_t_draft_facts A_t_draft_stack x_t_draft_size x_t_draft_rules x_t_draft_height x_t_draft_refused, iA cI 240 A_t_draft_code v_t_draft_code, iA cI 16 A_t_draft_letters v_t_draft_letters, iA cI 16 A_t_draft_testEnd v_t_draft_testEnd, iA cI 16 A_t_draft_testFrom v_t_draft_testFrom, iA cI 16 A_t_draft_valueFrom v_t_draft_valueFrom, oX9 A_t_text A_t_text_bytes x_t_text_size x_t_text_end x_t_text_place x_t_text_fault, iA cI 260 A_t_text_bytes v_t_text_bytes] H → va_D A [oX2 A_t A_t_text A_t_draft, oX1 A_t_draft A_t_draft_code A_t_draft_letters A_t_draft_valueFrom A_t_draft_testFrom A_t_draft_testEnd A_t_draft_facts A_t_draft_stack x_t_draft_size x_t_draft_rules x_t_draft_height x_t_draft_refused, iA cI 240 A_t_draft_code v_t_draft_code, iA cI 16 A_t_draft_letters v_t_draft_letters, iA cI 16 A_t_draft_testEnd v_t_draft_testEnd, iA cI 16 A_t_draft_testFrom v_t_draft_testFrom, iA cI 16 A_t_draft_valueFrom v_t_draft_valueFrom, oX9 A_t_text A_t_text_bytes x_t_text_size x_t_text_end x_t_text_place x_t_text_fault, iA cI 260 A_t_text_bytes v_t_text_bytes] → va_S A s.heap H locs → f_X2_readRule_b35 v_t_text_bytes x_t_text_end x_t_text_size v_t_draft_code v_t_draft_letters v_t_draft_testEnd v_t_draft_testFrom v_t_draft_valueFrom x_t_draft_rules x_t_draft_size x_t_text_fault x_t_text_place l1 = some (o_v_t_draft_code, o_v_t_draft_letters, o_v_t_draft_testEnd, o_v_t_draft_testFrom, o_v_t_draft_valueFrom, o_x_t_draft_rules, o_x_t_draft_size, o_x_t_text_fault, o_x_t_text_place) → W p l e { frames := 86, cells := 0, slots := 0, locals := 1977 } s m ([.ref A_t] : List Value).toArray below meth c H locs 0 0 (MQ below (PoV D A [oX2 A_t A_t_text A_t_draft, oX1 A_t_draft A_t_draft_code A_t_draft_letters A_t_draft_valueFrom A_t_draft_testFrom A_t_draft_testEnd A_t_draft_facts A_t_draft_stack o_x_t_draft_size o_x_t_draft_rules x_t_draft_height x_t_draft_refused, iA cI 240 A_t_draft_code o_v_t_draft_code, iA cI 16 A_t_draft_letters o_v_t_draft_letters, iA cI 16 A_t_draft_testEnd o_v_t_draft_testEnd, iA cI 16 A_t_draft_testFrom o_v_t_draft_testFrom, iA cI 16 A_t_draft_valueFrom o_v_t_draft_valueFrom, oX9 A_t_text A_t_text_bytes x_t_text_size x_t_text_end o_x_t_text_place o_x_t_text_fault, iA cI 260 A_t_text_bytes v_t_text_bytes]) ([.ref A_t] : List Value).toArray s 0 0 A) (F0 m 35 ls []) := by
    intro v_t_draft_code v_t_draft_letters v_t_draft_testEnd v_t_draft_testFrom v_t_draft_valueFrom x_t_draft_rules x_t_draft_size x_t_text_fault x_t_text_place l1 H locs ls hl hP hD hS hf
    unfold f_X2_readRule_b35 at hf
    refine lv_aload_n hx hb dX2_readRule_35 rfl (lv_at hl 0 rfl) ?_
    refine x_get C hK hP fd_X2_18 0 rfl rfl dX2_readRule_36 ?_
    refine x_get C hK hP fd_X2_41 1 rfl rfl dX2_readRule_39 ?_
    refine lv_bipush (v := 16) hx hb dX2_readRule_42 (by decide) ?_
    refine lv_icmp_lt (tgt := 56) hx hb dX2_readRule_44 (by decide) (fun q => ?_) (fun q => ?_)
    · have hf := if_t q hf
      refine lv_aload_n hx hb dX2_readRule_56 rfl (lv_at hl 0 rfl) ?_
      refine x_get C hK hP fd_X2_9 0 rfl rfl dX2_readRule_57 ?_
      obtain ⟨w18, hc19, hf⟩ := bd1_e hf
      refine x_callVV (ws' := [oX2 A_t A_t_text A_t_draft, oX1 A_t_draft A_t_draft_code A_t_draft_letters A_t_draft_valueFrom A_t_draft_testFrom A_t_draft_testEnd A_t_draft_facts A_t_draft_stack x_t_draft_size x_t_draft_rules x_t_draft_height x_t_draft_refused, iA cI 240 A_t_draft_code v_t_draft_code, iA cI 16 A_t_draft_letters v_t_draft_letters, iA cI 16 A_t_draft_testEnd v_t_draft_testEnd, iA cI 16 A_t_draft_testFrom v_t_draft_testFrom, iA cI 16 A_t_draft_valueFrom v_t_draft_valueFrom, oX9 A_t_text A_t_text_bytes x_t_text_size x_t_text_end w18 x_t_text_fault, iA cI 260 A_t_text_bytes v_t_text_bytes]) (rest := []) C hK hP hD hS hA hl mf_X2_58 (c_X9_step hc19) [7] 0 9 rfl rfl rfl rfl rfl rfl rfl rfl rfl rfl (Nat.le_of_ble_eq_true rfl) ⟨Nat.le_of_ble_eq_true rfl, Nat.le_of_ble_eq_true rfl⟩ ⟨Nat.le_refl _, Nat.le_refl _⟩ dX2_readRule_60 ?_
      intro H locs hP hD hS
      refine lv_aload_n hx hb dX2_readRule_63 rfl (lv_at hl 0 rfl) ?_
      refine x_get C hK hP fd_X2_18 0 rfl rfl dX2_readRule_64 ?_
      refine x_get C hK hP fd_X2_61 1 rfl rfl dX2_readRule_67 ?_
      refine lv_istore_n (lv' := [(2, .int x_t_draft_size), (0, .ref A_t), (1, .int l1)]) hx hb dX2_readRule_70 rfl hl (by decide) rfl (fun ls hl => ?_)
      refine lv_iload_n hx hb dX2_readRule_71 rfl (lv_at hl 2 rfl) ?_
      refine lv_bipush (v := 120) hx hb dX2_readRule_72 (by decide) ?_
      refine lv_icmp_eq (tgt := 82) hx hb dX2_readRule_74 (by decide) (fun q => ?_) (fun q => ?_)
      · have hf := if_t q hf
        exact hb_82 v_t_draft_code v_t_draft_letters v_t_draft_testEnd v_t_draft_testFrom v_t_draft_valueFrom x_t_draft_rules x_t_draft_size x_t_text_fault w18 l1 x_t_draft_size _ _ ls (lv_sub hl [1, 2, 0] rfl) hP hD hS hf
      · have hf := if_f q hf
        refine lv_aload_n hx hb dX2_readRule_77 rfl (lv_at hl 1 rfl) ?_
        refine lv_iconst (v := 0) hx hb dX2_readRule_78 (by decide) ?_
        obtain ⟨w20, w21, w22, w23, hc24, hf⟩ := bd4_e hf
        refine x_callVV (ws' := [oX2 A_t A_t_text A_t_draft, oX1 A_t_draft A_t_draft_code A_t_draft_letters A_t_draft_valueFrom A_t_draft_testFrom A_t_draft_testEnd A_t_draft_facts A_t_draft_stack w21 x_t_draft_rules x_t_draft_height x_t_draft_refused, iA cI 240 A_t_draft_code w20, iA cI 16 A_t_draft_letters v_t_draft_letters, iA cI 16 A_t_draft_testEnd v_t_draft_testEnd, iA cI 16 A_t_draft_testFrom v_t_draft_testFrom, iA cI 16 A_t_draft_valueFrom v_t_draft_valueFrom, oX9 A_t_text A_t_text_bytes x_t_text_size x_t_text_end w23 w22, iA cI 260 A_t_text_bytes v_t_text_bytes]) (rest := []) C hK hP hD hS hA hl mf_X2_64 (c_X2_readSum hc24) [0, 1, 2, 7, 8] 0 2 rfl rfl rfl rfl rfl rfl rfl rfl rfl rfl (Nat.le_of_ble_eq_true rfl) ⟨Nat.le_of_ble_eq_true rfl, Nat.le_of_ble_eq_true rfl⟩ ⟨Nat.le_refl _, Nat.le_refl _⟩ dX2_readRule_79 ?_
        intro H locs hP hD hS
        exact hb_82 w20 v_t_draft_letters v_t_draft_testEnd v_t_draft_testFrom v_t_draft_valueFrom x_t_draft_rules w21 w22 w23 l1 x_t_draft_size _ _ ls (lv_sub hl [1, 2, 0] rfl) hP hD hS hf
    · have hf := if_f q hf
      refine lv_aload_n hx hb dX2_readRule_47 rfl (lv_at hl 0 rfl) ?_
      refine x_get C hK hP fd_X2_9 0 rfl rfl dX2_readRule_48 ?_
      refine lv_iconst (v := 4) hx hb dX2_readRule_51 (by decide) ?_
      obtain ⟨w25, hc26, hf⟩ := bd1_e hf
      refine x_callVV (ws' := [oX2 A_t A_t_text A_t_draft, oX1 A_t_draft A_t_draft_code A_t_draft_letters A_t_draft_valueFrom A_t_draft_testFrom A_t_draft_testEnd A_t_draft_facts A_t_draft_stack x_t_draft_size x_t_draft_rules x_t_draft_height x_t_draft_refused, iA cI 240 A_t_draft_code v_t_draft_code, iA cI 16 A_t_draft_letters v_t_draft_letters, iA cI 16 A_t_draft_testEnd v_t_draft_testEnd, iA cI 16 A_t_draft_testFrom v_t_draft_testFrom, iA cI 16 A_t_draft_valueFrom v_t_draft_valueFrom, oX9 A_t_text A_t_text_bytes x_t_text_size x_t_text_end x_t_text_place w25, iA cI 260 A_t_text_bytes v_t_text_bytes]) (rest := []) C hK hP hD hS hA hl mf_X2_55 (c_X9_fail hc26) [7] 0 9 rfl rfl rfl rfl rfl rfl rfl rfl rfl rfl (Nat.le_of_ble_eq_true rfl) ⟨Nat.le_of_ble_eq_true rfl, Nat.le_of_ble_eq_true rfl⟩ ⟨Nat.le_refl _, Nat.le_refl _⟩ dX2_readRule_52 ?_
      intro H locs hP hD hS
      obtain ⟨rfl, rfl, rfl, rfl, rfl, rfl, rfl, rfl, rfl⟩ := ev9 hf
      exact x_vret C hr hlk hP hD hS dX2_readRule_55
  refine lv_aload_n hx hb dX2_readRule_0 rfl (lv_at hl 0 rfl) ?_
  refine x_get C hK hP fd_X2_9 0 rfl rfl dX2_readRule_1 ?_
  obtain ⟨r27, hc28, hf⟩ := bd1_e hf
  refine x_callVI (ws' := [oX2 A_t A_t_text A_t_draft, oX1 A_t_draft A_t_draft_code A_t_draft_letters A_t_draft_valueFrom A_t_draft_testFrom A_t_draft_testEnd A_t_draft_facts A_t_draft_stack x_t_draft_size x_t_draft_rules x_t_draft_height x_t_draft_refused, iA cI 240 A_t_draft_code v_t_draft_code, iA cI 16 A_t_draft_letters v_t_draft_letters, iA cI 16 A_t_draft_testEnd v_t_draft_testEnd, iA cI 16 A_t_draft_testFrom v_t_draft_testFrom, iA cI 16 A_t_draft_valueFrom v_t_draft_valueFrom, oX9 A_t_text A_t_text_bytes x_t_text_size x_t_text_end x_t_text_place x_t_text_fault, iA cI 260 A_t_text_bytes v_t_text_bytes]) (rest := []) C hK hP hD hS hA hl mf_X2_51 (c_X9_sign hc28) [7, 8] 0 9 rfl rfl rfl rfl rfl rfl rfl rfl rfl rfl (Nat.le_of_ble_eq_true rfl) ⟨Nat.le_of_ble_eq_true rfl, Nat.le_of_ble_eq_true rfl⟩ ⟨Nat.le_refl _, Nat.le_refl _⟩ dX2_readRule_4 ?_
  intro H locs hP hD hS
  refine lv_istore_n (lv' := [(1, .int r27), (0, .ref A_t)]) hx hb dX2_readRule_7 rfl hl (by decide) rfl (fun ls hl => ?_)
  refine lv_iload_n hx hb dX2_readRule_8 rfl (lv_at hl 0 rfl) ?_
  refine lv_bipush (v := 102) hx hb dX2_readRule_9 (by decide) ?_
  refine lv_icmp_eq (tgt := 35) hx hb dX2_readRule_11 (by decide) (fun q => ?_) (fun q => ?_)
  · have hf := if_t q hf
    exact hb_35 v_t_draft_code v_t_draft_letters v_t_draft_testEnd v_t_draft_testFrom v_t_draft_valueFrom x_t_draft_rules x_t_draft_size x_t_text_fault x_t_text_place r27 _ _ ls (lv_sub hl [1, 0] rfl) hP hD hS hf
  · have hf := if_f q hf
    refine lv_iload_n hx hb dX2_readRule_14 rfl (lv_at hl 0 rfl) ?_
    refine lv_bipush (v := 101) hx hb dX2_readRule_15 (by decide) ?_
    refine lv_icmp_eq (tgt := 35) hx hb dX2_readRule_17 (by decide) (fun q => ?_) (fun q => ?_)
    · have hf := if_t q hf
      exact hb_35 v_t_draft_code v_t_draft_letters v_t_draft_testEnd v_t_draft_testFrom v_t_draft_valueFrom x_t_draft_rules x_t_draft_size x_t_text_fault x_t_text_place r27 _ _ ls (lv_sub hl [1, 0] rfl) hP hD hS hf
    · have hf := if_f q hf
      refine lv_iload_n hx hb dX2_readRule_20 rfl (lv_at hl 0 rfl) ?_
      refine lv_bipush (v := 120) hx hb dX2_readRule_21 (by decide) ?_
      refine lv_icmp_eq (tgt := 35) hx hb dX2_readRule_23 (by decide) (fun q => ?_) (fun q => ?_)
      · have hf := if_t q hf
        exact hb_35 v_t_draft_code v_t_draft_letters v_t_draft_testEnd v_t_draft_testFrom v_t_draft_valueFrom x_t_draft_rules x_t_draft_size x_t_text_fault x_t_text_place r27 _ _ ls (lv_sub hl [1, 0] rfl) hP hD hS hf
      · have hf := if_f q hf
        refine lv_aload_n hx hb dX2_readRule_26 rfl (lv_at hl 1 rfl) ?_
        refine x_get C hK hP fd_X2_9 0 rfl rfl dX2_readRule_27 ?_
        refine lv_iconst (v := 1) hx hb dX2_readRule_30 (by decide) ?_
        obtain ⟨w29, hc30, hf⟩ := bd1_e hf
        refine x_callVV (ws' := [oX2 A_t A_t_text A_t_draft, oX1 A_t_draft A_t_draft_code A_t_draft_letters A_t_draft_valueFrom A_t_draft_testFrom A_t_draft_testEnd A_t_draft_facts A_t_draft_stack x_t_draft_size x_t_draft_rules x_t_draft_height x_t_draft_refused, iA cI 240 A_t_draft_code v_t_draft_code, iA cI 16 A_t_draft_letters v_t_draft_letters, iA cI 16 A_t_draft_testEnd v_t_draft_testEnd, iA cI 16 A_t_draft_testFrom v_t_draft_testFrom, iA cI 16 A_t_draft_valueFrom v_t_draft_valueFrom, oX9 A_t_text A_t_text_bytes x_t_text_size x_t_text_end x_t_text_place w29, iA cI 260 A_t_text_bytes v_t_text_bytes]) (rest := []) C hK hP hD hS hA hl mf_X2_55 (c_X9_fail hc30) [7] 0 9 rfl rfl rfl rfl rfl rfl rfl rfl rfl rfl (Nat.le_of_ble_eq_true rfl) ⟨Nat.le_of_ble_eq_true rfl, Nat.le_of_ble_eq_true rfl⟩ ⟨Nat.le_refl _, Nat.le_refl _⟩ dX2_readRule_31 ?_
        intro H locs hP hD hS
        obtain ⟨rfl, rfl, rfl, rfl, rfl, rfl, rfl, rfl, rfl⟩ := ev9 hf
        exact x_vret C hr hlk hP hD hS dX2_readRule_34
def f_X2_read_b65 (v_t_text_bytes : (Nat → Int32)) (x_t_text_size : Int32) (k17 : (Nat → Int32) → (Nat → Int32) → (Nat → Int32) → (Nat → Int32) → (Nat → Int32) → Int32 → Int32 → Int32 → Int32 → Int32 → Int32 → Option (Int32 × (Nat → Int32) × (Nat → Int32) × (Nat → Int32) × (Nat → Int32) × (Nat → Int32) × Int32 × Int32 × Int32 × Int32 × Int32)) (v_t_draft_code : (Nat → Int32)) (v_t_draft_letters : (Nat → Int32)) (v_t_draft_testEnd : (Nat → Int32)) (v_t_draft_testFrom : (Nat → Int32)) (v_t_draft_valueFrom : (Nat → Int32)) (x_t_draft_rules : Int32) (x_t_draft_size : Int32) (x_t_text_end : Int32) (x_t_text_fault : Int32) (x_t_text_place : Int32) (l2 : Int32) : Option (Int32 × (Nat → Int32) × (Nat → Int32) × (Nat → Int32) × (Nat → Int32) × (Nat → Int32) × Int32 × Int32 × Int32 × Int32 × Int32) :=
  bd2 (f_X9_take v_t_text_bytes x_t_text_end x_t_text_fault x_t_text_place x_t_text_size (59 : Int32)) (fun w1 w2 =>
  k17 v_t_draft_code v_t_draft_letters v_t_draft_testEnd v_t_draft_testFrom v_t_draft_valueFrom x_t_draft_rules x_t_draft_size x_t_text_end w1 w2 (l2 + (1 : Int32)))
def f_X2_read_b80 (v_t_draft_code : (Nat → Int32)) (v_t_draft_letters : (Nat → Int32)) (v_t_draft_testEnd : (Nat → Int32)) (v_t_draft_testFrom : (Nat → Int32)) (v_t_draft_valueFrom : (Nat → Int32)) (x_t_draft_rules : Int32) (x_t_draft_size : Int32) (x_t_text_end : Int32) (x_t_text_fault : Int32) (x_t_text_place : Int32) : Option (Int32 × (Nat → Int32) × (Nat → Int32) × (Nat → Int32) × (Nat → Int32) × (Nat → Int32) × Int32 × Int32 × Int32 × Int32 × Int32) :=
  some (x_t_text_fault, v_t_draft_code, v_t_draft_letters, v_t_draft_testEnd, v_t_draft_testFrom, v_t_draft_valueFrom, x_t_draft_rules, x_t_draft_size, x_t_text_end, x_t_text_fault, x_t_text_place)
def f_X2_read_b17 (v_t_text_bytes : (Nat → Int32)) (x_t_text_size : Int32) : Nat → (Nat → Int32) → (Nat → Int32) → (Nat → Int32) → (Nat → Int32) → (Nat → Int32) → Int32 → Int32 → Int32 → Int32 → Int32 → Int32 → Option (Int32 × (Nat → Int32) × (Nat → Int32) × (Nat → Int32) × (Nat → Int32) × (Nat → Int32) × Int32 × Int32 × Int32 × Int32 × Int32)
  | 0, _, _, _, _, _, _, _, _, _, _, _ => none
  | n + 1, v_t_draft_code, v_t_draft_letters, v_t_draft_testEnd, v_t_draft_testFrom, v_t_draft_valueFrom, x_t_draft_rules, x_t_draft_size, x_t_text_end, x_t_text_fault, x_t_text_place, l2 =>
    if (16 : Int32) < l2 then
      f_X2_read_b80 v_t_draft_code v_t_draft_letters v_t_draft_testEnd v_t_draft_testFrom v_t_draft_valueFrom x_t_draft_rules x_t_draft_size x_t_text_end x_t_text_fault x_t_text_place
    else
      bd1 (f_X9_hasFailed x_t_text_fault) (fun r1 =>
      if r1 = 0 then
        bd9 (f_X2_readRule v_t_draft_code v_t_draft_letters v_t_draft_testEnd v_t_draft_testFrom v_t_draft_valueFrom v_t_text_bytes x_t_draft_rules x_t_draft_size x_t_text_end x_t_text_fault x_t_text_place x_t_text_size) (fun w2 w3 w4 w5 w6 w7 w8 w9 w10 =>
        bd1 (f_X9_hasFailed w9) (fun r11 =>
        if r11 = 0 then
          bd1 (f_X9_isAtEnd x_t_text_end w10) (fun r12 =>
          if r12 = 0 then
            f_X2_read_b65 v_t_text_bytes x_t_text_size (f_X2_read_b17 v_t_text_bytes x_t_text_size n) w2 w3 w4 w5 w6 w7 w8 x_t_text_end w9 w10 l2
          else
            some (w7, w2, w3, w4, w5, w6, w7, w8, x_t_text_end, w9, w10))
        else
          f_X2_read_b65 v_t_text_bytes x_t_text_size (f_X2_read_b17 v_t_text_bytes x_t_text_size n) w2 w3 w4 w5 w6 w7 w8 x_t_text_end w9 w10 l2))
      else
        f_X2_read_b80 v_t_draft_code v_t_draft_letters v_t_draft_testEnd v_t_draft_testFrom v_t_draft_valueFrom x_t_draft_rules x_t_draft_size x_t_text_end x_t_text_fault x_t_text_place)
def f_X2_read (v_t_draft_code : (Nat → Int32)) (v_t_draft_letters : (Nat → Int32)) (v_t_draft_testEnd : (Nat → Int32)) (v_t_draft_testFrom : (Nat → Int32)) (v_t_draft_valueFrom : (Nat → Int32)) (v_t_text_bytes : (Nat → Int32)) (x_t_draft_rules : Int32) (x_t_draft_size : Int32) (x_t_text_end : Int32) (x_t_text_fault : Int32) (x_t_text_place : Int32) (x_t_text_size : Int32) (a1 : Int32) : Option (Int32 × (Nat → Int32) × (Nat → Int32) × (Nat → Int32) × (Nat → Int32) × (Nat → Int32) × Int32 × Int32 × Int32 × Int32 × Int32) :=
  bd2 (f_X1_clear x_t_draft_rules x_t_draft_size) (fun w13 w14 =>
  bd3 (f_X9_begin x_t_text_end x_t_text_fault x_t_text_place x_t_text_size a1) (fun w15 w16 w17 =>
  f_X2_read_b17 v_t_text_bytes x_t_text_size FU v_t_draft_code v_t_draft_letters v_t_draft_testEnd v_t_draft_testFrom v_t_draft_valueFrom w13 w14 w15 w16 w17 (0 : Int32)))
set_option maxHeartbeats 4000000 in
set_option maxRecDepth 100000 in
theorem c_X2_read {l : Launch} {D : va_G} {cI cB : ClassId} {A_t A_t_text A_t_draft A_t_draft_code A_t_draft_letters A_t_draft_valueFrom A_t_draft_testFrom A_t_draft_testEnd A_t_draft_facts A_t_draft_stack A_t_text_bytes : Nat} {x_t_draft_size x_t_draft_rules x_t_draft_height x_t_draft_refused x_t_text_size x_t_text_end x_t_text_place x_t_text_fault a1 : Int32} {v_t_draft_code v_t_draft_letters v_t_draft_testEnd v_t_draft_testFrom v_t_draft_valueFrom v_t_text_bytes : Nat → Int32} {o_r o_x_t_draft_rules o_x_t_draft_size o_x_t_text_end o_x_t_text_fault o_x_t_text_place : Int32} {o_v_t_draft_code o_v_t_draft_letters o_v_t_draft_testEnd o_v_t_draft_testFrom o_v_t_draft_valueFrom : Nat → Int32} (hf : f_X2_read v_t_draft_code v_t_draft_letters v_t_draft_testEnd v_t_draft_testFrom v_t_draft_valueFrom v_t_text_bytes x_t_draft_rules x_t_draft_size x_t_text_end x_t_text_fault x_t_text_place x_t_text_size a1 = some (o_r, o_v_t_draft_code, o_v_t_draft_letters, o_v_t_draft_testEnd, o_v_t_draft_testFrom, o_v_t_draft_valueFrom, o_x_t_draft_rules, o_x_t_draft_size, o_x_t_text_end, o_x_t_text_fault, o_x_t_text_place)) : CtI l D cI cB yX2_read cX2_read 3 (some .int) 87 2000 [.ref A_t, .int a1] [oX2 A_t A_t_text A_t_draft, oX1 A_t_draft A_t_draft_code A_t_draft_letters A_t_draft_valueFrom A_t_draft_testFrom A_t_draft_testEnd A_t_draft_facts A_t_draft_stack x_t_draft_size x_t_draft_rules x_t_draft_height x_t_draft_refused, iA cI 240 A_t_draft_code v_t_draft_code, iA cI 16 A_t_draft_letters v_t_draft_letters, iA cI 16 A_t_draft_testEnd v_t_draft_testEnd, iA cI 16 A_t_draft_testFrom v_t_draft_testFrom, iA cI 16 A_t_draft_valueFrom v_t_draft_valueFrom, oX9 A_t_text A_t_text_bytes x_t_text_size x_t_text_end x_t_text_place x_t_text_fault, iA cI 260 A_t_text_bytes v_t_text_bytes] [oX2 A_t A_t_text A_t_draft, oX1 A_t_draft A_t_draft_code A_t_draft_letters A_t_draft_valueFrom A_t_draft_testFrom A_t_draft_testEnd A_t_draft_facts A_t_draft_stack o_x_t_draft_size o_x_t_draft_rules x_t_draft_height x_t_draft_refused, iA cI 240 A_t_draft_code o_v_t_draft_code, iA cI 16 A_t_draft_letters o_v_t_draft_letters, iA cI 16 A_t_draft_testEnd o_v_t_draft_testEnd, iA cI 16 A_t_draft_testFrom o_v_t_draft_testFrom, iA cI 16 A_t_draft_valueFrom o_v_t_draft_valueFrom, oX9 A_t_text A_t_text_bytes x_t_text_size o_x_t_text_end o_x_t_text_place o_x_t_text_fault, iA cI 260 A_t_text_bytes v_t_text_bytes] o_r := by
  refine x_startI (by decide) (Nat.le_of_ble_eq_true rfl) ?_
  intro p e s m below meth c A C hr hlk hA hK hP hD hS ls hl
  have hl : lv_has ls 3 [(0, .ref A_t), (1, .int a1)] := hl
  have hx := C.1
  have hb := C.2.1
  unfold f_X2_read at hf
  have hb_80 : ∀ (v_t_draft_code : (Nat → Int32)) (v_t_draft_letters : (Nat → Int32)) (v_t_draft_testEnd : (Nat → Int32)) (v_t_draft_testFrom : (Nat → Int32)) (v_t_draft_valueFrom : (Nat → Int32)) (x_t_draft_rules : Int32) (x_t_draft_size : Int32) (x_t_text_end : Int32) (x_t_text_fault : Int32) (x_t_text_place : Int32) (H : Heap) (locs : List Loc) (ls : Array Slot), lv_has ls 3 [(0, .ref A_t)] → va_P D vwCl [oX2 A_t A_t_text A_t_draft, oX1 A_t_draft A_t_draft_code A_t_draft_letters A_t_draft_valueFrom A_t_draft_testFrom A_t_draft_testEnd A_t_draft_facts A_t_draft_stack x_t_draft_size x_t_draft_rules x_t_draft_height x_t_draft_refused, iA cI 240 A_t_draft_code v_t_draft_code, iA cI 16 A_t_draft_letters v_t_draft_letters, iA cI 16 A_t_draft_testEnd v_t_draft_testEnd, iA cI 16 A_t_draft_testFrom v_t_draft_testFrom, iA cI 16 A_t_draft_valueFrom v_t_draft_valueFrom, oX9 A_t_text A_t_text_bytes x_t_text_size x_t_text_end x_t_text_place x_t_text_fault, iA cI 260 A_t_text_bytes v_t_text_bytes] H → va_D A [oX2 A_t A_t_text A_t_draft, oX1 A_t_draft A_t_draft_code A_t_draft_letters A_t_draft_valueFrom A_t_draft_testFrom A_t_draft_testEnd A_t_draft_facts A_t_draft_stack x_t_draft_size x_t_draft_rules x_t_draft_height x_t_draft_refused, iA cI 240 A_t_draft_code v_t_draft_code, iA cI 16 A_t_draft_letters v_t_draft_letters, iA cI 16 A_t_draft_testEnd v_t_draft_testEnd, iA cI 16 A_t_draft_testFrom v_t_draft_testFrom, iA cI 16 A_t_draft_valueFrom v_t_draft_valueFrom, oX9 A_t_text A_t_text_bytes x_t_text_size x_t_text_end x_t_text_place x_t_text_fault, iA cI 260 A_t_text_bytes v_t_text_bytes] → va_S A s.heap H locs → f_X2_read_b80 v_t_draft_code v_t_draft_letters v_t_draft_testEnd v_t_draft_testFrom v_t_draft_valueFrom x_t_draft_rules x_t_draft_size x_t_text_end x_t_text_fault x_t_text_place = some (o_r, o_v_t_draft_code, o_v_t_draft_letters, o_v_t_draft_testEnd, o_v_t_draft_testFrom, o_v_t_draft_valueFrom, o_x_t_draft_rules, o_x_t_draft_size, o_x_t_text_end, o_x_t_text_fault, o_x_t_text_place) → W p l e { frames := 87, cells := 0, slots := 0, locals := 2000 } s m ([.ref A_t, .int a1] : List Value).toArray below meth c H locs 0 0 (MQ below (PoI D A [oX2 A_t A_t_text A_t_draft, oX1 A_t_draft A_t_draft_code A_t_draft_letters A_t_draft_valueFrom A_t_draft_testFrom A_t_draft_testEnd A_t_draft_facts A_t_draft_stack o_x_t_draft_size o_x_t_draft_rules x_t_draft_height x_t_draft_refused, iA cI 240 A_t_draft_code o_v_t_draft_code, iA cI 16 A_t_draft_letters o_v_t_draft_letters, iA cI 16 A_t_draft_testEnd o_v_t_draft_testEnd, iA cI 16 A_t_draft_testFrom o_v_t_draft_testFrom, iA cI 16 A_t_draft_valueFrom o_v_t_draft_valueFrom, oX9 A_t_text A_t_text_bytes x_t_text_size o_x_t_text_end o_x_t_text_place o_x_t_text_fault, iA cI 260 A_t_text_bytes v_t_text_bytes] o_r) ([.ref A_t, .int a1] : List Value).toArray s 0 0 A) (F0 m 80 ls []) := by
    intro v_t_draft_code v_t_draft_letters v_t_draft_testEnd v_t_draft_testFrom v_t_draft_valueFrom x_t_draft_rules x_t_draft_size x_t_text_end x_t_text_fault x_t_text_place H locs ls hl hP hD hS hf
    unfold f_X2_read_b80 at hf
    refine lv_aload_n hx hb dX2_read_80 rfl (lv_at hl 0 rfl) ?_
    refine x_get C hK hP fd_X2_9 0 rfl rfl dX2_read_81 ?_
    refine x_get C hK hP fd_X2_48 7 rfl rfl dX2_read_84 ?_
    obtain ⟨rfl, rfl, rfl, rfl, rfl, rfl, rfl, rfl, rfl, rfl, rfl⟩ := ev11 hf
    exact x_iret C hr hlk hP hD hS dX2_read_87
  have hb_17 : ∀ (n_17 : Nat) (v_t_draft_code : (Nat → Int32)) (v_t_draft_letters : (Nat → Int32)) (v_t_draft_testEnd : (Nat → Int32)) (v_t_draft_testFrom : (Nat → Int32)) (v_t_draft_valueFrom : (Nat → Int32)) (x_t_draft_rules : Int32) (x_t_draft_size : Int32) (x_t_text_end : Int32) (x_t_text_fault : Int32) (x_t_text_place : Int32) (l2 : Int32) (H : Heap) (locs : List Loc) (ls : Array Slot), lv_has ls 3 [(0, .ref A_t), (2, .int l2)] → va_P D vwCl [oX2 A_t A_t_text A_t_draft, oX1 A_t_draft A_t_draft_code A_t_draft_letters A_t_draft_valueFrom A_t_draft_testFrom A_t_draft_testEnd A_t_draft_facts A_t_draft_stack x_t_draft_size x_t_draft_rules x_t_draft_height x_t_draft_refused, iA cI 240 A_t_draft_code v_t_draft_code, iA cI 16 A_t_draft_letters v_t_draft_letters, iA cI 16 A_t_draft_testEnd v_t_draft_testEnd, iA cI 16 A_t_draft_testFrom v_t_draft_testFrom, iA cI 16 A_t_draft_valueFrom v_t_draft_valueFrom, oX9 A_t_text A_t_text_bytes x_t_text_size x_t_text_end x_t_text_place x_t_text_fault, iA cI 260 A_t_text_bytes v_t_text_bytes] H → va_D A [oX2 A_t A_t_text A_t_draft, oX1 A_t_draft A_t_draft_code A_t_draft_letters A_t_draft_valueFrom A_t_draft_testFrom A_t_draft_testEnd A_t_draft_facts A_t_draft_stack x_t_draft_size x_t_draft_rules x_t_draft_height x_t_draft_refused, iA cI 240 A_t_draft_code v_t_draft_code, iA cI 16 A_t_draft_letters v_t_draft_letters, iA cI 16 A_t_draft_testEnd v_t_draft_testEnd, iA cI 16 A_t_draft_testFrom v_t_draft_testFrom, iA cI 16 A_t_draft_valueFrom v_t_draft_valueFrom, oX9 A_t_text A_t_text_bytes x_t_text_size x_t_text_end x_t_text_place x_t_text_fault, iA cI 260 A_t_text_bytes v_t_text_bytes] → va_S A s.heap H locs → f_X2_read_b17 v_t_text_bytes x_t_text_size n_17 v_t_draft_code v_t_draft_letters v_t_draft_testEnd v_t_draft_testFrom v_t_draft_valueFrom x_t_draft_rules x_t_draft_size x_t_text_end x_t_text_fault x_t_text_place l2 = some (o_r, o_v_t_draft_code, o_v_t_draft_letters, o_v_t_draft_testEnd, o_v_t_draft_testFrom, o_v_t_draft_valueFrom, o_x_t_draft_rules, o_x_t_draft_size, o_x_t_text_end, o_x_t_text_fault, o_x_t_text_place) → W p l e { frames := 87, cells := 0, slots := 0, locals := 2000 } s m ([.ref A_t, .int a1] : List Value).toArray below meth c H locs 0 0 (MQ below (PoI D A [oX2 A_t A_t_text A_t_draft, oX1 A_t_draft A_t_draft_code A_t_draft_letters A_t_draft_valueFrom A_t_draft_testFrom A_t_draft_testEnd A_t_draft_facts A_t_draft_stack o_x_t_draft_size o_x_t_draft_rules x_t_draft_height x_t_draft_refused, iA cI 240 A_t_draft_code o_v_t_draft_code, iA cI 16 A_t_draft_letters o_v_t_draft_letters, iA cI 16 A_t_draft_testEnd o_v_t_draft_testEnd, iA cI 16 A_t_draft_testFrom o_v_t_draft_testFrom, iA cI 16 A_t_draft_valueFrom o_v_t_draft_valueFrom, oX9 A_t_text A_t_text_bytes x_t_text_size o_x_t_text_end o_x_t_text_place o_x_t_text_fault, iA cI 260 A_t_text_bytes v_t_text_bytes] o_r) ([.ref A_t, .int a1] : List Value).toArray s 0 0 A) (F0 m 17 ls []) := by
    intro n_17
    induction n_17 with
    | zero =>
      intro v_t_draft_code v_t_draft_letters v_t_draft_testEnd v_t_draft_testFrom v_t_draft_valueFrom x_t_draft_rules x_t_draft_size x_t_text_end x_t_text_fault x_t_text_place l2 H locs ls hl hP hD hS hf
      exact absurd hf (fun h => by rw [f_X2_read_b17] at h; cases h)
    | succ n_17 ih_17 =>
      have hb_65 : ∀ (v_t_draft_code : (Nat → Int32)) (v_t_draft_letters : (Nat → Int32)) (v_t_draft_testEnd : (Nat → Int32)) (v_t_draft_testFrom : (Nat → Int32)) (v_t_draft_valueFrom : (Nat → Int32)) (x_t_draft_rules : Int32) (x_t_draft_size : Int32) (x_t_text_end : Int32) (x_t_text_fault : Int32) (x_t_text_place : Int32) (l2 : Int32) (H : Heap) (locs : List Loc) (ls : Array Slot), lv_has ls 3 [(0, .ref A_t), (2, .int l2)] → va_P D vwCl [oX2 A_t A_t_text A_t_draft, oX1 A_t_draft A_t_draft_code A_t_draft_letters A_t_draft_valueFrom A_t_draft_testFrom A_t_draft_testEnd A_t_draft_facts A_t_draft_stack x_t_draft_size x_t_draft_rules x_t_draft_height x_t_draft_refused, iA cI 240 A_t_draft_code v_t_draft_code, iA cI 16 A_t_draft_letters v_t_draft_letters, iA cI 16 A_t_draft_testEnd v_t_draft_testEnd, iA cI 16 A_t_draft_testFrom v_t_draft_testFrom, iA cI 16 A_t_draft_valueFrom v_t_draft_valueFrom, oX9 A_t_text A_t_text_bytes x_t_text_size x_t_text_end x_t_text_place x_t_text_fault, iA cI 260 A_t_text_bytes v_t_text_bytes] H → va_D A [oX2 A_t A_t_text A_t_draft, oX1 A_t_draft A_t_draft_code A_t_draft_letters A_t_draft_valueFrom A_t_draft_testFrom A_t_draft_testEnd A_t_draft_facts A_t_draft_stack x_t_draft_size x_t_draft_rules x_t_draft_height x_t_draft_refused, iA cI 240 A_t_draft_code v_t_draft_code, iA cI 16 A_t_draft_letters v_t_draft_letters, iA cI 16 A_t_draft_testEnd v_t_draft_testEnd, iA cI 16 A_t_draft_testFrom v_t_draft_testFrom, iA cI 16 A_t_draft_valueFrom v_t_draft_valueFrom, oX9 A_t_text A_t_text_bytes x_t_text_size x_t_text_end x_t_text_place x_t_text_fault, iA cI 260 A_t_text_bytes v_t_text_bytes] → va_S A s.heap H locs → f_X2_read_b65 v_t_text_bytes x_t_text_size (f_X2_read_b17 v_t_text_bytes x_t_text_size n_17) v_t_draft_code v_t_draft_letters v_t_draft_testEnd v_t_draft_testFrom v_t_draft_valueFrom x_t_draft_rules x_t_draft_size x_t_text_end x_t_text_fault x_t_text_place l2 = some (o_r, o_v_t_draft_code, o_v_t_draft_letters, o_v_t_draft_testEnd, o_v_t_draft_testFrom, o_v_t_draft_valueFrom, o_x_t_draft_rules, o_x_t_draft_size, o_x_t_text_end, o_x_t_text_fault, o_x_t_text_place) → W p l e { frames := 87, cells := 0, slots := 0, locals := 2000 } s m ([.ref A_t, .int a1] : List Value).toArray below meth c H locs 0 0 (MQ below (PoI D A [oX2 A_t A_t_text A_t_draft, oX1 A_t_draft A_t_draft_code A_t_draft_letters A_t_draft_valueFrom A_t_draft_testFrom A_t_draft_testEnd A_t_draft_facts A_t_draft_stack o_x_t_draft_size o_x_t_draft_rules x_t_draft_height x_t_draft_refused, iA cI 240 A_t_draft_code o_v_t_draft_code, iA cI 16 A_t_draft_letters o_v_t_draft_letters, iA cI 16 A_t_draft_testEnd o_v_t_draft_testEnd, iA cI 16 A_t_draft_testFrom o_v_t_draft_testFrom, iA cI 16 A_t_draft_valueFrom o_v_t_draft_valueFrom, oX9 A_t_text A_t_text_bytes x_t_text_size o_x_t_text_end o_x_t_text_place o_x_t_text_fault, iA cI 260 A_t_text_bytes v_t_text_bytes] o_r) ([.ref A_t, .int a1] : List Value).toArray s 0 0 A) (F0 m 65 ls []) := by
        intro v_t_draft_code v_t_draft_letters v_t_draft_testEnd v_t_draft_testFrom v_t_draft_valueFrom x_t_draft_rules x_t_draft_size x_t_text_end x_t_text_fault x_t_text_place l2 H locs ls hl hP hD hS hf
        unfold f_X2_read_b65 at hf
        refine lv_aload_n hx hb dX2_read_65 rfl (lv_at hl 0 rfl) ?_
        refine x_get C hK hP fd_X2_9 0 rfl rfl dX2_read_66 ?_
        refine lv_bipush (v := 59) hx hb dX2_read_69 (by decide) ?_
        obtain ⟨w1, w2, hc3, hf⟩ := bd2_e hf
        refine x_callVV (ws' := [oX2 A_t A_t_text A_t_draft, oX1 A_t_draft A_t_draft_code A_t_draft_letters A_t_draft_valueFrom A_t_draft_testFrom A_t_draft_testEnd A_t_draft_facts A_t_draft_stack x_t_draft_size x_t_draft_rules x_t_draft_height x_t_draft_refused, iA cI 240 A_t_draft_code v_t_draft_code, iA cI 16 A_t_draft_letters v_t_draft_letters, iA cI 16 A_t_draft_testEnd v_t_draft_testEnd, iA cI 16 A_t_draft_testFrom v_t_draft_testFrom, iA cI 16 A_t_draft_valueFrom v_t_draft_valueFrom, oX9 A_t_text A_t_text_bytes x_t_text_size x_t_text_end w2 w1, iA cI 260 A_t_text_bytes v_t_text_bytes]) (rest := []) C hK hP hD hS hA hl mf_X2_45 (c_X9_take hc3) [7, 8] 0 9 rfl rfl rfl rfl rfl rfl rfl rfl rfl rfl (Nat.le_of_ble_eq_true rfl) ⟨Nat.le_of_ble_eq_true rfl, Nat.le_of_ble_eq_true rfl⟩ ⟨Nat.le_refl _, Nat.le_refl _⟩ dX2_read_71 ?_
        intro H locs hP hD hS
        refine lv_iinc (v := (l2 + (1 : Int32))) (lv' := [(2, .int (l2 + (1 : Int32))), (0, .ref A_t)]) hx hb dX2_read_74 hl (k := 1) rfl rfl (by decide) rfl (fun ls hl => ?_)
        refine lv_goto (tgt := 17) hx hb dX2_read_77 (by decide) ?_
        exact ih_17 v_t_draft_code v_t_draft_letters v_t_draft_testEnd v_t_draft_testFrom v_t_draft_valueFrom x_t_draft_rules x_t_draft_size x_t_text_end w1 w2 (l2 + (1 : Int32)) _ _ ls (lv_sub hl [1, 0] rfl) hP hD hS hf
      intro v_t_draft_code v_t_draft_letters v_t_draft_testEnd v_t_draft_testFrom v_t_draft_valueFrom x_t_draft_rules x_t_draft_size x_t_text_end x_t_text_fault x_t_text_place l2 H locs ls hl hP hD hS hf
      rw [f_X2_read_b17] at hf
      refine lv_iload_n hx hb dX2_read_17 rfl (lv_at hl 1 rfl) ?_
      refine lv_bipush (v := 16) hx hb dX2_read_18 (by decide) ?_
      refine lv_icmp_gt (tgt := 80) hx hb dX2_read_20 (by decide) (fun q => ?_) (fun q => ?_)
      · have hf := if_t q hf
        exact hb_80 v_t_draft_code v_t_draft_letters v_t_draft_testEnd v_t_draft_testFrom v_t_draft_valueFrom x_t_draft_rules x_t_draft_size x_t_text_end x_t_text_fault x_t_text_place _ _ ls (lv_sub hl [0] rfl) hP hD hS hf
      · have hf := if_f q hf
        refine lv_aload_n hx hb dX2_read_23 rfl (lv_at hl 0 rfl) ?_
        refine x_get C hK hP fd_X2_9 0 rfl rfl dX2_read_24 ?_
        obtain ⟨r4, hc5, hf⟩ := bd1_e hf
        refine x_callVI (ws' := [oX2 A_t A_t_text A_t_draft, oX1 A_t_draft A_t_draft_code A_t_draft_letters A_t_draft_valueFrom A_t_draft_testFrom A_t_draft_testEnd A_t_draft_facts A_t_draft_stack x_t_draft_size x_t_draft_rules x_t_draft_height x_t_draft_refused, iA cI 240 A_t_draft_code v_t_draft_code, iA cI 16 A_t_draft_letters v_t_draft_letters, iA cI 16 A_t_draft_testEnd v_t_draft_testEnd, iA cI 16 A_t_draft_testFrom v_t_draft_testFrom, iA cI 16 A_t_draft_valueFrom v_t_draft_valueFrom, oX9 A_t_text A_t_text_bytes x_t_text_size x_t_text_end x_t_text_place x_t_text_fault, iA cI 260 A_t_text_bytes v_t_text_bytes]) (rest := []) C hK hP hD hS hA hl mf_X2_31 (c_X9_hasFailed hc5) [7] 0 9 rfl rfl rfl rfl rfl rfl rfl rfl rfl rfl (Nat.le_of_ble_eq_true rfl) ⟨Nat.le_of_ble_eq_true rfl, Nat.le_of_ble_eq_true rfl⟩ ⟨Nat.le_refl _, Nat.le_refl _⟩ dX2_read_27 ?_
        intro H locs hP hD hS
        refine lv_if_ne (tgt := 80) hx hb dX2_read_30 (by decide) (fun q => ?_) (fun q => ?_)
        · have hf := if_f q hf
          exact hb_80 v_t_draft_code v_t_draft_letters v_t_draft_testEnd v_t_draft_testFrom v_t_draft_valueFrom x_t_draft_rules x_t_draft_size x_t_text_end x_t_text_fault x_t_text_place _ _ ls (lv_sub hl [0] rfl) hP hD hS hf
        · have hf := if_t q hf
          refine lv_aload_n hx hb dX2_read_33 rfl (lv_at hl 0 rfl) ?_
          obtain ⟨w6, w7, w8, w9, w10, w11, w12, w13, w14, hc15, hf⟩ := bd9_e hf
          refine x_callVV (ws' := [oX2 A_t A_t_text A_t_draft, oX1 A_t_draft A_t_draft_code A_t_draft_letters A_t_draft_valueFrom A_t_draft_testFrom A_t_draft_testEnd A_t_draft_facts A_t_draft_stack w12 w11 x_t_draft_height x_t_draft_refused, iA cI 240 A_t_draft_code w6, iA cI 16 A_t_draft_letters w7, iA cI 16 A_t_draft_testEnd w8, iA cI 16 A_t_draft_testFrom w9, iA cI 16 A_t_draft_valueFrom w10, oX9 A_t_text A_t_text_bytes x_t_text_size x_t_text_end w14 w13, iA cI 260 A_t_text_bytes v_t_text_bytes]) (rest := []) C hK hP hD hS hA hl mf_X2_35 (c_X2_readRule hc15) [0, 1, 2, 3, 4, 5, 6, 7, 8] 0 2 rfl rfl rfl rfl rfl rfl rfl rfl rfl rfl (Nat.le_of_ble_eq_true rfl) ⟨Nat.le_of_ble_eq_true rfl, Nat.le_of_ble_eq_true rfl⟩ ⟨Nat.le_refl _, Nat.le_refl _⟩ dX2_read_34 ?_
          intro H locs hP hD hS
          refine lv_aload_n hx hb dX2_read_37 rfl (lv_at hl 0 rfl) ?_
          refine x_get C hK hP fd_X2_9 0 rfl rfl dX2_read_38 ?_
          obtain ⟨r16, hc17, hf⟩ := bd1_e hf
          refine x_callVI (ws' := [oX2 A_t A_t_text A_t_draft, oX1 A_t_draft A_t_draft_code A_t_draft_letters A_t_draft_valueFrom A_t_draft_testFrom A_t_draft_testEnd A_t_draft_facts A_t_draft_stack w12 w11 x_t_draft_height x_t_draft_refused, iA cI 240 A_t_draft_code w6, iA cI 16 A_t_draft_letters w7, iA cI 16 A_t_draft_testEnd w8, iA cI 16 A_t_draft_testFrom w9, iA cI 16 A_t_draft_valueFrom w10, oX9 A_t_text A_t_text_bytes x_t_text_size x_t_text_end w14 w13, iA cI 260 A_t_text_bytes v_t_text_bytes]) (rest := []) C hK hP hD hS hA hl mf_X2_31 (c_X9_hasFailed hc17) [7] 0 9 rfl rfl rfl rfl rfl rfl rfl rfl rfl rfl (Nat.le_of_ble_eq_true rfl) ⟨Nat.le_of_ble_eq_true rfl, Nat.le_of_ble_eq_true rfl⟩ ⟨Nat.le_refl _, Nat.le_refl _⟩ dX2_read_41 ?_
          intro H locs hP hD hS
          refine lv_if_ne (tgt := 65) hx hb dX2_read_44 (by decide) (fun q => ?_) (fun q => ?_)
          · have hf := if_f q hf
            exact hb_65 w6 w7 w8 w9 w10 w11 w12 x_t_text_end w13 w14 l2 _ _ ls (lv_sub hl [0, 1] rfl) hP hD hS hf
          · have hf := if_t q hf
            refine lv_aload_n hx hb dX2_read_47 rfl (lv_at hl 0 rfl) ?_
            refine x_get C hK hP fd_X2_9 0 rfl rfl dX2_read_48 ?_
            obtain ⟨r18, hc19, hf⟩ := bd1_e hf
            refine x_callVI (ws' := [oX2 A_t A_t_text A_t_draft, oX1 A_t_draft A_t_draft_code A_t_draft_letters A_t_draft_valueFrom A_t_draft_testFrom A_t_draft_testEnd A_t_draft_facts A_t_draft_stack w12 w11 x_t_draft_height x_t_draft_refused, iA cI 240 A_t_draft_code w6, iA cI 16 A_t_draft_letters w7, iA cI 16 A_t_draft_testEnd w8, iA cI 16 A_t_draft_testFrom w9, iA cI 16 A_t_draft_valueFrom w10, oX9 A_t_text A_t_text_bytes x_t_text_size x_t_text_end w14 w13, iA cI 260 A_t_text_bytes v_t_text_bytes]) (rest := []) C hK hP hD hS hA hl mf_X2_38 (c_X9_isAtEnd hc19) [7] 0 9 rfl rfl rfl rfl rfl rfl rfl rfl rfl rfl (Nat.le_of_ble_eq_true rfl) ⟨Nat.le_of_ble_eq_true rfl, Nat.le_of_ble_eq_true rfl⟩ ⟨Nat.le_refl _, Nat.le_refl _⟩ dX2_read_51 ?_
            intro H locs hP hD hS
            refine lv_if_eq (tgt := 65) hx hb dX2_read_54 (by decide) (fun q => ?_) (fun q => ?_)
            · have hf := if_t q hf
              exact hb_65 w6 w7 w8 w9 w10 w11 w12 x_t_text_end w13 w14 l2 _ _ ls (lv_sub hl [0, 1] rfl) hP hD hS hf
            · have hf := if_f q hf
              refine lv_aload_n hx hb dX2_read_57 rfl (lv_at hl 0 rfl) ?_
              refine x_get C hK hP fd_X2_18 0 rfl rfl dX2_read_58 ?_
              refine x_get C hK hP fd_X2_41 1 rfl rfl dX2_read_61 ?_
              obtain ⟨rfl, rfl, rfl, rfl, rfl, rfl, rfl, rfl, rfl, rfl, rfl⟩ := ev11 hf
              exact x_iret C hr hlk hP hD hS dX2_read_64
  refine lv_aload_n hx hb dX2_read_0 rfl (lv_at hl 0 rfl) ?_
  refine x_get C hK hP fd_X2_18 0 rfl rfl dX2_read_1 ?_
  obtain ⟨w20, w21, hc22, hf⟩ := bd2_e hf
  refine x_callVV (ws' := [oX2 A_t A_t_text A_t_draft, oX1 A_t_draft A_t_draft_code A_t_draft_letters A_t_draft_valueFrom A_t_draft_testFrom A_t_draft_testEnd A_t_draft_facts A_t_draft_stack w21 w20 x_t_draft_height x_t_draft_refused, iA cI 240 A_t_draft_code v_t_draft_code, iA cI 16 A_t_draft_letters v_t_draft_letters, iA cI 16 A_t_draft_testEnd v_t_draft_testEnd, iA cI 16 A_t_draft_testFrom v_t_draft_testFrom, iA cI 16 A_t_draft_valueFrom v_t_draft_valueFrom, oX9 A_t_text A_t_text_bytes x_t_text_size x_t_text_end x_t_text_place x_t_text_fault, iA cI 260 A_t_text_bytes v_t_text_bytes]) (rest := []) C hK hP hD hS hA hl mf_X2_22 (c_X1_clear hc22) [1] 0 1 rfl rfl rfl rfl rfl rfl rfl rfl rfl rfl (Nat.le_of_ble_eq_true rfl) ⟨Nat.le_of_ble_eq_true rfl, Nat.le_of_ble_eq_true rfl⟩ ⟨Nat.le_refl _, Nat.le_refl _⟩ dX2_read_4 ?_
  intro H locs hP hD hS
  refine lv_aload_n hx hb dX2_read_7 rfl (lv_at hl 0 rfl) ?_
  refine x_get C hK hP fd_X2_9 0 rfl rfl dX2_read_8 ?_
  refine lv_iload_n hx hb dX2_read_11 rfl (lv_at hl 1 rfl) ?_
  obtain ⟨w23, w24, w25, hc26, hf⟩ := bd3_e hf
  refine x_callVV (ws' := [oX2 A_t A_t_text A_t_draft, oX1 A_t_draft A_t_draft_code A_t_draft_letters A_t_draft_valueFrom A_t_draft_testFrom A_t_draft_testEnd A_t_draft_facts A_t_draft_stack w21 w20 x_t_draft_height x_t_draft_refused, iA cI 240 A_t_draft_code v_t_draft_code, iA cI 16 A_t_draft_letters v_t_draft_letters, iA cI 16 A_t_draft_testEnd v_t_draft_testEnd, iA cI 16 A_t_draft_testFrom v_t_draft_testFrom, iA cI 16 A_t_draft_valueFrom v_t_draft_valueFrom, oX9 A_t_text A_t_text_bytes x_t_text_size w23 w25 w24, iA cI 260 A_t_text_bytes v_t_text_bytes]) (rest := []) C hK hP hD hS hA hl mf_X2_25 (c_X9_begin hc26) [7] 0 9 rfl rfl rfl rfl rfl rfl rfl rfl rfl rfl (Nat.le_of_ble_eq_true rfl) ⟨Nat.le_of_ble_eq_true rfl, Nat.le_of_ble_eq_true rfl⟩ ⟨Nat.le_refl _, Nat.le_refl _⟩ dX2_read_12 ?_
  intro H locs hP hD hS
  refine lv_iconst (v := 0) hx hb dX2_read_15 (by decide) ?_
  refine lv_istore_n (lv' := [(2, .int (0 : Int32)), (0, .ref A_t), (1, .int a1)]) hx hb dX2_read_16 rfl hl (by decide) rfl (fun ls hl => ?_)
  exact hb_17 FU v_t_draft_code v_t_draft_letters v_t_draft_testEnd v_t_draft_testFrom v_t_draft_valueFrom w20 w21 w23 w24 w25 (0 : Int32) _ _ ls (lv_sub hl [1, 0] rfl) hP hD hS hf
