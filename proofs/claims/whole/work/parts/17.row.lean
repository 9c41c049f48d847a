def f_X6_bottleAt_b21 (s0 : Int32) : Option (Int32) :=
  some s0
def f_X6_bottleAt_b19 : Option (Int32) :=
  f_X6_bottleAt_b21 (-2 : Int32)
def f_X6_bottleAt (v_t_bottles : (Nat → Int32)) (a1 : Int32) : Option (Int32) :=
  if a1 < 0 then
    f_X6_bottleAt_b19
  else
    if (48 : Int32) ≤ a1 then
      f_X6_bottleAt_b19
    else
      gI 48 v_t_bottles a1 (fun g1 =>
      f_X6_bottleAt_b21 g1)
set_option maxHeartbeats 4000000 in
set_option maxRecDepth 100000 in
theorem c_X6_bottleAt {l : Launch} {D : va_G} {cI cB : ClassId} {A_t A_t_letter A_t_bearing A_t_toCome A_t_bottles : Nat} {x_t_changes x_t_pictures a1 : Int32} {v_t_bottles : Nat → Int32} {o_r : Int32} (hf : f_X6_bottleAt v_t_bottles a1 = some o_r) : CtI l D cI cB yX6_bottleAt cX6_bottleAt 2 (some .int) 0 0 [.ref A_t, .int a1] [oX6 A_t A_t_letter A_t_bearing A_t_toCome A_t_bottles x_t_changes x_t_pictures, iA cI 48 A_t_bottles v_t_bottles] [oX6 A_t A_t_letter A_t_bearing A_t_toCome A_t_bottles x_t_changes x_t_pictures, iA cI 48 A_t_bottles v_t_bottles] o_r := by
  refine x_startI (by decide) (Nat.le_of_ble_eq_true rfl) ?_
  intro p e s m below meth c A C hr hlk hA hK hP hD hS ls hl
  have hl : lv_has ls 2 [(0, .ref A_t), (1, .int a1)] := hl
  have hx := C.1
  have hb := C.2.1
  unfold f_X6_bottleAt at hf
  have hb_21 : ∀ (s0 : Int32) (H : Heap) (locs : List Loc) (ls : Array Slot), lv_has ls 2 [] → va_P D vwCl [oX6 A_t A_t_letter A_t_bearing A_t_toCome A_t_bottles x_t_changes x_t_pictures, iA cI 48 A_t_bottles v_t_bottles] H → va_D A [oX6 A_t A_t_letter A_t_bearing A_t_toCome A_t_bottles x_t_changes x_t_pictures, iA cI 48 A_t_bottles v_t_bottles] → va_S A s.heap H locs → f_X6_bottleAt_b21 s0 = some o_r → W p l e { frames := 0, cells := 0, slots := 0, locals := 0 } s m ([.ref A_t, .int a1] : List Value).toArray below meth c H locs 0 0 (MQ below (PoI D A [oX6 A_t A_t_letter A_t_bearing A_t_toCome A_t_bottles x_t_changes x_t_pictures, iA cI 48 A_t_bottles v_t_bottles] o_r) ([.ref A_t, .int a1] : List Value).toArray s 0 0 A) (F0 m 21 ls [.int s0]) := by
    intro s0 H locs ls hl hP hD hS hf
    unfold f_X6_bottleAt_b21 at hf
    obtain rfl := ev1 hf
    exact x_iret C hr hlk hP hD hS dX6_bottleAt_21
  have hb_19 : ∀ (H : Heap) (locs : List Loc) (ls : Array Slot), lv_has ls 2 [] → va_P D vwCl [oX6 A_t A_t_letter A_t_bearing A_t_toCome A_t_bottles x_t_changes x_t_pictures, iA cI 48 A_t_bottles v_t_bottles] H → va_D A [oX6 A_t A_t_letter A_t_bearing A_t_toCome A_t_bottles x_t_changes x_t_pictures, iA cI 48 A_t_bottles v_t_bottles] → va_S A s.heap H locs → f_X6_bottleAt_b19 = some o_r → W p l e { frames := 0, cells := 0, slots := 0, locals := 0 } s m ([.ref A_t, .int a1] : List Value).toArray below meth c H locs 0 0 (MQ below (PoI D A [oX6 A_t A_t_letter A_t_bearing A_t_toCome A_t_bottles x_t_changes x_t_pictures, iA cI 48 A_t_bottles v_t_bottles] o_r) ([.ref A_t, .int a1] : List Value).toArray s 0 0 A) (F0 m 19 ls []) := by
    intro H locs ls hl hP hD hS hf
    unfold f_X6_bottleAt_b19 at hf
    refine lv_bipush (v := -2) hx hb dX6_bottleAt_19 (by decide) ?_
    exact hb_21 (-2 : Int32) _ _ ls (lv_sub hl [] rfl) hP hD hS hf
  refine lv_iload_n hx hb dX6_bottleAt_0 rfl (lv_at hl 1 rfl) ?_
  refine lv_if_lt (tgt := 19) hx hb dX6_bottleAt_1 (by decide) (fun q => ?_) (fun q => ?_)
  · have hf := if_t q hf
    exact hb_19 _ _ ls (lv_sub hl [] rfl) hP hD hS hf
  · have hf := if_f q hf
    refine lv_iload_n hx hb dX6_bottleAt_4 rfl (lv_at hl 1 rfl) ?_
    refine lv_bipush (v := 48) hx hb dX6_bottleAt_5 (by decide) ?_
    refine lv_icmp_ge (tgt := 19) hx hb dX6_bottleAt_7 (by decide) (fun q => ?_) (fun q => ?_)
    · have hf := if_t q hf
      exact hb_19 _ _ ls (lv_sub hl [] rfl) hP hD hS hf
    · have hf := if_f q hf
      refine lv_aload_n hx hb dX6_bottleAt_10 rfl (lv_at hl 0 rfl) ?_
      refine x_get C hK hP fd_X6_20 0 rfl rfl dX6_bottleAt_11 ?_
      refine lv_iload_n hx hb dX6_bottleAt_14 rfl (lv_at hl 1 rfl) ?_
      obtain ⟨hi, hf⟩ := gI_e hf
      refine x_iald C hK hP 1 rfl hi dX6_bottleAt_15 ?_
      refine lv_goto (tgt := 21) hx hb dX6_bottleAt_16 (by decide) ?_
      exact hb_21 (v_t_bottles a1.toNatClampNeg) _ _ ls (lv_sub hl [] rfl) hP hD hS hf
def f_X6_bearersAt (v_t_bearing : (Nat → Int32)) (v_t_letter_words : (Nat → Int32)) (a1 : Int32) : Option (Int32) :=
  bd1 (f_X3_wordAt v_t_letter_words a1) (fun r1 =>
  gI 16 v_t_bearing (r1 &&& (15 : Int32)) (fun g2 =>
  some g2))
set_option maxHeartbeats 4000000 in
set_option maxRecDepth 100000 in
theorem c_X6_bearersAt {l : Launch} {D : va_G} {cI cB : ClassId} {A_t A_t_letter A_t_bearing A_t_toCome A_t_bottles A_t_letter_text A_t_letter_words A_t_letter_draft : Nat} {x_t_changes x_t_pictures x_t_letter_size x_t_letter_drafted a1 : Int32} {v_t_bearing v_t_letter_words : Nat → Int32} {o_r : Int32} (hf : f_X6_bearersAt v_t_bearing v_t_letter_words a1 = some o_r) : CtI l D cI cB yX6_bearersAt cX6_bearersAt 2 (some .int) 1 21 [.ref A_t, .int a1] [oX6 A_t A_t_letter A_t_bearing A_t_toCome A_t_bottles x_t_changes x_t_pictures, iA cI 16 A_t_bearing v_t_bearing, oX3 A_t_letter A_t_letter_text A_t_letter_words A_t_letter_draft x_t_letter_size x_t_letter_drafted, iA cI 48 A_t_letter_words v_t_letter_words] [oX6 A_t A_t_letter A_t_bearing A_t_toCome A_t_bottles x_t_changes x_t_pictures, iA cI 16 A_t_bearing v_t_bearing, oX3 A_t_letter A_t_letter_text A_t_letter_words A_t_letter_draft x_t_letter_size x_t_letter_drafted, iA cI 48 A_t_letter_words v_t_letter_words] o_r := by
  refine x_startI (by decide) (Nat.le_of_ble_eq_true rfl) ?_
  intro p e s m below meth c A C hr hlk hA hK hP hD hS ls hl
  have hl : lv_has ls 2 [(0, .ref A_t), (1, .int a1)] := hl
  have hx := C.1
  have hb := C.2.1
  unfold f_X6_bearersAt at hf
  refine lv_aload_n hx hb dX6_bearersAt_0 rfl (lv_at hl 0 rfl) ?_
  refine x_get C hK hP fd_X6_9 0 rfl rfl dX6_bearersAt_1 ?_
  refine lv_aload_n hx hb dX6_bearersAt_4 rfl (lv_at hl 0 rfl) ?_
  refine x_get C hK hP fd_X6_23 0 rfl rfl dX6_bearersAt_5 ?_
  refine lv_iload_n hx hb dX6_bearersAt_8 rfl (lv_at hl 1 rfl) ?_
  obtain ⟨r1, hc2, hf⟩ := bd1_e hf
  refine x_callVI (ws' := [oX6 A_t A_t_letter A_t_bearing A_t_toCome A_t_bottles x_t_changes x_t_pictures, iA cI 16 A_t_bearing v_t_bearing, oX3 A_t_letter A_t_letter_text A_t_letter_words A_t_letter_draft x_t_letter_size x_t_letter_drafted, iA cI 48 A_t_letter_words v_t_letter_words]) (rest := [.ref A_t_bearing]) C hK hP hD hS hA hl mf_X6_65 (c_X3_wordAt hc2) [2, 3] 0 3 rfl rfl rfl rfl rfl rfl rfl rfl rfl rfl (Nat.le_of_ble_eq_true rfl) ⟨Nat.le_of_ble_eq_true rfl, Nat.le_of_ble_eq_true rfl⟩ ⟨Nat.le_refl _, Nat.le_refl _⟩ dX6_bearersAt_9 ?_
  intro H locs hP hD hS
  refine lv_bipush (v := 15) hx hb dX6_bearersAt_12 (by decide) ?_
  refine lv_iand hx hb dX6_bearersAt_14 ?_
  obtain ⟨hi, hf⟩ := gI_e hf
  refine x_iald C hK hP 1 rfl hi dX6_bearersAt_15 ?_
  obtain rfl := ev1 hf
  exact x_iret C hr hlk hP hD hS dX6_bearersAt_16
def f_X6_cell (a0 : Int32) (a1 : Int32) : Option (Int32) :=
  bd1 (f_X11_bounded a0 (47 : Int32)) (fun r1 =>
  some ((r1 * (8 : Int32)) + (a1 &&& (7 : Int32))))
set_option maxHeartbeats 4000000 in
set_option maxRecDepth 100000 in
theorem c_X6_cell {l : Launch} {D : va_G} {cI cB : ClassId} {a0 a1 : Int32} {o_r : Int32} (hf : f_X6_cell a0 a1 = some o_r) : CtI l D cI cB yX6_cell cX6_cell 2 (some .int) 2 42 [.int a0, .int a1] [] [] o_r := by
  refine x_startI (by decide) (Nat.le_of_ble_eq_true rfl) ?_
  intro p e s m below meth c A C hr hlk hA hK hP hD hS ls hl
  have hl : lv_has ls 2 [(0, .int a0), (1, .int a1)] := hl
  have hx := C.1
  have hb := C.2.1
  unfold f_X6_cell at hf
  refine lv_iload_n hx hb dX6_cell_0 rfl (lv_at hl 0 rfl) ?_
  refine lv_bipush (v := 47) hx hb dX6_cell_1 (by decide) ?_
  obtain ⟨r1, hc2, hf⟩ := bd1_e hf
  refine x_callSI (ws' := []) (rest := []) C hK hP hD hS hA hl mf_X6_68 (c_X11_bounded hc2) [] rfl rfl rfl rfl rfl rfl rfl rfl (Nat.le_of_ble_eq_true rfl) ⟨Nat.le_of_ble_eq_true rfl, Nat.le_of_ble_eq_true rfl⟩ ⟨Nat.le_refl _, Nat.le_refl _⟩ dX6_cell_3 ?_
  intro H locs hP hD hS
  refine lv_bipush (v := 8) hx hb dX6_cell_6 (by decide) ?_
  refine lv_imul hx hb dX6_cell_8 ?_
  refine lv_iload_n hx hb dX6_cell_9 rfl (lv_at hl 1 rfl) ?_
  refine lv_bipush (v := 7) hx hb dX6_cell_10 (by decide) ?_
  refine lv_iand hx hb dX6_cell_12 ?_
  refine lv_iadd hx hb dX6_cell_13 ?_
  obtain rfl := ev1 hf
  exact x_iret C hr hlk hP hD hS dX6_cell_14
def f_X6_costAt_b44 (s0 : Int32) : Option (Int32) :=
  some s0
def f_X6_costAt (v_t_bearing : (Nat → Int32)) (v_t_letter_words : (Nat → Int32)) (v_t_toCome : (Nat → Int32)) (x_t_changes : Int32) (a1 : Int32) (a2 : Int32) (a3 : Int32) : Option (Int32) :=
  bd1 (f_X6_bearersAt v_t_bearing v_t_letter_words a1) (fun r1 =>
  if ((r1 >>> (a2 &&& 31)) &&& (1 : Int32)) = 0 then
    some (1000 : Int32)
  else
    if a3 = (-1 : Int32) then
      f_X6_costAt_b44 (0 : Int32)
    else
      bd1 (f_X6_cell a3 a2) (fun r2 =>
      gI 384 v_t_toCome r2 (fun g3 =>
      f_X6_costAt_b44 (mnI g3 (x_t_changes + (1 : Int32))))))
set_option maxHeartbeats 4000000 in
set_option maxRecDepth 100000 in
theorem c_X6_costAt {l : Launch} {D : va_G} {cI cB : ClassId} {A_t A_t_letter A_t_bearing A_t_toCome A_t_bottles A_t_letter_text A_t_letter_words A_t_letter_draft : Nat} {x_t_changes x_t_pictures x_t_letter_size x_t_letter_drafted a1 a2 a3 : Int32} {v_t_bearing v_t_letter_words v_t_toCome : Nat → Int32} {o_r : Int32} (hf : f_X6_costAt v_t_bearing v_t_letter_words v_t_toCome x_t_changes a1 a2 a3 = some o_r) : CtI l D cI cB yX6_costAt cX6_costAt 4 (some .int) 3 63 [.ref A_t, .int a1, .int a2, .int a3] [oX6 A_t A_t_letter A_t_bearing A_t_toCome A_t_bottles x_t_changes x_t_pictures, iA cI 16 A_t_bearing v_t_bearing, oX3 A_t_letter A_t_letter_text A_t_letter_words A_t_letter_draft x_t_letter_size x_t_letter_drafted, iA cI 48 A_t_letter_words v_t_letter_words, iA cI 384 A_t_toCome v_t_toCome] [oX6 A_t A_t_letter A_t_bearing A_t_toCome A_t_bottles x_t_changes x_t_pictures, iA cI 16 A_t_bearing v_t_bearing, oX3 A_t_letter A_t_letter_text A_t_letter_words A_t_letter_draft x_t_letter_size x_t_letter_drafted, iA cI 48 A_t_letter_words v_t_letter_words, iA cI 384 A_t_toCome v_t_toCome] o_r := by
  refine x_startI (by decide) (Nat.le_of_ble_eq_true rfl) ?_
  intro p e s m below meth c A C hr hlk hA hK hP hD hS ls hl
  have hl : lv_has ls 4 [(0, .ref A_t), (1, .int a1), (2, .int a2), (3, .int a3)] := hl
  have hx := C.1
  have hb := C.2.1
  unfold f_X6_costAt at hf
  have hb_44 : ∀ (s0 : Int32) (H : Heap) (locs : List Loc) (ls : Array Slot), lv_has ls 4 [] → va_P D vwCl [oX6 A_t A_t_letter A_t_bearing A_t_toCome A_t_bottles x_t_changes x_t_pictures, iA cI 16 A_t_bearing v_t_bearing, oX3 A_t_letter A_t_letter_text A_t_letter_words A_t_letter_draft x_t_letter_size x_t_letter_drafted, iA cI 48 A_t_letter_words v_t_letter_words, iA cI 384 A_t_toCome v_t_toCome] H → va_D A [oX6 A_t A_t_letter A_t_bearing A_t_toCome A_t_bottles x_t_changes x_t_pictures, iA cI 16 A_t_bearing v_t_bearing, oX3 A_t_letter A_t_letter_text A_t_letter_words A_t_letter_draft x_t_letter_size x_t_letter_drafted, iA cI 48 A_t_letter_words v_t_letter_words, iA cI 384 A_t_toCome v_t_toCome] → va_S A s.heap H locs → f_X6_costAt_b44 s0 = some o_r → W p l e { frames := 3, cells := 0, slots := 0, locals := 63 } s m ([.ref A_t, .int a1, .int a2, .int a3] : List Value).toArray below meth c H locs 0 0 (MQ below (PoI D A [oX6 A_t A_t_letter A_t_bearing A_t_toCome A_t_bottles x_t_changes x_t_pictures, iA cI 16 A_t_bearing v_t_bearing, oX3 A_t_letter A_t_letter_text A_t_letter_words A_t_letter_draft x_t_letter_size x_t_letter_drafted, iA cI 48 A_t_letter_words v_t_letter_words, iA cI 384 A_t_toCome v_t_toCome] o_r) ([.ref A_t, .int a1, .int a2, .int a3] : List Value).toArray s 0 0 A) (F0 m 44 ls [.int s0]) := by
    intro s0 H locs ls hl hP hD hS hf
    unfold f_X6_costAt_b44 at hf
    obtain rfl := ev1 hf
    exact x_iret C hr hlk hP hD hS dX6_costAt_44
  refine lv_aload_n hx hb dX6_costAt_0 rfl (lv_at hl 0 rfl) ?_
  refine lv_iload_n hx hb dX6_costAt_1 rfl (lv_at hl 1 rfl) ?_
  obtain ⟨r1, hc2, hf⟩ := bd1_e hf
  refine x_callVI (ws' := [oX6 A_t A_t_letter A_t_bearing A_t_toCome A_t_bottles x_t_changes x_t_pictures, iA cI 16 A_t_bearing v_t_bearing, oX3 A_t_letter A_t_letter_text A_t_letter_words A_t_letter_draft x_t_letter_size x_t_letter_drafted, iA cI 48 A_t_letter_words v_t_letter_words, iA cI 384 A_t_toCome v_t_toCome]) (rest := []) C hK hP hD hS hA hl mf_X6_49 (c_X6_bearersAt hc2) [0, 1, 2, 3] 0 6 rfl rfl rfl rfl rfl rfl rfl rfl rfl rfl (Nat.le_of_ble_eq_true rfl) ⟨Nat.le_of_ble_eq_true rfl, Nat.le_of_ble_eq_true rfl⟩ ⟨Nat.le_refl _, Nat.le_refl _⟩ dX6_costAt_2 ?_
  intro H locs hP hD hS
  refine lv_iload_n hx hb dX6_costAt_5 rfl (lv_at hl 2 rfl) ?_
  refine lv_ishr hx hb dX6_costAt_6 ?_
  refine lv_iconst (v := 1) hx hb dX6_costAt_7 (by decide) ?_
  refine lv_iand hx hb dX6_costAt_8 ?_
  refine lv_if_ne (tgt := 16) hx hb dX6_costAt_9 (by decide) (fun q => ?_) (fun q => ?_)
  · have hf := if_f q hf
    refine lv_iload_n hx hb dX6_costAt_16 rfl (lv_at hl 3 rfl) ?_
    refine lv_iconst (v := -1) hx hb dX6_costAt_17 (by decide) ?_
    refine lv_icmp_ne (tgt := 25) hx hb dX6_costAt_18 (by decide) (fun q => ?_) (fun q => ?_)
    · have hf := if_f q hf
      refine lv_aload_n hx hb dX6_costAt_25 rfl (lv_at hl 0 rfl) ?_
      refine x_get C hK hP fd_X6_17 0 rfl rfl dX6_costAt_26 ?_
      refine lv_iload_n hx hb dX6_costAt_29 rfl (lv_at hl 3 rfl) ?_
      refine lv_iload_n hx hb dX6_costAt_30 rfl (lv_at hl 2 rfl) ?_
      obtain ⟨r3, hc4, hf⟩ := bd1_e hf
      refine x_callSI (ws' := [oX6 A_t A_t_letter A_t_bearing A_t_toCome A_t_bottles x_t_changes x_t_pictures, iA cI 16 A_t_bearing v_t_bearing, oX3 A_t_letter A_t_letter_text A_t_letter_words A_t_letter_draft x_t_letter_size x_t_letter_drafted, iA cI 48 A_t_letter_words v_t_letter_words, iA cI 384 A_t_toCome v_t_toCome]) (rest := [.ref A_t_toCome]) C hK hP hD hS hA hl mf_X6_56 (c_X6_cell hc4) [] rfl rfl rfl rfl rfl rfl rfl rfl (Nat.le_of_ble_eq_true rfl) ⟨Nat.le_of_ble_eq_true rfl, Nat.le_of_ble_eq_true rfl⟩ ⟨Nat.le_refl _, Nat.le_refl _⟩ dX6_costAt_31 ?_
      intro H locs hP hD hS
      obtain ⟨hi, hf⟩ := gI_e hf
      refine x_iald C hK hP 4 rfl hi dX6_costAt_34 ?_
      refine lv_aload_n hx hb dX6_costAt_35 rfl (lv_at hl 0 rfl) ?_
      refine x_get C hK hP fd_X6_43 0 rfl rfl dX6_costAt_36 ?_
      refine lv_iconst (v := 1) hx hb dX6_costAt_39 (by decide) ?_
      refine lv_iadd hx hb dX6_costAt_40 ?_
      refine x_mmin C hl ml_X6_60 (Nat.le_of_ble_eq_true rfl) (Nat.le_of_ble_eq_true rfl) ⟨Nat.le_refl _, Nat.le_refl _⟩ dX6_costAt_41 ?_
      exact hb_44 (mnI (v_t_toCome r3.toNatClampNeg) (x_t_changes + (1 : Int32))) _ _ ls (lv_sub hl [] rfl) hP hD hS hf
    · have hf := if_t q hf
      refine lv_iconst (v := 0) hx hb dX6_costAt_21 (by decide) ?_
      refine lv_goto (tgt := 44) hx hb dX6_costAt_22 (by decide) ?_
      exact hb_44 (0 : Int32) _ _ ls (lv_sub hl [] rfl) hP hD hS hf
  · have hf := if_t q hf
    refine lv_sipush (v := 1000) hx hb dX6_costAt_12 (by decide) ?_
    obtain rfl := ev1 hf
    exact x_iret C hr hlk hP hD hS dX6_costAt_15
def f_X6_reckonChanges_b104 (k22 : (Nat → Int32) → Int32 → Int32 → Int32 → Int32 → Option ((Nat → Int32) × Int32 × Int32)) (v_t_toCome : (Nat → Int32)) (x_t_changes : Int32) (x_t_pictures : Int32) (l1 : Int32) (l2 : Int32) : Option ((Nat → Int32) × Int32 × Int32) :=
  k22 v_t_toCome x_t_changes x_t_pictures l1 (l2 + (-1 : Int32))
def f_X6_reckonChanges_b54 (v_t_bearing : (Nat → Int32)) (v_t_letter_words : (Nat → Int32)) (k22 : (Nat → Int32) → Int32 → Int32 → Int32 → Int32 → Option ((Nat → Int32) × Int32 × Int32)) : Nat → (Nat → Int32) → Int32 → Int32 → Int32 → Int32 → Int32 → Int32 → Option ((Nat → Int32) × Int32 × Int32)
  | 0, _, _, _, _, _, _, _ => none
  | n + 1, v_t_toCome, x_t_changes, x_t_pictures, l1, l2, l3, l4 =>
    if (8 : Int32) ≤ l4 then
      f_X6_reckonChanges_b104 k22 v_t_toCome l3 x_t_pictures l2 l2
    else
      bd1 (f_X6_costAt v_t_bearing v_t_letter_words v_t_toCome x_t_changes l2 l4 l1) (fun r1 =>
      bd1 (f_X6_cell l2 l4) (fun r2 =>
      sI 384 v_t_toCome r2 r1 (fun w3 =>
      f_X6_reckonChanges_b54 v_t_bearing v_t_letter_words k22 n w3 x_t_changes x_t_pictures l1 l2 (mnI l3 r1) (l4 + (1 : Int32)))))
def f_X6_reckonChanges_b22 (v_t_bearing : (Nat → Int32)) (v_t_letter_words : (Nat → Int32)) : Nat → (Nat → Int32) → Int32 → Int32 → Int32 → Int32 → Option ((Nat → Int32) × Int32 × Int32)
  | 0, _, _, _, _, _ => none
  | n + 1, v_t_toCome, x_t_changes, x_t_pictures, l1, l2 =>
    if l2 < 0 then
      some (v_t_toCome, x_t_changes, x_t_pictures)
    else
      bd1 (f_X6_bearersAt v_t_bearing v_t_letter_words l2) (fun r1 =>
      if r1 = 0 then
        f_X6_reckonChanges_b104 (f_X6_reckonChanges_b22 v_t_bearing v_t_letter_words n) v_t_toCome x_t_changes (x_t_pictures + (1 : Int32)) l1 l2
      else
        f_X6_reckonChanges_b54 v_t_bearing v_t_letter_words (f_X6_reckonChanges_b22 v_t_bearing v_t_letter_words n) FU v_t_toCome x_t_changes x_t_pictures l1 l2 (1000 : Int32) (0 : Int32))
def f_X6_reckonChanges (v_t_bearing : (Nat → Int32)) (v_t_letter_words : (Nat → Int32)) (v_t_toCome : (Nat → Int32)) (x_t_changes : Int32) (x_t_pictures : Int32) (x_t_letter_size : Int32) : Option ((Nat → Int32) × Int32 × Int32) :=
  f_X6_reckonChanges_b22 v_t_bearing v_t_letter_words FU v_t_toCome (0 : Int32) (0 : Int32) (-1 : Int32) (x_t_letter_size - (1 : Int32))
set_option maxHeartbeats 4000000 in
set_option maxRecDepth 100000 in
theorem c_X6_reckonChanges {l : Launch} {D : va_G} {cI cB : ClassId} {A_t A_t_letter A_t_bearing A_t_toCome A_t_bottles A_t_letter_text A_t_letter_words A_t_letter_draft : Nat} {x_t_changes x_t_pictures x_t_letter_size x_t_letter_drafted : Int32} {v_t_bearing v_t_letter_words v_t_toCome : Nat → Int32} {o_x_t_changes o_x_t_pictures : Int32} {o_v_t_toCome : Nat → Int32} (hf : f_X6_reckonChanges v_t_bearing v_t_letter_words v_t_toCome x_t_changes x_t_pictures x_t_letter_size = some (o_v_t_toCome, o_x_t_changes, o_x_t_pictures)) : CtV l D cI cB yX6_reckonChanges cX6_reckonChanges 6 4 86 [.ref A_t] [oX6 A_t A_t_letter A_t_bearing A_t_toCome A_t_bottles x_t_changes x_t_pictures, iA cI 16 A_t_bearing v_t_bearing, oX3 A_t_letter A_t_letter_text A_t_letter_words A_t_letter_draft x_t_letter_size x_t_letter_drafted, iA cI 48 A_t_letter_words v_t_letter_words, iA cI 384 A_t_toCome v_t_toCome] [oX6 A_t A_t_letter A_t_bearing A_t_toCome A_t_bottles o_x_t_changes o_x_t_pictures, iA cI 16 A_t_bearing v_t_bearing, oX3 A_t_letter A_t_letter_text A_t_letter_words A_t_letter_draft x_t_letter_size x_t_letter_drafted, iA cI 48 A_t_letter_words v_t_letter_words, iA cI 384 A_t_toCome o_v_t_toCome] := by
  refine x_startV (by decide) (Nat.le_of_ble_eq_true rfl) ?_
  intro p e s m below meth c A C hr hlk hA hK hP hD hS ls hl
  have hl : lv_has ls 6 [(0, .ref A_t)] := hl
  have hx := C.1
  have hb := C.2.1
  unfold f_X6_reckonChanges at hf
  have hb_22 : ∀ (n_22 : Nat) (v_t_toCome : (Nat → Int32)) (x_t_changes : Int32) (x_t_pictures : Int32) (l1 : Int32) (l2 : Int32) (H : Heap) (locs : List Loc) (ls : Array Slot), lv_has ls 6 [(0, .ref A_t), (1, .int l1), (2, .int l2)] → va_P D vwCl [oX6 A_t A_t_letter A_t_bearing A_t_toCome A_t_bottles x_t_changes x_t_pictures, iA cI 16 A_t_bearing v_t_bearing, oX3 A_t_letter A_t_letter_text A_t_letter_words A_t_letter_draft x_t_letter_size x_t_letter_drafted, iA cI 48 A_t_letter_words v_t_letter_words, iA cI 384 A_t_toCome v_t_toCome] H → va_D A [oX6 A_t A_t_letter A_t_bearing A_t_toCome A_t_bottles x_t_changes x_t_pictures, iA cI 16 A_t_bearing v_t_bearing, oX3 A_t_letter A_t_letter_text A_t_letter_words A_t_letter_draft x_t_letter_size x_t_letter_drafted, iA cI 48 A_t_letter_words v_t_letter_words, iA cI 384 A_t_toCome v_t_toCome] → va_S A s.heap H locs → f_X6_reckonChanges_b22 v_t_bearing v_t_letter_words n_22 v_t_toCome x_t_changes x_t_pictures l1 l2 = some (o_v_t_toCome, o_x_t_changes, o_x_t_pictures) → W p l e { frames := 4, cells := 0, slots := 0, locals := 86 } s m ([.ref A_t] : List Value).toArray below meth c H locs 0 0 (MQ below (PoV D A [oX6 A_t A_t_letter A_t_bearing A_t_toCome A_t_bottles o_x_t_changes o_x_t_pictures, iA cI 16 A_t_bearing v_t_bearing, oX3 A_t_letter A_t_letter_text A_t_letter_words A_t_letter_draft x_t_letter_size x_t_letter_drafted, iA cI 48 A_t_letter_words v_t_letter_words, iA cI 384 A_t_toCome o_v_t_toCome]) ([.ref A_t] : List Value).toArray s 0 0 A) (F0 m 22 ls []) := by
    intro n_22
    induction n_22 with
    | zero =>
      intro v_t_toCome x_t_changes x_t_pictures l1 l2 H locs ls hl hP hD hS hf
      exact absurd hf (fun h => by rw [f_X6_reckonChanges_b22] at h; cases h)
    | succ n_22 ih_22 =>
      have hb_104 : ∀ (v_t_toCome : (Nat → Int32)) (x_t_changes : Int32) (x_t_pictures : Int32) (l1 : Int32) (l2 : Int32) (H : Heap) (locs : List Loc) (ls : Array Slot), lv_has ls 6 [(0, .ref A_t), (1, .int l1), (2, .int l2)] → va_P D vwCl [oX6 A_t A_t_letter A_t_bearing A_t_toCome A_t_bottles x_t_changes x_t_pictures, iA cI 16 A_t_bearing v_t_bearing, oX3 A_t_letter A_t_letter_text A_t_letter_words A_t_letter_draft x_t_letter_size x_t_letter_drafted, iA cI 48 A_t_letter_words v_t_letter_words, iA cI 384 A_t_toCome v_t_toCome] H → va_D A [oX6 A_t A_t_letter A_t_bearing A_t_toCome A_t_bottles x_t_changes x_t_pictures, iA cI 16 A_t_bearing v_t_bearing, oX3 A_t_letter A_t_letter_text A_t_letter_words A_t_letter_draft x_t_letter_size x_t_letter_drafted, iA cI 48 A_t_letter_words v_t_letter_words, iA cI 384 A_t_toCome v_t_toCome] → va_S A s.heap H locs → f_X6_reckonChanges_b104 (f_X6_reckonChanges_b22 v_t_bearing v_t_letter_words n_22) v_t_toCome x_t_changes x_t_pictures l1 l2 = some (o_v_t_toCome, o_x_t_changes, o_x_t_pictures) → W p l e { frames := 4, cells := 0, slots := 0, locals := 86 } s m ([.ref A_t] : List Value).toArray below meth c H locs 0 0 (MQ below (PoV D A [oX6 A_t A_t_letter A_t_bearing A_t_toCome A_t_bottles o_x_t_changes o_x_t_pictures, iA cI 16 A_t_bearing v_t_bearing, oX3 A_t_letter A_t_letter_text A_t_letter_words A_t_letter_draft x_t_letter_size x_t_letter_drafted, iA cI 48 A_t_letter_words v_t_letter_words, iA cI 384 A_t_toCome o_v_t_toCome]) ([.ref A_t] : List Value).toArray s 0 0 A) (F0 m 104 ls []) := by
        intro v_t_toCome x_t_changes x_t_pictures l1 l2 H locs ls hl hP hD hS hf
        unfold f_X6_reckonChanges_b104 at hf
        refine lv_iinc (v := (l2 + (-1 : Int32))) (lv' := [(2, .int (l2 + (-1 : Int32))), (0, .ref A_t), (1, .int l1)]) hx hb dX6_reckonChanges_104 hl (k := 2) rfl rfl (by decide) rfl (fun ls hl => ?_)
        refine lv_goto (tgt := 22) hx hb dX6_reckonChanges_107 (by decide) ?_
        exact ih_22 v_t_toCome x_t_changes x_t_pictures l1 (l2 + (-1 : Int32)) _ _ ls (lv_sub hl [1, 2, 0] rfl) hP hD hS hf
      have hb_54 : ∀ (n_54 : Nat) (v_t_toCome : (Nat → Int32)) (x_t_changes : Int32) (x_t_pictures : Int32) (l1 : Int32) (l2 : Int32) (l3 : Int32) (l4 : Int32) (H : Heap) (locs : List Loc) (ls : Array Slot), lv_has ls 6 [(0, .ref A_t), (1, .int l1), (2, .int l2), (3, .int l3), (4, .int l4)] → va_P D vwCl [oX6 A_t A_t_letter A_t_bearing A_t_toCome A_t_bottles x_t_changes x_t_pictures, iA cI 16 A_t_bearing v_t_bearing, oX3 A_t_letter A_t_letter_text A_t_letter_words A_t_letter_draft x_t_letter_size x_t_letter_drafted, iA cI 48 A_t_letter_words v_t_letter_words, iA cI 384 A_t_toCome v_t_toCome] H → va_D A [oX6 A_t A_t_letter A_t_bearing A_t_toCome A_t_bottles x_t_changes x_t_pictures, iA cI 16 A_t_bearing v_t_bearing, oX3 A_t_letter A_t_letter_text A_t_letter_words A_t_letter_draft x_t_letter_size x_t_letter_drafted, iA cI 48 A_t_letter_words v_t_letter_words, iA cI 384 A_t_toCome v_t_toCome] → va_S A s.heap H locs → f_X6_reckonChanges_b54 v_t_bearing v_t_letter_words (f_X6_reckonChanges_b22 v_t_bearing v_t_letter_words n_22) n_54 v_t_toCome x_t_changes x_t_pictures l1 l2 l3 l4 = some (o_v_t_toCome, o_x_t_changes, o_x_t_pictures) → W p l e { frames := 4, cells := 0, slots := 0, locals := 86 } s m ([.ref A_t] : List Value).toArray below meth c H locs 0 0 (MQ below (PoV D A [oX6 A_t A_t_letter A_t_bearing A_t_toCome A_t_bottles o_x_t_changes o_x_t_pictures, iA cI 16 A_t_bearing v_t_bearing, oX3 A_t_letter A_t_letter_text A_t_letter_words A_t_letter_draft x_t_letter_size x_t_letter_drafted, iA cI 48 A_t_letter_words v_t_letter_words, iA cI 384 A_t_toCome o_v_t_toCome]) ([.ref A_t] : List Value).toArray s 0 0 A) (F0 m 54 ls []) := by
        intro n_54
        induction n_54 with
        | zero =>
          intro v_t_toCome x_t_changes x_t_pictures l1 l2 l3 l4 H locs ls hl hP hD hS hf
          exact absurd hf (fun h => by rw [f_X6_reckonChanges_b54] at h; cases h)
        | succ n_54 ih_54 =>
          intro v_t_toCome x_t_changes x_t_pictures l1 l2 l3 l4 H locs ls hl hP hD hS hf
          rw [f_X6_reckonChanges_b54] at hf
          refine lv_iload hx hb dX6_reckonChanges_54 (lv_at hl 4 rfl) ?_
          refine lv_bipush (v := 8) hx hb dX6_reckonChanges_56 (by decide) ?_
          refine lv_icmp_ge (tgt := 97) hx hb dX6_reckonChanges_58 (by decide) (fun q => ?_) (fun q => ?_)
          · have hf := if_t q hf
            refine lv_aload_n hx hb dX6_reckonChanges_97 rfl (lv_at hl 0 rfl) ?_
            refine lv_iload_n hx hb dX6_reckonChanges_98 rfl (lv_at hl 3 rfl) ?_
            refine x_put (ws' := [oX6 A_t A_t_letter A_t_bearing A_t_toCome A_t_bottles l3 x_t_pictures, iA cI 16 A_t_bearing v_t_bearing, oX3 A_t_letter A_t_letter_text A_t_letter_words A_t_letter_draft x_t_letter_size x_t_letter_drafted, iA cI 48 A_t_letter_words v_t_letter_words, iA cI 384 A_t_toCome v_t_toCome]) C hK hP hD hS fp_X6_43 0 rfl rfl rfl (Nat.le_of_ble_eq_true rfl) rfl dX6_reckonChanges_99 ?_
            intro H locs hP hD hS
            refine lv_iload_n hx hb dX6_reckonChanges_102 rfl (lv_at hl 2 rfl) ?_
            refine lv_istore_n (lv' := [(1, .int l2), (0, .ref A_t), (2, .int l2), (3, .int l3), (4, .int l4)]) hx hb dX6_reckonChanges_103 rfl hl (by decide) rfl (fun ls hl => ?_)
            exact hb_104 v_t_toCome l3 x_t_pictures l2 l2 _ _ ls (lv_sub hl [1, 0, 2] rfl) hP hD hS hf
          · have hf := if_f q hf
            refine lv_aload_n hx hb dX6_reckonChanges_61 rfl (lv_at hl 0 rfl) ?_
            refine lv_iload_n hx hb dX6_reckonChanges_62 rfl (lv_at hl 2 rfl) ?_
            refine lv_iload hx hb dX6_reckonChanges_63 (lv_at hl 4 rfl) ?_
            refine lv_iload_n hx hb dX6_reckonChanges_65 rfl (lv_at hl 1 rfl) ?_
            obtain ⟨r1, hc2, hf⟩ := bd1_e hf
            refine x_callVI (ws' := [oX6 A_t A_t_letter A_t_bearing A_t_toCome A_t_bottles x_t_changes x_t_pictures, iA cI 16 A_t_bearing v_t_bearing, oX3 A_t_letter A_t_letter_text A_t_letter_words A_t_letter_draft x_t_letter_size x_t_letter_drafted, iA cI 48 A_t_letter_words v_t_letter_words, iA cI 384 A_t_toCome v_t_toCome]) (rest := []) C hK hP hD hS hA hl mf_X6_52 (c_X6_costAt hc2) [0, 1, 2, 3, 4] 0 6 rfl rfl rfl rfl rfl rfl rfl rfl rfl rfl (Nat.le_of_ble_eq_true rfl) ⟨Nat.le_of_ble_eq_true rfl, Nat.le_of_ble_eq_true rfl⟩ ⟨Nat.le_refl _, Nat.le_refl _⟩ dX6_reckonChanges_66 ?_
            intro H locs hP hD hS
            refine lv_istore (lv' := [(5, .int r1), (0, .ref A_t), (1, .int l1), (2, .int l2), (3, .int l3), (4, .int l4)]) hx hb dX6_reckonChanges_69 hl (by decide) rfl (fun ls hl => ?_)
            refine lv_aload_n hx hb dX6_reckonChanges_71 rfl (lv_at hl 1 rfl) ?_
            refine x_get C hK hP fd_X6_17 0 rfl rfl dX6_reckonChanges_72 ?_
            refine lv_iload_n hx hb dX6_reckonChanges_75 rfl (lv_at hl 3 rfl) ?_
            refine lv_iload hx hb dX6_reckonChanges_76 (lv_at hl 5 rfl) ?_
            obtain ⟨r3, hc4, hf⟩ := bd1_e hf
            refine x_callSI (ws' := [oX6 A_t A_t_letter A_t_bearing A_t_toCome A_t_bottles x_t_changes x_t_pictures, iA cI 16 A_t_bearing v_t_bearing, oX3 A_t_letter A_t_letter_text A_t_letter_words A_t_letter_draft x_t_letter_size x_t_letter_drafted, iA cI 48 A_t_letter_words v_t_letter_words, iA cI 384 A_t_toCome v_t_toCome]) (rest := [.ref A_t_toCome]) C hK hP hD hS hA hl mf_X6_56 (c_X6_cell hc4) [] rfl rfl rfl rfl rfl rfl rfl rfl (Nat.le_of_ble_eq_true rfl) ⟨Nat.le_of_ble_eq_true rfl, Nat.le_of_ble_eq_true rfl⟩ ⟨Nat.le_refl _, Nat.le_refl _⟩ dX6_reckonChanges_78 ?_
            intro H locs hP hD hS
            refine lv_iload hx hb dX6_reckonChanges_81 (lv_at hl 0 rfl) ?_
            obtain ⟨hi, hf⟩ := sI_e hf
            refine x_iast (ws' := [oX6 A_t A_t_letter A_t_bearing A_t_toCome A_t_bottles x_t_changes x_t_pictures, iA cI 16 A_t_bearing v_t_bearing, oX3 A_t_letter A_t_letter_text A_t_letter_words A_t_letter_draft x_t_letter_size x_t_letter_drafted, iA cI 48 A_t_letter_words v_t_letter_words, iA cI 384 A_t_toCome (upd v_t_toCome r3.toNatClampNeg r1)]) C hK hP hD hS 4 rfl hi rfl dX6_reckonChanges_83 ?_
            intro H locs hP hD hS
            refine lv_iload_n hx hb dX6_reckonChanges_84 rfl (lv_at hl 4 rfl) ?_
            refine lv_iload hx hb dX6_reckonChanges_85 (lv_at hl 0 rfl) ?_
            refine x_mmin C hl ml_X6_60 (Nat.le_of_ble_eq_true rfl) (Nat.le_of_ble_eq_true rfl) ⟨Nat.le_refl _, Nat.le_refl _⟩ dX6_reckonChanges_87 ?_
            refine lv_istore_n (lv' := [(3, .int (mnI l3 r1)), (5, .int r1), (0, .ref A_t), (1, .int l1), (2, .int l2), (4, .int l4)]) hx hb dX6_reckonChanges_90 rfl hl (by decide) rfl (fun ls hl => ?_)
            refine lv_iinc (v := (l4 + (1 : Int32))) (lv' := [(4, .int (l4 + (1 : Int32))), (3, .int (mnI l3 r1)), (5, .int r1), (0, .ref A_t), (1, .int l1), (2, .int l2)]) hx hb dX6_reckonChanges_91 hl (k := 5) rfl rfl (by decide) rfl (fun ls hl => ?_)
            refine lv_goto (tgt := 54) hx hb dX6_reckonChanges_94 (by decide) ?_
            exact ih_54 (upd v_t_toCome r3.toNatClampNeg r1) x_t_changes x_t_pictures l1 l2 (mnI l3 r1) (l4 + (1 : Int32)) _ _ ls (lv_sub hl [3, 4, 5, 1, 0] rfl) hP hD hS hf
      intro v_t_toCome x_t_changes x_t_pictures l1 l2 H locs ls hl hP hD hS hf
      rw [f_X6_reckonChanges_b22] at hf
      refine lv_iload_n hx hb dX6_reckonChanges_22 rfl (lv_at hl 2 rfl) ?_
      refine lv_if_lt (tgt := 110) hx hb dX6_reckonChanges_23 (by decide) (fun q => ?_) (fun q => ?_)
      · have hf := if_t q hf
        obtain ⟨rfl, rfl, rfl⟩ := ev3 hf
        exact x_vret C hr hlk hP hD hS dX6_reckonChanges_110
      · have hf := if_f q hf
        refine lv_aload_n hx hb dX6_reckonChanges_26 rfl (lv_at hl 0 rfl) ?_
        refine lv_iload_n hx hb dX6_reckonChanges_27 rfl (lv_at hl 2 rfl) ?_
        obtain ⟨r5, hc6, hf⟩ := bd1_e hf
        refine x_callVI (ws' := [oX6 A_t A_t_letter A_t_bearing A_t_toCome A_t_bottles x_t_changes x_t_pictures, iA cI 16 A_t_bearing v_t_bearing, oX3 A_t_letter A_t_letter_text A_t_letter_words A_t_letter_draft x_t_letter_size x_t_letter_drafted, iA cI 48 A_t_letter_words v_t_letter_words, iA cI 384 A_t_toCome v_t_toCome]) (rest := []) C hK hP hD hS hA hl mf_X6_49 (c_X6_bearersAt hc6) [0, 1, 2, 3] 0 6 rfl rfl rfl rfl rfl rfl rfl rfl rfl rfl (Nat.le_of_ble_eq_true rfl) ⟨Nat.le_of_ble_eq_true rfl, Nat.le_of_ble_eq_true rfl⟩ ⟨Nat.le_refl _, Nat.le_refl _⟩ dX6_reckonChanges_28 ?_
        intro H locs hP hD hS
        refine lv_if_ne (tgt := 47) hx hb dX6_reckonChanges_31 (by decide) (fun q => ?_) (fun q => ?_)
        · have hf := if_f q hf
          refine lv_sipush (v := 1000) hx hb dX6_reckonChanges_47 (by decide) ?_
          refine lv_istore_n (lv' := [(3, .int (1000 : Int32)), (0, .ref A_t), (1, .int l1), (2, .int l2)]) hx hb dX6_reckonChanges_50 rfl hl (by decide) rfl (fun ls hl => ?_)
          refine lv_iconst (v := 0) hx hb dX6_reckonChanges_51 (by decide) ?_
          refine lv_istore (lv' := [(4, .int (0 : Int32)), (3, .int (1000 : Int32)), (0, .ref A_t), (1, .int l1), (2, .int l2)]) hx hb dX6_reckonChanges_52 hl (by decide) rfl (fun ls hl => ?_)
          exact hb_54 FU v_t_toCome x_t_changes x_t_pictures l1 l2 (1000 : Int32) (0 : Int32) _ _ ls (lv_sub hl [2, 3, 4, 1, 0] rfl) hP hD hS hf
        · have hf := if_t q hf
          refine lv_aload_n hx hb dX6_reckonChanges_34 rfl (lv_at hl 0 rfl) ?_
          refine lv_dup hx hb dX6_reckonChanges_35 rfl ?_
          refine x_get C hK hP fd_X6_39 0 rfl rfl dX6_reckonChanges_36 ?_
          refine lv_iconst (v := 1) hx hb dX6_reckonChanges_39 (by decide) ?_
          refine lv_iadd hx hb dX6_reckonChanges_40 ?_
          refine x_put (ws' := [oX6 A_t A_t_letter A_t_bearing A_t_toCome A_t_bottles x_t_changes (x_t_pictures + (1 : Int32)), iA cI 16 A_t_bearing v_t_bearing, oX3 A_t_letter A_t_letter_text A_t_letter_words A_t_letter_draft x_t_letter_size x_t_letter_drafted, iA cI 48 A_t_letter_words v_t_letter_words, iA cI 384 A_t_toCome v_t_toCome]) C hK hP hD hS fp_X6_39 0 rfl rfl rfl (Nat.le_of_ble_eq_true rfl) rfl dX6_reckonChanges_41 ?_
          intro H locs hP hD hS
          refine lv_goto (tgt := 104) hx hb dX6_reckonChanges_44 (by decide) ?_
          exact hb_104 v_t_toCome x_t_changes (x_t_pictures + (1 : Int32)) l1 l2 _ _ ls (lv_sub hl [0, 1, 2] rfl) hP hD hS hf
  refine lv_aload_n hx hb dX6_reckonChanges_0 rfl (lv_at hl 0 rfl) ?_
  refine lv_iconst (v := 0) hx hb dX6_reckonChanges_1 (by decide) ?_
  refine x_put (ws' := [oX6 A_t A_t_letter A_t_bearing A_t_toCome A_t_bottles x_t_changes (0 : Int32), iA cI 16 A_t_bearing v_t_bearing, oX3 A_t_letter A_t_letter_text A_t_letter_words A_t_letter_draft x_t_letter_size x_t_letter_drafted, iA cI 48 A_t_letter_words v_t_letter_words, iA cI 384 A_t_toCome v_t_toCome]) C hK hP hD hS fp_X6_39 0 rfl rfl rfl (Nat.le_of_ble_eq_true rfl) rfl dX6_reckonChanges_2 ?_
  intro H locs hP hD hS
  refine lv_aload_n hx hb dX6_reckonChanges_5 rfl (lv_at hl 0 rfl) ?_
  refine lv_iconst (v := 0) hx hb dX6_reckonChanges_6 (by decide) ?_
  refine x_put (ws' := [oX6 A_t A_t_letter A_t_bearing A_t_toCome A_t_bottles (0 : Int32) (0 : Int32), iA cI 16 A_t_bearing v_t_bearing, oX3 A_t_letter A_t_letter_text A_t_letter_words A_t_letter_draft x_t_letter_size x_t_letter_drafted, iA cI 48 A_t_letter_words v_t_letter_words, iA cI 384 A_t_toCome v_t_toCome]) C hK hP hD hS fp_X6_43 0 rfl rfl rfl (Nat.le_of_ble_eq_true rfl) rfl dX6_reckonChanges_7 ?_
  intro H locs hP hD hS
  refine lv_iconst (v := -1) hx hb dX6_reckonChanges_10 (by decide) ?_
  refine lv_istore_n (lv' := [(1, .int (-1 : Int32)), (0, .ref A_t)]) hx hb dX6_reckonChanges_11 rfl hl (by decide) rfl (fun ls hl => ?_)
  refine lv_aload_n hx hb dX6_reckonChanges_12 rfl (lv_at hl 1 rfl) ?_
  refine x_get C hK hP fd_X6_23 0 rfl rfl dX6_reckonChanges_13 ?_
  refine x_get C hK hP fd_X6_46 2 rfl rfl dX6_reckonChanges_16 ?_
  refine lv_iconst (v := 1) hx hb dX6_reckonChanges_19 (by decide) ?_
  refine lv_isub hx hb dX6_reckonChanges_20 ?_
  refine lv_istore_n (lv' := [(2, .int (x_t_letter_size - (1 : Int32))), (1, .int (-1 : Int32)), (0, .ref A_t)]) hx hb dX6_reckonChanges_21 rfl hl (by decide) rfl (fun ls hl => ?_)
  exact hb_22 FU v_t_toCome (0 : Int32) (0 : Int32) (-1 : Int32) (x_t_letter_size - (1 : Int32)) _ _ ls (lv_sub hl [2, 1, 0] rfl) hP hD hS hf
def f_X6_chooseBottles_b98 (k9 : (Nat → Int32) → Int32 → Int32 → Int32 → Option ((Nat → Int32))) (k49 : (Nat → Int32) → Int32 → Int32 → Int32 → Int32 → Option ((Nat → Int32))) (v_t_bottles : (Nat → Int32)) (l1 : Int32) (l2 : Int32) (l3 : Int32) (l4 : Int32) : Option ((Nat → Int32)) :=
  k49 v_t_bottles l1 l2 l3 (l4 + (-1 : Int32))
def f_X6_chooseBottles_b70 (v_t_toCome : (Nat → Int32)) (k9 : (Nat → Int32) → Int32 → Int32 → Int32 → Option ((Nat → Int32))) (k49 : (Nat → Int32) → Int32 → Int32 → Int32 → Int32 → Option ((Nat → Int32))) (v_t_bottles : (Nat → Int32)) (s0 : Int32) (l1 : Int32) (l2 : Int32) (l3 : Int32) (l4 : Int32) : Option ((Nat → Int32)) :=
  bd1 (f_X6_cell l3 l4) (fun r1 =>
  gI 384 v_t_toCome r1 (fun g2 =>
  if (s0 + g2) = l1 then
    sI 48 v_t_bottles l3 l4 (fun w3 =>
    f_X6_chooseBottles_b98 k9 k49 w3 l1 l2 l3 l4)
  else
    f_X6_chooseBottles_b98 k9 k49 v_t_bottles l1 l2 l3 l4))
def f_X6_chooseBottles_b65 (v_t_toCome : (Nat → Int32)) (k9 : (Nat → Int32) → Int32 → Int32 → Int32 → Option ((Nat → Int32))) (k49 : (Nat → Int32) → Int32 → Int32 → Int32 → Int32 → Option ((Nat → Int32))) (v_t_bottles : (Nat → Int32)) (l1 : Int32) (l2 : Int32) (l3 : Int32) (l4 : Int32) : Option ((Nat → Int32)) :=
  f_X6_chooseBottles_b70 v_t_toCome k9 k49 v_t_bottles (0 : Int32) l1 l2 l3 l4
def f_X6_chooseBottles_b122 (k9 : (Nat → Int32) → Int32 → Int32 → Int32 → Option ((Nat → Int32))) (v_t_bottles : (Nat → Int32)) (l1 : Int32) (l2 : Int32) (l3 : Int32) : Option ((Nat → Int32)) :=
  k9 v_t_bottles l1 l2 (l3 + (1 : Int32))
def f_X6_chooseBottles_b49 (v_t_toCome : (Nat → Int32)) (k9 : (Nat → Int32) → Int32 → Int32 → Int32 → Option ((Nat → Int32))) : Nat → (Nat → Int32) → Int32 → Int32 → Int32 → Int32 → Option ((Nat → Int32))
  | 0, _, _, _, _, _ => none
  | n + 1, v_t_bottles, l1, l2, l3, l4 =>
    if l4 < 0 then
      gI 48 v_t_bottles l3 (fun g1 =>
      bd1 (f_X6_cell l3 g1) (fun r2 =>
      gI 384 v_t_toCome r2 (fun g3 =>
      f_X6_chooseBottles_b122 k9 v_t_bottles g3 g1 l3)))
    else
      if l2 = (-1 : Int32) then
        f_X6_chooseBottles_b65 v_t_toCome k9 (f_X6_chooseBottles_b49 v_t_toCome k9 n) v_t_bottles l1 l2 l3 l4
      else
        if l2 = l4 then
          f_X6_chooseBottles_b65 v_t_toCome k9 (f_X6_chooseBottles_b49 v_t_toCome k9 n) v_t_bottles l1 l2 l3 l4
        else
          f_X6_chooseBottles_b70 v_t_toCome k9 (f_X6_chooseBottles_b49 v_t_toCome k9 n) v_t_bottles (1 : Int32) l1 l2 l3 l4
def f_X6_chooseBottles_b128 (v_t_bottles : (Nat → Int32)) : Option ((Nat → Int32)) :=
  some v_t_bottles
def f_X6_chooseBottles_b9 (v_t_bearing : (Nat → Int32)) (v_t_letter_words : (Nat → Int32)) (v_t_toCome : (Nat → Int32)) (x_t_letter_size : Int32) : Nat → (Nat → Int32) → Int32 → Int32 → Int32 → Option ((Nat → Int32))
  | 0, _, _, _, _ => none
  | n + 1, v_t_bottles, l1, l2, l3 =>
    if x_t_letter_size ≤ l3 then
      f_X6_chooseBottles_b128 v_t_bottles
    else
      if (48 : Int32) ≤ l3 then
        f_X6_chooseBottles_b128 v_t_bottles
      else
        sI 48 v_t_bottles l3 (-2 : Int32) (fun w1 =>
        bd1 (f_X6_bearersAt v_t_bearing v_t_letter_words l3) (fun r2 =>
        if r2 = 0 then
          f_X6_chooseBottles_b122 (f_X6_chooseBottles_b9 v_t_bearing v_t_letter_words v_t_toCome x_t_letter_size n) w1 l1 l2 l3
        else
          f_X6_chooseBottles_b49 v_t_toCome (f_X6_chooseBottles_b9 v_t_bearing v_t_letter_words v_t_toCome x_t_letter_size n) FU w1 l1 l2 l3 (7 : Int32)))
def f_X6_chooseBottles (v_t_bearing : (Nat → Int32)) (v_t_bottles : (Nat → Int32)) (v_t_letter_words : (Nat → Int32)) (v_t_toCome : (Nat → Int32)) (x_t_changes : Int32) (x_t_letter_size : Int32) : Option ((Nat → Int32)) :=
  f_X6_chooseBottles_b9 v_t_bearing v_t_letter_words v_t_toCome x_t_letter_size FU v_t_bottles x_t_changes (-1 : Int32) (0 : Int32)
set_option maxHeartbeats 4000000 in
set_option maxRecDepth 100000 in
theorem c_X6_chooseBottles {l : Launch} {D : va_G} {cI cB : ClassId} {A_t A_t_letter A_t_bearing A_t_toCome A_t_bottles A_t_letter_text A_t_letter_words A_t_letter_draft : Nat} {x_t_changes x_t_pictures x_t_letter_size x_t_letter_drafted : Int32} {v_t_bearing v_t_bottles v_t_letter_words v_t_toCome : Nat → Int32} {o_v_t_bottles : Nat → Int32} (hf : f_X6_chooseBottles v_t_bearing v_t_bottles v_t_letter_words v_t_toCome x_t_changes x_t_letter_size = some o_v_t_bottles) : CtV l D cI cB yX6_chooseBottles cX6_chooseBottles 6 3 63 [.ref A_t] [oX6 A_t A_t_letter A_t_bearing A_t_toCome A_t_bottles x_t_changes x_t_pictures, iA cI 16 A_t_bearing v_t_bearing, iA cI 48 A_t_bottles v_t_bottles, oX3 A_t_letter A_t_letter_text A_t_letter_words A_t_letter_draft x_t_letter_size x_t_letter_drafted, iA cI 48 A_t_letter_words v_t_letter_words, iA cI 384 A_t_toCome v_t_toCome] [oX6 A_t A_t_letter A_t_bearing A_t_toCome A_t_bottles x_t_changes x_t_pictures, iA cI 16 A_t_bearing v_t_bearing, iA cI 48 A_t_bottles o_v_t_bottles, oX3 A_t_letter A_t_letter_text A_t_letter_words A_t_letter_draft x_t_letter_size x_t_letter_drafted, iA cI 48 A_t_letter_words v_t_letter_words, iA cI 384 A_t_toCome v_t_toCome] := by
  refine x_startV (by decide) (Nat.le_of_ble_eq_true rfl) ?_
  intro p e s m below meth c A C hr hlk hA hK hP hD hS ls hl
  have hl : lv_has ls 6 [(0, .ref A_t)] := hl
  have hx := C.1
  have hb := C.2.1
  unfold f_X6_chooseBottles at hf
  have hb_128 : ∀ (v_t_bottles : (Nat → Int32)) (H : Heap) (locs : List Loc) (ls : Array Slot), lv_has ls 6 [] → va_P D vwCl [oX6 A_t A_t_letter A_t_bearing A_t_toCome A_t_bottles x_t_changes x_t_pictures, iA cI 16 A_t_bearing v_t_bearing, iA cI 48 A_t_bottles v_t_bottles, oX3 A_t_letter A_t_letter_text A_t_letter_words A_t_letter_draft x_t_letter_size x_t_letter_drafted, iA cI 48 A_t_letter_words v_t_letter_words, iA cI 384 A_t_toCome v_t_toCome] H → va_D A [oX6 A_t A_t_letter A_t_bearing A_t_toCome A_t_bottles x_t_changes x_t_pictures, iA cI 16 A_t_bearing v_t_bearing, iA cI 48 A_t_bottles v_t_bottles, oX3 A_t_letter A_t_letter_text A_t_letter_words A_t_letter_draft x_t_letter_size x_t_letter_drafted, iA cI 48 A_t_letter_words v_t_letter_words, iA cI 384 A_t_toCome v_t_toCome] → va_S A s.heap H locs → f_X6_chooseBottles_b128 v_t_bottles = some o_v_t_bottles → W p l e { frames := 3, cells := 0, slots := 0, locals := 63 } s m ([.ref A_t] : List Value).toArray below meth c H locs 0 0 (MQ below (PoV D A [oX6 A_t A_t_letter A_t_bearing A_t_toCome A_t_bottles x_t_changes x_t_pictures, iA cI 16 A_t_bearing v_t_bearing, iA cI 48 A_t_bottles o_v_t_bottles, oX3 A_t_letter A_t_letter_text A_t_letter_words A_t_letter_draft x_t_letter_size x_t_letter_drafted, iA cI 48 A_t_letter_words v_t_letter_words, iA cI 384 A_t_toCome v_t_toCome]) ([.ref A_t] : List Value).toArray s 0 0 A) (F0 m 128 ls []) := by
    intro v_t_bottles H locs ls hl hP hD hS hf
    unfold f_X6_chooseBottles_b128 at hf
    obtain rfl := ev1 hf
    exact x_vret C hr hlk hP hD hS dX6_chooseBottles_128
  have hb_9 : ∀ (n_9 : Nat) (v_t_bottles : (Nat → Int32)) (l1 : Int32) (l2 : Int32) (l3 : Int32) (H : Heap) (locs : List Loc) (ls : Array Slot), lv_has ls 6 [(0, .ref A_t), (1, .int l1), (2, .int l2), (3, .int l3)] → va_P D vwCl [oX6 A_t A_t_letter A_t_bearing A_t_toCome A_t_bottles x_t_changes x_t_pictures, iA cI 16 A_t_bearing v_t_bearing, iA cI 48 A_t_bottles v_t_bottles, oX3 A_t_letter A_t_letter_text A_t_letter_words A_t_letter_draft x_t_letter_size x_t_letter_drafted, iA cI 48 A_t_letter_words v_t_letter_words, iA cI 384 A_t_toCome v_t_toCome] H → va_D A [oX6 A_t A_t_letter A_t_bearing A_t_toCome A_t_bottles x_t_changes x_t_pictures, iA cI 16 A_t_bearing v_t_bearing, iA cI 48 A_t_bottles v_t_bottles, oX3 A_t_letter A_t_letter_text A_t_letter_words A_t_letter_draft x_t_letter_size x_t_letter_drafted, iA cI 48 A_t_letter_words v_t_letter_words, iA cI 384 A_t_toCome v_t_toCome] → va_S A s.heap H locs → f_X6_chooseBottles_b9 v_t_bearing v_t_letter_words v_t_toCome x_t_letter_size n_9 v_t_bottles l1 l2 l3 = some o_v_t_bottles → W p l e { frames := 3, cells := 0, slots := 0, locals := 63 } s m ([.ref A_t] : List Value).toArray below meth c H locs 0 0 (MQ below (PoV D A [oX6 A_t A_t_letter A_t_bearing A_t_toCome A_t_bottles x_t_changes x_t_pictures, iA cI 16 A_t_bearing v_t_bearing, iA cI 48 A_t_bottles o_v_t_bottles, oX3 A_t_letter A_t_letter_text A_t_letter_words A_t_letter_draft x_t_letter_size x_t_letter_drafted, iA cI 48 A_t_letter_words v_t_letter_words, iA cI 384 A_t_toCome v_t_toCome]) ([.ref A_t] : List Value).toArray s 0 0 A) (F0 m 9 ls []) := by
    intro n_9
    induction n_9 with
    | zero =>
      intro v_t_bottles l1 l2 l3 H locs ls hl hP hD hS hf
      exact absurd hf (fun h => by rw [f_X6_chooseBottles_b9] at h; cases h)
    | succ n_9 ih_9 =>
      have hb_122 : ∀ (v_t_bottles : (Nat → Int32)) (l1 : Int32) (l2 : Int32) (l3 : Int32) (H : Heap) (locs : List Loc) (ls : Array Slot), lv_has ls 6 [(0, .ref A_t), (1, .int l1), (2, .int l2), (3, .int l3)] → va_P D vwCl [oX6 A_t A_t_letter A_t_bearing A_t_toCome A_t_bottles x_t_changes x_t_pictures, iA cI 16 A_t_bearing v_t_bearing, iA cI 48 A_t_bottles v_t_bottles, oX3 A_t_letter A_t_letter_text A_t_letter_words A_t_letter_draft x_t_letter_size x_t_letter_drafted, iA cI 48 A_t_letter_words v_t_letter_words, iA cI 384 A_t_toCome v_t_toCome] H → va_D A [oX6 A_t A_t_letter A_t_bearing A_t_toCome A_t_bottles x_t_changes x_t_pictures, iA cI 16 A_t_bearing v_t_bearing, iA cI 48 A_t_bottles v_t_bottles, oX3 A_t_letter A_t_letter_text A_t_letter_words A_t_letter_draft x_t_letter_size x_t_letter_drafted, iA cI 48 A_t_letter_words v_t_letter_words, iA cI 384 A_t_toCome v_t_toCome] → va_S A s.heap H locs → f_X6_chooseBottles_b122 (f_X6_chooseBottles_b9 v_t_bearing v_t_letter_words v_t_toCome x_t_letter_size n_9) v_t_bottles l1 l2 l3 = some o_v_t_bottles → W p l e { frames := 3, cells := 0, slots := 0, locals := 63 } s m ([.ref A_t] : List Value).toArray below meth c H locs 0 0 (MQ below (PoV D A [oX6 A_t A_t_letter A_t_bearing A_t_toCome A_t_bottles x_t_changes x_t_pictures, iA cI 16 A_t_bearing v_t_bearing, iA cI 48 A_t_bottles o_v_t_bottles, oX3 A_t_letter A_t_letter_text A_t_letter_words A_t_letter_draft x_t_letter_size x_t_letter_drafted, iA cI 48 A_t_letter_words v_t_letter_words, iA cI 384 A_t_toCome v_t_toCome]) ([.ref A_t] : List Value).toArray s 0 0 A) (F0 m 122 ls []) := by
        intro v_t_bottles l1 l2 l3 H locs ls hl hP hD hS hf
        unfold f_X6_chooseBottles_b122 at hf
        refine lv_iinc (v := (l3 + (1 : Int32))) (lv' := [(3, .int (l3 + (1 : Int32))), (0, .ref A_t), (1, .int l1), (2, .int l2)]) hx hb dX6_chooseBottles_122 hl (k := 3) rfl rfl (by decide) rfl (fun ls hl => ?_)
        refine lv_goto (tgt := 9) hx hb dX6_chooseBottles_125 (by decide) ?_
        exact ih_9 v_t_bottles l1 l2 (l3 + (1 : Int32)) _ _ ls (lv_sub hl [1, 2, 3, 0] rfl) hP hD hS hf
      have hb_49 : ∀ (n_49 : Nat) (v_t_bottles : (Nat → Int32)) (l1 : Int32) (l2 : Int32) (l3 : Int32) (l4 : Int32) (H : Heap) (locs : List Loc) (ls : Array Slot), lv_has ls 6 [(0, .ref A_t), (1, .int l1), (2, .int l2), (3, .int l3), (4, .int l4)] → va_P D vwCl [oX6 A_t A_t_letter A_t_bearing A_t_toCome A_t_bottles x_t_changes x_t_pictures, iA cI 16 A_t_bearing v_t_bearing, iA cI 48 A_t_bottles v_t_bottles, oX3 A_t_letter A_t_letter_text A_t_letter_words A_t_letter_draft x_t_letter_size x_t_letter_drafted, iA cI 48 A_t_letter_words v_t_letter_words, iA cI 384 A_t_toCome v_t_toCome] H → va_D A [oX6 A_t A_t_letter A_t_bearing A_t_toCome A_t_bottles x_t_changes x_t_pictures, iA cI 16 A_t_bearing v_t_bearing, iA cI 48 A_t_bottles v_t_bottles, oX3 A_t_letter A_t_letter_text A_t_letter_words A_t_letter_draft x_t_letter_size x_t_letter_drafted, iA cI 48 A_t_letter_words v_t_letter_words, iA cI 384 A_t_toCome v_t_toCome] → va_S A s.heap H locs → f_X6_chooseBottles_b49 v_t_toCome (f_X6_chooseBottles_b9 v_t_bearing v_t_letter_words v_t_toCome x_t_letter_size n_9) n_49 v_t_bottles l1 l2 l3 l4 = some o_v_t_bottles → W p l e { frames := 3, cells := 0, slots := 0, locals := 63 } s m ([.ref A_t] : List Value).toArray below meth c H locs 0 0 (MQ below (PoV D A [oX6 A_t A_t_letter A_t_bearing A_t_toCome A_t_bottles x_t_changes x_t_pictures, iA cI 16 A_t_bearing v_t_bearing, iA cI 48 A_t_bottles o_v_t_bottles, oX3 A_t_letter A_t_letter_text A_t_letter_words A_t_letter_draft x_t_letter_size x_t_letter_drafted, iA cI 48 A_t_letter_words v_t_letter_words, iA cI 384 A_t_toCome v_t_toCome]) ([.ref A_t] : List Value).toArray s 0 0 A) (F0 m 49 ls []) := by
        intro n_49
        induction n_49 with
        | zero =>
          intro v_t_bottles l1 l2 l3 l4 H locs ls hl hP hD hS hf
          exact absurd hf (fun h => by rw [f_X6_chooseBottles_b49] at h; cases h)
        | succ n_49 ih_49 =>
          have hb_98 : ∀ (v_t_bottles : (Nat → Int32)) (l1 : Int32) (l2 : Int32) (l3 : Int32) (l4 : Int32) (H : Heap) (locs : List Loc) (ls : Array Slot), lv_has ls 6 [(0, .ref A_t), (1, .int l1), (2, .int l2), (3, .int l3), (4, .int l4)] → va_P D vwCl [oX6 A_t A_t_letter A_t_bearing A_t_toCome A_t_bottles x_t_changes x_t_pictures, iA cI 16 A_t_bearing v_t_bearing, iA cI 48 A_t_bottles v_t_bottles, oX3 A_t_letter A_t_letter_text A_t_letter_words A_t_letter_draft x_t_letter_size x_t_letter_drafted, iA cI 48 A_t_letter_words v_t_letter_words, iA cI 384 A_t_toCome v_t_toCome] H → va_D A [oX6 A_t A_t_letter A_t_bearing A_t_toCome A_t_bottles x_t_changes x_t_pictures, iA cI 16 A_t_bearing v_t_bearing, iA cI 48 A_t_bottles v_t_bottles, oX3 A_t_letter A_t_letter_text A_t_letter_words A_t_letter_draft x_t_letter_size x_t_letter_drafted, iA cI 48 A_t_letter_words v_t_letter_words, iA cI 384 A_t_toCome v_t_toCome] → va_S A s.heap H locs → f_X6_chooseBottles_b98 (f_X6_chooseBottles_b9 v_t_bearing v_t_letter_words v_t_toCome x_t_letter_size n_9) (f_X6_chooseBottles_b49 v_t_toCome (f_X6_chooseBottles_b9 v_t_bearing v_t_letter_words v_t_toCome x_t_letter_size n_9) n_49) v_t_bottles l1 l2 l3 l4 = some o_v_t_bottles → W p l e { frames := 3, cells := 0, slots := 0, locals := 63 } s m ([.ref A_t] : List Value).toArray below meth c H locs 0 0 (MQ below (PoV D A [oX6 A_t A_t_letter A_t_bearing A_t_toCome A_t_bottles x_t_changes x_t_pictures, iA cI 16 A_t_bearing v_t_bearing, iA cI 48 A_t_bottles o_v_t_bottles, oX3 A_t_letter A_t_letter_text A_t_letter_words A_t_letter_draft x_t_letter_size x_t_letter_drafted, iA cI 48 A_t_letter_words v_t_letter_words, iA cI 384 A_t_toCome v_t_toCome]) ([.ref A_t] : List Value).toArray s 0 0 A) (F0 m 98 ls []) := by
            intro v_t_bottles l1 l2 l3 l4 H locs ls hl hP hD hS hf
            unfold f_X6_chooseBottles_b98 at hf
            refine lv_iinc (v := (l4 + (-1 : Int32))) (lv' := [(4, .int (l4 + (-1 : Int32))), (0, .ref A_t), (1, .int l1), (2, .int l2), (3, .int l3)]) hx hb dX6_chooseBottles_98 hl (k := 4) rfl rfl (by decide) rfl (fun ls hl => ?_)
            refine lv_goto (tgt := 49) hx hb dX6_chooseBottles_101 (by decide) ?_
            exact ih_49 v_t_bottles l1 l2 l3 (l4 + (-1 : Int32)) _ _ ls (lv_sub hl [1, 2, 3, 4, 0] rfl) hP hD hS hf
          have hb_70 : ∀ (v_t_bottles : (Nat → Int32)) (s0 : Int32) (l1 : Int32) (l2 : Int32) (l3 : Int32) (l4 : Int32) (H : Heap) (locs : List Loc) (ls : Array Slot), lv_has ls 6 [(0, .ref A_t), (1, .int l1), (2, .int l2), (3, .int l3), (4, .int l4)] → va_P D vwCl [oX6 A_t A_t_letter A_t_bearing A_t_toCome A_t_bottles x_t_changes x_t_pictures, iA cI 16 A_t_bearing v_t_bearing, iA cI 48 A_t_bottles v_t_bottles, oX3 A_t_letter A_t_letter_text A_t_letter_words A_t_letter_draft x_t_letter_size x_t_letter_drafted, iA cI 48 A_t_letter_words v_t_letter_words, iA cI 384 A_t_toCome v_t_toCome] H → va_D A [oX6 A_t A_t_letter A_t_bearing A_t_toCome A_t_bottles x_t_changes x_t_pictures, iA cI 16 A_t_bearing v_t_bearing, iA cI 48 A_t_bottles v_t_bottles, oX3 A_t_letter A_t_letter_text A_t_letter_words A_t_letter_draft x_t_letter_size x_t_letter_drafted, iA cI 48 A_t_letter_words v_t_letter_words, iA cI 384 A_t_toCome v_t_toCome] → va_S A s.heap H locs → f_X6_chooseBottles_b70 v_t_toCome (f_X6_chooseBottles_b9 v_t_bearing v_t_letter_words v_t_toCome x_t_letter_size n_9) (f_X6_chooseBottles_b49 v_t_toCome (f_X6_chooseBottles_b9 v_t_bearing v_t_letter_words v_t_toCome x_t_letter_size n_9) n_49) v_t_bottles s0 l1 l2 l3 l4 = some o_v_t_bottles → W p l e { frames := 3, cells := 0, slots := 0, locals := 63 } s m ([.ref A_t] : List Value).toArray below meth c H locs 0 0 (MQ below (PoV D A [oX6 A_t A_t_letter A_t_bearing A_t_toCome A_t_bottles x_t_changes x_t_pictures, iA cI 16 A_t_bearing v_t_bearing, iA cI 48 A_t_bottles o_v_t_bottles, oX3 A_t_letter A_t_letter_text A_t_letter_words A_t_letter_draft x_t_letter_size x_t_letter_drafted, iA cI 48 A_t_letter_words v_t_letter_words, iA cI 384 A_t_toCome v_t_toCome]) ([.ref A_t] : List Value).toArray s 0 0 A) (F0 m 70 ls [.int s0]) := by
            intro v_t_bottles s0 l1 l2 l3 l4 H locs ls hl hP hD hS hf
            unfold f_X6_chooseBottles_b70 at hf
            refine lv_istore (lv' := [(5, .int s0), (0, .ref A_t), (1, .int l1), (2, .int l2), (3, .int l3), (4, .int l4)]) hx hb dX6_chooseBottles_70 hl (by decide) rfl (fun ls hl => ?_)
            refine lv_iload hx hb dX6_chooseBottles_72 (lv_at hl 0 rfl) ?_
            refine lv_aload_n hx hb dX6_chooseBottles_74 rfl (lv_at hl 1 rfl) ?_
            refine x_get C hK hP fd_X6_17 0 rfl rfl dX6_chooseBottles_75 ?_
            refine lv_iload_n hx hb dX6_chooseBottles_78 rfl (lv_at hl 4 rfl) ?_
            refine lv_iload hx hb dX6_chooseBottles_79 (lv_at hl 5 rfl) ?_
            obtain ⟨r1, hc2, hf⟩ := bd1_e hf
            refine x_callSI (ws' := [oX6 A_t A_t_letter A_t_bearing A_t_toCome A_t_bottles x_t_changes x_t_pictures, iA cI 16 A_t_bearing v_t_bearing, iA cI 48 A_t_bottles v_t_bottles, oX3 A_t_letter A_t_letter_text A_t_letter_words A_t_letter_draft x_t_letter_size x_t_letter_drafted, iA cI 48 A_t_letter_words v_t_letter_words, iA cI 384 A_t_toCome v_t_toCome]) (rest := [.ref A_t_toCome, .int s0]) C hK hP hD hS hA hl mf_X6_56 (c_X6_cell hc2) [] rfl rfl rfl rfl rfl rfl rfl rfl (Nat.le_of_ble_eq_true rfl) ⟨Nat.le_of_ble_eq_true rfl, Nat.le_of_ble_eq_true rfl⟩ ⟨Nat.le_refl _, Nat.le_refl _⟩ dX6_chooseBottles_81 ?_
            intro H locs hP hD hS
            obtain ⟨hi, hf⟩ := gI_e hf
            refine x_iald C hK hP 5 rfl hi dX6_chooseBottles_84 ?_
            refine lv_iadd hx hb dX6_chooseBottles_85 ?_
            refine lv_iload_n hx hb dX6_chooseBottles_86 rfl (lv_at hl 2 rfl) ?_
            refine lv_icmp_ne (tgt := 98) hx hb dX6_chooseBottles_87 (by decide) (fun q => ?_) (fun q => ?_)
            · have hf := if_f q hf
              exact hb_98 v_t_bottles l1 l2 l3 l4 _ _ ls (lv_sub hl [1, 2, 3, 4, 5] rfl) hP hD hS hf
            · have hf := if_t q hf
              refine lv_aload_n hx hb dX6_chooseBottles_90 rfl (lv_at hl 1 rfl) ?_
              refine x_get C hK hP fd_X6_20 0 rfl rfl dX6_chooseBottles_91 ?_
              refine lv_iload_n hx hb dX6_chooseBottles_94 rfl (lv_at hl 4 rfl) ?_
              refine lv_iload hx hb dX6_chooseBottles_95 (lv_at hl 5 rfl) ?_
              obtain ⟨hi, hf⟩ := sI_e hf
              refine x_iast (ws' := [oX6 A_t A_t_letter A_t_bearing A_t_toCome A_t_bottles x_t_changes x_t_pictures, iA cI 16 A_t_bearing v_t_bearing, iA cI 48 A_t_bottles (upd v_t_bottles l3.toNatClampNeg l4), oX3 A_t_letter A_t_letter_text A_t_letter_words A_t_letter_draft x_t_letter_size x_t_letter_drafted, iA cI 48 A_t_letter_words v_t_letter_words, iA cI 384 A_t_toCome v_t_toCome]) C hK hP hD hS 2 rfl hi rfl dX6_chooseBottles_97 ?_
              intro H locs hP hD hS
              exact hb_98 (upd v_t_bottles l3.toNatClampNeg l4) l1 l2 l3 l4 _ _ ls (lv_sub hl [1, 2, 3, 4, 5] rfl) hP hD hS hf
          have hb_65 : ∀ (v_t_bottles : (Nat → Int32)) (l1 : Int32) (l2 : Int32) (l3 : Int32) (l4 : Int32) (H : Heap) (locs : List Loc) (ls : Array Slot), lv_has ls 6 [(0, .ref A_t), (1, .int l1), (2, .int l2), (3, .int l3), (4, .int l4)] → va_P D vwCl [oX6 A_t A_t_letter A_t_bearing A_t_toCome A_t_bottles x_t_changes x_t_pictures, iA cI 16 A_t_bearing v_t_bearing, iA cI 48 A_t_bottles v_t_bottles, oX3 A_t_letter A_t_letter_text A_t_letter_words A_t_letter_draft x_t_letter_size x_t_letter_drafted, iA cI 48 A_t_letter_words v_t_letter_words, iA cI 384 A_t_toCome v_t_toCome] H → va_D A [oX6 A_t A_t_letter A_t_bearing A_t_toCome A_t_bottles x_t_changes x_t_pictures, iA cI 16 A_t_bearing v_t_bearing, iA cI 48 A_t_bottles v_t_bottles, oX3 A_t_letter A_t_letter_text A_t_letter_words A_t_letter_draft x_t_letter_size x_t_letter_drafted, iA cI 48 A_t_letter_words v_t_letter_words, iA cI 384 A_t_toCome v_t_toCome] → va_S A s.heap H locs → f_X6_chooseBottles_b65 v_t_toCome (f_X6_chooseBottles_b9 v_t_bearing v_t_letter_words v_t_toCome x_t_letter_size n_9) (f_X6_chooseBottles_b49 v_t_toCome (f_X6_chooseBottles_b9 v_t_bearing v_t_letter_words v_t_toCome x_t_letter_size n_9) n_49) v_t_bottles l1 l2 l3 l4 = some o_v_t_bottles → W p l e { frames := 3, cells := 0, slots := 0, locals := 63 } s m ([.ref A_t] : List Value).toArray below meth c H locs 0 0 (MQ below (PoV D A [oX6 A_t A_t_letter A_t_bearing A_t_toCome A_t_bottles x_t_changes x_t_pictures, iA cI 16 A_t_bearing v_t_bearing, iA cI 48 A_t_bottles o_v_t_bottles, oX3 A_t_letter A_t_letter_text A_t_letter_words A_t_letter_draft x_t_letter_size x_t_letter_drafted, iA cI 48 A_t_letter_words v_t_letter_words, iA cI 384 A_t_toCome v_t_toCome]) ([.ref A_t] : List Value).toArray s 0 0 A) (F0 m 65 ls []) := by
            intro v_t_bottles l1 l2 l3 l4 H locs ls hl hP hD hS hf
            unfold f_X6_chooseBottles_b65 at hf
            refine lv_iconst (v := 0) hx hb dX6_chooseBottles_65 (by decide) ?_
            refine lv_goto (tgt := 70) hx hb dX6_chooseBottles_66 (by decide) ?_
            exact hb_70 v_t_bottles (0 : Int32) l1 l2 l3 l4 _ _ ls (lv_sub hl [0, 1, 2, 3, 4] rfl) hP hD hS hf
          intro v_t_bottles l1 l2 l3 l4 H locs ls hl hP hD hS hf
          rw [f_X6_chooseBottles_b49] at hf
          refine lv_iload hx hb dX6_chooseBottles_49 (lv_at hl 4 rfl) ?_
          refine lv_if_lt (tgt := 104) hx hb dX6_chooseBottles_51 (by decide) (fun q => ?_) (fun q => ?_)
          · have hf := if_t q hf
            refine lv_aload_n hx hb dX6_chooseBottles_104 rfl (lv_at hl 0 rfl) ?_
            refine x_get C hK hP fd_X6_20 0 rfl rfl dX6_chooseBottles_105 ?_
            refine lv_iload_n hx hb dX6_chooseBottles_108 rfl (lv_at hl 3 rfl) ?_
            obtain ⟨hi, hf⟩ := gI_e hf
            refine x_iald C hK hP 2 rfl hi dX6_chooseBottles_109 ?_
            refine lv_istore_n (lv' := [(2, .int (v_t_bottles l3.toNatClampNeg)), (0, .ref A_t), (1, .int l1), (3, .int l3), (4, .int l4)]) hx hb dX6_chooseBottles_110 rfl hl (by decide) rfl (fun ls hl => ?_)
            refine lv_aload_n hx hb dX6_chooseBottles_111 rfl (lv_at hl 1 rfl) ?_
            refine x_get C hK hP fd_X6_17 0 rfl rfl dX6_chooseBottles_112 ?_
            refine lv_iload_n hx hb dX6_chooseBottles_115 rfl (lv_at hl 3 rfl) ?_
            refine lv_iload_n hx hb dX6_chooseBottles_116 rfl (lv_at hl 0 rfl) ?_
            obtain ⟨r3, hc4, hf⟩ := bd1_e hf
            refine x_callSI (ws' := [oX6 A_t A_t_letter A_t_bearing A_t_toCome A_t_bottles x_t_changes x_t_pictures, iA cI 16 A_t_bearing v_t_bearing, iA cI 48 A_t_bottles v_t_bottles, oX3 A_t_letter A_t_letter_text A_t_letter_words A_t_letter_draft x_t_letter_size x_t_letter_drafted, iA cI 48 A_t_letter_words v_t_letter_words, iA cI 384 A_t_toCome v_t_toCome]) (rest := [.ref A_t_toCome]) C hK hP hD hS hA hl mf_X6_56 (c_X6_cell hc4) [] rfl rfl rfl rfl rfl rfl rfl rfl (Nat.le_of_ble_eq_true rfl) ⟨Nat.le_of_ble_eq_true rfl, Nat.le_of_ble_eq_true rfl⟩ ⟨Nat.le_refl _, Nat.le_refl _⟩ dX6_chooseBottles_117 ?_
            intro H locs hP hD hS
            obtain ⟨hi, hf⟩ := gI_e hf
            refine x_iald C hK hP 5 rfl hi dX6_chooseBottles_120 ?_
            refine lv_istore_n (lv' := [(1, .int (v_t_toCome r3.toNatClampNeg)), (2, .int (v_t_bottles l3.toNatClampNeg)), (0, .ref A_t), (3, .int l3), (4, .int l4)]) hx hb dX6_chooseBottles_121 rfl hl (by decide) rfl (fun ls hl => ?_)
            exact hb_122 v_t_bottles (v_t_toCome r3.toNatClampNeg) (v_t_bottles l3.toNatClampNeg) l3 _ _ ls (lv_sub hl [2, 0, 1, 3] rfl) hP hD hS hf
          · have hf := if_f q hf
            refine lv_iload_n hx hb dX6_chooseBottles_54 rfl (lv_at hl 2 rfl) ?_
            refine lv_iconst (v := -1) hx hb dX6_chooseBottles_55 (by decide) ?_
            refine lv_icmp_eq (tgt := 65) hx hb dX6_chooseBottles_56 (by decide) (fun q => ?_) (fun q => ?_)
            · have hf := if_t q hf
              exact hb_65 v_t_bottles l1 l2 l3 l4 _ _ ls (lv_sub hl [0, 1, 2, 3, 4] rfl) hP hD hS hf
            · have hf := if_f q hf
              refine lv_iload_n hx hb dX6_chooseBottles_59 rfl (lv_at hl 2 rfl) ?_
              refine lv_iload hx hb dX6_chooseBottles_60 (lv_at hl 4 rfl) ?_
              refine lv_icmp_ne (tgt := 69) hx hb dX6_chooseBottles_62 (by decide) (fun q => ?_) (fun q => ?_)
              · have hf := if_f q hf
                refine lv_iconst (v := 1) hx hb dX6_chooseBottles_69 (by decide) ?_
                exact hb_70 v_t_bottles (1 : Int32) l1 l2 l3 l4 _ _ ls (lv_sub hl [0, 1, 2, 3, 4] rfl) hP hD hS hf
              · have hf := if_t q hf
                exact hb_65 v_t_bottles l1 l2 l3 l4 _ _ ls (lv_sub hl [0, 1, 2, 3, 4] rfl) hP hD hS hf
      intro v_t_bottles l1 l2 l3 H locs ls hl hP hD hS hf
      rw [f_X6_chooseBottles_b9] at hf
      refine lv_iload_n hx hb dX6_chooseBottles_9 rfl (lv_at hl 3 rfl) ?_
      refine lv_aload_n hx hb dX6_chooseBottles_10 rfl (lv_at hl 0 rfl) ?_
      refine x_get C hK hP fd_X6_23 0 rfl rfl dX6_chooseBottles_11 ?_
      refine x_get C hK hP fd_X6_46 3 rfl rfl dX6_chooseBottles_14 ?_
      refine lv_icmp_ge (tgt := 128) hx hb dX6_chooseBottles_17 (by decide) (fun q => ?_) (fun q => ?_)
      · have hf := if_t q hf
        exact hb_128 v_t_bottles _ _ ls (lv_sub hl [] rfl) hP hD hS hf
      · have hf := if_f q hf
        refine lv_iload_n hx hb dX6_chooseBottles_20 rfl (lv_at hl 3 rfl) ?_
        refine lv_bipush (v := 48) hx hb dX6_chooseBottles_21 (by decide) ?_
        refine lv_icmp_ge (tgt := 128) hx hb dX6_chooseBottles_23 (by decide) (fun q => ?_) (fun q => ?_)
        · have hf := if_t q hf
          exact hb_128 v_t_bottles _ _ ls (lv_sub hl [] rfl) hP hD hS hf
        · have hf := if_f q hf
          refine lv_aload_n hx hb dX6_chooseBottles_26 rfl (lv_at hl 0 rfl) ?_
          refine x_get C hK hP fd_X6_20 0 rfl rfl dX6_chooseBottles_27 ?_
          refine lv_iload_n hx hb dX6_chooseBottles_30 rfl (lv_at hl 3 rfl) ?_
          refine lv_bipush (v := -2) hx hb dX6_chooseBottles_31 (by decide) ?_
          obtain ⟨hi, hf⟩ := sI_e hf
          refine x_iast (ws' := [oX6 A_t A_t_letter A_t_bearing A_t_toCome A_t_bottles x_t_changes x_t_pictures, iA cI 16 A_t_bearing v_t_bearing, iA cI 48 A_t_bottles (upd v_t_bottles l3.toNatClampNeg (-2 : Int32)), oX3 A_t_letter A_t_letter_text A_t_letter_words A_t_letter_draft x_t_letter_size x_t_letter_drafted, iA cI 48 A_t_letter_words v_t_letter_words, iA cI 384 A_t_toCome v_t_toCome]) C hK hP hD hS 2 rfl hi rfl dX6_chooseBottles_33 ?_
          intro H locs hP hD hS
          refine lv_aload_n hx hb dX6_chooseBottles_34 rfl (lv_at hl 0 rfl) ?_
          refine lv_iload_n hx hb dX6_chooseBottles_35 rfl (lv_at hl 3 rfl) ?_
          obtain ⟨r5, hc6, hf⟩ := bd1_e hf
          refine x_callVI (ws' := [oX6 A_t A_t_letter A_t_bearing A_t_toCome A_t_bottles x_t_changes x_t_pictures, iA cI 16 A_t_bearing v_t_bearing, iA cI 48 A_t_bottles (upd v_t_bottles l3.toNatClampNeg (-2 : Int32)), oX3 A_t_letter A_t_letter_text A_t_letter_words A_t_letter_draft x_t_letter_size x_t_letter_drafted, iA cI 48 A_t_letter_words v_t_letter_words, iA cI 384 A_t_toCome v_t_toCome]) (rest := []) C hK hP hD hS hA hl mf_X6_49 (c_X6_bearersAt hc6) [0, 1, 3, 4] 0 6 rfl rfl rfl rfl rfl rfl rfl rfl rfl rfl (Nat.le_of_ble_eq_true rfl) ⟨Nat.le_of_ble_eq_true rfl, Nat.le_of_ble_eq_true rfl⟩ ⟨Nat.le_refl _, Nat.le_refl _⟩ dX6_chooseBottles_36 ?_
          intro H locs hP hD hS
          refine lv_if_ne (tgt := 45) hx hb dX6_chooseBottles_39 (by decide) (fun q => ?_) (fun q => ?_)
          · have hf := if_f q hf
            refine lv_bipush (v := 7) hx hb dX6_chooseBottles_45 (by decide) ?_
            refine lv_istore (lv' := [(4, .int (7 : Int32)), (0, .ref A_t), (1, .int l1), (2, .int l2), (3, .int l3)]) hx hb dX6_chooseBottles_47 hl (by decide) rfl (fun ls hl => ?_)
            exact hb_49 FU (upd v_t_bottles l3.toNatClampNeg (-2 : Int32)) l1 l2 l3 (7 : Int32) _ _ ls (lv_sub hl [1, 2, 3, 4, 0] rfl) hP hD hS hf
          · have hf := if_t q hf
            refine lv_goto (tgt := 122) hx hb dX6_chooseBottles_42 (by decide) ?_
            exact hb_122 (upd v_t_bottles l3.toNatClampNeg (-2 : Int32)) l1 l2 l3 _ _ ls (lv_sub hl [0, 1, 2, 3] rfl) hP hD hS hf
  refine lv_aload_n hx hb dX6_chooseBottles_0 rfl (lv_at hl 0 rfl) ?_
  refine x_get C hK hP fd_X6_43 0 rfl rfl dX6_chooseBottles_1 ?_
  refine lv_istore_n (lv' := [(1, .int x_t_changes), (0, .ref A_t)]) hx hb dX6_chooseBottles_4 rfl hl (by decide) rfl (fun ls hl => ?_)
  refine lv_iconst (v := -1) hx hb dX6_chooseBottles_5 (by decide) ?_
  refine lv_istore_n (lv' := [(2, .int (-1 : Int32)), (1, .int x_t_changes), (0, .ref A_t)]) hx hb dX6_chooseBottles_6 rfl hl (by decide) rfl (fun ls hl => ?_)
  refine lv_iconst (v := 0) hx hb dX6_chooseBottles_7 (by decide) ?_
  refine lv_istore_n (lv' := [(3, .int (0 : Int32)), (2, .int (-1 : Int32)), (1, .int x_t_changes), (0, .ref A_t)]) hx hb dX6_chooseBottles_8 rfl hl (by decide) rfl (fun ls hl => ?_)
  exact hb_9 FU v_t_bottles x_t_changes (-1 : Int32) (0 : Int32) _ _ ls (lv_sub hl [3, 2, 1, 0] rfl) hP hD hS hf
def f_X6_plan_b2 (v_o1_dread : (Nat → Int32)) (v_o1_kind : (Nat → Int32)) (v_o1_rhymes_other : (Nat → Int32)) (v_o1_salt : (Nat → Int32)) (v_t_letter_words : (Nat → Int32)) (x_o1_nerve : Int32) (x_o1_told : Int32) (x_t_letter_size : Int32) : Nat → (Nat → Int32) → (Nat → Int32) → (Nat → Int32) → Int32 → Int32 → Int32 → Option ((Nat → Int32) × (Nat → Int32) × (Nat → Int32) × Int32 × Int32)
  | 0, _, _, _, _, _, _ => none
  | n + 1, v_t_bearing, v_t_bottles, v_t_toCome, x_t_changes, x_t_pictures, l2 =>
    if (16 : Int32) ≤ l2 then
      bd3 (f_X6_reckonChanges v_t_bearing v_t_letter_words v_t_toCome x_t_changes x_t_pictures x_t_letter_size) (fun w1 w2 w3 =>
      bd1 (f_X6_chooseBottles v_t_bearing v_t_bottles v_t_letter_words w1 w2 x_t_letter_size) (fun w4 =>
      some (v_t_bearing, w4, w1, w2, w3)))
    else
      bd1 (f_X8_bottlesBearing v_o1_dread v_o1_kind v_o1_rhymes_other v_o1_salt x_o1_nerve x_o1_told l2) (fun r5 =>
      sI 16 v_t_bearing l2 r5 (fun w6 =>
      f_X6_plan_b2 v_o1_dread v_o1_kind v_o1_rhymes_other v_o1_salt v_t_letter_words x_o1_nerve x_o1_told x_t_letter_size n w6 v_t_bottles v_t_toCome x_t_changes x_t_pictures (l2 + (1 : Int32))))
def f_X6_plan (v_o1_dread : (Nat → Int32)) (v_o1_kind : (Nat → Int32)) (v_o1_rhymes_other : (Nat → Int32)) (v_o1_salt : (Nat → Int32)) (v_t_bearing : (Nat → Int32)) (v_t_bottles : (Nat → Int32)) (v_t_letter_words : (Nat → Int32)) (v_t_toCome : (Nat → Int32)) (x_o1_nerve : Int32) (x_o1_told : Int32) (x_t_changes : Int32) (x_t_pictures : Int32) (x_t_letter_size : Int32) : Option ((Nat → Int32) × (Nat → Int32) × (Nat → Int32) × Int32 × Int32) :=
  f_X6_plan_b2 v_o1_dread v_o1_kind v_o1_rhymes_other v_o1_salt v_t_letter_words x_o1_nerve x_o1_told x_t_letter_size FU v_t_bearing v_t_bottles v_t_toCome x_t_changes x_t_pictures (0 : Int32)
set_option maxHeartbeats 4000000 in
set_option maxRecDepth 100000 in
theorem c_X6_plan {l : Launch} {D : va_G} {cI cB : ClassId} {A_o1 A_o1_rhymes A_o1_kind A_o1_salt A_o1_ink A_o1_dread A_o1_tries A_t A_t_letter A_t_bearing A_t_toCome A_t_bottles A_o1_rhymes_other A_t_letter_text A_t_letter_words A_t_letter_draft : Nat} {x_o1_told x_o1_nerve x_o1_pictures x_o1_written x_o1_day x_o1_x x_t_changes x_t_pictures x_t_letter_size x_t_letter_drafted : Int32} {v_o1_dread v_o1_kind v_o1_rhymes_other v_o1_salt v_t_bearing v_t_bottles v_t_letter_words v_t_toCome : Nat → Int32} {o_x_t_changes o_x_t_pictures : Int32} {o_v_t_bearing o_v_t_bottles o_v_t_toCome : Nat → Int32} (hf : f_X6_plan v_o1_dread v_o1_kind v_o1_rhymes_other v_o1_salt v_t_bearing v_t_bottles v_t_letter_words v_t_toCome x_o1_nerve x_o1_told x_t_changes x_t_pictures x_t_letter_size = some (o_v_t_bearing, o_v_t_bottles, o_v_t_toCome, o_x_t_changes, o_x_t_pictures)) : CtV l D cI cB yX6_plan cX6_plan 3 5 111 [.ref A_t, .ref A_o1] [oX8 A_o1 A_o1_rhymes A_o1_kind A_o1_salt A_o1_ink A_o1_dread A_o1_tries x_o1_told x_o1_nerve x_o1_pictures x_o1_written x_o1_day x_o1_x, oX6 A_t A_t_letter A_t_bearing A_t_toCome A_t_bottles x_t_changes x_t_pictures, iA cI 128 A_o1_dread v_o1_dread, iA cI 8 A_o1_kind v_o1_kind, oX4 A_o1_rhymes A_o1_rhymes_other, iA cI 16 A_o1_rhymes_other v_o1_rhymes_other, iA cI 8 A_o1_salt v_o1_salt, iA cI 16 A_t_bearing v_t_bearing, iA cI 48 A_t_bottles v_t_bottles, oX3 A_t_letter A_t_letter_text A_t_letter_words A_t_letter_draft x_t_letter_size x_t_letter_drafted, iA cI 48 A_t_letter_words v_t_letter_words, iA cI 384 A_t_toCome v_t_toCome] [oX8 A_o1 A_o1_rhymes A_o1_kind A_o1_salt A_o1_ink A_o1_dread A_o1_tries x_o1_told x_o1_nerve x_o1_pictures x_o1_written x_o1_day x_o1_x, oX6 A_t A_t_letter A_t_bearing A_t_toCome A_t_bottles o_x_t_changes o_x_t_pictures, iA cI 128 A_o1_dread v_o1_dread, iA cI 8 A_o1_kind v_o1_kind, oX4 A_o1_rhymes A_o1_rhymes_other, iA cI 16 A_o1_rhymes_other v_o1_rhymes_other, iA cI 8 A_o1_salt v_o1_salt, iA cI 16 A_t_bearing o_v_t_bearing, iA cI 48 A_t_bottles o_v_t_bottles, oX3 A_t_letter A_t_letter_text A_t_letter_words A_t_letter_draft x_t_letter_size x_t_letter_drafted, iA cI 48 A_t_letter_words v_t_letter_words, iA cI 384 A_t_toCome o_v_t_toCome] := by
  refine x_startV (by decide) (Nat.le_of_ble_eq_true rfl) ?_
  intro p e s m below meth c A C hr hlk hA hK hP hD hS ls hl
  have hl : lv_has ls 3 [(0, .ref A_t), (1, .ref A_o1)] := hl
  have hx := C.1
  have hb := C.2.1
  unfold f_X6_plan at hf
  have hb_2 : ∀ (n_2 : Nat) (v_t_bearing : (Nat → Int32)) (v_t_bottles : (Nat → Int32)) (v_t_toCome : (Nat → Int32)) (x_t_changes : Int32) (x_t_pictures : Int32) (l2 : Int32) (H : Heap) (locs : List Loc) (ls : Array Slot), lv_has ls 3 [(0, .ref A_t), (1, .ref A_o1), (2, .int l2)] → va_P D vwCl [oX8 A_o1 A_o1_rhymes A_o1_kind A_o1_salt A_o1_ink A_o1_dread A_o1_tries x_o1_told x_o1_nerve x_o1_pictures x_o1_written x_o1_day x_o1_x, oX6 A_t A_t_letter A_t_bearing A_t_toCome A_t_bottles x_t_changes x_t_pictures, iA cI 128 A_o1_dread v_o1_dread, iA cI 8 A_o1_kind v_o1_kind, oX4 A_o1_rhymes A_o1_rhymes_other, iA cI 16 A_o1_rhymes_other v_o1_rhymes_other, iA cI 8 A_o1_salt v_o1_salt, iA cI 16 A_t_bearing v_t_bearing, iA cI 48 A_t_bottles v_t_bottles, oX3 A_t_letter A_t_letter_text A_t_letter_words A_t_letter_draft x_t_letter_size x_t_letter_drafted, iA cI 48 A_t_letter_words v_t_letter_words, iA cI 384 A_t_toCome v_t_toCome] H → va_D A [oX8 A_o1 A_o1_rhymes A_o1_kind A_o1_salt A_o1_ink A_o1_dread A_o1_tries x_o1_told x_o1_nerve x_o1_pictures x_o1_written x_o1_day x_o1_x, oX6 A_t A_t_letter A_t_bearing A_t_toCome A_t_bottles x_t_changes x_t_pictures, iA cI 128 A_o1_dread v_o1_dread, iA cI 8 A_o1_kind v_o1_kind, oX4 A_o1_rhymes A_o1_rhymes_other, iA cI 16 A_o1_rhymes_other v_o1_rhymes_other, iA cI 8 A_o1_salt v_o1_salt, iA cI 16 A_t_bearing v_t_bearing, iA cI 48 A_t_bottles v_t_bottles, oX3 A_t_letter A_t_letter_text A_t_letter_words A_t_letter_draft x_t_letter_size x_t_letter_drafted, iA cI 48 A_t_letter_words v_t_letter_words, iA cI 384 A_t_toCome v_t_toCome] → va_S A s.heap H locs → f_X6_plan_b2 v_o1_dread v_o1_kind v_o1_rhymes_other v_o1_salt v_t_letter_words x_o1_nerve x_o1_told x_t_letter_size n_2 v_t_bearing v_t_bottles v_t_toCome x_t_changes x_t_pictures l2 = some (o_v_t_bearing, o_v_t_bottles, o_v_t_toCome, o_x_t_changes, o_x_t_pictures) → W p l e { frames := 5, cells := 0, slots := 0, locals := 111 } s m ([.ref A_t, .ref A_o1] : List Value).toArray below meth c H locs 0 0 (MQ below (PoV D A [oX8 A_o1 A_o1_rhymes A_o1_kind A_o1_salt A_o1_ink A_o1_dread A_o1_tries x_o1_told x_o1_nerve x_o1_pictures x_o1_written x_o1_day x_o1_x, oX6 A_t A_t_letter A_t_bearing A_t_toCome A_t_bottles o_x_t_changes o_x_t_pictures, iA cI 128 A_o1_dread v_o1_dread, iA cI 8 A_o1_kind v_o1_kind, oX4 A_o1_rhymes A_o1_rhymes_other, iA cI 16 A_o1_rhymes_other v_o1_rhymes_other, iA cI 8 A_o1_salt v_o1_salt, iA cI 16 A_t_bearing o_v_t_bearing, iA cI 48 A_t_bottles o_v_t_bottles, oX3 A_t_letter A_t_letter_text A_t_letter_words A_t_letter_draft x_t_letter_size x_t_letter_drafted, iA cI 48 A_t_letter_words v_t_letter_words, iA cI 384 A_t_toCome o_v_t_toCome]) ([.ref A_t, .ref A_o1] : List Value).toArray s 0 0 A) (F0 m 2 ls []) := by
    intro n_2
    induction n_2 with
    | zero =>
      intro v_t_bearing v_t_bottles v_t_toCome x_t_changes x_t_pictures l2 H locs ls hl hP hD hS hf
      exact absurd hf (fun h => by rw [f_X6_plan_b2] at h; cases h)
    | succ n_2 ih_2 =>
      intro v_t_bearing v_t_bottles v_t_toCome x_t_changes x_t_pictures l2 H locs ls hl hP hD hS hf
      rw [f_X6_plan_b2] at hf
      refine lv_iload_n hx hb dX6_plan_2 rfl (lv_at hl 2 rfl) ?_
      refine lv_bipush (v := 16) hx hb dX6_plan_3 (by decide) ?_
      refine lv_icmp_ge (tgt := 25) hx hb dX6_plan_5 (by decide) (fun q => ?_) (fun q => ?_)
      · have hf := if_t q hf
        refine lv_aload_n hx hb dX6_plan_25 rfl (lv_at hl 0 rfl) ?_
        obtain ⟨w1, w2, w3, hc4, hf⟩ := bd3_e hf
        refine x_callVV (ws' := [oX8 A_o1 A_o1_rhymes A_o1_kind A_o1_salt A_o1_ink A_o1_dread A_o1_tries x_o1_told x_o1_nerve x_o1_pictures x_o1_written x_o1_day x_o1_x, oX6 A_t A_t_letter A_t_bearing A_t_toCome A_t_bottles w2 w3, iA cI 128 A_o1_dread v_o1_dread, iA cI 8 A_o1_kind v_o1_kind, oX4 A_o1_rhymes A_o1_rhymes_other, iA cI 16 A_o1_rhymes_other v_o1_rhymes_other, iA cI 8 A_o1_salt v_o1_salt, iA cI 16 A_t_bearing v_t_bearing, iA cI 48 A_t_bottles v_t_bottles, oX3 A_t_letter A_t_letter_text A_t_letter_words A_t_letter_draft x_t_letter_size x_t_letter_drafted, iA cI 48 A_t_letter_words v_t_letter_words, iA cI 384 A_t_toCome w1]) (rest := []) C hK hP hD hS hA hl mf_X6_33 (c_X6_reckonChanges hc4) [1, 7, 9, 10, 11] 0 6 rfl rfl rfl rfl rfl rfl rfl rfl rfl rfl (Nat.le_of_ble_eq_true rfl) ⟨Nat.le_of_ble_eq_true rfl, Nat.le_of_ble_eq_true rfl⟩ ⟨Nat.le_refl _, Nat.le_refl _⟩ dX6_plan_26 ?_
        intro H locs hP hD hS
        refine lv_aload_n hx hb dX6_plan_29 rfl (lv_at hl 0 rfl) ?_
        obtain ⟨w5, hc6, hf⟩ := bd1_e hf
        refine x_callVV (ws' := [oX8 A_o1 A_o1_rhymes A_o1_kind A_o1_salt A_o1_ink A_o1_dread A_o1_tries x_o1_told x_o1_nerve x_o1_pictures x_o1_written x_o1_day x_o1_x, oX6 A_t A_t_letter A_t_bearing A_t_toCome A_t_bottles w2 w3, iA cI 128 A_o1_dread v_o1_dread, iA cI 8 A_o1_kind v_o1_kind, oX4 A_o1_rhymes A_o1_rhymes_other, iA cI 16 A_o1_rhymes_other v_o1_rhymes_other, iA cI 8 A_o1_salt v_o1_salt, iA cI 16 A_t_bearing v_t_bearing, iA cI 48 A_t_bottles w5, oX3 A_t_letter A_t_letter_text A_t_letter_words A_t_letter_draft x_t_letter_size x_t_letter_drafted, iA cI 48 A_t_letter_words v_t_letter_words, iA cI 384 A_t_toCome w1]) (rest := []) C hK hP hD hS hA hl mf_X6_36 (c_X6_chooseBottles hc6) [1, 7, 8, 9, 10, 11] 0 6 rfl rfl rfl rfl rfl rfl rfl rfl rfl rfl (Nat.le_of_ble_eq_true rfl) ⟨Nat.le_of_ble_eq_true rfl, Nat.le_of_ble_eq_true rfl⟩ ⟨Nat.le_refl _, Nat.le_refl _⟩ dX6_plan_30 ?_
        intro H locs hP hD hS
        obtain ⟨rfl, rfl, rfl, rfl, rfl⟩ := ev5 hf
        exact x_vret C hr hlk hP hD hS dX6_plan_33
      · have hf := if_f q hf
        refine lv_aload_n hx hb dX6_plan_8 rfl (lv_at hl 0 rfl) ?_
        refine x_get C hK hP fd_X6_9 1 rfl rfl dX6_plan_9 ?_
        refine lv_iload_n hx hb dX6_plan_12 rfl (lv_at hl 2 rfl) ?_
        refine lv_aload_n hx hb dX6_plan_13 rfl (lv_at hl 1 rfl) ?_
        refine lv_iload_n hx hb dX6_plan_14 rfl (lv_at hl 2 rfl) ?_
        obtain ⟨r7, hc8, hf⟩ := bd1_e hf
        refine x_callVI (ws' := [oX8 A_o1 A_o1_rhymes A_o1_kind A_o1_salt A_o1_ink A_o1_dread A_o1_tries x_o1_told x_o1_nerve x_o1_pictures x_o1_written x_o1_day x_o1_x, oX6 A_t A_t_letter A_t_bearing A_t_toCome A_t_bottles x_t_changes x_t_pictures, iA cI 128 A_o1_dread v_o1_dread, iA cI 8 A_o1_kind v_o1_kind, oX4 A_o1_rhymes A_o1_rhymes_other, iA cI 16 A_o1_rhymes_other v_o1_rhymes_other, iA cI 8 A_o1_salt v_o1_salt, iA cI 16 A_t_bearing v_t_bearing, iA cI 48 A_t_bottles v_t_bottles, oX3 A_t_letter A_t_letter_text A_t_letter_words A_t_letter_draft x_t_letter_size x_t_letter_drafted, iA cI 48 A_t_letter_words v_t_letter_words, iA cI 384 A_t_toCome v_t_toCome]) (rest := [.int l2, .ref A_t_bearing]) C hK hP hD hS hA hl mf_X6_27 (c_X8_bottlesBearing hc8) [0, 2, 3, 4, 5, 6] 0 8 rfl rfl rfl rfl rfl rfl rfl rfl rfl rfl (Nat.le_of_ble_eq_true rfl) ⟨Nat.le_of_ble_eq_true rfl, Nat.le_of_ble_eq_true rfl⟩ ⟨Nat.le_refl _, Nat.le_refl _⟩ dX6_plan_15 ?_
        intro H locs hP hD hS
        obtain ⟨hi, hf⟩ := sI_e hf
        refine x_iast (ws' := [oX8 A_o1 A_o1_rhymes A_o1_kind A_o1_salt A_o1_ink A_o1_dread A_o1_tries x_o1_told x_o1_nerve x_o1_pictures x_o1_written x_o1_day x_o1_x, oX6 A_t A_t_letter A_t_bearing A_t_toCome A_t_bottles x_t_changes x_t_pictures, iA cI 128 A_o1_dread v_o1_dread, iA cI 8 A_o1_kind v_o1_kind, oX4 A_o1_rhymes A_o1_rhymes_other, iA cI 16 A_o1_rhymes_other v_o1_rhymes_other, iA cI 8 A_o1_salt v_o1_salt, iA cI 16 A_t_bearing (upd v_t_bearing l2.toNatClampNeg r7), iA cI 48 A_t_bottles v_t_bottles, oX3 A_t_letter A_t_letter_text A_t_letter_words A_t_letter_draft x_t_letter_size x_t_letter_drafted, iA cI 48 A_t_letter_words v_t_letter_words, iA cI 384 A_t_toCome v_t_toCome]) C hK hP hD hS 7 rfl hi rfl dX6_plan_18 ?_
        intro H locs hP hD hS
        refine lv_iinc (v := (l2 + (1 : Int32))) (lv' := [(2, .int (l2 + (1 : Int32))), (0, .ref A_t), (1, .ref A_o1)]) hx hb dX6_plan_19 hl (k := 2) rfl rfl (by decide) rfl (fun ls hl => ?_)
        refine lv_goto (tgt := 2) hx hb dX6_plan_22 (by decide) ?_
        exact ih_2 (upd v_t_bearing l2.toNatClampNeg r7) v_t_bottles v_t_toCome x_t_changes x_t_pictures (l2 + (1 : Int32)) _ _ ls (lv_sub hl [1, 2, 0] rfl) hP hD hS hf
  refine lv_iconst (v := 0) hx hb dX6_plan_0 (by decide) ?_
  refine lv_istore_n (lv' := [(2, .int (0 : Int32)), (0, .ref A_t), (1, .ref A_o1)]) hx hb dX6_plan_1 rfl hl (by decide) rfl (fun ls hl => ?_)
  exact hb_2 FU v_t_bearing v_t_bottles v_t_toCome x_t_changes x_t_pictures (0 : Int32) _ _ ls (lv_sub hl [1, 2, 0] rfl) hP hD hS hf
