def f_X11_within_b15 (s0 : Int32) : Option (Int32) :=
  zI s0 (some s0)
def f_X11_within_b14 : Option (Int32) :=
  f_X11_within_b15 (0 : Int32)
def f_X11_within (a0 : Int32) (a1 : Int32) (a2 : Int32) : Option (Int32) :=
  if a0 < a1 then
    f_X11_within_b14
  else
    if a2 < a0 then
      f_X11_within_b14
    else
      f_X11_within_b15 (1 : Int32)
set_option maxHeartbeats 4000000 in
set_option maxRecDepth 100000 in
theorem c_X11_within {l : Launch} {D : va_G} {cI cB : ClassId} {a0 a1 a2 : Int32} {o_r : Int32} (hf : f_X11_within a0 a1 a2 = some o_r) : CtI l D cI cB yX11_within cX11_within 3 (some .boolean) 0 0 [.int a0, .int a1, .int a2] [] [] o_r := by
  refine x_startI (by decide) (Nat.le_of_ble_eq_true rfl) ?_
  intro p e s m below meth c A C hr hlk hA hK hP hD hS ls hl
  have hl : lv_has ls 3 [(0, .int a0), (1, .int a1), (2, .int a2)] := hl
  have hx := C.1
  have hb := C.2.1
  unfold f_X11_within at hf
  have hb_15 : ∀ (s0 : Int32) (H : Heap) (locs : List Loc) (ls : Array Slot), lv_has ls 3 [] → va_P D vwCl [] H → va_D A [] → va_S A s.heap H locs → f_X11_within_b15 s0 = some o_r → W p l e { frames := 0, cells := 0, slots := 0, locals := 0 } s m ([.int a0, .int a1, .int a2] : List Value).toArray below meth c H locs 0 0 (MQ below (PoI D A [] o_r) ([.int a0, .int a1, .int a2] : List Value).toArray s 0 0 A) (F0 m 15 ls [.int s0]) := by
    intro s0 H locs ls hl hP hD hS hf
    unfold f_X11_within_b15 at hf
    obtain ⟨hz, hf⟩ := zI_e hf
    obtain rfl := ev1 hf
    exact x_zret C hr hlk hz hP hD hS dX11_within_15
  have hb_14 : ∀ (H : Heap) (locs : List Loc) (ls : Array Slot), lv_has ls 3 [] → va_P D vwCl [] H → va_D A [] → va_S A s.heap H locs → f_X11_within_b14 = some o_r → W p l e { frames := 0, cells := 0, slots := 0, locals := 0 } s m ([.int a0, .int a1, .int a2] : List Value).toArray below meth c H locs 0 0 (MQ below (PoI D A [] o_r) ([.int a0, .int a1, .int a2] : List Value).toArray s 0 0 A) (F0 m 14 ls []) := by
    intro H locs ls hl hP hD hS hf
    unfold f_X11_within_b14 at hf
    refine lv_iconst (v := 0) hx hb dX11_within_14 (by decide) ?_
    exact hb_15 (0 : Int32) _ _ ls (lv_sub hl [] rfl) hP hD hS hf
  refine lv_iload_n hx hb dX11_within_0 rfl (lv_at hl 0 rfl) ?_
  refine lv_iload_n hx hb dX11_within_1 rfl (lv_at hl 1 rfl) ?_
  refine lv_icmp_lt (tgt := 14) hx hb dX11_within_2 (by decide) (fun q => ?_) (fun q => ?_)
  · have hf := if_t q hf
    exact hb_14 _ _ ls (lv_sub hl [] rfl) hP hD hS hf
  · have hf := if_f q hf
    refine lv_iload_n hx hb dX11_within_5 rfl (lv_at hl 0 rfl) ?_
    refine lv_iload_n hx hb dX11_within_6 rfl (lv_at hl 2 rfl) ?_
    refine lv_icmp_gt (tgt := 14) hx hb dX11_within_7 (by decide) (fun q => ?_) (fun q => ?_)
    · have hf := if_t q hf
      exact hb_14 _ _ ls (lv_sub hl [] rfl) hP hD hS hf
    · have hf := if_f q hf
      refine lv_iconst (v := 1) hx hb dX11_within_10 (by decide) ?_
      refine lv_goto (tgt := 15) hx hb dX11_within_11 (by decide) ?_
      exact hb_15 (1 : Int32) _ _ ls (lv_sub hl [] rfl) hP hD hS hf
def f_X11_bounded (a0 : Int32) (a1 : Int32) : Option (Int32) :=
  some (mxI (0 : Int32) (mnI a0 a1))
set_option maxHeartbeats 4000000 in
set_option maxRecDepth 100000 in
theorem c_X11_bounded {l : Launch} {D : va_G} {cI cB : ClassId} {a0 a1 : Int32} {o_r : Int32} (hf : f_X11_bounded a0 a1 = some o_r) : CtI l D cI cB yX11_bounded cX11_bounded 2 (some .int) 1 21 [.int a0, .int a1] [] [] o_r := by
  refine x_startI (by decide) (Nat.le_of_ble_eq_true rfl) ?_
  intro p e s m below meth c A C hr hlk hA hK hP hD hS ls hl
  have hl : lv_has ls 2 [(0, .int a0), (1, .int a1)] := hl
  have hx := C.1
  have hb := C.2.1
  unfold f_X11_bounded at hf
  refine lv_iconst (v := 0) hx hb dX11_bounded_0 (by decide) ?_
  refine lv_iload_n hx hb dX11_bounded_1 rfl (lv_at hl 0 rfl) ?_
  refine lv_iload_n hx hb dX11_bounded_2 rfl (lv_at hl 1 rfl) ?_
  refine x_mmin C hl ml_X11_305 (Nat.le_of_ble_eq_true rfl) (Nat.le_of_ble_eq_true rfl) ⟨Nat.le_refl _, Nat.le_refl _⟩ dX11_bounded_3 ?_
  refine x_mmax C hl ml_X11_243 (Nat.le_of_ble_eq_true rfl) (Nat.le_of_ble_eq_true rfl) ⟨Nat.le_refl _, Nat.le_refl _⟩ dX11_bounded_6 ?_
  obtain rfl := ev1 hf
  exact x_iret C hr hlk hP hD hS dX11_bounded_9
def f_X11_isWordSign_b17 (s0 : Int32) : Option (Int32) :=
  zI s0 (some s0)
def f_X11_isWordSign_b16 : Option (Int32) :=
  f_X11_isWordSign_b17 (0 : Int32)
def f_X11_isWordSign (a0 : Int32) : Option (Int32) :=
  if a0 < (97 : Int32) then
    f_X11_isWordSign_b16
  else
    if (112 : Int32) < a0 then
      f_X11_isWordSign_b16
    else
      f_X11_isWordSign_b17 (1 : Int32)
set_option maxHeartbeats 4000000 in
set_option maxRecDepth 100000 in
theorem c_X11_isWordSign {l : Launch} {D : va_G} {cI cB : ClassId} {a0 : Int32} {o_r : Int32} (hf : f_X11_isWordSign a0 = some o_r) : CtI l D cI cB yX11_isWordSign cX11_isWordSign 1 (some .boolean) 0 0 [.int a0] [] [] o_r := by
  refine x_startI (by decide) (Nat.le_of_ble_eq_true rfl) ?_
  intro p e s m below meth c A C hr hlk hA hK hP hD hS ls hl
  have hl : lv_has ls 1 [(0, .int a0)] := hl
  have hx := C.1
  have hb := C.2.1
  unfold f_X11_isWordSign at hf
  have hb_17 : ∀ (s0 : Int32) (H : Heap) (locs : List Loc) (ls : Array Slot), lv_has ls 1 [] → va_P D vwCl [] H → va_D A [] → va_S A s.heap H locs → f_X11_isWordSign_b17 s0 = some o_r → W p l e { frames := 0, cells := 0, slots := 0, locals := 0 } s m ([.int a0] : List Value).toArray below meth c H locs 0 0 (MQ below (PoI D A [] o_r) ([.int a0] : List Value).toArray s 0 0 A) (F0 m 17 ls [.int s0]) := by
    intro s0 H locs ls hl hP hD hS hf
    unfold f_X11_isWordSign_b17 at hf
    obtain ⟨hz, hf⟩ := zI_e hf
    obtain rfl := ev1 hf
    exact x_zret C hr hlk hz hP hD hS dX11_isWordSign_17
  have hb_16 : ∀ (H : Heap) (locs : List Loc) (ls : Array Slot), lv_has ls 1 [] → va_P D vwCl [] H → va_D A [] → va_S A s.heap H locs → f_X11_isWordSign_b16 = some o_r → W p l e { frames := 0, cells := 0, slots := 0, locals := 0 } s m ([.int a0] : List Value).toArray below meth c H locs 0 0 (MQ below (PoI D A [] o_r) ([.int a0] : List Value).toArray s 0 0 A) (F0 m 16 ls []) := by
    intro H locs ls hl hP hD hS hf
    unfold f_X11_isWordSign_b16 at hf
    refine lv_iconst (v := 0) hx hb dX11_isWordSign_16 (by decide) ?_
    exact hb_17 (0 : Int32) _ _ ls (lv_sub hl [] rfl) hP hD hS hf
  refine lv_iload_n hx hb dX11_isWordSign_0 rfl (lv_at hl 0 rfl) ?_
  refine lv_bipush (v := 97) hx hb dX11_isWordSign_1 (by decide) ?_
  refine lv_icmp_lt (tgt := 16) hx hb dX11_isWordSign_3 (by decide) (fun q => ?_) (fun q => ?_)
  · have hf := if_t q hf
    exact hb_16 _ _ ls (lv_sub hl [] rfl) hP hD hS hf
  · have hf := if_f q hf
    refine lv_iload_n hx hb dX11_isWordSign_6 rfl (lv_at hl 0 rfl) ?_
    refine lv_bipush (v := 112) hx hb dX11_isWordSign_7 (by decide) ?_
    refine lv_icmp_gt (tgt := 16) hx hb dX11_isWordSign_9 (by decide) (fun q => ?_) (fun q => ?_)
    · have hf := if_t q hf
      exact hb_16 _ _ ls (lv_sub hl [] rfl) hP hD hS hf
    · have hf := if_f q hf
      refine lv_iconst (v := 1) hx hb dX11_isWordSign_12 (by decide) ?_
      refine lv_goto (tgt := 17) hx hb dX11_isWordSign_13 (by decide) ?_
      exact hb_17 (1 : Int32) _ _ ls (lv_sub hl [] rfl) hP hD hS hf
def f_X11_isDigit_b17 (s0 : Int32) : Option (Int32) :=
  zI s0 (some s0)
def f_X11_isDigit_b16 : Option (Int32) :=
  f_X11_isDigit_b17 (0 : Int32)
def f_X11_isDigit (a0 : Int32) : Option (Int32) :=
  if a0 < (48 : Int32) then
    f_X11_isDigit_b16
  else
    if (57 : Int32) < a0 then
      f_X11_isDigit_b16
    else
      f_X11_isDigit_b17 (1 : Int32)
set_option maxHeartbeats 4000000 in
set_option maxRecDepth 100000 in
theorem c_X11_isDigit {l : Launch} {D : va_G} {cI cB : ClassId} {a0 : Int32} {o_r : Int32} (hf : f_X11_isDigit a0 = some o_r) : CtI l D cI cB yX11_isDigit cX11_isDigit 1 (some .boolean) 0 0 [.int a0] [] [] o_r := by
  refine x_startI (by decide) (Nat.le_of_ble_eq_true rfl) ?_
  intro p e s m below meth c A C hr hlk hA hK hP hD hS ls hl
  have hl : lv_has ls 1 [(0, .int a0)] := hl
  have hx := C.1
  have hb := C.2.1
  unfold f_X11_isDigit at hf
  have hb_17 : ∀ (s0 : Int32) (H : Heap) (locs : List Loc) (ls : Array Slot), lv_has ls 1 [] → va_P D vwCl [] H → va_D A [] → va_S A s.heap H locs → f_X11_isDigit_b17 s0 = some o_r → W p l e { frames := 0, cells := 0, slots := 0, locals := 0 } s m ([.int a0] : List Value).toArray below meth c H locs 0 0 (MQ below (PoI D A [] o_r) ([.int a0] : List Value).toArray s 0 0 A) (F0 m 17 ls [.int s0]) := by
    intro s0 H locs ls hl hP hD hS hf
    unfold f_X11_isDigit_b17 at hf
    obtain ⟨hz, hf⟩ := zI_e hf
    obtain rfl := ev1 hf
    exact x_zret C hr hlk hz hP hD hS dX11_isDigit_17
  have hb_16 : ∀ (H : Heap) (locs : List Loc) (ls : Array Slot), lv_has ls 1 [] → va_P D vwCl [] H → va_D A [] → va_S A s.heap H locs → f_X11_isDigit_b16 = some o_r → W p l e { frames := 0, cells := 0, slots := 0, locals := 0 } s m ([.int a0] : List Value).toArray below meth c H locs 0 0 (MQ below (PoI D A [] o_r) ([.int a0] : List Value).toArray s 0 0 A) (F0 m 16 ls []) := by
    intro H locs ls hl hP hD hS hf
    unfold f_X11_isDigit_b16 at hf
    refine lv_iconst (v := 0) hx hb dX11_isDigit_16 (by decide) ?_
    exact hb_17 (0 : Int32) _ _ ls (lv_sub hl [] rfl) hP hD hS hf
  refine lv_iload_n hx hb dX11_isDigit_0 rfl (lv_at hl 0 rfl) ?_
  refine lv_bipush (v := 48) hx hb dX11_isDigit_1 (by decide) ?_
  refine lv_icmp_lt (tgt := 16) hx hb dX11_isDigit_3 (by decide) (fun q => ?_) (fun q => ?_)
  · have hf := if_t q hf
    exact hb_16 _ _ ls (lv_sub hl [] rfl) hP hD hS hf
  · have hf := if_f q hf
    refine lv_iload_n hx hb dX11_isDigit_6 rfl (lv_at hl 0 rfl) ?_
    refine lv_bipush (v := 57) hx hb dX11_isDigit_7 (by decide) ?_
    refine lv_icmp_gt (tgt := 16) hx hb dX11_isDigit_9 (by decide) (fun q => ?_) (fun q => ?_)
    · have hf := if_t q hf
      exact hb_16 _ _ ls (lv_sub hl [] rfl) hP hD hS hf
    · have hf := if_f q hf
      refine lv_iconst (v := 1) hx hb dX11_isDigit_12 (by decide) ?_
      refine lv_goto (tgt := 17) hx hb dX11_isDigit_13 (by decide) ?_
      exact hb_17 (1 : Int32) _ _ ls (lv_sub hl [] rfl) hP hD hS hf
def f_X4_of (v_t_other : (Nat → Int32)) (a1 : Int32) : Option (Int32) :=
  gI 16 v_t_other (a1 &&& (15 : Int32)) (fun g1 =>
  some g1)
set_option maxHeartbeats 4000000 in
set_option maxRecDepth 100000 in
theorem c_X4_of {l : Launch} {D : va_G} {cI cB : ClassId} {A_t A_t_other : Nat} {a1 : Int32} {v_t_other : Nat → Int32} {o_r : Int32} (hf : f_X4_of v_t_other a1 = some o_r) : CtI l D cI cB yX4_of cX4_of 2 (some .int) 0 0 [.ref A_t, .int a1] [oX4 A_t A_t_other, iA cI 16 A_t_other v_t_other] [oX4 A_t A_t_other, iA cI 16 A_t_other v_t_other] o_r := by
  refine x_startI (by decide) (Nat.le_of_ble_eq_true rfl) ?_
  intro p e s m below meth c A C hr hlk hA hK hP hD hS ls hl
  have hl : lv_has ls 2 [(0, .ref A_t), (1, .int a1)] := hl
  have hx := C.1
  have hb := C.2.1
  unfold f_X4_of at hf
  refine lv_aload_n hx hb dX4_of_0 rfl (lv_at hl 0 rfl) ?_
  refine x_get C hK hP fd_X4_9 0 rfl rfl dX4_of_1 ?_
  refine lv_iload_n hx hb dX4_of_4 rfl (lv_at hl 1 rfl) ?_
  refine lv_bipush (v := 15) hx hb dX4_of_5 (by decide) ?_
  refine lv_iand hx hb dX4_of_7 ?_
  obtain ⟨hi, hf⟩ := gI_e hf
  refine x_iald C hK hP 1 rfl hi dX4_of_8 ?_
  obtain rfl := ev1 hf
  exact x_iret C hr hlk hP hD hS dX4_of_9
def f_X4_part (v_t_other : (Nat → Int32)) (a1 : Int32) : Option ((Nat → Int32)) :=
  bd1 (f_X4_of v_t_other a1) (fun r1 =>
  sI 16 v_t_other (r1 &&& (15 : Int32)) (r1 &&& (15 : Int32)) (fun w2 =>
  sI 16 w2 (a1 &&& (15 : Int32)) (a1 &&& (15 : Int32)) (fun w3 =>
  some w3)))
set_option maxHeartbeats 4000000 in
set_option maxRecDepth 100000 in
theorem c_X4_part {l : Launch} {D : va_G} {cI cB : ClassId} {A_t A_t_other : Nat} {a1 : Int32} {v_t_other : Nat → Int32} {o_v_t_other : Nat → Int32} (hf : f_X4_part v_t_other a1 = some o_v_t_other) : CtV l D cI cB yX4_part cX4_part 3 1 21 [.ref A_t, .int a1] [oX4 A_t A_t_other, iA cI 16 A_t_other v_t_other] [oX4 A_t A_t_other, iA cI 16 A_t_other o_v_t_other] := by
  refine x_startV (by decide) (Nat.le_of_ble_eq_true rfl) ?_
  intro p e s m below meth c A C hr hlk hA hK hP hD hS ls hl
  have hl : lv_has ls 3 [(0, .ref A_t), (1, .int a1)] := hl
  have hx := C.1
  have hb := C.2.1
  unfold f_X4_part at hf
  refine lv_aload_n hx hb dX4_part_0 rfl (lv_at hl 0 rfl) ?_
  refine lv_iload_n hx hb dX4_part_1 rfl (lv_at hl 1 rfl) ?_
  obtain ⟨r1, hc2, hf⟩ := bd1_e hf
  refine x_callVI (ws' := [oX4 A_t A_t_other, iA cI 16 A_t_other v_t_other]) (rest := []) C hK hP hD hS hA hl mf_X4_19 (c_X4_of hc2) [0, 1] 0 4 rfl rfl rfl rfl rfl rfl rfl rfl rfl rfl (Nat.le_of_ble_eq_true rfl) ⟨Nat.le_of_ble_eq_true rfl, Nat.le_of_ble_eq_true rfl⟩ ⟨Nat.le_refl _, Nat.le_refl _⟩ dX4_part_2 ?_
  intro H locs hP hD hS
  refine lv_istore_n (lv' := [(2, .int r1), (0, .ref A_t), (1, .int a1)]) hx hb dX4_part_5 rfl hl (by decide) rfl (fun ls hl => ?_)
  refine lv_aload_n hx hb dX4_part_6 rfl (lv_at hl 1 rfl) ?_
  refine x_get C hK hP fd_X4_9 0 rfl rfl dX4_part_7 ?_
  refine lv_iload_n hx hb dX4_part_10 rfl (lv_at hl 0 rfl) ?_
  refine lv_bipush (v := 15) hx hb dX4_part_11 (by decide) ?_
  refine lv_iand hx hb dX4_part_13 ?_
  refine lv_iload_n hx hb dX4_part_14 rfl (lv_at hl 0 rfl) ?_
  refine lv_bipush (v := 15) hx hb dX4_part_15 (by decide) ?_
  refine lv_iand hx hb dX4_part_17 ?_
  obtain ⟨hi, hf⟩ := sI_e hf
  refine x_iast (ws' := [oX4 A_t A_t_other, iA cI 16 A_t_other (upd v_t_other (r1 &&& (15 : Int32)).toNatClampNeg (r1 &&& (15 : Int32)))]) C hK hP hD hS 1 rfl hi rfl dX4_part_18 ?_
  intro H locs hP hD hS
  refine lv_aload_n hx hb dX4_part_19 rfl (lv_at hl 1 rfl) ?_
  refine x_get C hK hP fd_X4_9 0 rfl rfl dX4_part_20 ?_
  refine lv_iload_n hx hb dX4_part_23 rfl (lv_at hl 2 rfl) ?_
  refine lv_bipush (v := 15) hx hb dX4_part_24 (by decide) ?_
  refine lv_iand hx hb dX4_part_26 ?_
  refine lv_iload_n hx hb dX4_part_27 rfl (lv_at hl 2 rfl) ?_
  refine lv_bipush (v := 15) hx hb dX4_part_28 (by decide) ?_
  refine lv_iand hx hb dX4_part_30 ?_
  obtain ⟨hi, hf⟩ := sI_e hf
  refine x_iast (ws' := [oX4 A_t A_t_other, iA cI 16 A_t_other (upd (upd v_t_other (r1 &&& (15 : Int32)).toNatClampNeg (r1 &&& (15 : Int32))) (a1 &&& (15 : Int32)).toNatClampNeg (a1 &&& (15 : Int32)))]) C hK hP hD hS 1 rfl hi rfl dX4_part_31 ?_
  intro H locs hP hD hS
  obtain rfl := ev1 hf
  exact x_vret C hr hlk hP hD hS dX4_part_32
def f_X4_pair (v_t_other : (Nat → Int32)) (a1 : Int32) (a2 : Int32) : Option ((Nat → Int32)) :=
  bd1 (f_X4_part v_t_other a1) (fun w1 =>
  bd1 (f_X4_part w1 a2) (fun w2 =>
  sI 16 w2 (a1 &&& (15 : Int32)) (a2 &&& (15 : Int32)) (fun w3 =>
  sI 16 w3 (a2 &&& (15 : Int32)) (a1 &&& (15 : Int32)) (fun w4 =>
  some w4))))
set_option maxHeartbeats 4000000 in
set_option maxRecDepth 100000 in
theorem c_X4_pair {l : Launch} {D : va_G} {cI cB : ClassId} {A_t A_t_other : Nat} {a1 a2 : Int32} {v_t_other : Nat → Int32} {o_v_t_other : Nat → Int32} (hf : f_X4_pair v_t_other a1 a2 = some o_v_t_other) : CtV l D cI cB yX4_pair cX4_pair 3 2 43 [.ref A_t, .int a1, .int a2] [oX4 A_t A_t_other, iA cI 16 A_t_other v_t_other] [oX4 A_t A_t_other, iA cI 16 A_t_other o_v_t_other] := by
  refine x_startV (by decide) (Nat.le_of_ble_eq_true rfl) ?_
  intro p e s m below meth c A C hr hlk hA hK hP hD hS ls hl
  have hl : lv_has ls 3 [(0, .ref A_t), (1, .int a1), (2, .int a2)] := hl
  have hx := C.1
  have hb := C.2.1
  unfold f_X4_pair at hf
  refine lv_aload_n hx hb dX4_pair_0 rfl (lv_at hl 0 rfl) ?_
  refine lv_iload_n hx hb dX4_pair_1 rfl (lv_at hl 1 rfl) ?_
  obtain ⟨w1, hc2, hf⟩ := bd1_e hf
  refine x_callVV (ws' := [oX4 A_t A_t_other, iA cI 16 A_t_other w1]) (rest := []) C hK hP hD hS hA hl mf_X4_15 (c_X4_part hc2) [0, 1] 0 4 rfl rfl rfl rfl rfl rfl rfl rfl rfl rfl (Nat.le_of_ble_eq_true rfl) ⟨Nat.le_of_ble_eq_true rfl, Nat.le_of_ble_eq_true rfl⟩ ⟨Nat.le_refl _, Nat.le_refl _⟩ dX4_pair_2 ?_
  intro H locs hP hD hS
  refine lv_aload_n hx hb dX4_pair_5 rfl (lv_at hl 0 rfl) ?_
  refine lv_iload_n hx hb dX4_pair_6 rfl (lv_at hl 2 rfl) ?_
  obtain ⟨w3, hc4, hf⟩ := bd1_e hf
  refine x_callVV (ws' := [oX4 A_t A_t_other, iA cI 16 A_t_other w3]) (rest := []) C hK hP hD hS hA hl mf_X4_15 (c_X4_part hc4) [0, 1] 0 4 rfl rfl rfl rfl rfl rfl rfl rfl rfl rfl (Nat.le_of_ble_eq_true rfl) ⟨Nat.le_of_ble_eq_true rfl, Nat.le_of_ble_eq_true rfl⟩ ⟨Nat.le_refl _, Nat.le_refl _⟩ dX4_pair_7 ?_
  intro H locs hP hD hS
  refine lv_aload_n hx hb dX4_pair_10 rfl (lv_at hl 0 rfl) ?_
  refine x_get C hK hP fd_X4_9 0 rfl rfl dX4_pair_11 ?_
  refine lv_iload_n hx hb dX4_pair_14 rfl (lv_at hl 1 rfl) ?_
  refine lv_bipush (v := 15) hx hb dX4_pair_15 (by decide) ?_
  refine lv_iand hx hb dX4_pair_17 ?_
  refine lv_iload_n hx hb dX4_pair_18 rfl (lv_at hl 2 rfl) ?_
  refine lv_bipush (v := 15) hx hb dX4_pair_19 (by decide) ?_
  refine lv_iand hx hb dX4_pair_21 ?_
  obtain ⟨hi, hf⟩ := sI_e hf
  refine x_iast (ws' := [oX4 A_t A_t_other, iA cI 16 A_t_other (upd w3 (a1 &&& (15 : Int32)).toNatClampNeg (a2 &&& (15 : Int32)))]) C hK hP hD hS 1 rfl hi rfl dX4_pair_22 ?_
  intro H locs hP hD hS
  refine lv_aload_n hx hb dX4_pair_23 rfl (lv_at hl 0 rfl) ?_
  refine x_get C hK hP fd_X4_9 0 rfl rfl dX4_pair_24 ?_
  refine lv_iload_n hx hb dX4_pair_27 rfl (lv_at hl 2 rfl) ?_
  refine lv_bipush (v := 15) hx hb dX4_pair_28 (by decide) ?_
  refine lv_iand hx hb dX4_pair_30 ?_
  refine lv_iload_n hx hb dX4_pair_31 rfl (lv_at hl 1 rfl) ?_
  refine lv_bipush (v := 15) hx hb dX4_pair_32 (by decide) ?_
  refine lv_iand hx hb dX4_pair_34 ?_
  obtain ⟨hi, hf⟩ := sI_e hf
  refine x_iast (ws' := [oX4 A_t A_t_other, iA cI 16 A_t_other (upd (upd w3 (a1 &&& (15 : Int32)).toNatClampNeg (a2 &&& (15 : Int32))) (a2 &&& (15 : Int32)).toNatClampNeg (a1 &&& (15 : Int32)))]) C hK hP hD hS 1 rfl hi rfl dX4_pair_35 ?_
  intro H locs hP hD hS
  obtain rfl := ev1 hf
  exact x_vret C hr hlk hP hD hS dX4_pair_36
def f_X4_twos_b26 (k4 : Int32 → Int32 → Option (Int32)) (s0 : Int32) (s1 : Int32) (l2 : Int32) : Option (Int32) :=
  k4 (s0 + s1) (l2 + (1 : Int32))
def f_X4_twos_b4 (v_t_other : (Nat → Int32)) : Nat → Int32 → Int32 → Option (Int32)
  | 0, _, _ => none
  | n + 1, l1, l2 =>
    if (16 : Int32) ≤ l2 then
      dI l1 (2 : Int32) (fun g1 =>
      some g1)
    else
      gI 16 v_t_other l2 (fun g2 =>
      if g2 = l2 then
        f_X4_twos_b26 (f_X4_twos_b4 v_t_other n) l1 (0 : Int32) l2
      else
        f_X4_twos_b26 (f_X4_twos_b4 v_t_other n) l1 (1 : Int32) l2)
def f_X4_twos (v_t_other : (Nat → Int32)) : Option (Int32) :=
  f_X4_twos_b4 v_t_other FU (0 : Int32) (0 : Int32)
set_option maxHeartbeats 4000000 in
set_option maxRecDepth 100000 in
theorem c_X4_twos {l : Launch} {D : va_G} {cI cB : ClassId} {A_t A_t_other : Nat} {v_t_other : Nat → Int32} {o_r : Int32} (hf : f_X4_twos v_t_other = some o_r) : CtI l D cI cB yX4_twos cX4_twos 3 (some .int) 0 0 [.ref A_t] [oX4 A_t A_t_other, iA cI 16 A_t_other v_t_other] [oX4 A_t A_t_other, iA cI 16 A_t_other v_t_other] o_r := by
  refine x_startI (by decide) (Nat.le_of_ble_eq_true rfl) ?_
  intro p e s m below meth c A C hr hlk hA hK hP hD hS ls hl
  have hl : lv_has ls 3 [(0, .ref A_t)] := hl
  have hx := C.1
  have hb := C.2.1
  unfold f_X4_twos at hf
  have hb_4 : ∀ (n_4 : Nat) (l1 : Int32) (l2 : Int32) (H : Heap) (locs : List Loc) (ls : Array Slot), lv_has ls 3 [(0, .ref A_t), (1, .int l1), (2, .int l2)] → va_P D vwCl [oX4 A_t A_t_other, iA cI 16 A_t_other v_t_other] H → va_D A [oX4 A_t A_t_other, iA cI 16 A_t_other v_t_other] → va_S A s.heap H locs → f_X4_twos_b4 v_t_other n_4 l1 l2 = some o_r → W p l e { frames := 0, cells := 0, slots := 0, locals := 0 } s m ([.ref A_t] : List Value).toArray below meth c H locs 0 0 (MQ below (PoI D A [oX4 A_t A_t_other, iA cI 16 A_t_other v_t_other] o_r) ([.ref A_t] : List Value).toArray s 0 0 A) (F0 m 4 ls []) := by
    intro n_4
    induction n_4 with
    | zero =>
      intro l1 l2 H locs ls hl hP hD hS hf
      exact absurd hf (fun h => by rw [f_X4_twos_b4] at h; cases h)
    | succ n_4 ih_4 =>
      have hb_26 : ∀ (s0 : Int32) (s1 : Int32) (l2 : Int32) (H : Heap) (locs : List Loc) (ls : Array Slot), lv_has ls 3 [(0, .ref A_t), (2, .int l2)] → va_P D vwCl [oX4 A_t A_t_other, iA cI 16 A_t_other v_t_other] H → va_D A [oX4 A_t A_t_other, iA cI 16 A_t_other v_t_other] → va_S A s.heap H locs → f_X4_twos_b26 (f_X4_twos_b4 v_t_other n_4) s0 s1 l2 = some o_r → W p l e { frames := 0, cells := 0, slots := 0, locals := 0 } s m ([.ref A_t] : List Value).toArray below meth c H locs 0 0 (MQ below (PoI D A [oX4 A_t A_t_other, iA cI 16 A_t_other v_t_other] o_r) ([.ref A_t] : List Value).toArray s 0 0 A) (F0 m 26 ls [.int s1, .int s0]) := by
        intro s0 s1 l2 H locs ls hl hP hD hS hf
        unfold f_X4_twos_b26 at hf
        refine lv_iadd hx hb dX4_twos_26 ?_
        refine lv_istore_n (lv' := [(1, .int (s0 + s1)), (0, .ref A_t), (2, .int l2)]) hx hb dX4_twos_27 rfl hl (by decide) rfl (fun ls hl => ?_)
        refine lv_iinc (v := (l2 + (1 : Int32))) (lv' := [(2, .int (l2 + (1 : Int32))), (1, .int (s0 + s1)), (0, .ref A_t)]) hx hb dX4_twos_28 hl (k := 2) rfl rfl (by decide) rfl (fun ls hl => ?_)
        refine lv_goto (tgt := 4) hx hb dX4_twos_31 (by decide) ?_
        exact ih_4 (s0 + s1) (l2 + (1 : Int32)) _ _ ls (lv_sub hl [2, 1, 0] rfl) hP hD hS hf
      intro l1 l2 H locs ls hl hP hD hS hf
      rw [f_X4_twos_b4] at hf
      refine lv_iload_n hx hb dX4_twos_4 rfl (lv_at hl 2 rfl) ?_
      refine lv_bipush (v := 16) hx hb dX4_twos_5 (by decide) ?_
      refine lv_icmp_ge (tgt := 34) hx hb dX4_twos_7 (by decide) (fun q => ?_) (fun q => ?_)
      · have hf := if_t q hf
        refine lv_iload_n hx hb dX4_twos_34 rfl (lv_at hl 1 rfl) ?_
        refine lv_iconst (v := 2) hx hb dX4_twos_35 (by decide) ?_
        obtain ⟨hz, hf⟩ := dI_e hf
        refine lv_idiv hx hb dX4_twos_36 hz ?_
        obtain rfl := ev1 hf
        exact x_iret C hr hlk hP hD hS dX4_twos_37
      · have hf := if_f q hf
        refine lv_iload_n hx hb dX4_twos_10 rfl (lv_at hl 1 rfl) ?_
        refine lv_aload_n hx hb dX4_twos_11 rfl (lv_at hl 0 rfl) ?_
        refine x_get C hK hP fd_X4_9 0 rfl rfl dX4_twos_12 ?_
        refine lv_iload_n hx hb dX4_twos_15 rfl (lv_at hl 2 rfl) ?_
        obtain ⟨hi, hf⟩ := gI_e hf
        refine x_iald C hK hP 1 rfl hi dX4_twos_16 ?_
        refine lv_iload_n hx hb dX4_twos_17 rfl (lv_at hl 2 rfl) ?_
        refine lv_icmp_ne (tgt := 25) hx hb dX4_twos_18 (by decide) (fun q => ?_) (fun q => ?_)
        · have hf := if_f q hf
          refine lv_iconst (v := 1) hx hb dX4_twos_25 (by decide) ?_
          exact hb_26 l1 (1 : Int32) l2 _ _ ls (lv_sub hl [0, 2] rfl) hP hD hS hf
        · have hf := if_t q hf
          refine lv_iconst (v := 0) hx hb dX4_twos_21 (by decide) ?_
          refine lv_goto (tgt := 26) hx hb dX4_twos_22 (by decide) ?_
          exact hb_26 l1 (0 : Int32) l2 _ _ ls (lv_sub hl [0, 2] rfl) hP hD hS hf
  refine lv_iconst (v := 0) hx hb dX4_twos_0 (by decide) ?_
  refine lv_istore_n (lv' := [(1, .int (0 : Int32)), (0, .ref A_t)]) hx hb dX4_twos_1 rfl hl (by decide) rfl (fun ls hl => ?_)
  refine lv_iconst (v := 0) hx hb dX4_twos_2 (by decide) ?_
  refine lv_istore_n (lv' := [(2, .int (0 : Int32)), (1, .int (0 : Int32)), (0, .ref A_t)]) hx hb dX4_twos_3 rfl hl (by decide) rfl (fun ls hl => ?_)
  exact hb_4 FU (0 : Int32) (0 : Int32) _ _ ls (lv_sub hl [2, 1, 0] rfl) hP hD hS hf
def f_X8_copyFrom (v_o1_dread : (Nat → Int32)) (v_o1_ink : (Nat → Int32)) (v_o1_kind : (Nat → Int32)) (v_o1_salt : (Nat → Int32)) (v_o1_tries : (Nat → Int32)) (v_t_dread : (Nat → Int32)) (v_t_ink : (Nat → Int32)) (v_t_kind : (Nat → Int32)) (v_t_salt : (Nat → Int32)) (v_t_tries : (Nat → Int32)) (x_o1_day : Int32) (x_o1_nerve : Int32) (x_o1_pictures : Int32) (x_o1_told : Int32) (x_o1_written : Int32) (x_o1_x : Int32) (x_t_day : Int32) (x_t_nerve : Int32) (x_t_pictures : Int32) (x_t_told : Int32) (x_t_written : Int32) (x_t_x : Int32) : Option ((Nat → Int32) × (Nat → Int32) × (Nat → Int32) × (Nat → Int32) × (Nat → Int32) × Int32 × Int32 × Int32 × Int32 × Int32 × Int32) :=
  cI 8 8 v_o1_kind v_t_kind (0 : Int32) (0 : Int32) (8 : Int32) (fun w1 =>
  cI 8 8 v_o1_salt v_t_salt (0 : Int32) (0 : Int32) (8 : Int32) (fun w2 =>
  cI 8 8 v_o1_ink v_t_ink (0 : Int32) (0 : Int32) (8 : Int32) (fun w3 =>
  cI 128 128 v_o1_dread v_t_dread (0 : Int32) (0 : Int32) (128 : Int32) (fun w4 =>
  cI 128 128 v_o1_tries v_t_tries (0 : Int32) (0 : Int32) (128 : Int32) (fun w5 =>
  some (w4, w3, w1, w2, w5, x_o1_day, x_o1_nerve, x_o1_pictures, x_o1_told, x_o1_written, x_o1_x))))))
set_option maxHeartbeats 4000000 in
set_option maxRecDepth 100000 in
theorem c_X8_copyFrom {l : Launch} {D : va_G} {cI cB : ClassId} {A_o1 A_o1_rhymes A_o1_kind A_o1_salt A_o1_ink A_o1_dread A_o1_tries A_t A_t_rhymes A_t_kind A_t_salt A_t_ink A_t_dread A_t_tries : Nat} {x_o1_told x_o1_nerve x_o1_pictures x_o1_written x_o1_day x_o1_x x_t_told x_t_nerve x_t_pictures x_t_written x_t_day x_t_x : Int32} {v_o1_dread v_o1_ink v_o1_kind v_o1_salt v_o1_tries v_t_dread v_t_ink v_t_kind v_t_salt v_t_tries : Nat → Int32} {o_x_t_day o_x_t_nerve o_x_t_pictures o_x_t_told o_x_t_written o_x_t_x : Int32} {o_v_t_dread o_v_t_ink o_v_t_kind o_v_t_salt o_v_t_tries : Nat → Int32} (hf : f_X8_copyFrom v_o1_dread v_o1_ink v_o1_kind v_o1_salt v_o1_tries v_t_dread v_t_ink v_t_kind v_t_salt v_t_tries x_o1_day x_o1_nerve x_o1_pictures x_o1_told x_o1_written x_o1_x x_t_day x_t_nerve x_t_pictures x_t_told x_t_written x_t_x = some (o_v_t_dread, o_v_t_ink, o_v_t_kind, o_v_t_salt, o_v_t_tries, o_x_t_day, o_x_t_nerve, o_x_t_pictures, o_x_t_told, o_x_t_written, o_x_t_x)) : CtV l D cI cB yX8_copyFrom cX8_copyFrom 2 1 40 [.ref A_t, .ref A_o1] [oX8 A_o1 A_o1_rhymes A_o1_kind A_o1_salt A_o1_ink A_o1_dread A_o1_tries x_o1_told x_o1_nerve x_o1_pictures x_o1_written x_o1_day x_o1_x, oX8 A_t A_t_rhymes A_t_kind A_t_salt A_t_ink A_t_dread A_t_tries x_t_told x_t_nerve x_t_pictures x_t_written x_t_day x_t_x, iA cI 128 A_o1_dread v_o1_dread, iA cI 8 A_o1_ink v_o1_ink, iA cI 8 A_o1_kind v_o1_kind, iA cI 8 A_o1_salt v_o1_salt, iA cI 128 A_o1_tries v_o1_tries, iA cI 128 A_t_dread v_t_dread, iA cI 8 A_t_ink v_t_ink, iA cI 8 A_t_kind v_t_kind, iA cI 8 A_t_salt v_t_salt, iA cI 128 A_t_tries v_t_tries] [oX8 A_o1 A_o1_rhymes A_o1_kind A_o1_salt A_o1_ink A_o1_dread A_o1_tries x_o1_told x_o1_nerve x_o1_pictures x_o1_written x_o1_day x_o1_x, oX8 A_t A_t_rhymes A_t_kind A_t_salt A_t_ink A_t_dread A_t_tries o_x_t_told o_x_t_nerve o_x_t_pictures o_x_t_written o_x_t_day o_x_t_x, iA cI 128 A_o1_dread v_o1_dread, iA cI 8 A_o1_ink v_o1_ink, iA cI 8 A_o1_kind v_o1_kind, iA cI 8 A_o1_salt v_o1_salt, iA cI 128 A_o1_tries v_o1_tries, iA cI 128 A_t_dread o_v_t_dread, iA cI 8 A_t_ink o_v_t_ink, iA cI 8 A_t_kind o_v_t_kind, iA cI 8 A_t_salt o_v_t_salt, iA cI 128 A_t_tries o_v_t_tries] := by
  refine x_startV (by decide) (Nat.le_of_ble_eq_true rfl) ?_
  intro p e s m below meth c A C hr hlk hA hK hP hD hS ls hl
  have hl : lv_has ls 2 [(0, .ref A_t), (1, .ref A_o1)] := hl
  have hx := C.1
  have hb := C.2.1
  unfold f_X8_copyFrom at hf
  refine lv_aload_n hx hb dX8_copyFrom_0 rfl (lv_at hl 1 rfl) ?_
  refine x_get C hK hP fd_X8_9 0 rfl rfl dX8_copyFrom_1 ?_
  refine lv_iconst (v := 0) hx hb dX8_copyFrom_4 (by decide) ?_
  refine lv_aload_n hx hb dX8_copyFrom_5 rfl (lv_at hl 0 rfl) ?_
  refine x_get C hK hP fd_X8_9 1 rfl rfl dX8_copyFrom_6 ?_
  refine lv_iconst (v := 0) hx hb dX8_copyFrom_9 (by decide) ?_
  refine lv_bipush (v := 8) hx hb dX8_copyFrom_10 (by decide) ?_
  obtain ⟨hc, hf⟩ := cI_e hf
  refine x_copy (ws' := [oX8 A_o1 A_o1_rhymes A_o1_kind A_o1_salt A_o1_ink A_o1_dread A_o1_tries x_o1_told x_o1_nerve x_o1_pictures x_o1_written x_o1_day x_o1_x, oX8 A_t A_t_rhymes A_t_kind A_t_salt A_t_ink A_t_dread A_t_tries x_t_told x_t_nerve x_t_pictures x_t_written x_t_day x_t_x, iA cI 128 A_o1_dread v_o1_dread, iA cI 8 A_o1_ink v_o1_ink, iA cI 8 A_o1_kind v_o1_kind, iA cI 8 A_o1_salt v_o1_salt, iA cI 128 A_o1_tries v_o1_tries, iA cI 128 A_t_dread v_t_dread, iA cI 8 A_t_ink v_t_ink, iA cI 8 A_t_kind (va_cpy v_o1_kind v_t_kind (0 : Int32).toNatClampNeg (0 : Int32).toNatClampNeg (8 : Int32).toNatClampNeg), iA cI 8 A_t_salt v_t_salt, iA cI 128 A_t_tries v_t_tries]) C hK hP hD hS hl ml_X8_38 4 9 rfl rfl hc rfl (Nat.le_of_ble_eq_true rfl) (Nat.le_of_ble_eq_true rfl) dX8_copyFrom_12 ?_
  intro H locs hP hD hS
  refine lv_aload_n hx hb dX8_copyFrom_15 rfl (lv_at hl 1 rfl) ?_
  refine x_get C hK hP fd_X8_15 0 rfl rfl dX8_copyFrom_16 ?_
  refine lv_iconst (v := 0) hx hb dX8_copyFrom_19 (by decide) ?_
  refine lv_aload_n hx hb dX8_copyFrom_20 rfl (lv_at hl 0 rfl) ?_
  refine x_get C hK hP fd_X8_15 1 rfl rfl dX8_copyFrom_21 ?_
  refine lv_iconst (v := 0) hx hb dX8_copyFrom_24 (by decide) ?_
  refine lv_bipush (v := 8) hx hb dX8_copyFrom_25 (by decide) ?_
  obtain ⟨hc, hf⟩ := cI_e hf
  refine x_copy (ws' := [oX8 A_o1 A_o1_rhymes A_o1_kind A_o1_salt A_o1_ink A_o1_dread A_o1_tries x_o1_told x_o1_nerve x_o1_pictures x_o1_written x_o1_day x_o1_x, oX8 A_t A_t_rhymes A_t_kind A_t_salt A_t_ink A_t_dread A_t_tries x_t_told x_t_nerve x_t_pictures x_t_written x_t_day x_t_x, iA cI 128 A_o1_dread v_o1_dread, iA cI 8 A_o1_ink v_o1_ink, iA cI 8 A_o1_kind v_o1_kind, iA cI 8 A_o1_salt v_o1_salt, iA cI 128 A_o1_tries v_o1_tries, iA cI 128 A_t_dread v_t_dread, iA cI 8 A_t_ink v_t_ink, iA cI 8 A_t_kind (va_cpy v_o1_kind v_t_kind (0 : Int32).toNatClampNeg (0 : Int32).toNatClampNeg (8 : Int32).toNatClampNeg), iA cI 8 A_t_salt (va_cpy v_o1_salt v_t_salt (0 : Int32).toNatClampNeg (0 : Int32).toNatClampNeg (8 : Int32).toNatClampNeg), iA cI 128 A_t_tries v_t_tries]) C hK hP hD hS hl ml_X8_38 5 10 rfl rfl hc rfl (Nat.le_of_ble_eq_true rfl) (Nat.le_of_ble_eq_true rfl) dX8_copyFrom_27 ?_
  intro H locs hP hD hS
  refine lv_aload_n hx hb dX8_copyFrom_30 rfl (lv_at hl 1 rfl) ?_
  refine x_get C hK hP fd_X8_18 0 rfl rfl dX8_copyFrom_31 ?_
  refine lv_iconst (v := 0) hx hb dX8_copyFrom_34 (by decide) ?_
  refine lv_aload_n hx hb dX8_copyFrom_35 rfl (lv_at hl 0 rfl) ?_
  refine x_get C hK hP fd_X8_18 1 rfl rfl dX8_copyFrom_36 ?_
  refine lv_iconst (v := 0) hx hb dX8_copyFrom_39 (by decide) ?_
  refine lv_bipush (v := 8) hx hb dX8_copyFrom_40 (by decide) ?_
  obtain ⟨hc, hf⟩ := cI_e hf
  refine x_copy (ws' := [oX8 A_o1 A_o1_rhymes A_o1_kind A_o1_salt A_o1_ink A_o1_dread A_o1_tries x_o1_told x_o1_nerve x_o1_pictures x_o1_written x_o1_day x_o1_x, oX8 A_t A_t_rhymes A_t_kind A_t_salt A_t_ink A_t_dread A_t_tries x_t_told x_t_nerve x_t_pictures x_t_written x_t_day x_t_x, iA cI 128 A_o1_dread v_o1_dread, iA cI 8 A_o1_ink v_o1_ink, iA cI 8 A_o1_kind v_o1_kind, iA cI 8 A_o1_salt v_o1_salt, iA cI 128 A_o1_tries v_o1_tries, iA cI 128 A_t_dread v_t_dread, iA cI 8 A_t_ink (va_cpy v_o1_ink v_t_ink (0 : Int32).toNatClampNeg (0 : Int32).toNatClampNeg (8 : Int32).toNatClampNeg), iA cI 8 A_t_kind (va_cpy v_o1_kind v_t_kind (0 : Int32).toNatClampNeg (0 : Int32).toNatClampNeg (8 : Int32).toNatClampNeg), iA cI 8 A_t_salt (va_cpy v_o1_salt v_t_salt (0 : Int32).toNatClampNeg (0 : Int32).toNatClampNeg (8 : Int32).toNatClampNeg), iA cI 128 A_t_tries v_t_tries]) C hK hP hD hS hl ml_X8_38 3 8 rfl rfl hc rfl (Nat.le_of_ble_eq_true rfl) (Nat.le_of_ble_eq_true rfl) dX8_copyFrom_42 ?_
  intro H locs hP hD hS
  refine lv_aload_n hx hb dX8_copyFrom_45 rfl (lv_at hl 1 rfl) ?_
  refine x_get C hK hP fd_X8_21 0 rfl rfl dX8_copyFrom_46 ?_
  refine lv_iconst (v := 0) hx hb dX8_copyFrom_49 (by decide) ?_
  refine lv_aload_n hx hb dX8_copyFrom_50 rfl (lv_at hl 0 rfl) ?_
  refine x_get C hK hP fd_X8_21 1 rfl rfl dX8_copyFrom_51 ?_
  refine lv_iconst (v := 0) hx hb dX8_copyFrom_54 (by decide) ?_
  refine lv_sipush (v := 128) hx hb dX8_copyFrom_55 (by decide) ?_
  obtain ⟨hc, hf⟩ := cI_e hf
  refine x_copy (ws' := [oX8 A_o1 A_o1_rhymes A_o1_kind A_o1_salt A_o1_ink A_o1_dread A_o1_tries x_o1_told x_o1_nerve x_o1_pictures x_o1_written x_o1_day x_o1_x, oX8 A_t A_t_rhymes A_t_kind A_t_salt A_t_ink A_t_dread A_t_tries x_t_told x_t_nerve x_t_pictures x_t_written x_t_day x_t_x, iA cI 128 A_o1_dread v_o1_dread, iA cI 8 A_o1_ink v_o1_ink, iA cI 8 A_o1_kind v_o1_kind, iA cI 8 A_o1_salt v_o1_salt, iA cI 128 A_o1_tries v_o1_tries, iA cI 128 A_t_dread (va_cpy v_o1_dread v_t_dread (0 : Int32).toNatClampNeg (0 : Int32).toNatClampNeg (128 : Int32).toNatClampNeg), iA cI 8 A_t_ink (va_cpy v_o1_ink v_t_ink (0 : Int32).toNatClampNeg (0 : Int32).toNatClampNeg (8 : Int32).toNatClampNeg), iA cI 8 A_t_kind (va_cpy v_o1_kind v_t_kind (0 : Int32).toNatClampNeg (0 : Int32).toNatClampNeg (8 : Int32).toNatClampNeg), iA cI 8 A_t_salt (va_cpy v_o1_salt v_t_salt (0 : Int32).toNatClampNeg (0 : Int32).toNatClampNeg (8 : Int32).toNatClampNeg), iA cI 128 A_t_tries v_t_tries]) C hK hP hD hS hl ml_X8_38 2 7 rfl rfl hc rfl (Nat.le_of_ble_eq_true rfl) (Nat.le_of_ble_eq_true rfl) dX8_copyFrom_58 ?_
  intro H locs hP hD hS
  refine lv_aload_n hx hb dX8_copyFrom_61 rfl (lv_at hl 1 rfl) ?_
  refine x_get C hK hP fd_X8_24 0 rfl rfl dX8_copyFrom_62 ?_
  refine lv_iconst (v := 0) hx hb dX8_copyFrom_65 (by decide) ?_
  refine lv_aload_n hx hb dX8_copyFrom_66 rfl (lv_at hl 0 rfl) ?_
  refine x_get C hK hP fd_X8_24 1 rfl rfl dX8_copyFrom_67 ?_
  refine lv_iconst (v := 0) hx hb dX8_copyFrom_70 (by decide) ?_
  refine lv_sipush (v := 128) hx hb dX8_copyFrom_71 (by decide) ?_
  obtain ⟨hc, hf⟩ := cI_e hf
  refine x_copy (ws' := [oX8 A_o1 A_o1_rhymes A_o1_kind A_o1_salt A_o1_ink A_o1_dread A_o1_tries x_o1_told x_o1_nerve x_o1_pictures x_o1_written x_o1_day x_o1_x, oX8 A_t A_t_rhymes A_t_kind A_t_salt A_t_ink A_t_dread A_t_tries x_t_told x_t_nerve x_t_pictures x_t_written x_t_day x_t_x, iA cI 128 A_o1_dread v_o1_dread, iA cI 8 A_o1_ink v_o1_ink, iA cI 8 A_o1_kind v_o1_kind, iA cI 8 A_o1_salt v_o1_salt, iA cI 128 A_o1_tries v_o1_tries, iA cI 128 A_t_dread (va_cpy v_o1_dread v_t_dread (0 : Int32).toNatClampNeg (0 : Int32).toNatClampNeg (128 : Int32).toNatClampNeg), iA cI 8 A_t_ink (va_cpy v_o1_ink v_t_ink (0 : Int32).toNatClampNeg (0 : Int32).toNatClampNeg (8 : Int32).toNatClampNeg), iA cI 8 A_t_kind (va_cpy v_o1_kind v_t_kind (0 : Int32).toNatClampNeg (0 : Int32).toNatClampNeg (8 : Int32).toNatClampNeg), iA cI 8 A_t_salt (va_cpy v_o1_salt v_t_salt (0 : Int32).toNatClampNeg (0 : Int32).toNatClampNeg (8 : Int32).toNatClampNeg), iA cI 128 A_t_tries (va_cpy v_o1_tries v_t_tries (0 : Int32).toNatClampNeg (0 : Int32).toNatClampNeg (128 : Int32).toNatClampNeg)]) C hK hP hD hS hl ml_X8_38 6 11 rfl rfl hc rfl (Nat.le_of_ble_eq_true rfl) (Nat.le_of_ble_eq_true rfl) dX8_copyFrom_74 ?_
  intro H locs hP hD hS
  refine lv_aload_n hx hb dX8_copyFrom_77 rfl (lv_at hl 0 rfl) ?_
  refine lv_aload_n hx hb dX8_copyFrom_78 rfl (lv_at hl 1 rfl) ?_
  refine x_get C hK hP fd_X8_44 0 rfl rfl dX8_copyFrom_79 ?_
  refine x_put (ws' := [oX8 A_o1 A_o1_rhymes A_o1_kind A_o1_salt A_o1_ink A_o1_dread A_o1_tries x_o1_told x_o1_nerve x_o1_pictures x_o1_written x_o1_day x_o1_x, oX8 A_t A_t_rhymes A_t_kind A_t_salt A_t_ink A_t_dread A_t_tries x_o1_told x_t_nerve x_t_pictures x_t_written x_t_day x_t_x, iA cI 128 A_o1_dread v_o1_dread, iA cI 8 A_o1_ink v_o1_ink, iA cI 8 A_o1_kind v_o1_kind, iA cI 8 A_o1_salt v_o1_salt, iA cI 128 A_o1_tries v_o1_tries, iA cI 128 A_t_dread (va_cpy v_o1_dread v_t_dread (0 : Int32).toNatClampNeg (0 : Int32).toNatClampNeg (128 : Int32).toNatClampNeg), iA cI 8 A_t_ink (va_cpy v_o1_ink v_t_ink (0 : Int32).toNatClampNeg (0 : Int32).toNatClampNeg (8 : Int32).toNatClampNeg), iA cI 8 A_t_kind (va_cpy v_o1_kind v_t_kind (0 : Int32).toNatClampNeg (0 : Int32).toNatClampNeg (8 : Int32).toNatClampNeg), iA cI 8 A_t_salt (va_cpy v_o1_salt v_t_salt (0 : Int32).toNatClampNeg (0 : Int32).toNatClampNeg (8 : Int32).toNatClampNeg), iA cI 128 A_t_tries (va_cpy v_o1_tries v_t_tries (0 : Int32).toNatClampNeg (0 : Int32).toNatClampNeg (128 : Int32).toNatClampNeg)]) C hK hP hD hS fp_X8_44 1 rfl rfl rfl (Nat.le_of_ble_eq_true rfl) rfl dX8_copyFrom_82 ?_
  intro H locs hP hD hS
  refine lv_aload_n hx hb dX8_copyFrom_85 rfl (lv_at hl 0 rfl) ?_
  refine lv_aload_n hx hb dX8_copyFrom_86 rfl (lv_at hl 1 rfl) ?_
  refine x_get C hK hP fd_X8_31 0 rfl rfl dX8_copyFrom_87 ?_
  refine x_put (ws' := [oX8 A_o1 A_o1_rhymes A_o1_kind A_o1_salt A_o1_ink A_o1_dread A_o1_tries x_o1_told x_o1_nerve x_o1_pictures x_o1_written x_o1_day x_o1_x, oX8 A_t A_t_rhymes A_t_kind A_t_salt A_t_ink A_t_dread A_t_tries x_o1_told x_o1_nerve x_t_pictures x_t_written x_t_day x_t_x, iA cI 128 A_o1_dread v_o1_dread, iA cI 8 A_o1_ink v_o1_ink, iA cI 8 A_o1_kind v_o1_kind, iA cI 8 A_o1_salt v_o1_salt, iA cI 128 A_o1_tries v_o1_tries, iA cI 128 A_t_dread (va_cpy v_o1_dread v_t_dread (0 : Int32).toNatClampNeg (0 : Int32).toNatClampNeg (128 : Int32).toNatClampNeg), iA cI 8 A_t_ink (va_cpy v_o1_ink v_t_ink (0 : Int32).toNatClampNeg (0 : Int32).toNatClampNeg (8 : Int32).toNatClampNeg), iA cI 8 A_t_kind (va_cpy v_o1_kind v_t_kind (0 : Int32).toNatClampNeg (0 : Int32).toNatClampNeg (8 : Int32).toNatClampNeg), iA cI 8 A_t_salt (va_cpy v_o1_salt v_t_salt (0 : Int32).toNatClampNeg (0 : Int32).toNatClampNeg (8 : Int32).toNatClampNeg), iA cI 128 A_t_tries (va_cpy v_o1_tries v_t_tries (0 : Int32).toNatClampNeg (0 : Int32).toNatClampNeg (128 : Int32).toNatClampNeg)]) C hK hP hD hS fp_X8_31 1 rfl rfl rfl (Nat.le_of_ble_eq_true rfl) rfl dX8_copyFrom_90 ?_
  intro H locs hP hD hS
  refine lv_aload_n hx hb dX8_copyFrom_93 rfl (lv_at hl 0 rfl) ?_
  refine lv_aload_n hx hb dX8_copyFrom_94 rfl (lv_at hl 1 rfl) ?_
  refine x_get C hK hP fd_X8_47 0 rfl rfl dX8_copyFrom_95 ?_
  refine x_put (ws' := [oX8 A_o1 A_o1_rhymes A_o1_kind A_o1_salt A_o1_ink A_o1_dread A_o1_tries x_o1_told x_o1_nerve x_o1_pictures x_o1_written x_o1_day x_o1_x, oX8 A_t A_t_rhymes A_t_kind A_t_salt A_t_ink A_t_dread A_t_tries x_o1_told x_o1_nerve x_o1_pictures x_t_written x_t_day x_t_x, iA cI 128 A_o1_dread v_o1_dread, iA cI 8 A_o1_ink v_o1_ink, iA cI 8 A_o1_kind v_o1_kind, iA cI 8 A_o1_salt v_o1_salt, iA cI 128 A_o1_tries v_o1_tries, iA cI 128 A_t_dread (va_cpy v_o1_dread v_t_dread (0 : Int32).toNatClampNeg (0 : Int32).toNatClampNeg (128 : Int32).toNatClampNeg), iA cI 8 A_t_ink (va_cpy v_o1_ink v_t_ink (0 : Int32).toNatClampNeg (0 : Int32).toNatClampNeg (8 : Int32).toNatClampNeg), iA cI 8 A_t_kind (va_cpy v_o1_kind v_t_kind (0 : Int32).toNatClampNeg (0 : Int32).toNatClampNeg (8 : Int32).toNatClampNeg), iA cI 8 A_t_salt (va_cpy v_o1_salt v_t_salt (0 : Int32).toNatClampNeg (0 : Int32).toNatClampNeg (8 : Int32).toNatClampNeg), iA cI 128 A_t_tries (va_cpy v_o1_tries v_t_tries (0 : Int32).toNatClampNeg (0 : Int32).toNatClampNeg (128 : Int32).toNatClampNeg)]) C hK hP hD hS fp_X8_47 1 rfl rfl rfl (Nat.le_of_ble_eq_true rfl) rfl dX8_copyFrom_98 ?_
  intro H locs hP hD hS
  refine lv_aload_n hx hb dX8_copyFrom_101 rfl (lv_at hl 0 rfl) ?_
  refine lv_aload_n hx hb dX8_copyFrom_102 rfl (lv_at hl 1 rfl) ?_
  refine x_get C hK hP fd_X8_50 0 rfl rfl dX8_copyFrom_103 ?_
  refine x_put (ws' := [oX8 A_o1 A_o1_rhymes A_o1_kind A_o1_salt A_o1_ink A_o1_dread A_o1_tries x_o1_told x_o1_nerve x_o1_pictures x_o1_written x_o1_day x_o1_x, oX8 A_t A_t_rhymes A_t_kind A_t_salt A_t_ink A_t_dread A_t_tries x_o1_told x_o1_nerve x_o1_pictures x_o1_written x_t_day x_t_x, iA cI 128 A_o1_dread v_o1_dread, iA cI 8 A_o1_ink v_o1_ink, iA cI 8 A_o1_kind v_o1_kind, iA cI 8 A_o1_salt v_o1_salt, iA cI 128 A_o1_tries v_o1_tries, iA cI 128 A_t_dread (va_cpy v_o1_dread v_t_dread (0 : Int32).toNatClampNeg (0 : Int32).toNatClampNeg (128 : Int32).toNatClampNeg), iA cI 8 A_t_ink (va_cpy v_o1_ink v_t_ink (0 : Int32).toNatClampNeg (0 : Int32).toNatClampNeg (8 : Int32).toNatClampNeg), iA cI 8 A_t_kind (va_cpy v_o1_kind v_t_kind (0 : Int32).toNatClampNeg (0 : Int32).toNatClampNeg (8 : Int32).toNatClampNeg), iA cI 8 A_t_salt (va_cpy v_o1_salt v_t_salt (0 : Int32).toNatClampNeg (0 : Int32).toNatClampNeg (8 : Int32).toNatClampNeg), iA cI 128 A_t_tries (va_cpy v_o1_tries v_t_tries (0 : Int32).toNatClampNeg (0 : Int32).toNatClampNeg (128 : Int32).toNatClampNeg)]) C hK hP hD hS fp_X8_50 1 rfl rfl rfl (Nat.le_of_ble_eq_true rfl) rfl dX8_copyFrom_106 ?_
  intro H locs hP hD hS
  refine lv_aload_n hx hb dX8_copyFrom_109 rfl (lv_at hl 0 rfl) ?_
  refine lv_aload_n hx hb dX8_copyFrom_110 rfl (lv_at hl 1 rfl) ?_
  refine x_get C hK hP fd_X8_53 0 rfl rfl dX8_copyFrom_111 ?_
  refine x_put (ws' := [oX8 A_o1 A_o1_rhymes A_o1_kind A_o1_salt A_o1_ink A_o1_dread A_o1_tries x_o1_told x_o1_nerve x_o1_pictures x_o1_written x_o1_day x_o1_x, oX8 A_t A_t_rhymes A_t_kind A_t_salt A_t_ink A_t_dread A_t_tries x_o1_told x_o1_nerve x_o1_pictures x_o1_written x_o1_day x_t_x, iA cI 128 A_o1_dread v_o1_dread, iA cI 8 A_o1_ink v_o1_ink, iA cI 8 A_o1_kind v_o1_kind, iA cI 8 A_o1_salt v_o1_salt, iA cI 128 A_o1_tries v_o1_tries, iA cI 128 A_t_dread (va_cpy v_o1_dread v_t_dread (0 : Int32).toNatClampNeg (0 : Int32).toNatClampNeg (128 : Int32).toNatClampNeg), iA cI 8 A_t_ink (va_cpy v_o1_ink v_t_ink (0 : Int32).toNatClampNeg (0 : Int32).toNatClampNeg (8 : Int32).toNatClampNeg), iA cI 8 A_t_kind (va_cpy v_o1_kind v_t_kind (0 : Int32).toNatClampNeg (0 : Int32).toNatClampNeg (8 : Int32).toNatClampNeg), iA cI 8 A_t_salt (va_cpy v_o1_salt v_t_salt (0 : Int32).toNatClampNeg (0 : Int32).toNatClampNeg (8 : Int32).toNatClampNeg), iA cI 128 A_t_tries (va_cpy v_o1_tries v_t_tries (0 : Int32).toNatClampNeg (0 : Int32).toNatClampNeg (128 : Int32).toNatClampNeg)]) C hK hP hD hS fp_X8_53 1 rfl rfl rfl (Nat.le_of_ble_eq_true rfl) rfl dX8_copyFrom_114 ?_
  intro H locs hP hD hS
  refine lv_aload_n hx hb dX8_copyFrom_117 rfl (lv_at hl 0 rfl) ?_
  refine lv_aload_n hx hb dX8_copyFrom_118 rfl (lv_at hl 1 rfl) ?_
  refine x_get C hK hP fd_X8_35 0 rfl rfl dX8_copyFrom_119 ?_
  refine x_put (ws' := [oX8 A_o1 A_o1_rhymes A_o1_kind A_o1_salt A_o1_ink A_o1_dread A_o1_tries x_o1_told x_o1_nerve x_o1_pictures x_o1_written x_o1_day x_o1_x, oX8 A_t A_t_rhymes A_t_kind A_t_salt A_t_ink A_t_dread A_t_tries x_o1_told x_o1_nerve x_o1_pictures x_o1_written x_o1_day x_o1_x, iA cI 128 A_o1_dread v_o1_dread, iA cI 8 A_o1_ink v_o1_ink, iA cI 8 A_o1_kind v_o1_kind, iA cI 8 A_o1_salt v_o1_salt, iA cI 128 A_o1_tries v_o1_tries, iA cI 128 A_t_dread (va_cpy v_o1_dread v_t_dread (0 : Int32).toNatClampNeg (0 : Int32).toNatClampNeg (128 : Int32).toNatClampNeg), iA cI 8 A_t_ink (va_cpy v_o1_ink v_t_ink (0 : Int32).toNatClampNeg (0 : Int32).toNatClampNeg (8 : Int32).toNatClampNeg), iA cI 8 A_t_kind (va_cpy v_o1_kind v_t_kind (0 : Int32).toNatClampNeg (0 : Int32).toNatClampNeg (8 : Int32).toNatClampNeg), iA cI 8 A_t_salt (va_cpy v_o1_salt v_t_salt (0 : Int32).toNatClampNeg (0 : Int32).toNatClampNeg (8 : Int32).toNatClampNeg), iA cI 128 A_t_tries (va_cpy v_o1_tries v_t_tries (0 : Int32).toNatClampNeg (0 : Int32).toNatClampNeg (128 : Int32).toNatClampNeg)]) C hK hP hD hS fp_X8_35 1 rfl rfl rfl (Nat.le_of_ble_eq_true rfl) rfl dX8_copyFrom_122 ?_
  intro H locs hP hD hS
  obtain ⟨rfl, rfl, rfl, rfl, rfl, rfl, rfl, rfl, rfl, rfl, rfl⟩ := ev11 hf
  exact x_vret C hr hlk hP hD hS dX8_copyFrom_125
def f_X8_isTold_b26 (s0 : Int32) : Option (Int32) :=
  zI s0 (some s0)
def f_X8_isTold_b25 : Option (Int32) :=
  f_X8_isTold_b26 (0 : Int32)
def f_X8_isTold (x_t_told : Int32) (a1 : Int32) : Option (Int32) :=
  if a1 < 0 then
    f_X8_isTold_b25
  else
    if (8 : Int32) ≤ a1 then
      f_X8_isTold_b25
    else
      if ((x_t_told >>> (a1 &&& 31)) &&& (1 : Int32)) = 0 then
        f_X8_isTold_b25
      else
        f_X8_isTold_b26 (1 : Int32)
set_option maxHeartbeats 4000000 in
set_option maxRecDepth 100000 in
theorem c_X8_isTold {l : Launch} {D : va_G} {cI cB : ClassId} {A_t A_t_rhymes A_t_kind A_t_salt A_t_ink A_t_dread A_t_tries : Nat} {x_t_told x_t_nerve x_t_pictures x_t_written x_t_day x_t_x a1 : Int32} {o_r : Int32} (hf : f_X8_isTold x_t_told a1 = some o_r) : CtI l D cI cB yX8_isTold cX8_isTold 2 (some .boolean) 0 0 [.ref A_t, .int a1] [oX8 A_t A_t_rhymes A_t_kind A_t_salt A_t_ink A_t_dread A_t_tries x_t_told x_t_nerve x_t_pictures x_t_written x_t_day x_t_x] [oX8 A_t A_t_rhymes A_t_kind A_t_salt A_t_ink A_t_dread A_t_tries x_t_told x_t_nerve x_t_pictures x_t_written x_t_day x_t_x] o_r := by
  refine x_startI (by decide) (Nat.le_of_ble_eq_true rfl) ?_
  intro p e s m below meth c A C hr hlk hA hK hP hD hS ls hl
  have hl : lv_has ls 2 [(0, .ref A_t), (1, .int a1)] := hl
  have hx := C.1
  have hb := C.2.1
  unfold f_X8_isTold at hf
  have hb_26 : ∀ (s0 : Int32) (H : Heap) (locs : List Loc) (ls : Array Slot), lv_has ls 2 [] → va_P D vwCl [oX8 A_t A_t_rhymes A_t_kind A_t_salt A_t_ink A_t_dread A_t_tries x_t_told x_t_nerve x_t_pictures x_t_written x_t_day x_t_x] H → va_D A [oX8 A_t A_t_rhymes A_t_kind A_t_salt A_t_ink A_t_dread A_t_tries x_t_told x_t_nerve x_t_pictures x_t_written x_t_day x_t_x] → va_S A s.heap H locs → f_X8_isTold_b26 s0 = some o_r → W p l e { frames := 0, cells := 0, slots := 0, locals := 0 } s m ([.ref A_t, .int a1] : List Value).toArray below meth c H locs 0 0 (MQ below (PoI D A [oX8 A_t A_t_rhymes A_t_kind A_t_salt A_t_ink A_t_dread A_t_tries x_t_told x_t_nerve x_t_pictures x_t_written x_t_day x_t_x] o_r) ([.ref A_t, .int a1] : List Value).toArray s 0 0 A) (F0 m 26 ls [.int s0]) := by
    intro s0 H locs ls hl hP hD hS hf
    unfold f_X8_isTold_b26 at hf
    obtain ⟨hz, hf⟩ := zI_e hf
    obtain rfl := ev1 hf
    exact x_zret C hr hlk hz hP hD hS dX8_isTold_26
  have hb_25 : ∀ (H : Heap) (locs : List Loc) (ls : Array Slot), lv_has ls 2 [] → va_P D vwCl [oX8 A_t A_t_rhymes A_t_kind A_t_salt A_t_ink A_t_dread A_t_tries x_t_told x_t_nerve x_t_pictures x_t_written x_t_day x_t_x] H → va_D A [oX8 A_t A_t_rhymes A_t_kind A_t_salt A_t_ink A_t_dread A_t_tries x_t_told x_t_nerve x_t_pictures x_t_written x_t_day x_t_x] → va_S A s.heap H locs → f_X8_isTold_b25 = some o_r → W p l e { frames := 0, cells := 0, slots := 0, locals := 0 } s m ([.ref A_t, .int a1] : List Value).toArray below meth c H locs 0 0 (MQ below (PoI D A [oX8 A_t A_t_rhymes A_t_kind A_t_salt A_t_ink A_t_dread A_t_tries x_t_told x_t_nerve x_t_pictures x_t_written x_t_day x_t_x] o_r) ([.ref A_t, .int a1] : List Value).toArray s 0 0 A) (F0 m 25 ls []) := by
    intro H locs ls hl hP hD hS hf
    unfold f_X8_isTold_b25 at hf
    refine lv_iconst (v := 0) hx hb dX8_isTold_25 (by decide) ?_
    exact hb_26 (0 : Int32) _ _ ls (lv_sub hl [] rfl) hP hD hS hf
  refine lv_iload_n hx hb dX8_isTold_0 rfl (lv_at hl 1 rfl) ?_
  refine lv_if_lt (tgt := 25) hx hb dX8_isTold_1 (by decide) (fun q => ?_) (fun q => ?_)
  · have hf := if_t q hf
    exact hb_25 _ _ ls (lv_sub hl [] rfl) hP hD hS hf
  · have hf := if_f q hf
    refine lv_iload_n hx hb dX8_isTold_4 rfl (lv_at hl 1 rfl) ?_
    refine lv_bipush (v := 8) hx hb dX8_isTold_5 (by decide) ?_
    refine lv_icmp_ge (tgt := 25) hx hb dX8_isTold_7 (by decide) (fun q => ?_) (fun q => ?_)
    · have hf := if_t q hf
      exact hb_25 _ _ ls (lv_sub hl [] rfl) hP hD hS hf
    · have hf := if_f q hf
      refine lv_aload_n hx hb dX8_isTold_10 rfl (lv_at hl 0 rfl) ?_
      refine x_get C hK hP fd_X8_44 0 rfl rfl dX8_isTold_11 ?_
      refine lv_iload_n hx hb dX8_isTold_14 rfl (lv_at hl 1 rfl) ?_
      refine lv_ishr hx hb dX8_isTold_15 ?_
      refine lv_iconst (v := 1) hx hb dX8_isTold_16 (by decide) ?_
      refine lv_iand hx hb dX8_isTold_17 ?_
      refine lv_if_eq (tgt := 25) hx hb dX8_isTold_18 (by decide) (fun q => ?_) (fun q => ?_)
      · have hf := if_t q hf
        exact hb_25 _ _ ls (lv_sub hl [] rfl) hP hD hS hf
      · have hf := if_f q hf
        refine lv_iconst (v := 1) hx hb dX8_isTold_21 (by decide) ?_
        refine lv_goto (tgt := 26) hx hb dX8_isTold_22 (by decide) ?_
        exact hb_26 (1 : Int32) _ _ ls (lv_sub hl [] rfl) hP hD hS hf
def f_X8_kindOf (v_t_kind : (Nat → Int32)) (a1 : Int32) : Option (Int32) :=
  gI 8 v_t_kind (a1 &&& (7 : Int32)) (fun g1 =>
  some g1)
set_option maxHeartbeats 4000000 in
set_option maxRecDepth 100000 in
theorem c_X8_kindOf {l : Launch} {D : va_G} {cI cB : ClassId} {A_t A_t_rhymes A_t_kind A_t_salt A_t_ink A_t_dread A_t_tries : Nat} {x_t_told x_t_nerve x_t_pictures x_t_written x_t_day x_t_x a1 : Int32} {v_t_kind : Nat → Int32} {o_r : Int32} (hf : f_X8_kindOf v_t_kind a1 = some o_r) : CtI l D cI cB yX8_kindOf cX8_kindOf 2 (some .int) 0 0 [.ref A_t, .int a1] [oX8 A_t A_t_rhymes A_t_kind A_t_salt A_t_ink A_t_dread A_t_tries x_t_told x_t_nerve x_t_pictures x_t_written x_t_day x_t_x, iA cI 8 A_t_kind v_t_kind] [oX8 A_t A_t_rhymes A_t_kind A_t_salt A_t_ink A_t_dread A_t_tries x_t_told x_t_nerve x_t_pictures x_t_written x_t_day x_t_x, iA cI 8 A_t_kind v_t_kind] o_r := by
  refine x_startI (by decide) (Nat.le_of_ble_eq_true rfl) ?_
  intro p e s m below meth c A C hr hlk hA hK hP hD hS ls hl
  have hl : lv_has ls 2 [(0, .ref A_t), (1, .int a1)] := hl
  have hx := C.1
  have hb := C.2.1
  unfold f_X8_kindOf at hf
  refine lv_aload_n hx hb dX8_kindOf_0 rfl (lv_at hl 0 rfl) ?_
  refine x_get C hK hP fd_X8_9 0 rfl rfl dX8_kindOf_1 ?_
  refine lv_iload_n hx hb dX8_kindOf_4 rfl (lv_at hl 1 rfl) ?_
  refine lv_bipush (v := 7) hx hb dX8_kindOf_5 (by decide) ?_
  refine lv_iand hx hb dX8_kindOf_7 ?_
  obtain ⟨hi, hf⟩ := gI_e hf
  refine x_iald C hK hP 1 rfl hi dX8_kindOf_8 ?_
  obtain rfl := ev1 hf
  exact x_iret C hr hlk hP hD hS dX8_kindOf_9
def f_X8_saltOf (v_t_salt : (Nat → Int32)) (a1 : Int32) : Option (Int32) :=
  gI 8 v_t_salt (a1 &&& (7 : Int32)) (fun g1 =>
  some g1)
set_option maxHeartbeats 4000000 in
set_option maxRecDepth 100000 in
theorem c_X8_saltOf {l : Launch} {D : va_G} {cI cB : ClassId} {A_t A_t_rhymes A_t_kind A_t_salt A_t_ink A_t_dread A_t_tries : Nat} {x_t_told x_t_nerve x_t_pictures x_t_written x_t_day x_t_x a1 : Int32} {v_t_salt : Nat → Int32} {o_r : Int32} (hf : f_X8_saltOf v_t_salt a1 = some o_r) : CtI l D cI cB yX8_saltOf cX8_saltOf 2 (some .int) 0 0 [.ref A_t, .int a1] [oX8 A_t A_t_rhymes A_t_kind A_t_salt A_t_ink A_t_dread A_t_tries x_t_told x_t_nerve x_t_pictures x_t_written x_t_day x_t_x, iA cI 8 A_t_salt v_t_salt] [oX8 A_t A_t_rhymes A_t_kind A_t_salt A_t_ink A_t_dread A_t_tries x_t_told x_t_nerve x_t_pictures x_t_written x_t_day x_t_x, iA cI 8 A_t_salt v_t_salt] o_r := by
  refine x_startI (by decide) (Nat.le_of_ble_eq_true rfl) ?_
  intro p e s m below meth c A C hr hlk hA hK hP hD hS ls hl
  have hl : lv_has ls 2 [(0, .ref A_t), (1, .int a1)] := hl
  have hx := C.1
  have hb := C.2.1
  unfold f_X8_saltOf at hf
  refine lv_aload_n hx hb dX8_saltOf_0 rfl (lv_at hl 0 rfl) ?_
  refine x_get C hK hP fd_X8_15 0 rfl rfl dX8_saltOf_1 ?_
  refine lv_iload_n hx hb dX8_saltOf_4 rfl (lv_at hl 1 rfl) ?_
  refine lv_bipush (v := 7) hx hb dX8_saltOf_5 (by decide) ?_
  refine lv_iand hx hb dX8_saltOf_7 ?_
  obtain ⟨hi, hf⟩ := gI_e hf
  refine x_iald C hK hP 1 rfl hi dX8_saltOf_8 ?_
  obtain rfl := ev1 hf
  exact x_iret C hr hlk hP hD hS dX8_saltOf_9
def f_X8_inkOf (v_t_ink : (Nat → Int32)) (a1 : Int32) : Option (Int32) :=
  gI 8 v_t_ink (a1 &&& (7 : Int32)) (fun g1 =>
  some g1)
set_option maxHeartbeats 4000000 in
set_option maxRecDepth 100000 in
theorem c_X8_inkOf {l : Launch} {D : va_G} {cI cB : ClassId} {A_t A_t_rhymes A_t_kind A_t_salt A_t_ink A_t_dread A_t_tries : Nat} {x_t_told x_t_nerve x_t_pictures x_t_written x_t_day x_t_x a1 : Int32} {v_t_ink : Nat → Int32} {o_r : Int32} (hf : f_X8_inkOf v_t_ink a1 = some o_r) : CtI l D cI cB yX8_inkOf cX8_inkOf 2 (some .int) 0 0 [.ref A_t, .int a1] [oX8 A_t A_t_rhymes A_t_kind A_t_salt A_t_ink A_t_dread A_t_tries x_t_told x_t_nerve x_t_pictures x_t_written x_t_day x_t_x, iA cI 8 A_t_ink v_t_ink] [oX8 A_t A_t_rhymes A_t_kind A_t_salt A_t_ink A_t_dread A_t_tries x_t_told x_t_nerve x_t_pictures x_t_written x_t_day x_t_x, iA cI 8 A_t_ink v_t_ink] o_r := by
  refine x_startI (by decide) (Nat.le_of_ble_eq_true rfl) ?_
  intro p e s m below meth c A C hr hlk hA hK hP hD hS ls hl
  have hl : lv_has ls 2 [(0, .ref A_t), (1, .int a1)] := hl
  have hx := C.1
  have hb := C.2.1
  unfold f_X8_inkOf at hf
  refine lv_aload_n hx hb dX8_inkOf_0 rfl (lv_at hl 0 rfl) ?_
  refine x_get C hK hP fd_X8_18 0 rfl rfl dX8_inkOf_1 ?_
  refine lv_iload_n hx hb dX8_inkOf_4 rfl (lv_at hl 1 rfl) ?_
  refine lv_bipush (v := 7) hx hb dX8_inkOf_5 (by decide) ?_
  refine lv_iand hx hb dX8_inkOf_7 ?_
  obtain ⟨hi, hf⟩ := gI_e hf
  refine x_iald C hK hP 1 rfl hi dX8_inkOf_8 ?_
  obtain rfl := ev1 hf
  exact x_iret C hr hlk hP hD hS dX8_inkOf_9
def f_X8_dreadOf (v_t_dread : (Nat → Int32)) (a1 : Int32) (a2 : Int32) : Option (Int32) :=
  gI 128 v_t_dread (((a1 &&& (7 : Int32)) * (16 : Int32)) + (a2 &&& (15 : Int32))) (fun g1 =>
  some g1)
set_option maxHeartbeats 4000000 in
set_option maxRecDepth 100000 in
theorem c_X8_dreadOf {l : Launch} {D : va_G} {cI cB : ClassId} {A_t A_t_rhymes A_t_kind A_t_salt A_t_ink A_t_dread A_t_tries : Nat} {x_t_told x_t_nerve x_t_pictures x_t_written x_t_day x_t_x a1 a2 : Int32} {v_t_dread : Nat → Int32} {o_r : Int32} (hf : f_X8_dreadOf v_t_dread a1 a2 = some o_r) : CtI l D cI cB yX8_dreadOf cX8_dreadOf 3 (some .int) 0 0 [.ref A_t, .int a1, .int a2] [oX8 A_t A_t_rhymes A_t_kind A_t_salt A_t_ink A_t_dread A_t_tries x_t_told x_t_nerve x_t_pictures x_t_written x_t_day x_t_x, iA cI 128 A_t_dread v_t_dread] [oX8 A_t A_t_rhymes A_t_kind A_t_salt A_t_ink A_t_dread A_t_tries x_t_told x_t_nerve x_t_pictures x_t_written x_t_day x_t_x, iA cI 128 A_t_dread v_t_dread] o_r := by
  refine x_startI (by decide) (Nat.le_of_ble_eq_true rfl) ?_
  intro p e s m below meth c A C hr hlk hA hK hP hD hS ls hl
  have hl : lv_has ls 3 [(0, .ref A_t), (1, .int a1), (2, .int a2)] := hl
  have hx := C.1
  have hb := C.2.1
  unfold f_X8_dreadOf at hf
  refine lv_aload_n hx hb dX8_dreadOf_0 rfl (lv_at hl 0 rfl) ?_
  refine x_get C hK hP fd_X8_21 0 rfl rfl dX8_dreadOf_1 ?_
  refine lv_iload_n hx hb dX8_dreadOf_4 rfl (lv_at hl 1 rfl) ?_
  refine lv_bipush (v := 7) hx hb dX8_dreadOf_5 (by decide) ?_
  refine lv_iand hx hb dX8_dreadOf_7 ?_
  refine lv_bipush (v := 16) hx hb dX8_dreadOf_8 (by decide) ?_
  refine lv_imul hx hb dX8_dreadOf_10 ?_
  refine lv_iload_n hx hb dX8_dreadOf_11 rfl (lv_at hl 2 rfl) ?_
  refine lv_bipush (v := 15) hx hb dX8_dreadOf_12 (by decide) ?_
  refine lv_iand hx hb dX8_dreadOf_14 ?_
  refine lv_iadd hx hb dX8_dreadOf_15 ?_
  obtain ⟨hi, hf⟩ := gI_e hf
  refine x_iald C hK hP 1 rfl hi dX8_dreadOf_16 ?_
  obtain rfl := ev1 hf
  exact x_iret C hr hlk hP hD hS dX8_dreadOf_17
def f_X8_triesOf (v_t_tries : (Nat → Int32)) (a1 : Int32) (a2 : Int32) : Option (Int32) :=
  gI 128 v_t_tries (((a1 &&& (7 : Int32)) * (16 : Int32)) + (a2 &&& (15 : Int32))) (fun g1 =>
  some g1)
set_option maxHeartbeats 4000000 in
set_option maxRecDepth 100000 in
theorem c_X8_triesOf {l : Launch} {D : va_G} {cI cB : ClassId} {A_t A_t_rhymes A_t_kind A_t_salt A_t_ink A_t_dread A_t_tries : Nat} {x_t_told x_t_nerve x_t_pictures x_t_written x_t_day x_t_x a1 a2 : Int32} {v_t_tries : Nat → Int32} {o_r : Int32} (hf : f_X8_triesOf v_t_tries a1 a2 = some o_r) : CtI l D cI cB yX8_triesOf cX8_triesOf 3 (some .int) 0 0 [.ref A_t, .int a1, .int a2] [oX8 A_t A_t_rhymes A_t_kind A_t_salt A_t_ink A_t_dread A_t_tries x_t_told x_t_nerve x_t_pictures x_t_written x_t_day x_t_x, iA cI 128 A_t_tries v_t_tries] [oX8 A_t A_t_rhymes A_t_kind A_t_salt A_t_ink A_t_dread A_t_tries x_t_told x_t_nerve x_t_pictures x_t_written x_t_day x_t_x, iA cI 128 A_t_tries v_t_tries] o_r := by
  refine x_startI (by decide) (Nat.le_of_ble_eq_true rfl) ?_
  intro p e s m below meth c A C hr hlk hA hK hP hD hS ls hl
  have hl : lv_has ls 3 [(0, .ref A_t), (1, .int a1), (2, .int a2)] := hl
  have hx := C.1
  have hb := C.2.1
  unfold f_X8_triesOf at hf
  refine lv_aload_n hx hb dX8_triesOf_0 rfl (lv_at hl 0 rfl) ?_
  refine x_get C hK hP fd_X8_24 0 rfl rfl dX8_triesOf_1 ?_
  refine lv_iload_n hx hb dX8_triesOf_4 rfl (lv_at hl 1 rfl) ?_
  refine lv_bipush (v := 7) hx hb dX8_triesOf_5 (by decide) ?_
  refine lv_iand hx hb dX8_triesOf_7 ?_
  refine lv_bipush (v := 16) hx hb dX8_triesOf_8 (by decide) ?_
  refine lv_imul hx hb dX8_triesOf_10 ?_
  refine lv_iload_n hx hb dX8_triesOf_11 rfl (lv_at hl 2 rfl) ?_
  refine lv_bipush (v := 15) hx hb dX8_triesOf_12 (by decide) ?_
  refine lv_iand hx hb dX8_triesOf_14 ?_
  refine lv_iadd hx hb dX8_triesOf_15 ?_
  obtain ⟨hi, hf⟩ := gI_e hf
  refine x_iald C hK hP 1 rfl hi dX8_triesOf_16 ?_
  obtain rfl := ev1 hf
  exact x_iret C hr hlk hP hD hS dX8_triesOf_17
def f_X8_setKind (v_t_kind : (Nat → Int32)) (a1 : Int32) (a2 : Int32) : Option ((Nat → Int32)) :=
  sI 8 v_t_kind (a1 &&& (7 : Int32)) a2 (fun w1 =>
  some w1)
set_option maxHeartbeats 4000000 in
set_option maxRecDepth 100000 in
theorem c_X8_setKind {l : Launch} {D : va_G} {cI cB : ClassId} {A_t A_t_rhymes A_t_kind A_t_salt A_t_ink A_t_dread A_t_tries : Nat} {x_t_told x_t_nerve x_t_pictures x_t_written x_t_day x_t_x a1 a2 : Int32} {v_t_kind : Nat → Int32} {o_v_t_kind : Nat → Int32} (hf : f_X8_setKind v_t_kind a1 a2 = some o_v_t_kind) : CtV l D cI cB yX8_setKind cX8_setKind 3 0 0 [.ref A_t, .int a1, .int a2] [oX8 A_t A_t_rhymes A_t_kind A_t_salt A_t_ink A_t_dread A_t_tries x_t_told x_t_nerve x_t_pictures x_t_written x_t_day x_t_x, iA cI 8 A_t_kind v_t_kind] [oX8 A_t A_t_rhymes A_t_kind A_t_salt A_t_ink A_t_dread A_t_tries x_t_told x_t_nerve x_t_pictures x_t_written x_t_day x_t_x, iA cI 8 A_t_kind o_v_t_kind] := by
  refine x_startV (by decide) (Nat.le_of_ble_eq_true rfl) ?_
  intro p e s m below meth c A C hr hlk hA hK hP hD hS ls hl
  have hl : lv_has ls 3 [(0, .ref A_t), (1, .int a1), (2, .int a2)] := hl
  have hx := C.1
  have hb := C.2.1
  unfold f_X8_setKind at hf
  refine lv_aload_n hx hb dX8_setKind_0 rfl (lv_at hl 0 rfl) ?_
  refine x_get C hK hP fd_X8_9 0 rfl rfl dX8_setKind_1 ?_
  refine lv_iload_n hx hb dX8_setKind_4 rfl (lv_at hl 1 rfl) ?_
  refine lv_bipush (v := 7) hx hb dX8_setKind_5 (by decide) ?_
  refine lv_iand hx hb dX8_setKind_7 ?_
  refine lv_iload_n hx hb dX8_setKind_8 rfl (lv_at hl 2 rfl) ?_
  obtain ⟨hi, hf⟩ := sI_e hf
  refine x_iast (ws' := [oX8 A_t A_t_rhymes A_t_kind A_t_salt A_t_ink A_t_dread A_t_tries x_t_told x_t_nerve x_t_pictures x_t_written x_t_day x_t_x, iA cI 8 A_t_kind (upd v_t_kind (a1 &&& (7 : Int32)).toNatClampNeg a2)]) C hK hP hD hS 1 rfl hi rfl dX8_setKind_9 ?_
  intro H locs hP hD hS
  obtain rfl := ev1 hf
  exact x_vret C hr hlk hP hD hS dX8_setKind_10
def f_X8_setSalt (v_t_salt : (Nat → Int32)) (a1 : Int32) (a2 : Int32) : Option ((Nat → Int32)) :=
  sI 8 v_t_salt (a1 &&& (7 : Int32)) a2 (fun w1 =>
  some w1)
set_option maxHeartbeats 4000000 in
set_option maxRecDepth 100000 in
theorem c_X8_setSalt {l : Launch} {D : va_G} {cI cB : ClassId} {A_t A_t_rhymes A_t_kind A_t_salt A_t_ink A_t_dread A_t_tries : Nat} {x_t_told x_t_nerve x_t_pictures x_t_written x_t_day x_t_x a1 a2 : Int32} {v_t_salt : Nat → Int32} {o_v_t_salt : Nat → Int32} (hf : f_X8_setSalt v_t_salt a1 a2 = some o_v_t_salt) : CtV l D cI cB yX8_setSalt cX8_setSalt 3 0 0 [.ref A_t, .int a1, .int a2] [oX8 A_t A_t_rhymes A_t_kind A_t_salt A_t_ink A_t_dread A_t_tries x_t_told x_t_nerve x_t_pictures x_t_written x_t_day x_t_x, iA cI 8 A_t_salt v_t_salt] [oX8 A_t A_t_rhymes A_t_kind A_t_salt A_t_ink A_t_dread A_t_tries x_t_told x_t_nerve x_t_pictures x_t_written x_t_day x_t_x, iA cI 8 A_t_salt o_v_t_salt] := by
  refine x_startV (by decide) (Nat.le_of_ble_eq_true rfl) ?_
  intro p e s m below meth c A C hr hlk hA hK hP hD hS ls hl
  have hl : lv_has ls 3 [(0, .ref A_t), (1, .int a1), (2, .int a2)] := hl
  have hx := C.1
  have hb := C.2.1
  unfold f_X8_setSalt at hf
  refine lv_aload_n hx hb dX8_setSalt_0 rfl (lv_at hl 0 rfl) ?_
  refine x_get C hK hP fd_X8_15 0 rfl rfl dX8_setSalt_1 ?_
  refine lv_iload_n hx hb dX8_setSalt_4 rfl (lv_at hl 1 rfl) ?_
  refine lv_bipush (v := 7) hx hb dX8_setSalt_5 (by decide) ?_
  refine lv_iand hx hb dX8_setSalt_7 ?_
  refine lv_iload_n hx hb dX8_setSalt_8 rfl (lv_at hl 2 rfl) ?_
  obtain ⟨hi, hf⟩ := sI_e hf
  refine x_iast (ws' := [oX8 A_t A_t_rhymes A_t_kind A_t_salt A_t_ink A_t_dread A_t_tries x_t_told x_t_nerve x_t_pictures x_t_written x_t_day x_t_x, iA cI 8 A_t_salt (upd v_t_salt (a1 &&& (7 : Int32)).toNatClampNeg a2)]) C hK hP hD hS 1 rfl hi rfl dX8_setSalt_9 ?_
  intro H locs hP hD hS
  obtain rfl := ev1 hf
  exact x_vret C hr hlk hP hD hS dX8_setSalt_10
def f_X8_setInk (v_t_ink : (Nat → Int32)) (a1 : Int32) (a2 : Int32) : Option ((Nat → Int32)) :=
  sI 8 v_t_ink (a1 &&& (7 : Int32)) a2 (fun w1 =>
  some w1)
set_option maxHeartbeats 4000000 in
set_option maxRecDepth 100000 in
theorem c_X8_setInk {l : Launch} {D : va_G} {cI cB : ClassId} {A_t A_t_rhymes A_t_kind A_t_salt A_t_ink A_t_dread A_t_tries : Nat} {x_t_told x_t_nerve x_t_pictures x_t_written x_t_day x_t_x a1 a2 : Int32} {v_t_ink : Nat → Int32} {o_v_t_ink : Nat → Int32} (hf : f_X8_setInk v_t_ink a1 a2 = some o_v_t_ink) : CtV l D cI cB yX8_setInk cX8_setInk 3 0 0 [.ref A_t, .int a1, .int a2] [oX8 A_t A_t_rhymes A_t_kind A_t_salt A_t_ink A_t_dread A_t_tries x_t_told x_t_nerve x_t_pictures x_t_written x_t_day x_t_x, iA cI 8 A_t_ink v_t_ink] [oX8 A_t A_t_rhymes A_t_kind A_t_salt A_t_ink A_t_dread A_t_tries x_t_told x_t_nerve x_t_pictures x_t_written x_t_day x_t_x, iA cI 8 A_t_ink o_v_t_ink] := by
  refine x_startV (by decide) (Nat.le_of_ble_eq_true rfl) ?_
  intro p e s m below meth c A C hr hlk hA hK hP hD hS ls hl
  have hl : lv_has ls 3 [(0, .ref A_t), (1, .int a1), (2, .int a2)] := hl
  have hx := C.1
  have hb := C.2.1
  unfold f_X8_setInk at hf
  refine lv_aload_n hx hb dX8_setInk_0 rfl (lv_at hl 0 rfl) ?_
  refine x_get C hK hP fd_X8_18 0 rfl rfl dX8_setInk_1 ?_
  refine lv_iload_n hx hb dX8_setInk_4 rfl (lv_at hl 1 rfl) ?_
  refine lv_bipush (v := 7) hx hb dX8_setInk_5 (by decide) ?_
  refine lv_iand hx hb dX8_setInk_7 ?_
  refine lv_iload_n hx hb dX8_setInk_8 rfl (lv_at hl 2 rfl) ?_
  obtain ⟨hi, hf⟩ := sI_e hf
  refine x_iast (ws' := [oX8 A_t A_t_rhymes A_t_kind A_t_salt A_t_ink A_t_dread A_t_tries x_t_told x_t_nerve x_t_pictures x_t_written x_t_day x_t_x, iA cI 8 A_t_ink (upd v_t_ink (a1 &&& (7 : Int32)).toNatClampNeg a2)]) C hK hP hD hS 1 rfl hi rfl dX8_setInk_9 ?_
  intro H locs hP hD hS
  obtain rfl := ev1 hf
  exact x_vret C hr hlk hP hD hS dX8_setInk_10
def f_X8_setDread (v_t_dread : (Nat → Int32)) (a1 : Int32) (a2 : Int32) (a3 : Int32) : Option ((Nat → Int32)) :=
  bd1 (f_X11_bounded a3 (99 : Int32)) (fun r1 =>
  sI 128 v_t_dread (((a1 &&& (7 : Int32)) * (16 : Int32)) + (a2 &&& (15 : Int32))) r1 (fun w2 =>
  some w2))
set_option maxHeartbeats 4000000 in
set_option maxRecDepth 100000 in
theorem c_X8_setDread {l : Launch} {D : va_G} {cI cB : ClassId} {A_t A_t_rhymes A_t_kind A_t_salt A_t_ink A_t_dread A_t_tries : Nat} {x_t_told x_t_nerve x_t_pictures x_t_written x_t_day x_t_x a1 a2 a3 : Int32} {v_t_dread : Nat → Int32} {o_v_t_dread : Nat → Int32} (hf : f_X8_setDread v_t_dread a1 a2 a3 = some o_v_t_dread) : CtV l D cI cB yX8_setDread cX8_setDread 4 2 42 [.ref A_t, .int a1, .int a2, .int a3] [oX8 A_t A_t_rhymes A_t_kind A_t_salt A_t_ink A_t_dread A_t_tries x_t_told x_t_nerve x_t_pictures x_t_written x_t_day x_t_x, iA cI 128 A_t_dread v_t_dread] [oX8 A_t A_t_rhymes A_t_kind A_t_salt A_t_ink A_t_dread A_t_tries x_t_told x_t_nerve x_t_pictures x_t_written x_t_day x_t_x, iA cI 128 A_t_dread o_v_t_dread] := by
  refine x_startV (by decide) (Nat.le_of_ble_eq_true rfl) ?_
  intro p e s m below meth c A C hr hlk hA hK hP hD hS ls hl
  have hl : lv_has ls 4 [(0, .ref A_t), (1, .int a1), (2, .int a2), (3, .int a3)] := hl
  have hx := C.1
  have hb := C.2.1
  unfold f_X8_setDread at hf
  refine lv_aload_n hx hb dX8_setDread_0 rfl (lv_at hl 0 rfl) ?_
  refine x_get C hK hP fd_X8_21 0 rfl rfl dX8_setDread_1 ?_
  refine lv_iload_n hx hb dX8_setDread_4 rfl (lv_at hl 1 rfl) ?_
  refine lv_bipush (v := 7) hx hb dX8_setDread_5 (by decide) ?_
  refine lv_iand hx hb dX8_setDread_7 ?_
  refine lv_bipush (v := 16) hx hb dX8_setDread_8 (by decide) ?_
  refine lv_imul hx hb dX8_setDread_10 ?_
  refine lv_iload_n hx hb dX8_setDread_11 rfl (lv_at hl 2 rfl) ?_
  refine lv_bipush (v := 15) hx hb dX8_setDread_12 (by decide) ?_
  refine lv_iand hx hb dX8_setDread_14 ?_
  refine lv_iadd hx hb dX8_setDread_15 ?_
  refine lv_iload_n hx hb dX8_setDread_16 rfl (lv_at hl 3 rfl) ?_
  refine lv_bipush (v := 99) hx hb dX8_setDread_17 (by decide) ?_
  obtain ⟨r1, hc2, hf⟩ := bd1_e hf
  refine x_callSI (ws' := [oX8 A_t A_t_rhymes A_t_kind A_t_salt A_t_ink A_t_dread A_t_tries x_t_told x_t_nerve x_t_pictures x_t_written x_t_day x_t_x, iA cI 128 A_t_dread v_t_dread]) (rest := [.int (((a1 &&& (7 : Int32)) * (16 : Int32)) + (a2 &&& (15 : Int32))), .ref A_t_dread]) C hK hP hD hS hA hl mf_X8_56 (c_X11_bounded hc2) [] rfl rfl rfl rfl rfl rfl rfl rfl (Nat.le_of_ble_eq_true rfl) ⟨Nat.le_of_ble_eq_true rfl, Nat.le_of_ble_eq_true rfl⟩ ⟨Nat.le_refl _, Nat.le_refl _⟩ dX8_setDread_19 ?_
  intro H locs hP hD hS
  obtain ⟨hi, hf⟩ := sI_e hf
  refine x_iast (ws' := [oX8 A_t A_t_rhymes A_t_kind A_t_salt A_t_ink A_t_dread A_t_tries x_t_told x_t_nerve x_t_pictures x_t_written x_t_day x_t_x, iA cI 128 A_t_dread (upd v_t_dread (((a1 &&& (7 : Int32)) * (16 : Int32)) + (a2 &&& (15 : Int32))).toNatClampNeg r1)]) C hK hP hD hS 1 rfl hi rfl dX8_setDread_22 ?_
  intro H locs hP hD hS
  obtain rfl := ev1 hf
  exact x_vret C hr hlk hP hD hS dX8_setDread_23
def f_X8_setTries (v_t_tries : (Nat → Int32)) (a1 : Int32) (a2 : Int32) (a3 : Int32) : Option ((Nat → Int32)) :=
  sI 128 v_t_tries (((a1 &&& (7 : Int32)) * (16 : Int32)) + (a2 &&& (15 : Int32))) a3 (fun w1 =>
  some w1)
set_option maxHeartbeats 4000000 in
set_option maxRecDepth 100000 in
theorem c_X8_setTries {l : Launch} {D : va_G} {cI cB : ClassId} {A_t A_t_rhymes A_t_kind A_t_salt A_t_ink A_t_dread A_t_tries : Nat} {x_t_told x_t_nerve x_t_pictures x_t_written x_t_day x_t_x a1 a2 a3 : Int32} {v_t_tries : Nat → Int32} {o_v_t_tries : Nat → Int32} (hf : f_X8_setTries v_t_tries a1 a2 a3 = some o_v_t_tries) : CtV l D cI cB yX8_setTries cX8_setTries 4 0 0 [.ref A_t, .int a1, .int a2, .int a3] [oX8 A_t A_t_rhymes A_t_kind A_t_salt A_t_ink A_t_dread A_t_tries x_t_told x_t_nerve x_t_pictures x_t_written x_t_day x_t_x, iA cI 128 A_t_tries v_t_tries] [oX8 A_t A_t_rhymes A_t_kind A_t_salt A_t_ink A_t_dread A_t_tries x_t_told x_t_nerve x_t_pictures x_t_written x_t_day x_t_x, iA cI 128 A_t_tries o_v_t_tries] := by
  refine x_startV (by decide) (Nat.le_of_ble_eq_true rfl) ?_
  intro p e s m below meth c A C hr hlk hA hK hP hD hS ls hl
  have hl : lv_has ls 4 [(0, .ref A_t), (1, .int a1), (2, .int a2), (3, .int a3)] := hl
  have hx := C.1
  have hb := C.2.1
  unfold f_X8_setTries at hf
  refine lv_aload_n hx hb dX8_setTries_0 rfl (lv_at hl 0 rfl) ?_
  refine x_get C hK hP fd_X8_24 0 rfl rfl dX8_setTries_1 ?_
  refine lv_iload_n hx hb dX8_setTries_4 rfl (lv_at hl 1 rfl) ?_
  refine lv_bipush (v := 7) hx hb dX8_setTries_5 (by decide) ?_
  refine lv_iand hx hb dX8_setTries_7 ?_
  refine lv_bipush (v := 16) hx hb dX8_setTries_8 (by decide) ?_
  refine lv_imul hx hb dX8_setTries_10 ?_
  refine lv_iload_n hx hb dX8_setTries_11 rfl (lv_at hl 2 rfl) ?_
  refine lv_bipush (v := 15) hx hb dX8_setTries_12 (by decide) ?_
  refine lv_iand hx hb dX8_setTries_14 ?_
  refine lv_iadd hx hb dX8_setTries_15 ?_
  refine lv_iload_n hx hb dX8_setTries_16 rfl (lv_at hl 3 rfl) ?_
  obtain ⟨hi, hf⟩ := sI_e hf
  refine x_iast (ws' := [oX8 A_t A_t_rhymes A_t_kind A_t_salt A_t_ink A_t_dread A_t_tries x_t_told x_t_nerve x_t_pictures x_t_written x_t_day x_t_x, iA cI 128 A_t_tries (upd v_t_tries (((a1 &&& (7 : Int32)) * (16 : Int32)) + (a2 &&& (15 : Int32))).toNatClampNeg a3)]) C hK hP hD hS 1 rfl hi rfl dX8_setTries_17 ?_
  intro H locs hP hD hS
  obtain rfl := ev1 hf
  exact x_vret C hr hlk hP hD hS dX8_setTries_18
def f_X8_cleanse_b16 (a1 : Int32) : Nat → (Nat → Int32) → (Nat → Int32) → (Nat → Int32) → Int32 → Option ((Nat → Int32) × (Nat → Int32) × (Nat → Int32))
  | 0, _, _, _, _ => none
  | n + 1, v_t_ink, v_t_salt, v_t_tries, l2 =>
    if (16 : Int32) ≤ l2 then
      some (v_t_ink, v_t_salt, v_t_tries)
    else
      bd1 (f_X8_setTries v_t_tries a1 l2 (0 : Int32)) (fun w1 =>
      f_X8_cleanse_b16 a1 n v_t_ink v_t_salt w1 (l2 + (1 : Int32)))
def f_X8_cleanse (v_t_ink : (Nat → Int32)) (v_t_salt : (Nat → Int32)) (v_t_tries : (Nat → Int32)) (a1 : Int32) : Option ((Nat → Int32) × (Nat → Int32) × (Nat → Int32)) :=
  bd1 (f_X8_setSalt v_t_salt a1 (0 : Int32)) (fun w2 =>
  bd1 (f_X8_setInk v_t_ink a1 (999 : Int32)) (fun w3 =>
  f_X8_cleanse_b16 a1 FU w3 w2 v_t_tries (0 : Int32)))
set_option maxHeartbeats 4000000 in
set_option maxRecDepth 100000 in
theorem c_X8_cleanse {l : Launch} {D : va_G} {cI cB : ClassId} {A_t A_t_rhymes A_t_kind A_t_salt A_t_ink A_t_dread A_t_tries : Nat} {x_t_told x_t_nerve x_t_pictures x_t_written x_t_day x_t_x a1 : Int32} {v_t_ink v_t_salt v_t_tries : Nat → Int32} {o_v_t_ink o_v_t_salt o_v_t_tries : Nat → Int32} (hf : f_X8_cleanse v_t_ink v_t_salt v_t_tries a1 = some (o_v_t_ink, o_v_t_salt, o_v_t_tries)) : CtV l D cI cB yX8_cleanse cX8_cleanse 3 1 23 [.ref A_t, .int a1] [oX8 A_t A_t_rhymes A_t_kind A_t_salt A_t_ink A_t_dread A_t_tries x_t_told x_t_nerve x_t_pictures x_t_written x_t_day x_t_x, iA cI 8 A_t_ink v_t_ink, iA cI 8 A_t_salt v_t_salt, iA cI 128 A_t_tries v_t_tries] [oX8 A_t A_t_rhymes A_t_kind A_t_salt A_t_ink A_t_dread A_t_tries x_t_told x_t_nerve x_t_pictures x_t_written x_t_day x_t_x, iA cI 8 A_t_ink o_v_t_ink, iA cI 8 A_t_salt o_v_t_salt, iA cI 128 A_t_tries o_v_t_tries] := by
  refine x_startV (by decide) (Nat.le_of_ble_eq_true rfl) ?_
  intro p e s m below meth c A C hr hlk hA hK hP hD hS ls hl
  have hl : lv_has ls 3 [(0, .ref A_t), (1, .int a1)] := hl
  have hx := C.1
  have hb := C.2.1
  unfold f_X8_cleanse at hf
  have hb_16 : ∀ (n_16 : Nat) (v_t_ink : (Nat → Int32)) (v_t_salt : (Nat → Int32)) (v_t_tries : (Nat → Int32)) (l2 : Int32) (H : Heap) (locs : List Loc) (ls : Array Slot), lv_has ls 3 [(0, .ref A_t), (1, .int a1), (2, .int l2)] → va_P D vwCl [oX8 A_t A_t_rhymes A_t_kind A_t_salt A_t_ink A_t_dread A_t_tries x_t_told x_t_nerve x_t_pictures x_t_written x_t_day x_t_x, iA cI 8 A_t_ink v_t_ink, iA cI 8 A_t_salt v_t_salt, iA cI 128 A_t_tries v_t_tries] H → va_D A [oX8 A_t A_t_rhymes A_t_kind A_t_salt A_t_ink A_t_dread A_t_tries x_t_told x_t_nerve x_t_pictures x_t_written x_t_day x_t_x, iA cI 8 A_t_ink v_t_ink, iA cI 8 A_t_salt v_t_salt, iA cI 128 A_t_tries v_t_tries] → va_S A s.heap H locs → f_X8_cleanse_b16 a1 n_16 v_t_ink v_t_salt v_t_tries l2 = some (o_v_t_ink, o_v_t_salt, o_v_t_tries) → W p l e { frames := 1, cells := 0, slots := 0, locals := 23 } s m ([.ref A_t, .int a1] : List Value).toArray below meth c H locs 0 0 (MQ below (PoV D A [oX8 A_t A_t_rhymes A_t_kind A_t_salt A_t_ink A_t_dread A_t_tries x_t_told x_t_nerve x_t_pictures x_t_written x_t_day x_t_x, iA cI 8 A_t_ink o_v_t_ink, iA cI 8 A_t_salt o_v_t_salt, iA cI 128 A_t_tries o_v_t_tries]) ([.ref A_t, .int a1] : List Value).toArray s 0 0 A) (F0 m 16 ls []) := by
    intro n_16
    induction n_16 with
    | zero =>
      intro v_t_ink v_t_salt v_t_tries l2 H locs ls hl hP hD hS hf
      exact absurd hf (fun h => by rw [f_X8_cleanse_b16] at h; cases h)
    | succ n_16 ih_16 =>
      intro v_t_ink v_t_salt v_t_tries l2 H locs ls hl hP hD hS hf
      rw [f_X8_cleanse_b16] at hf
      refine lv_iload_n hx hb dX8_cleanse_16 rfl (lv_at hl 2 rfl) ?_
      refine lv_bipush (v := 16) hx hb dX8_cleanse_17 (by decide) ?_
      refine lv_icmp_ge (tgt := 35) hx hb dX8_cleanse_19 (by decide) (fun q => ?_) (fun q => ?_)
      · have hf := if_t q hf
        obtain ⟨rfl, rfl, rfl⟩ := ev3 hf
        exact x_vret C hr hlk hP hD hS dX8_cleanse_35
      · have hf := if_f q hf
        refine lv_aload_n hx hb dX8_cleanse_22 rfl (lv_at hl 0 rfl) ?_
        refine lv_iload_n hx hb dX8_cleanse_23 rfl (lv_at hl 1 rfl) ?_
        refine lv_iload_n hx hb dX8_cleanse_24 rfl (lv_at hl 2 rfl) ?_
        refine lv_iconst (v := 0) hx hb dX8_cleanse_25 (by decide) ?_
        obtain ⟨w1, hc2, hf⟩ := bd1_e hf
        refine x_callVV (ws' := [oX8 A_t A_t_rhymes A_t_kind A_t_salt A_t_ink A_t_dread A_t_tries x_t_told x_t_nerve x_t_pictures x_t_written x_t_day x_t_x, iA cI 8 A_t_ink v_t_ink, iA cI 8 A_t_salt v_t_salt, iA cI 128 A_t_tries w1]) (rest := []) C hK hP hD hS hA hl mf_X8_117 (c_X8_setTries hc2) [0, 3] 0 8 rfl rfl rfl rfl rfl rfl rfl rfl rfl rfl (Nat.le_of_ble_eq_true rfl) ⟨Nat.le_of_ble_eq_true rfl, Nat.le_of_ble_eq_true rfl⟩ ⟨Nat.le_refl _, Nat.le_refl _⟩ dX8_cleanse_26 ?_
        intro H locs hP hD hS
        refine lv_iinc (v := (l2 + (1 : Int32))) (lv' := [(2, .int (l2 + (1 : Int32))), (0, .ref A_t), (1, .int a1)]) hx hb dX8_cleanse_29 hl (k := 2) rfl rfl (by decide) rfl (fun ls hl => ?_)
        refine lv_goto (tgt := 16) hx hb dX8_cleanse_32 (by decide) ?_
        exact ih_16 v_t_ink v_t_salt w1 (l2 + (1 : Int32)) _ _ ls (lv_sub hl [1, 2, 0] rfl) hP hD hS hf
  refine lv_aload_n hx hb dX8_cleanse_0 rfl (lv_at hl 0 rfl) ?_
  refine lv_iload_n hx hb dX8_cleanse_1 rfl (lv_at hl 1 rfl) ?_
  refine lv_iconst (v := 0) hx hb dX8_cleanse_2 (by decide) ?_
  obtain ⟨w3, hc4, hf⟩ := bd1_e hf
  refine x_callVV (ws' := [oX8 A_t A_t_rhymes A_t_kind A_t_salt A_t_ink A_t_dread A_t_tries x_t_told x_t_nerve x_t_pictures x_t_written x_t_day x_t_x, iA cI 8 A_t_ink v_t_ink, iA cI 8 A_t_salt w3, iA cI 128 A_t_tries v_t_tries]) (rest := []) C hK hP hD hS hA hl mf_X8_128 (c_X8_setSalt hc4) [0, 2] 0 8 rfl rfl rfl rfl rfl rfl rfl rfl rfl rfl (Nat.le_of_ble_eq_true rfl) ⟨Nat.le_of_ble_eq_true rfl, Nat.le_of_ble_eq_true rfl⟩ ⟨Nat.le_refl _, Nat.le_refl _⟩ dX8_cleanse_3 ?_
  intro H locs hP hD hS
  refine lv_aload_n hx hb dX8_cleanse_6 rfl (lv_at hl 0 rfl) ?_
  refine lv_iload_n hx hb dX8_cleanse_7 rfl (lv_at hl 1 rfl) ?_
  refine lv_sipush (v := 999) hx hb dX8_cleanse_8 (by decide) ?_
  obtain ⟨w5, hc6, hf⟩ := bd1_e hf
  refine x_callVV (ws' := [oX8 A_t A_t_rhymes A_t_kind A_t_salt A_t_ink A_t_dread A_t_tries x_t_told x_t_nerve x_t_pictures x_t_written x_t_day x_t_x, iA cI 8 A_t_ink w5, iA cI 8 A_t_salt w3, iA cI 128 A_t_tries v_t_tries]) (rest := []) C hK hP hD hS hA hl mf_X8_111 (c_X8_setInk hc6) [0, 1] 0 8 rfl rfl rfl rfl rfl rfl rfl rfl rfl rfl (Nat.le_of_ble_eq_true rfl) ⟨Nat.le_of_ble_eq_true rfl, Nat.le_of_ble_eq_true rfl⟩ ⟨Nat.le_refl _, Nat.le_refl _⟩ dX8_cleanse_11 ?_
  intro H locs hP hD hS
  refine lv_iconst (v := 0) hx hb dX8_cleanse_14 (by decide) ?_
  refine lv_istore_n (lv' := [(2, .int (0 : Int32)), (0, .ref A_t), (1, .int a1)]) hx hb dX8_cleanse_15 rfl hl (by decide) rfl (fun ls hl => ?_)
  exact hb_16 FU w5 w3 v_t_tries (0 : Int32) _ _ ls (lv_sub hl [1, 2, 0] rfl) hP hD hS hf
def f_X8_putNew_b28 (a1 : Int32) : Nat → (Nat → Int32) → (Nat → Int32) → (Nat → Int32) → (Nat → Int32) → (Nat → Int32) → Int32 → Int32 → Option ((Nat → Int32) × (Nat → Int32) × (Nat → Int32) × (Nat → Int32) × (Nat → Int32) × Int32)
  | 0, _, _, _, _, _, _, _ => none
  | n + 1, v_t_dread, v_t_ink, v_t_kind, v_t_salt, v_t_tries, x_t_told, l3 =>
    if (16 : Int32) ≤ l3 then
      some (v_t_dread, v_t_ink, v_t_kind, v_t_salt, v_t_tries, x_t_told)
    else
      bd1 (f_X8_setDread v_t_dread a1 l3 (0 : Int32)) (fun w1 =>
      f_X8_putNew_b28 a1 n w1 v_t_ink v_t_kind v_t_salt v_t_tries x_t_told (l3 + (1 : Int32)))
def f_X8_putNew (v_t_dread : (Nat → Int32)) (v_t_ink : (Nat → Int32)) (v_t_kind : (Nat → Int32)) (v_t_salt : (Nat → Int32)) (v_t_tries : (Nat → Int32)) (x_t_told : Int32) (a1 : Int32) (a2 : Int32) : Option ((Nat → Int32) × (Nat → Int32) × (Nat → Int32) × (Nat → Int32) × (Nat → Int32) × Int32) :=
  bd1 (f_X8_setKind v_t_kind a1 a2) (fun w2 =>
  bd3 (f_X8_cleanse v_t_ink v_t_salt v_t_tries a1) (fun w3 w4 w5 =>
  f_X8_putNew_b28 a1 FU v_t_dread w3 w2 w4 w5 (x_t_told ||| ((1 : Int32) <<< ((a1 &&& (7 : Int32)) &&& 31))) (0 : Int32)))
set_option maxHeartbeats 4000000 in
set_option maxRecDepth 100000 in
theorem c_X8_putNew {l : Launch} {D : va_G} {cI cB : ClassId} {A_t A_t_rhymes A_t_kind A_t_salt A_t_ink A_t_dread A_t_tries : Nat} {x_t_told x_t_nerve x_t_pictures x_t_written x_t_day x_t_x a1 a2 : Int32} {v_t_dread v_t_ink v_t_kind v_t_salt v_t_tries : Nat → Int32} {o_x_t_told : Int32} {o_v_t_dread o_v_t_ink o_v_t_kind o_v_t_salt o_v_t_tries : Nat → Int32} (hf : f_X8_putNew v_t_dread v_t_ink v_t_kind v_t_salt v_t_tries x_t_told a1 a2 = some (o_v_t_dread, o_v_t_ink, o_v_t_kind, o_v_t_salt, o_v_t_tries, o_x_t_told)) : CtV l D cI cB yX8_putNew cX8_putNew 4 3 65 [.ref A_t, .int a1, .int a2] [oX8 A_t A_t_rhymes A_t_kind A_t_salt A_t_ink A_t_dread A_t_tries x_t_told x_t_nerve x_t_pictures x_t_written x_t_day x_t_x, iA cI 128 A_t_dread v_t_dread, iA cI 8 A_t_ink v_t_ink, iA cI 8 A_t_kind v_t_kind, iA cI 8 A_t_salt v_t_salt, iA cI 128 A_t_tries v_t_tries] [oX8 A_t A_t_rhymes A_t_kind A_t_salt A_t_ink A_t_dread A_t_tries o_x_t_told x_t_nerve x_t_pictures x_t_written x_t_day x_t_x, iA cI 128 A_t_dread o_v_t_dread, iA cI 8 A_t_ink o_v_t_ink, iA cI 8 A_t_kind o_v_t_kind, iA cI 8 A_t_salt o_v_t_salt, iA cI 128 A_t_tries o_v_t_tries] := by
  refine x_startV (by decide) (Nat.le_of_ble_eq_true rfl) ?_
  intro p e s m below meth c A C hr hlk hA hK hP hD hS ls hl
  have hl : lv_has ls 4 [(0, .ref A_t), (1, .int a1), (2, .int a2)] := hl
  have hx := C.1
  have hb := C.2.1
  unfold f_X8_putNew at hf
  have hb_28 : ∀ (n_28 : Nat) (v_t_dread : (Nat → Int32)) (v_t_ink : (Nat → Int32)) (v_t_kind : (Nat → Int32)) (v_t_salt : (Nat → Int32)) (v_t_tries : (Nat → Int32)) (x_t_told : Int32) (l3 : Int32) (H : Heap) (locs : List Loc) (ls : Array Slot), lv_has ls 4 [(0, .ref A_t), (1, .int a1), (3, .int l3)] → va_P D vwCl [oX8 A_t A_t_rhymes A_t_kind A_t_salt A_t_ink A_t_dread A_t_tries x_t_told x_t_nerve x_t_pictures x_t_written x_t_day x_t_x, iA cI 128 A_t_dread v_t_dread, iA cI 8 A_t_ink v_t_ink, iA cI 8 A_t_kind v_t_kind, iA cI 8 A_t_salt v_t_salt, iA cI 128 A_t_tries v_t_tries] H → va_D A [oX8 A_t A_t_rhymes A_t_kind A_t_salt A_t_ink A_t_dread A_t_tries x_t_told x_t_nerve x_t_pictures x_t_written x_t_day x_t_x, iA cI 128 A_t_dread v_t_dread, iA cI 8 A_t_ink v_t_ink, iA cI 8 A_t_kind v_t_kind, iA cI 8 A_t_salt v_t_salt, iA cI 128 A_t_tries v_t_tries] → va_S A s.heap H locs → f_X8_putNew_b28 a1 n_28 v_t_dread v_t_ink v_t_kind v_t_salt v_t_tries x_t_told l3 = some (o_v_t_dread, o_v_t_ink, o_v_t_kind, o_v_t_salt, o_v_t_tries, o_x_t_told) → W p l e { frames := 3, cells := 0, slots := 0, locals := 65 } s m ([.ref A_t, .int a1, .int a2] : List Value).toArray below meth c H locs 0 0 (MQ below (PoV D A [oX8 A_t A_t_rhymes A_t_kind A_t_salt A_t_ink A_t_dread A_t_tries o_x_t_told x_t_nerve x_t_pictures x_t_written x_t_day x_t_x, iA cI 128 A_t_dread o_v_t_dread, iA cI 8 A_t_ink o_v_t_ink, iA cI 8 A_t_kind o_v_t_kind, iA cI 8 A_t_salt o_v_t_salt, iA cI 128 A_t_tries o_v_t_tries]) ([.ref A_t, .int a1, .int a2] : List Value).toArray s 0 0 A) (F0 m 28 ls []) := by
    intro n_28
    induction n_28 with
    | zero =>
      intro v_t_dread v_t_ink v_t_kind v_t_salt v_t_tries x_t_told l3 H locs ls hl hP hD hS hf
      exact absurd hf (fun h => by rw [f_X8_putNew_b28] at h; cases h)
    | succ n_28 ih_28 =>
      intro v_t_dread v_t_ink v_t_kind v_t_salt v_t_tries x_t_told l3 H locs ls hl hP hD hS hf
      rw [f_X8_putNew_b28] at hf
      refine lv_iload_n hx hb dX8_putNew_28 rfl (lv_at hl 2 rfl) ?_
      refine lv_bipush (v := 16) hx hb dX8_putNew_29 (by decide) ?_
      refine lv_icmp_ge (tgt := 47) hx hb dX8_putNew_31 (by decide) (fun q => ?_) (fun q => ?_)
      · have hf := if_t q hf
        obtain ⟨rfl, rfl, rfl, rfl, rfl, rfl⟩ := ev6 hf
        exact x_vret C hr hlk hP hD hS dX8_putNew_47
      · have hf := if_f q hf
        refine lv_aload_n hx hb dX8_putNew_34 rfl (lv_at hl 0 rfl) ?_
        refine lv_iload_n hx hb dX8_putNew_35 rfl (lv_at hl 1 rfl) ?_
        refine lv_iload_n hx hb dX8_putNew_36 rfl (lv_at hl 2 rfl) ?_
        refine lv_iconst (v := 0) hx hb dX8_putNew_37 (by decide) ?_
        obtain ⟨w1, hc2, hf⟩ := bd1_e hf
        refine x_callVV (ws' := [oX8 A_t A_t_rhymes A_t_kind A_t_salt A_t_ink A_t_dread A_t_tries x_t_told x_t_nerve x_t_pictures x_t_written x_t_day x_t_x, iA cI 128 A_t_dread w1, iA cI 8 A_t_ink v_t_ink, iA cI 8 A_t_kind v_t_kind, iA cI 8 A_t_salt v_t_salt, iA cI 128 A_t_tries v_t_tries]) (rest := []) C hK hP hD hS hA hl mf_X8_68 (c_X8_setDread hc2) [0, 1] 0 8 rfl rfl rfl rfl rfl rfl rfl rfl rfl rfl (Nat.le_of_ble_eq_true rfl) ⟨Nat.le_of_ble_eq_true rfl, Nat.le_of_ble_eq_true rfl⟩ ⟨Nat.le_refl _, Nat.le_refl _⟩ dX8_putNew_38 ?_
        intro H locs hP hD hS
        refine lv_iinc (v := (l3 + (1 : Int32))) (lv' := [(3, .int (l3 + (1 : Int32))), (0, .ref A_t), (1, .int a1)]) hx hb dX8_putNew_41 hl (k := 2) rfl rfl (by decide) rfl (fun ls hl => ?_)
        refine lv_goto (tgt := 28) hx hb dX8_putNew_44 (by decide) ?_
        exact ih_28 w1 v_t_ink v_t_kind v_t_salt v_t_tries x_t_told (l3 + (1 : Int32)) _ _ ls (lv_sub hl [1, 2, 0] rfl) hP hD hS hf
  refine lv_aload_n hx hb dX8_putNew_0 rfl (lv_at hl 0 rfl) ?_
  refine lv_dup hx hb dX8_putNew_1 rfl ?_
  refine x_get C hK hP fd_X8_44 0 rfl rfl dX8_putNew_2 ?_
  refine lv_iconst (v := 1) hx hb dX8_putNew_5 (by decide) ?_
  refine lv_iload_n hx hb dX8_putNew_6 rfl (lv_at hl 1 rfl) ?_
  refine lv_bipush (v := 7) hx hb dX8_putNew_7 (by decide) ?_
  refine lv_iand hx hb dX8_putNew_9 ?_
  refine lv_ishl hx hb dX8_putNew_10 ?_
  refine lv_ior hx hb dX8_putNew_11 ?_
  refine x_put (ws' := [oX8 A_t A_t_rhymes A_t_kind A_t_salt A_t_ink A_t_dread A_t_tries (x_t_told ||| ((1 : Int32) <<< ((a1 &&& (7 : Int32)) &&& 31))) x_t_nerve x_t_pictures x_t_written x_t_day x_t_x, iA cI 128 A_t_dread v_t_dread, iA cI 8 A_t_ink v_t_ink, iA cI 8 A_t_kind v_t_kind, iA cI 8 A_t_salt v_t_salt, iA cI 128 A_t_tries v_t_tries]) C hK hP hD hS fp_X8_44 0 rfl rfl rfl (Nat.le_of_ble_eq_true rfl) rfl dX8_putNew_12 ?_
  intro H locs hP hD hS
  refine lv_aload_n hx hb dX8_putNew_15 rfl (lv_at hl 0 rfl) ?_
  refine lv_iload_n hx hb dX8_putNew_16 rfl (lv_at hl 1 rfl) ?_
  refine lv_iload_n hx hb dX8_putNew_17 rfl (lv_at hl 2 rfl) ?_
  obtain ⟨w3, hc4, hf⟩ := bd1_e hf
  refine x_callVV (ws' := [oX8 A_t A_t_rhymes A_t_kind A_t_salt A_t_ink A_t_dread A_t_tries (x_t_told ||| ((1 : Int32) <<< ((a1 &&& (7 : Int32)) &&& 31))) x_t_nerve x_t_pictures x_t_written x_t_day x_t_x, iA cI 128 A_t_dread v_t_dread, iA cI 8 A_t_ink v_t_ink, iA cI 8 A_t_kind w3, iA cI 8 A_t_salt v_t_salt, iA cI 128 A_t_tries v_t_tries]) (rest := []) C hK hP hD hS hA hl mf_X8_60 (c_X8_setKind hc4) [0, 3] 0 8 rfl rfl rfl rfl rfl rfl rfl rfl rfl rfl (Nat.le_of_ble_eq_true rfl) ⟨Nat.le_of_ble_eq_true rfl, Nat.le_of_ble_eq_true rfl⟩ ⟨Nat.le_refl _, Nat.le_refl _⟩ dX8_putNew_18 ?_
  intro H locs hP hD hS
  refine lv_aload_n hx hb dX8_putNew_21 rfl (lv_at hl 0 rfl) ?_
  refine lv_iload_n hx hb dX8_putNew_22 rfl (lv_at hl 1 rfl) ?_
  obtain ⟨w5, w6, w7, hc8, hf⟩ := bd3_e hf
  refine x_callVV (ws' := [oX8 A_t A_t_rhymes A_t_kind A_t_salt A_t_ink A_t_dread A_t_tries (x_t_told ||| ((1 : Int32) <<< ((a1 &&& (7 : Int32)) &&& 31))) x_t_nerve x_t_pictures x_t_written x_t_day x_t_x, iA cI 128 A_t_dread v_t_dread, iA cI 8 A_t_ink w5, iA cI 8 A_t_kind w3, iA cI 8 A_t_salt w6, iA cI 128 A_t_tries w7]) (rest := []) C hK hP hD hS hA hl mf_X8_64 (c_X8_cleanse hc8) [0, 2, 4, 5] 0 8 rfl rfl rfl rfl rfl rfl rfl rfl rfl rfl (Nat.le_of_ble_eq_true rfl) ⟨Nat.le_of_ble_eq_true rfl, Nat.le_of_ble_eq_true rfl⟩ ⟨Nat.le_refl _, Nat.le_refl _⟩ dX8_putNew_23 ?_
  intro H locs hP hD hS
  refine lv_iconst (v := 0) hx hb dX8_putNew_26 (by decide) ?_
  refine lv_istore_n (lv' := [(3, .int (0 : Int32)), (0, .ref A_t), (1, .int a1), (2, .int a2)]) hx hb dX8_putNew_27 rfl hl (by decide) rfl (fun ls hl => ?_)
  exact hb_28 FU v_t_dread w5 w3 w6 w7 (x_t_told ||| ((1 : Int32) <<< ((a1 &&& (7 : Int32)) &&& 31))) (0 : Int32) _ _ ls (lv_sub hl [1, 2, 0] rfl) hP hD hS hf
def f_X8_followerOf (a0 : Int32) : Option (Int32) :=
  some ((((25173 : Int32) * a0) + (13849 : Int32)) &&& (65535 : Int32))
set_option maxHeartbeats 4000000 in
set_option maxRecDepth 100000 in
theorem c_X8_followerOf {l : Launch} {D : va_G} {cI cB : ClassId} {a0 : Int32} {o_r : Int32} (hf : f_X8_followerOf a0 = some o_r) : CtI l D cI cB yX8_followerOf cX8_followerOf 1 (some .int) 0 0 [.int a0] [] [] o_r := by
  refine x_startI (by decide) (Nat.le_of_ble_eq_true rfl) ?_
  intro p e s m below meth c A C hr hlk hA hK hP hD hS ls hl
  have hl : lv_has ls 1 [(0, .int a0)] := hl
  have hx := C.1
  have hb := C.2.1
  unfold f_X8_followerOf at hf
  refine lv_sipush (v := 25173) hx hb dX8_followerOf_0 (by decide) ?_
  refine lv_iload_n hx hb dX8_followerOf_3 rfl (lv_at hl 0 rfl) ?_
  refine lv_imul hx hb dX8_followerOf_4 ?_
  refine lv_sipush (v := 13849) hx hb dX8_followerOf_5 (by decide) ?_
  refine lv_iadd hx hb dX8_followerOf_8 ?_
  refine x_ldc C kc_X8_96 dX8_followerOf_9 ?_
  refine lv_iand hx hb dX8_followerOf_11 ?_
  obtain rfl := ev1 hf
  exact x_iret C hr hlk hP hD hS dX8_followerOf_12
def f_X8_press_b10 (a1 : Int32) : Nat → (Nat → Int32) → (Nat → Int32) → (Nat → Int32) → (Nat → Int32) → Int32 → Int32 → Option ((Nat → Int32) × (Nat → Int32) × (Nat → Int32) × (Nat → Int32))
  | 0, _, _, _, _, _, _ => none
  | n + 1, v_t_dread, v_t_ink, v_t_salt, v_t_tries, l3, l4 =>
    if (16 : Int32) ≤ l4 then
      some (v_t_dread, v_t_ink, v_t_salt, v_t_tries)
    else
      bd1 (f_X8_followerOf l3) (fun r1 =>
      rI r1 (10 : Int32) (fun g2 =>
      bd1 (f_X8_followerOf r1) (fun r3 =>
      rI r3 (10 : Int32) (fun g4 =>
      bd1 (f_X8_setDread v_t_dread a1 l4 (((10 : Int32) * g2) + g4)) (fun w5 =>
      f_X8_press_b10 a1 n w5 v_t_ink v_t_salt v_t_tries r3 (l4 + (1 : Int32)))))))
def f_X8_press (v_t_dread : (Nat → Int32)) (v_t_ink : (Nat → Int32)) (v_t_salt : (Nat → Int32)) (v_t_tries : (Nat → Int32)) (a1 : Int32) (a2 : Int32) : Option ((Nat → Int32) × (Nat → Int32) × (Nat → Int32) × (Nat → Int32)) :=
  bd3 (f_X8_cleanse v_t_ink v_t_salt v_t_tries a1) (fun w6 w7 w8 =>
  f_X8_press_b10 a1 FU v_t_dread w6 w7 w8 a2 (0 : Int32))
set_option maxHeartbeats 4000000 in
set_option maxRecDepth 100000 in
theorem c_X8_press {l : Launch} {D : va_G} {cI cB : ClassId} {A_t A_t_rhymes A_t_kind A_t_salt A_t_ink A_t_dread A_t_tries : Nat} {x_t_told x_t_nerve x_t_pictures x_t_written x_t_day x_t_x a1 a2 : Int32} {v_t_dread v_t_ink v_t_salt v_t_tries : Nat → Int32} {o_v_t_dread o_v_t_ink o_v_t_salt o_v_t_tries : Nat → Int32} (hf : f_X8_press v_t_dread v_t_ink v_t_salt v_t_tries a1 a2 = some (o_v_t_dread, o_v_t_ink, o_v_t_salt, o_v_t_tries)) : CtV l D cI cB yX8_press cX8_press 6 3 65 [.ref A_t, .int a1, .int a2] [oX8 A_t A_t_rhymes A_t_kind A_t_salt A_t_ink A_t_dread A_t_tries x_t_told x_t_nerve x_t_pictures x_t_written x_t_day x_t_x, iA cI 128 A_t_dread v_t_dread, iA cI 8 A_t_ink v_t_ink, iA cI 8 A_t_salt v_t_salt, iA cI 128 A_t_tries v_t_tries] [oX8 A_t A_t_rhymes A_t_kind A_t_salt A_t_ink A_t_dread A_t_tries x_t_told x_t_nerve x_t_pictures x_t_written x_t_day x_t_x, iA cI 128 A_t_dread o_v_t_dread, iA cI 8 A_t_ink o_v_t_ink, iA cI 8 A_t_salt o_v_t_salt, iA cI 128 A_t_tries o_v_t_tries] := by
  refine x_startV (by decide) (Nat.le_of_ble_eq_true rfl) ?_
  intro p e s m below meth c A C hr hlk hA hK hP hD hS ls hl
  have hl : lv_has ls 6 [(0, .ref A_t), (1, .int a1), (2, .int a2)] := hl
  have hx := C.1
  have hb := C.2.1
  unfold f_X8_press at hf
  have hb_10 : ∀ (n_10 : Nat) (v_t_dread : (Nat → Int32)) (v_t_ink : (Nat → Int32)) (v_t_salt : (Nat → Int32)) (v_t_tries : (Nat → Int32)) (l3 : Int32) (l4 : Int32) (H : Heap) (locs : List Loc) (ls : Array Slot), lv_has ls 6 [(0, .ref A_t), (1, .int a1), (3, .int l3), (4, .int l4)] → va_P D vwCl [oX8 A_t A_t_rhymes A_t_kind A_t_salt A_t_ink A_t_dread A_t_tries x_t_told x_t_nerve x_t_pictures x_t_written x_t_day x_t_x, iA cI 128 A_t_dread v_t_dread, iA cI 8 A_t_ink v_t_ink, iA cI 8 A_t_salt v_t_salt, iA cI 128 A_t_tries v_t_tries] H → va_D A [oX8 A_t A_t_rhymes A_t_kind A_t_salt A_t_ink A_t_dread A_t_tries x_t_told x_t_nerve x_t_pictures x_t_written x_t_day x_t_x, iA cI 128 A_t_dread v_t_dread, iA cI 8 A_t_ink v_t_ink, iA cI 8 A_t_salt v_t_salt, iA cI 128 A_t_tries v_t_tries] → va_S A s.heap H locs → f_X8_press_b10 a1 n_10 v_t_dread v_t_ink v_t_salt v_t_tries l3 l4 = some (o_v_t_dread, o_v_t_ink, o_v_t_salt, o_v_t_tries) → W p l e { frames := 3, cells := 0, slots := 0, locals := 65 } s m ([.ref A_t, .int a1, .int a2] : List Value).toArray below meth c H locs 0 0 (MQ below (PoV D A [oX8 A_t A_t_rhymes A_t_kind A_t_salt A_t_ink A_t_dread A_t_tries x_t_told x_t_nerve x_t_pictures x_t_written x_t_day x_t_x, iA cI 128 A_t_dread o_v_t_dread, iA cI 8 A_t_ink o_v_t_ink, iA cI 8 A_t_salt o_v_t_salt, iA cI 128 A_t_tries o_v_t_tries]) ([.ref A_t, .int a1, .int a2] : List Value).toArray s 0 0 A) (F0 m 10 ls []) := by
    intro n_10
    induction n_10 with
    | zero =>
      intro v_t_dread v_t_ink v_t_salt v_t_tries l3 l4 H locs ls hl hP hD hS hf
      exact absurd hf (fun h => by rw [f_X8_press_b10] at h; cases h)
    | succ n_10 ih_10 =>
      intro v_t_dread v_t_ink v_t_salt v_t_tries l3 l4 H locs ls hl hP hD hS hf
      rw [f_X8_press_b10] at hf
      refine lv_iload hx hb dX8_press_10 (lv_at hl 3 rfl) ?_
      refine lv_bipush (v := 16) hx hb dX8_press_12 (by decide) ?_
      refine lv_icmp_ge (tgt := 56) hx hb dX8_press_14 (by decide) (fun q => ?_) (fun q => ?_)
      · have hf := if_t q hf
        obtain ⟨rfl, rfl, rfl, rfl⟩ := ev4 hf
        exact x_vret C hr hlk hP hD hS dX8_press_56
      · have hf := if_f q hf
        refine lv_iload_n hx hb dX8_press_17 rfl (lv_at hl 2 rfl) ?_
        obtain ⟨r1, hc2, hf⟩ := bd1_e hf
        refine x_callSI (ws' := [oX8 A_t A_t_rhymes A_t_kind A_t_salt A_t_ink A_t_dread A_t_tries x_t_told x_t_nerve x_t_pictures x_t_written x_t_day x_t_x, iA cI 128 A_t_dread v_t_dread, iA cI 8 A_t_ink v_t_ink, iA cI 8 A_t_salt v_t_salt, iA cI 128 A_t_tries v_t_tries]) (rest := []) C hK hP hD hS hA hl mf_X8_72 (c_X8_followerOf hc2) [] rfl rfl rfl rfl rfl rfl rfl rfl (Nat.le_of_ble_eq_true rfl) ⟨Nat.le_of_ble_eq_true rfl, Nat.le_of_ble_eq_true rfl⟩ ⟨Nat.le_refl _, Nat.le_refl _⟩ dX8_press_18 ?_
        intro H locs hP hD hS
        refine lv_istore_n (lv' := [(3, .int r1), (0, .ref A_t), (1, .int a1), (4, .int l4)]) hx hb dX8_press_21 rfl hl (by decide) rfl (fun ls hl => ?_)
        refine lv_iload_n hx hb dX8_press_22 rfl (lv_at hl 0 rfl) ?_
        refine lv_bipush (v := 10) hx hb dX8_press_23 (by decide) ?_
        obtain ⟨hz, hf⟩ := rI_e hf
        refine lv_irem hx hb dX8_press_25 hz ?_
        refine lv_istore (lv' := [(5, .int (r1 - r1 / (10 : Int32) * (10 : Int32))), (3, .int r1), (0, .ref A_t), (1, .int a1), (4, .int l4)]) hx hb dX8_press_26 hl (by decide) rfl (fun ls hl => ?_)
        refine lv_iload_n hx hb dX8_press_28 rfl (lv_at hl 1 rfl) ?_
        obtain ⟨r3, hc4, hf⟩ := bd1_e hf
        refine x_callSI (ws' := [oX8 A_t A_t_rhymes A_t_kind A_t_salt A_t_ink A_t_dread A_t_tries x_t_told x_t_nerve x_t_pictures x_t_written x_t_day x_t_x, iA cI 128 A_t_dread v_t_dread, iA cI 8 A_t_ink v_t_ink, iA cI 8 A_t_salt v_t_salt, iA cI 128 A_t_tries v_t_tries]) (rest := []) C hK hP hD hS hA hl mf_X8_72 (c_X8_followerOf hc4) [] rfl rfl rfl rfl rfl rfl rfl rfl (Nat.le_of_ble_eq_true rfl) ⟨Nat.le_of_ble_eq_true rfl, Nat.le_of_ble_eq_true rfl⟩ ⟨Nat.le_refl _, Nat.le_refl _⟩ dX8_press_29 ?_
        intro H locs hP hD hS
        refine lv_istore_n (lv' := [(3, .int r3), (5, .int (r1 - r1 / (10 : Int32) * (10 : Int32))), (0, .ref A_t), (1, .int a1), (4, .int l4)]) hx hb dX8_press_32 rfl hl (by decide) rfl (fun ls hl => ?_)
        refine lv_aload_n hx hb dX8_press_33 rfl (lv_at hl 2 rfl) ?_
        refine lv_iload_n hx hb dX8_press_34 rfl (lv_at hl 3 rfl) ?_
        refine lv_iload hx hb dX8_press_35 (lv_at hl 4 rfl) ?_
        refine lv_bipush (v := 10) hx hb dX8_press_37 (by decide) ?_
        refine lv_iload hx hb dX8_press_39 (lv_at hl 1 rfl) ?_
        refine lv_imul hx hb dX8_press_41 ?_
        refine lv_iload_n hx hb dX8_press_42 rfl (lv_at hl 0 rfl) ?_
        refine lv_bipush (v := 10) hx hb dX8_press_43 (by decide) ?_
        obtain ⟨hz, hf⟩ := rI_e hf
        refine lv_irem hx hb dX8_press_45 hz ?_
        refine lv_iadd hx hb dX8_press_46 ?_
        obtain ⟨w5, hc6, hf⟩ := bd1_e hf
        refine x_callVV (ws' := [oX8 A_t A_t_rhymes A_t_kind A_t_salt A_t_ink A_t_dread A_t_tries x_t_told x_t_nerve x_t_pictures x_t_written x_t_day x_t_x, iA cI 128 A_t_dread w5, iA cI 8 A_t_ink v_t_ink, iA cI 8 A_t_salt v_t_salt, iA cI 128 A_t_tries v_t_tries]) (rest := []) C hK hP hD hS hA hl mf_X8_68 (c_X8_setDread hc6) [0, 1] 0 8 rfl rfl rfl rfl rfl rfl rfl rfl rfl rfl (Nat.le_of_ble_eq_true rfl) ⟨Nat.le_of_ble_eq_true rfl, Nat.le_of_ble_eq_true rfl⟩ ⟨Nat.le_refl _, Nat.le_refl _⟩ dX8_press_47 ?_
        intro H locs hP hD hS
        refine lv_iinc (v := (l4 + (1 : Int32))) (lv' := [(4, .int (l4 + (1 : Int32))), (3, .int r3), (5, .int (r1 - r1 / (10 : Int32) * (10 : Int32))), (0, .ref A_t), (1, .int a1)]) hx hb dX8_press_50 hl (k := 4) rfl rfl (by decide) rfl (fun ls hl => ?_)
        refine lv_goto (tgt := 10) hx hb dX8_press_53 (by decide) ?_
        exact ih_10 w5 v_t_ink v_t_salt v_t_tries r3 (l4 + (1 : Int32)) _ _ ls (lv_sub hl [3, 4, 1, 0] rfl) hP hD hS hf
  refine lv_aload_n hx hb dX8_press_0 rfl (lv_at hl 0 rfl) ?_
  refine lv_iload_n hx hb dX8_press_1 rfl (lv_at hl 1 rfl) ?_
  obtain ⟨w7, w8, w9, hc10, hf⟩ := bd3_e hf
  refine x_callVV (ws' := [oX8 A_t A_t_rhymes A_t_kind A_t_salt A_t_ink A_t_dread A_t_tries x_t_told x_t_nerve x_t_pictures x_t_written x_t_day x_t_x, iA cI 128 A_t_dread v_t_dread, iA cI 8 A_t_ink w7, iA cI 8 A_t_salt w8, iA cI 128 A_t_tries w9]) (rest := []) C hK hP hD hS hA hl mf_X8_64 (c_X8_cleanse hc10) [0, 2, 3, 4] 0 8 rfl rfl rfl rfl rfl rfl rfl rfl rfl rfl (Nat.le_of_ble_eq_true rfl) ⟨Nat.le_of_ble_eq_true rfl, Nat.le_of_ble_eq_true rfl⟩ ⟨Nat.le_refl _, Nat.le_refl _⟩ dX8_press_2 ?_
  intro H locs hP hD hS
  refine lv_iload_n hx hb dX8_press_5 rfl (lv_at hl 2 rfl) ?_
  refine lv_istore_n (lv' := [(3, .int a2), (0, .ref A_t), (1, .int a1), (2, .int a2)]) hx hb dX8_press_6 rfl hl (by decide) rfl (fun ls hl => ?_)
  refine lv_iconst (v := 0) hx hb dX8_press_7 (by decide) ?_
  refine lv_istore (lv' := [(4, .int (0 : Int32)), (3, .int a2), (0, .ref A_t), (1, .int a1), (2, .int a2)]) hx hb dX8_press_8 hl (by decide) rfl (fun ls hl => ?_)
  exact hb_10 FU v_t_dread w7 w8 w9 a2 (0 : Int32) _ _ ls (lv_sub hl [2, 3, 1, 0] rfl) hP hD hS hf
def f_X8_draw (x_t_x : Int32) : Option (Int32 × Int32) :=
  bd1 (f_X8_followerOf x_t_x) (fun r1 =>
  rI r1 (10 : Int32) (fun g2 =>
  some (g2, r1)))
set_option maxHeartbeats 4000000 in
set_option maxRecDepth 100000 in
theorem c_X8_draw {l : Launch} {D : va_G} {cI cB : ClassId} {A_t A_t_rhymes A_t_kind A_t_salt A_t_ink A_t_dread A_t_tries : Nat} {x_t_told x_t_nerve x_t_pictures x_t_written x_t_day x_t_x : Int32} {o_r o_x_t_x : Int32} (hf : f_X8_draw x_t_x = some (o_r, o_x_t_x)) : CtI l D cI cB yX8_draw cX8_draw 1 (some .int) 1 20 [.ref A_t] [oX8 A_t A_t_rhymes A_t_kind A_t_salt A_t_ink A_t_dread A_t_tries x_t_told x_t_nerve x_t_pictures x_t_written x_t_day x_t_x] [oX8 A_t A_t_rhymes A_t_kind A_t_salt A_t_ink A_t_dread A_t_tries x_t_told x_t_nerve x_t_pictures x_t_written x_t_day o_x_t_x] o_r := by
  refine x_startI (by decide) (Nat.le_of_ble_eq_true rfl) ?_
  intro p e s m below meth c A C hr hlk hA hK hP hD hS ls hl
  have hl : lv_has ls 1 [(0, .ref A_t)] := hl
  have hx := C.1
  have hb := C.2.1
  unfold f_X8_draw at hf
  refine lv_aload_n hx hb dX8_draw_0 rfl (lv_at hl 0 rfl) ?_
  refine lv_aload_n hx hb dX8_draw_1 rfl (lv_at hl 0 rfl) ?_
  refine x_get C hK hP fd_X8_35 0 rfl rfl dX8_draw_2 ?_
  obtain ⟨r1, hc2, hf⟩ := bd1_e hf
  refine x_callSI (ws' := [oX8 A_t A_t_rhymes A_t_kind A_t_salt A_t_ink A_t_dread A_t_tries x_t_told x_t_nerve x_t_pictures x_t_written x_t_day x_t_x]) (rest := [.ref A_t]) C hK hP hD hS hA hl mf_X8_72 (c_X8_followerOf hc2) [] rfl rfl rfl rfl rfl rfl rfl rfl (Nat.le_of_ble_eq_true rfl) ⟨Nat.le_of_ble_eq_true rfl, Nat.le_of_ble_eq_true rfl⟩ ⟨Nat.le_refl _, Nat.le_refl _⟩ dX8_draw_5 ?_
  intro H locs hP hD hS
  refine x_put (ws' := [oX8 A_t A_t_rhymes A_t_kind A_t_salt A_t_ink A_t_dread A_t_tries x_t_told x_t_nerve x_t_pictures x_t_written x_t_day r1]) C hK hP hD hS fp_X8_35 0 rfl rfl rfl (Nat.le_of_ble_eq_true rfl) rfl dX8_draw_8 ?_
  intro H locs hP hD hS
  refine lv_aload_n hx hb dX8_draw_11 rfl (lv_at hl 0 rfl) ?_
  refine x_get C hK hP fd_X8_35 0 rfl rfl dX8_draw_12 ?_
  refine lv_bipush (v := 10) hx hb dX8_draw_15 (by decide) ?_
  obtain ⟨hz, hf⟩ := rI_e hf
  refine lv_irem hx hb dX8_draw_17 hz ?_
  obtain ⟨rfl, rfl⟩ := ev2 hf
  exact x_iret C hr hlk hP hD hS dX8_draw_18
def f_X8_dreadOfAll_b4 (v_t_dread : (Nat → Int32)) (a1 : Int32) : Nat → Int32 → Int32 → Option (Int32)
  | 0, _, _ => none
  | n + 1, l2, l3 =>
    if (16 : Int32) ≤ l3 then
      some l2
    else
      bd1 (f_X8_dreadOf v_t_dread a1 l3) (fun r1 =>
      f_X8_dreadOfAll_b4 v_t_dread a1 n (l2 + r1) (l3 + (1 : Int32)))
def f_X8_dreadOfAll (v_t_dread : (Nat → Int32)) (a1 : Int32) : Option (Int32) :=
  f_X8_dreadOfAll_b4 v_t_dread a1 FU (0 : Int32) (0 : Int32)
set_option maxHeartbeats 4000000 in
set_option maxRecDepth 100000 in
theorem c_X8_dreadOfAll {l : Launch} {D : va_G} {cI cB : ClassId} {A_t A_t_rhymes A_t_kind A_t_salt A_t_ink A_t_dread A_t_tries : Nat} {x_t_told x_t_nerve x_t_pictures x_t_written x_t_day x_t_x a1 : Int32} {v_t_dread : Nat → Int32} {o_r : Int32} (hf : f_X8_dreadOfAll v_t_dread a1 = some o_r) : CtI l D cI cB yX8_dreadOfAll cX8_dreadOfAll 4 (some .int) 1 22 [.ref A_t, .int a1] [oX8 A_t A_t_rhymes A_t_kind A_t_salt A_t_ink A_t_dread A_t_tries x_t_told x_t_nerve x_t_pictures x_t_written x_t_day x_t_x, iA cI 128 A_t_dread v_t_dread] [oX8 A_t A_t_rhymes A_t_kind A_t_salt A_t_ink A_t_dread A_t_tries x_t_told x_t_nerve x_t_pictures x_t_written x_t_day x_t_x, iA cI 128 A_t_dread v_t_dread] o_r := by
  refine x_startI (by decide) (Nat.le_of_ble_eq_true rfl) ?_
  intro p e s m below meth c A C hr hlk hA hK hP hD hS ls hl
  have hl : lv_has ls 4 [(0, .ref A_t), (1, .int a1)] := hl
  have hx := C.1
  have hb := C.2.1
  unfold f_X8_dreadOfAll at hf
  have hb_4 : ∀ (n_4 : Nat) (l2 : Int32) (l3 : Int32) (H : Heap) (locs : List Loc) (ls : Array Slot), lv_has ls 4 [(0, .ref A_t), (1, .int a1), (2, .int l2), (3, .int l3)] → va_P D vwCl [oX8 A_t A_t_rhymes A_t_kind A_t_salt A_t_ink A_t_dread A_t_tries x_t_told x_t_nerve x_t_pictures x_t_written x_t_day x_t_x, iA cI 128 A_t_dread v_t_dread] H → va_D A [oX8 A_t A_t_rhymes A_t_kind A_t_salt A_t_ink A_t_dread A_t_tries x_t_told x_t_nerve x_t_pictures x_t_written x_t_day x_t_x, iA cI 128 A_t_dread v_t_dread] → va_S A s.heap H locs → f_X8_dreadOfAll_b4 v_t_dread a1 n_4 l2 l3 = some o_r → W p l e { frames := 1, cells := 0, slots := 0, locals := 22 } s m ([.ref A_t, .int a1] : List Value).toArray below meth c H locs 0 0 (MQ below (PoI D A [oX8 A_t A_t_rhymes A_t_kind A_t_salt A_t_ink A_t_dread A_t_tries x_t_told x_t_nerve x_t_pictures x_t_written x_t_day x_t_x, iA cI 128 A_t_dread v_t_dread] o_r) ([.ref A_t, .int a1] : List Value).toArray s 0 0 A) (F0 m 4 ls []) := by
    intro n_4
    induction n_4 with
    | zero =>
      intro l2 l3 H locs ls hl hP hD hS hf
      exact absurd hf (fun h => by rw [f_X8_dreadOfAll_b4] at h; cases h)
    | succ n_4 ih_4 =>
      intro l2 l3 H locs ls hl hP hD hS hf
      rw [f_X8_dreadOfAll_b4] at hf
      refine lv_iload_n hx hb dX8_dreadOfAll_4 rfl (lv_at hl 3 rfl) ?_
      refine lv_bipush (v := 16) hx hb dX8_dreadOfAll_5 (by decide) ?_
      refine lv_icmp_ge (tgt := 25) hx hb dX8_dreadOfAll_7 (by decide) (fun q => ?_) (fun q => ?_)
      · have hf := if_t q hf
        refine lv_iload_n hx hb dX8_dreadOfAll_25 rfl (lv_at hl 2 rfl) ?_
        obtain rfl := ev1 hf
        exact x_iret C hr hlk hP hD hS dX8_dreadOfAll_26
      · have hf := if_f q hf
        refine lv_iload_n hx hb dX8_dreadOfAll_10 rfl (lv_at hl 2 rfl) ?_
        refine lv_aload_n hx hb dX8_dreadOfAll_11 rfl (lv_at hl 0 rfl) ?_
        refine lv_iload_n hx hb dX8_dreadOfAll_12 rfl (lv_at hl 1 rfl) ?_
        refine lv_iload_n hx hb dX8_dreadOfAll_13 rfl (lv_at hl 3 rfl) ?_
        obtain ⟨r1, hc2, hf⟩ := bd1_e hf
        refine x_callVI (ws' := [oX8 A_t A_t_rhymes A_t_kind A_t_salt A_t_ink A_t_dread A_t_tries x_t_told x_t_nerve x_t_pictures x_t_written x_t_day x_t_x, iA cI 128 A_t_dread v_t_dread]) (rest := [.int l2]) C hK hP hD hS hA hl mf_X8_76 (c_X8_dreadOf hc2) [0, 1] 0 8 rfl rfl rfl rfl rfl rfl rfl rfl rfl rfl (Nat.le_of_ble_eq_true rfl) ⟨Nat.le_of_ble_eq_true rfl, Nat.le_of_ble_eq_true rfl⟩ ⟨Nat.le_refl _, Nat.le_refl _⟩ dX8_dreadOfAll_14 ?_
        intro H locs hP hD hS
        refine lv_iadd hx hb dX8_dreadOfAll_17 ?_
        refine lv_istore_n (lv' := [(2, .int (l2 + r1)), (0, .ref A_t), (1, .int a1), (3, .int l3)]) hx hb dX8_dreadOfAll_18 rfl hl (by decide) rfl (fun ls hl => ?_)
        refine lv_iinc (v := (l3 + (1 : Int32))) (lv' := [(3, .int (l3 + (1 : Int32))), (2, .int (l2 + r1)), (0, .ref A_t), (1, .int a1)]) hx hb dX8_dreadOfAll_19 hl (k := 3) rfl rfl (by decide) rfl (fun ls hl => ?_)
        refine lv_goto (tgt := 4) hx hb dX8_dreadOfAll_22 (by decide) ?_
        exact ih_4 (l2 + r1) (l3 + (1 : Int32)) _ _ ls (lv_sub hl [2, 3, 1, 0] rfl) hP hD hS hf
  refine lv_iconst (v := 0) hx hb dX8_dreadOfAll_0 (by decide) ?_
  refine lv_istore_n (lv' := [(2, .int (0 : Int32)), (0, .ref A_t), (1, .int a1)]) hx hb dX8_dreadOfAll_1 rfl hl (by decide) rfl (fun ls hl => ?_)
  refine lv_iconst (v := 0) hx hb dX8_dreadOfAll_2 (by decide) ?_
  refine lv_istore_n (lv' := [(3, .int (0 : Int32)), (2, .int (0 : Int32)), (0, .ref A_t), (1, .int a1)]) hx hb dX8_dreadOfAll_3 rfl hl (by decide) rfl (fun ls hl => ?_)
  exact hb_4 FU (0 : Int32) (0 : Int32) _ _ ls (lv_sub hl [2, 3, 1, 0] rfl) hP hD hS hf
def f_X8_unsalted (v_t_dread : (Nat → Int32)) (v_t_kind : (Nat → Int32)) (v_t_rhymes_other : (Nat → Int32)) (a1 : Int32) (a2 : Int32) : Option (Int32) :=
  bd1 (f_X8_kindOf v_t_kind a1) (fun r1 =>
  if r1 = (0 : Int32) then
    bd1 (f_X8_dreadOf v_t_dread a1 a2) (fun r2 =>
    some r2)
  else
  if r1 = (1 : Int32) then
    bd1 (f_X8_dreadOf v_t_dread a1 a2) (fun r3 =>
    some ((2 : Int32) * r3))
  else
  if r1 = (2 : Int32) then
    bd1 (f_X8_dreadOf v_t_dread a1 a2) (fun r4 =>
    dI r4 (2 : Int32) (fun g5 =>
    some g5))
  else
  if r1 = (3 : Int32) then
    some (0 : Int32)
  else
    bd1 (f_X8_dreadOf v_t_dread a1 a2) (fun r6 =>
    bd1 (f_X4_of v_t_rhymes_other a2) (fun r7 =>
    bd1 (f_X8_dreadOf v_t_dread a1 r7) (fun r8 =>
    dI ((r6 + r8) + (1 : Int32)) (2 : Int32) (fun g9 =>
    some g9)))))
set_option maxHeartbeats 4000000 in
set_option maxRecDepth 100000 in
theorem c_X8_unsalted {l : Launch} {D : va_G} {cI cB : ClassId} {A_t A_t_rhymes A_t_kind A_t_salt A_t_ink A_t_dread A_t_tries A_t_rhymes_other : Nat} {x_t_told x_t_nerve x_t_pictures x_t_written x_t_day x_t_x a1 a2 : Int32} {v_t_dread v_t_kind v_t_rhymes_other : Nat → Int32} {o_r : Int32} (hf : f_X8_unsalted v_t_dread v_t_kind v_t_rhymes_other a1 a2 = some o_r) : CtI l D cI cB yX8_unsalted cX8_unsalted 3 (some .int) 1 22 [.ref A_t, .int a1, .int a2] [oX8 A_t A_t_rhymes A_t_kind A_t_salt A_t_ink A_t_dread A_t_tries x_t_told x_t_nerve x_t_pictures x_t_written x_t_day x_t_x, iA cI 128 A_t_dread v_t_dread, iA cI 8 A_t_kind v_t_kind, oX4 A_t_rhymes A_t_rhymes_other, iA cI 16 A_t_rhymes_other v_t_rhymes_other] [oX8 A_t A_t_rhymes A_t_kind A_t_salt A_t_ink A_t_dread A_t_tries x_t_told x_t_nerve x_t_pictures x_t_written x_t_day x_t_x, iA cI 128 A_t_dread v_t_dread, iA cI 8 A_t_kind v_t_kind, oX4 A_t_rhymes A_t_rhymes_other, iA cI 16 A_t_rhymes_other v_t_rhymes_other] o_r := by
  refine x_startI (by decide) (Nat.le_of_ble_eq_true rfl) ?_
  intro p e s m below meth c A C hr hlk hA hK hP hD hS ls hl
  have hl : lv_has ls 3 [(0, .ref A_t), (1, .int a1), (2, .int a2)] := hl
  have hx := C.1
  have hb := C.2.1
  unfold f_X8_unsalted at hf
  refine lv_aload_n hx hb dX8_unsalted_0 rfl (lv_at hl 0 rfl) ?_
  refine lv_iload_n hx hb dX8_unsalted_1 rfl (lv_at hl 1 rfl) ?_
  obtain ⟨r1, hc2, hf⟩ := bd1_e hf
  refine x_callVI (ws' := [oX8 A_t A_t_rhymes A_t_kind A_t_salt A_t_ink A_t_dread A_t_tries x_t_told x_t_nerve x_t_pictures x_t_written x_t_day x_t_x, iA cI 128 A_t_dread v_t_dread, iA cI 8 A_t_kind v_t_kind, oX4 A_t_rhymes A_t_rhymes_other, iA cI 16 A_t_rhymes_other v_t_rhymes_other]) (rest := []) C hK hP hD hS hA hl mf_X8_131 (c_X8_kindOf hc2) [0, 2] 0 8 rfl rfl rfl rfl rfl rfl rfl rfl rfl rfl (Nat.le_of_ble_eq_true rfl) ⟨Nat.le_of_ble_eq_true rfl, Nat.le_of_ble_eq_true rfl⟩ ⟨Nat.le_refl _, Nat.le_refl _⟩ dX8_unsalted_2 ?_
  intro H locs hP hD hS
  by_cases q_0 : r1 = (0 : Int32)
  · have hf := if_t q_0 hf
    refine lv_tableIn (tgt := 36) hx hb dX8_unsalted_5 (by rw [q_0]; decide) (by rw [q_0]; decide) (by rw [q_0]; rfl) (by decide) ?_
    refine lv_aload_n hx hb dX8_unsalted_36 rfl (lv_at hl 0 rfl) ?_
    refine lv_iload_n hx hb dX8_unsalted_37 rfl (lv_at hl 1 rfl) ?_
    refine lv_iload_n hx hb dX8_unsalted_38 rfl (lv_at hl 2 rfl) ?_
    obtain ⟨r3, hc4, hf⟩ := bd1_e hf
    refine x_callVI (ws' := [oX8 A_t A_t_rhymes A_t_kind A_t_salt A_t_ink A_t_dread A_t_tries x_t_told x_t_nerve x_t_pictures x_t_written x_t_day x_t_x, iA cI 128 A_t_dread v_t_dread, iA cI 8 A_t_kind v_t_kind, oX4 A_t_rhymes A_t_rhymes_other, iA cI 16 A_t_rhymes_other v_t_rhymes_other]) (rest := []) C hK hP hD hS hA hl mf_X8_76 (c_X8_dreadOf hc4) [0, 1] 0 8 rfl rfl rfl rfl rfl rfl rfl rfl rfl rfl (Nat.le_of_ble_eq_true rfl) ⟨Nat.le_of_ble_eq_true rfl, Nat.le_of_ble_eq_true rfl⟩ ⟨Nat.le_refl _, Nat.le_refl _⟩ dX8_unsalted_39 ?_
    intro H locs hP hD hS
    obtain rfl := ev1 hf
    exact x_iret C hr hlk hP hD hS dX8_unsalted_42
  have hf := if_f q_0 hf
  by_cases q_1 : r1 = (1 : Int32)
  · have hf := if_t q_1 hf
    refine lv_tableIn (tgt := 43) hx hb dX8_unsalted_5 (by rw [q_1]; decide) (by rw [q_1]; decide) (by rw [q_1]; rfl) (by decide) ?_
    refine lv_iconst (v := 2) hx hb dX8_unsalted_43 (by decide) ?_
    refine lv_aload_n hx hb dX8_unsalted_44 rfl (lv_at hl 0 rfl) ?_
    refine lv_iload_n hx hb dX8_unsalted_45 rfl (lv_at hl 1 rfl) ?_
    refine lv_iload_n hx hb dX8_unsalted_46 rfl (lv_at hl 2 rfl) ?_
    obtain ⟨r5, hc6, hf⟩ := bd1_e hf
    refine x_callVI (ws' := [oX8 A_t A_t_rhymes A_t_kind A_t_salt A_t_ink A_t_dread A_t_tries x_t_told x_t_nerve x_t_pictures x_t_written x_t_day x_t_x, iA cI 128 A_t_dread v_t_dread, iA cI 8 A_t_kind v_t_kind, oX4 A_t_rhymes A_t_rhymes_other, iA cI 16 A_t_rhymes_other v_t_rhymes_other]) (rest := [.int (2 : Int32)]) C hK hP hD hS hA hl mf_X8_76 (c_X8_dreadOf hc6) [0, 1] 0 8 rfl rfl rfl rfl rfl rfl rfl rfl rfl rfl (Nat.le_of_ble_eq_true rfl) ⟨Nat.le_of_ble_eq_true rfl, Nat.le_of_ble_eq_true rfl⟩ ⟨Nat.le_refl _, Nat.le_refl _⟩ dX8_unsalted_47 ?_
    intro H locs hP hD hS
    refine lv_imul hx hb dX8_unsalted_50 ?_
    obtain rfl := ev1 hf
    exact x_iret C hr hlk hP hD hS dX8_unsalted_51
  have hf := if_f q_1 hf
  by_cases q_2 : r1 = (2 : Int32)
  · have hf := if_t q_2 hf
    refine lv_tableIn (tgt := 52) hx hb dX8_unsalted_5 (by rw [q_2]; decide) (by rw [q_2]; decide) (by rw [q_2]; rfl) (by decide) ?_
    refine lv_aload_n hx hb dX8_unsalted_52 rfl (lv_at hl 0 rfl) ?_
    refine lv_iload_n hx hb dX8_unsalted_53 rfl (lv_at hl 1 rfl) ?_
    refine lv_iload_n hx hb dX8_unsalted_54 rfl (lv_at hl 2 rfl) ?_
    obtain ⟨r7, hc8, hf⟩ := bd1_e hf
    refine x_callVI (ws' := [oX8 A_t A_t_rhymes A_t_kind A_t_salt A_t_ink A_t_dread A_t_tries x_t_told x_t_nerve x_t_pictures x_t_written x_t_day x_t_x, iA cI 128 A_t_dread v_t_dread, iA cI 8 A_t_kind v_t_kind, oX4 A_t_rhymes A_t_rhymes_other, iA cI 16 A_t_rhymes_other v_t_rhymes_other]) (rest := []) C hK hP hD hS hA hl mf_X8_76 (c_X8_dreadOf hc8) [0, 1] 0 8 rfl rfl rfl rfl rfl rfl rfl rfl rfl rfl (Nat.le_of_ble_eq_true rfl) ⟨Nat.le_of_ble_eq_true rfl, Nat.le_of_ble_eq_true rfl⟩ ⟨Nat.le_refl _, Nat.le_refl _⟩ dX8_unsalted_55 ?_
    intro H locs hP hD hS
    refine lv_iconst (v := 2) hx hb dX8_unsalted_58 (by decide) ?_
    obtain ⟨hz, hf⟩ := dI_e hf
    refine lv_idiv hx hb dX8_unsalted_59 hz ?_
    obtain rfl := ev1 hf
    exact x_iret C hr hlk hP hD hS dX8_unsalted_60
  have hf := if_f q_2 hf
  by_cases q_3 : r1 = (3 : Int32)
  · have hf := if_t q_3 hf
    refine lv_tableIn (tgt := 61) hx hb dX8_unsalted_5 (by rw [q_3]; decide) (by rw [q_3]; decide) (by rw [q_3]; rfl) (by decide) ?_
    refine lv_iconst (v := 0) hx hb dX8_unsalted_61 (by decide) ?_
    obtain rfl := ev1 hf
    exact x_iret C hr hlk hP hD hS dX8_unsalted_62
  have hf := if_f q_3 hf
  have eq_0 : r1.toInt ≠ 0 := fun h => q_0 (Int32.toInt_inj.mp (h.trans (by decide)))
  have eq_1 : r1.toInt ≠ 1 := fun h => q_1 (Int32.toInt_inj.mp (h.trans (by decide)))
  have eq_2 : r1.toInt ≠ 2 := fun h => q_2 (Int32.toInt_inj.mp (h.trans (by decide)))
  have eq_3 : r1.toInt ≠ 3 := fun h => q_3 (Int32.toInt_inj.mp (h.trans (by decide)))
  refine lv_tableOut (tgt := 63) hx hb dX8_unsalted_5 (by omega) (by decide) ?_
  refine lv_aload_n hx hb dX8_unsalted_63 rfl (lv_at hl 0 rfl) ?_
  refine lv_iload_n hx hb dX8_unsalted_64 rfl (lv_at hl 1 rfl) ?_
  refine lv_iload_n hx hb dX8_unsalted_65 rfl (lv_at hl 2 rfl) ?_
  obtain ⟨r9, hc10, hf⟩ := bd1_e hf
  refine x_callVI (ws' := [oX8 A_t A_t_rhymes A_t_kind A_t_salt A_t_ink A_t_dread A_t_tries x_t_told x_t_nerve x_t_pictures x_t_written x_t_day x_t_x, iA cI 128 A_t_dread v_t_dread, iA cI 8 A_t_kind v_t_kind, oX4 A_t_rhymes A_t_rhymes_other, iA cI 16 A_t_rhymes_other v_t_rhymes_other]) (rest := []) C hK hP hD hS hA hl mf_X8_76 (c_X8_dreadOf hc10) [0, 1] 0 8 rfl rfl rfl rfl rfl rfl rfl rfl rfl rfl (Nat.le_of_ble_eq_true rfl) ⟨Nat.le_of_ble_eq_true rfl, Nat.le_of_ble_eq_true rfl⟩ ⟨Nat.le_refl _, Nat.le_refl _⟩ dX8_unsalted_66 ?_
  intro H locs hP hD hS
  refine lv_aload_n hx hb dX8_unsalted_69 rfl (lv_at hl 0 rfl) ?_
  refine lv_iload_n hx hb dX8_unsalted_70 rfl (lv_at hl 1 rfl) ?_
  refine lv_aload_n hx hb dX8_unsalted_71 rfl (lv_at hl 0 rfl) ?_
  refine x_get C hK hP fd_X8_27 0 rfl rfl dX8_unsalted_72 ?_
  refine lv_iload_n hx hb dX8_unsalted_75 rfl (lv_at hl 2 rfl) ?_
  obtain ⟨r11, hc12, hf⟩ := bd1_e hf
  refine x_callVI (ws' := [oX8 A_t A_t_rhymes A_t_kind A_t_salt A_t_ink A_t_dread A_t_tries x_t_told x_t_nerve x_t_pictures x_t_written x_t_day x_t_x, iA cI 128 A_t_dread v_t_dread, iA cI 8 A_t_kind v_t_kind, oX4 A_t_rhymes A_t_rhymes_other, iA cI 16 A_t_rhymes_other v_t_rhymes_other]) (rest := [.int a1, .ref A_t, .int r9]) C hK hP hD hS hA hl mf_X8_123 (c_X4_of hc12) [3, 4] 0 4 rfl rfl rfl rfl rfl rfl rfl rfl rfl rfl (Nat.le_of_ble_eq_true rfl) ⟨Nat.le_of_ble_eq_true rfl, Nat.le_of_ble_eq_true rfl⟩ ⟨Nat.le_refl _, Nat.le_refl _⟩ dX8_unsalted_76 ?_
  intro H locs hP hD hS
  obtain ⟨r13, hc14, hf⟩ := bd1_e hf
  refine x_callVI (ws' := [oX8 A_t A_t_rhymes A_t_kind A_t_salt A_t_ink A_t_dread A_t_tries x_t_told x_t_nerve x_t_pictures x_t_written x_t_day x_t_x, iA cI 128 A_t_dread v_t_dread, iA cI 8 A_t_kind v_t_kind, oX4 A_t_rhymes A_t_rhymes_other, iA cI 16 A_t_rhymes_other v_t_rhymes_other]) (rest := [.int r9]) C hK hP hD hS hA hl mf_X8_76 (c_X8_dreadOf hc14) [0, 1] 0 8 rfl rfl rfl rfl rfl rfl rfl rfl rfl rfl (Nat.le_of_ble_eq_true rfl) ⟨Nat.le_of_ble_eq_true rfl, Nat.le_of_ble_eq_true rfl⟩ ⟨Nat.le_refl _, Nat.le_refl _⟩ dX8_unsalted_79 ?_
  intro H locs hP hD hS
  refine lv_iadd hx hb dX8_unsalted_82 ?_
  refine lv_iconst (v := 1) hx hb dX8_unsalted_83 (by decide) ?_
  refine lv_iadd hx hb dX8_unsalted_84 ?_
  refine lv_iconst (v := 2) hx hb dX8_unsalted_85 (by decide) ?_
  obtain ⟨hz, hf⟩ := dI_e hf
  refine lv_idiv hx hb dX8_unsalted_86 hz ?_
  obtain rfl := ev1 hf
  exact x_iret C hr hlk hP hD hS dX8_unsalted_87
def f_X8_shrinking (v_t_dread : (Nat → Int32)) (v_t_kind : (Nat → Int32)) (v_t_rhymes_other : (Nat → Int32)) (v_t_salt : (Nat → Int32)) (a1 : Int32) (a2 : Int32) : Option (Int32) :=
  bd1 (f_X8_unsalted v_t_dread v_t_kind v_t_rhymes_other a1 a2) (fun r1 =>
  bd1 (f_X8_saltOf v_t_salt a1) (fun r2 =>
  bd1 (f_X11_bounded (r1 - r2) (99 : Int32)) (fun r3 =>
  some r3)))
set_option maxHeartbeats 4000000 in
set_option maxRecDepth 100000 in
theorem c_X8_shrinking {l : Launch} {D : va_G} {cI cB : ClassId} {A_t A_t_rhymes A_t_kind A_t_salt A_t_ink A_t_dread A_t_tries A_t_rhymes_other : Nat} {x_t_told x_t_nerve x_t_pictures x_t_written x_t_day x_t_x a1 a2 : Int32} {v_t_dread v_t_kind v_t_rhymes_other v_t_salt : Nat → Int32} {o_r : Int32} (hf : f_X8_shrinking v_t_dread v_t_kind v_t_rhymes_other v_t_salt a1 a2 = some o_r) : CtI l D cI cB yX8_shrinking cX8_shrinking 3 (some .int) 2 44 [.ref A_t, .int a1, .int a2] [oX8 A_t A_t_rhymes A_t_kind A_t_salt A_t_ink A_t_dread A_t_tries x_t_told x_t_nerve x_t_pictures x_t_written x_t_day x_t_x, iA cI 128 A_t_dread v_t_dread, iA cI 8 A_t_kind v_t_kind, oX4 A_t_rhymes A_t_rhymes_other, iA cI 16 A_t_rhymes_other v_t_rhymes_other, iA cI 8 A_t_salt v_t_salt] [oX8 A_t A_t_rhymes A_t_kind A_t_salt A_t_ink A_t_dread A_t_tries x_t_told x_t_nerve x_t_pictures x_t_written x_t_day x_t_x, iA cI 128 A_t_dread v_t_dread, iA cI 8 A_t_kind v_t_kind, oX4 A_t_rhymes A_t_rhymes_other, iA cI 16 A_t_rhymes_other v_t_rhymes_other, iA cI 8 A_t_salt v_t_salt] o_r := by
  refine x_startI (by decide) (Nat.le_of_ble_eq_true rfl) ?_
  intro p e s m below meth c A C hr hlk hA hK hP hD hS ls hl
  have hl : lv_has ls 3 [(0, .ref A_t), (1, .int a1), (2, .int a2)] := hl
  have hx := C.1
  have hb := C.2.1
  unfold f_X8_shrinking at hf
  refine lv_aload_n hx hb dX8_shrinking_0 rfl (lv_at hl 0 rfl) ?_
  refine lv_iload_n hx hb dX8_shrinking_1 rfl (lv_at hl 1 rfl) ?_
  refine lv_iload_n hx hb dX8_shrinking_2 rfl (lv_at hl 2 rfl) ?_
  obtain ⟨r1, hc2, hf⟩ := bd1_e hf
  refine x_callVI (ws' := [oX8 A_t A_t_rhymes A_t_kind A_t_salt A_t_ink A_t_dread A_t_tries x_t_told x_t_nerve x_t_pictures x_t_written x_t_day x_t_x, iA cI 128 A_t_dread v_t_dread, iA cI 8 A_t_kind v_t_kind, oX4 A_t_rhymes A_t_rhymes_other, iA cI 16 A_t_rhymes_other v_t_rhymes_other, iA cI 8 A_t_salt v_t_salt]) (rest := []) C hK hP hD hS hA hl mf_X8_79 (c_X8_unsalted hc2) [0, 1, 2, 3, 4] 0 8 rfl rfl rfl rfl rfl rfl rfl rfl rfl rfl (Nat.le_of_ble_eq_true rfl) ⟨Nat.le_of_ble_eq_true rfl, Nat.le_of_ble_eq_true rfl⟩ ⟨Nat.le_refl _, Nat.le_refl _⟩ dX8_shrinking_3 ?_
  intro H locs hP hD hS
  refine lv_aload_n hx hb dX8_shrinking_6 rfl (lv_at hl 0 rfl) ?_
  refine lv_iload_n hx hb dX8_shrinking_7 rfl (lv_at hl 1 rfl) ?_
  obtain ⟨r3, hc4, hf⟩ := bd1_e hf
  refine x_callVI (ws' := [oX8 A_t A_t_rhymes A_t_kind A_t_salt A_t_ink A_t_dread A_t_tries x_t_told x_t_nerve x_t_pictures x_t_written x_t_day x_t_x, iA cI 128 A_t_dread v_t_dread, iA cI 8 A_t_kind v_t_kind, oX4 A_t_rhymes A_t_rhymes_other, iA cI 16 A_t_rhymes_other v_t_rhymes_other, iA cI 8 A_t_salt v_t_salt]) (rest := [.int r1]) C hK hP hD hS hA hl mf_X8_82 (c_X8_saltOf hc4) [0, 5] 0 8 rfl rfl rfl rfl rfl rfl rfl rfl rfl rfl (Nat.le_of_ble_eq_true rfl) ⟨Nat.le_of_ble_eq_true rfl, Nat.le_of_ble_eq_true rfl⟩ ⟨Nat.le_refl _, Nat.le_refl _⟩ dX8_shrinking_8 ?_
  intro H locs hP hD hS
  refine lv_isub hx hb dX8_shrinking_11 ?_
  refine lv_bipush (v := 99) hx hb dX8_shrinking_12 (by decide) ?_
  obtain ⟨r5, hc6, hf⟩ := bd1_e hf
  refine x_callSI (ws' := [oX8 A_t A_t_rhymes A_t_kind A_t_salt A_t_ink A_t_dread A_t_tries x_t_told x_t_nerve x_t_pictures x_t_written x_t_day x_t_x, iA cI 128 A_t_dread v_t_dread, iA cI 8 A_t_kind v_t_kind, oX4 A_t_rhymes A_t_rhymes_other, iA cI 16 A_t_rhymes_other v_t_rhymes_other, iA cI 8 A_t_salt v_t_salt]) (rest := []) C hK hP hD hS hA hl mf_X8_56 (c_X11_bounded hc6) [] rfl rfl rfl rfl rfl rfl rfl rfl (Nat.le_of_ble_eq_true rfl) ⟨Nat.le_of_ble_eq_true rfl, Nat.le_of_ble_eq_true rfl⟩ ⟨Nat.le_refl _, Nat.le_refl _⟩ dX8_shrinking_14 ?_
  intro H locs hP hD hS
  obtain rfl := ev1 hf
  exact x_iret C hr hlk hP hD hS dX8_shrinking_17
def f_X8_bears_b18 (s0 : Int32) : Option (Int32) :=
  zI s0 (some s0)
def f_X8_bears (v_t_dread : (Nat → Int32)) (v_t_kind : (Nat → Int32)) (v_t_rhymes_other : (Nat → Int32)) (v_t_salt : (Nat → Int32)) (x_t_nerve : Int32) (a1 : Int32) (a2 : Int32) : Option (Int32) :=
  bd1 (f_X8_shrinking v_t_dread v_t_kind v_t_rhymes_other v_t_salt a1 a2) (fun r1 =>
  if x_t_nerve < r1 then
    f_X8_bears_b18 (0 : Int32)
  else
    f_X8_bears_b18 (1 : Int32))
set_option maxHeartbeats 4000000 in
set_option maxRecDepth 100000 in
theorem c_X8_bears {l : Launch} {D : va_G} {cI cB : ClassId} {A_t A_t_rhymes A_t_kind A_t_salt A_t_ink A_t_dread A_t_tries A_t_rhymes_other : Nat} {x_t_told x_t_nerve x_t_pictures x_t_written x_t_day x_t_x a1 a2 : Int32} {v_t_dread v_t_kind v_t_rhymes_other v_t_salt : Nat → Int32} {o_r : Int32} (hf : f_X8_bears v_t_dread v_t_kind v_t_rhymes_other v_t_salt x_t_nerve a1 a2 = some o_r) : CtI l D cI cB yX8_bears cX8_bears 3 (some .boolean) 3 66 [.ref A_t, .int a1, .int a2] [oX8 A_t A_t_rhymes A_t_kind A_t_salt A_t_ink A_t_dread A_t_tries x_t_told x_t_nerve x_t_pictures x_t_written x_t_day x_t_x, iA cI 128 A_t_dread v_t_dread, iA cI 8 A_t_kind v_t_kind, oX4 A_t_rhymes A_t_rhymes_other, iA cI 16 A_t_rhymes_other v_t_rhymes_other, iA cI 8 A_t_salt v_t_salt] [oX8 A_t A_t_rhymes A_t_kind A_t_salt A_t_ink A_t_dread A_t_tries x_t_told x_t_nerve x_t_pictures x_t_written x_t_day x_t_x, iA cI 128 A_t_dread v_t_dread, iA cI 8 A_t_kind v_t_kind, oX4 A_t_rhymes A_t_rhymes_other, iA cI 16 A_t_rhymes_other v_t_rhymes_other, iA cI 8 A_t_salt v_t_salt] o_r := by
  refine x_startI (by decide) (Nat.le_of_ble_eq_true rfl) ?_
  intro p e s m below meth c A C hr hlk hA hK hP hD hS ls hl
  have hl : lv_has ls 3 [(0, .ref A_t), (1, .int a1), (2, .int a2)] := hl
  have hx := C.1
  have hb := C.2.1
  unfold f_X8_bears at hf
  have hb_18 : ∀ (s0 : Int32) (H : Heap) (locs : List Loc) (ls : Array Slot), lv_has ls 3 [] → va_P D vwCl [oX8 A_t A_t_rhymes A_t_kind A_t_salt A_t_ink A_t_dread A_t_tries x_t_told x_t_nerve x_t_pictures x_t_written x_t_day x_t_x, iA cI 128 A_t_dread v_t_dread, iA cI 8 A_t_kind v_t_kind, oX4 A_t_rhymes A_t_rhymes_other, iA cI 16 A_t_rhymes_other v_t_rhymes_other, iA cI 8 A_t_salt v_t_salt] H → va_D A [oX8 A_t A_t_rhymes A_t_kind A_t_salt A_t_ink A_t_dread A_t_tries x_t_told x_t_nerve x_t_pictures x_t_written x_t_day x_t_x, iA cI 128 A_t_dread v_t_dread, iA cI 8 A_t_kind v_t_kind, oX4 A_t_rhymes A_t_rhymes_other, iA cI 16 A_t_rhymes_other v_t_rhymes_other, iA cI 8 A_t_salt v_t_salt] → va_S A s.heap H locs → f_X8_bears_b18 s0 = some o_r → W p l e { frames := 3, cells := 0, slots := 0, locals := 66 } s m ([.ref A_t, .int a1, .int a2] : List Value).toArray below meth c H locs 0 0 (MQ below (PoI D A [oX8 A_t A_t_rhymes A_t_kind A_t_salt A_t_ink A_t_dread A_t_tries x_t_told x_t_nerve x_t_pictures x_t_written x_t_day x_t_x, iA cI 128 A_t_dread v_t_dread, iA cI 8 A_t_kind v_t_kind, oX4 A_t_rhymes A_t_rhymes_other, iA cI 16 A_t_rhymes_other v_t_rhymes_other, iA cI 8 A_t_salt v_t_salt] o_r) ([.ref A_t, .int a1, .int a2] : List Value).toArray s 0 0 A) (F0 m 18 ls [.int s0]) := by
    intro s0 H locs ls hl hP hD hS hf
    unfold f_X8_bears_b18 at hf
    obtain ⟨hz, hf⟩ := zI_e hf
    obtain rfl := ev1 hf
    exact x_zret C hr hlk hz hP hD hS dX8_bears_18
  refine lv_aload_n hx hb dX8_bears_0 rfl (lv_at hl 0 rfl) ?_
  refine lv_iload_n hx hb dX8_bears_1 rfl (lv_at hl 1 rfl) ?_
  refine lv_iload_n hx hb dX8_bears_2 rfl (lv_at hl 2 rfl) ?_
  obtain ⟨r1, hc2, hf⟩ := bd1_e hf
  refine x_callVI (ws' := [oX8 A_t A_t_rhymes A_t_kind A_t_salt A_t_ink A_t_dread A_t_tries x_t_told x_t_nerve x_t_pictures x_t_written x_t_day x_t_x, iA cI 128 A_t_dread v_t_dread, iA cI 8 A_t_kind v_t_kind, oX4 A_t_rhymes A_t_rhymes_other, iA cI 16 A_t_rhymes_other v_t_rhymes_other, iA cI 8 A_t_salt v_t_salt]) (rest := []) C hK hP hD hS hA hl mf_X8_85 (c_X8_shrinking hc2) [0, 1, 2, 3, 4, 5] 0 8 rfl rfl rfl rfl rfl rfl rfl rfl rfl rfl (Nat.le_of_ble_eq_true rfl) ⟨Nat.le_of_ble_eq_true rfl, Nat.le_of_ble_eq_true rfl⟩ ⟨Nat.le_refl _, Nat.le_refl _⟩ dX8_bears_3 ?_
  intro H locs hP hD hS
  refine lv_aload_n hx hb dX8_bears_6 rfl (lv_at hl 0 rfl) ?_
  refine x_get C hK hP fd_X8_31 0 rfl rfl dX8_bears_7 ?_
  refine lv_icmp_gt (tgt := 17) hx hb dX8_bears_10 (by decide) (fun q => ?_) (fun q => ?_)
  · have hf := if_t q hf
    refine lv_iconst (v := 0) hx hb dX8_bears_17 (by decide) ?_
    exact hb_18 (0 : Int32) _ _ ls (lv_sub hl [] rfl) hP hD hS hf
  · have hf := if_f q hf
    refine lv_iconst (v := 1) hx hb dX8_bears_13 (by decide) ?_
    refine lv_goto (tgt := 18) hx hb dX8_bears_14 (by decide) ?_
    exact hb_18 (1 : Int32) _ _ ls (lv_sub hl [] rfl) hP hD hS hf
def f_X8_wordsBorneBy_b27 (a1 : Int32) (k4 : Int32 → Int32 → Option (Int32)) (s0 : Int32) (s1 : Int32) (l3 : Int32) : Option (Int32) :=
  k4 (s0 ||| s1) (l3 + (1 : Int32))
def f_X8_wordsBorneBy_b4 (v_t_dread : (Nat → Int32)) (v_t_kind : (Nat → Int32)) (v_t_rhymes_other : (Nat → Int32)) (v_t_salt : (Nat → Int32)) (x_t_nerve : Int32) (a1 : Int32) : Nat → Int32 → Int32 → Option (Int32)
  | 0, _, _ => none
  | n + 1, l2, l3 =>
    if (16 : Int32) ≤ l3 then
      some l2
    else
      bd1 (f_X8_bears v_t_dread v_t_kind v_t_rhymes_other v_t_salt x_t_nerve a1 l3) (fun r1 =>
      if r1 = 0 then
        f_X8_wordsBorneBy_b27 a1 (f_X8_wordsBorneBy_b4 v_t_dread v_t_kind v_t_rhymes_other v_t_salt x_t_nerve a1 n) l2 (0 : Int32) l3
      else
        f_X8_wordsBorneBy_b27 a1 (f_X8_wordsBorneBy_b4 v_t_dread v_t_kind v_t_rhymes_other v_t_salt x_t_nerve a1 n) l2 ((1 : Int32) <<< (l3 &&& 31)) l3)
def f_X8_wordsBorneBy (v_t_dread : (Nat → Int32)) (v_t_kind : (Nat → Int32)) (v_t_rhymes_other : (Nat → Int32)) (v_t_salt : (Nat → Int32)) (x_t_nerve : Int32) (a1 : Int32) : Option (Int32) :=
  f_X8_wordsBorneBy_b4 v_t_dread v_t_kind v_t_rhymes_other v_t_salt x_t_nerve a1 FU (0 : Int32) (0 : Int32)
set_option maxHeartbeats 4000000 in
set_option maxRecDepth 100000 in
theorem c_X8_wordsBorneBy {l : Launch} {D : va_G} {cI cB : ClassId} {A_t A_t_rhymes A_t_kind A_t_salt A_t_ink A_t_dread A_t_tries A_t_rhymes_other : Nat} {x_t_told x_t_nerve x_t_pictures x_t_written x_t_day x_t_x a1 : Int32} {v_t_dread v_t_kind v_t_rhymes_other v_t_salt : Nat → Int32} {o_r : Int32} (hf : f_X8_wordsBorneBy v_t_dread v_t_kind v_t_rhymes_other v_t_salt x_t_nerve a1 = some o_r) : CtI l D cI cB yX8_wordsBorneBy cX8_wordsBorneBy 4 (some .int) 4 88 [.ref A_t, .int a1] [oX8 A_t A_t_rhymes A_t_kind A_t_salt A_t_ink A_t_dread A_t_tries x_t_told x_t_nerve x_t_pictures x_t_written x_t_day x_t_x, iA cI 128 A_t_dread v_t_dread, iA cI 8 A_t_kind v_t_kind, oX4 A_t_rhymes A_t_rhymes_other, iA cI 16 A_t_rhymes_other v_t_rhymes_other, iA cI 8 A_t_salt v_t_salt] [oX8 A_t A_t_rhymes A_t_kind A_t_salt A_t_ink A_t_dread A_t_tries x_t_told x_t_nerve x_t_pictures x_t_written x_t_day x_t_x, iA cI 128 A_t_dread v_t_dread, iA cI 8 A_t_kind v_t_kind, oX4 A_t_rhymes A_t_rhymes_other, iA cI 16 A_t_rhymes_other v_t_rhymes_other, iA cI 8 A_t_salt v_t_salt] o_r := by
  refine x_startI (by decide) (Nat.le_of_ble_eq_true rfl) ?_
  intro p e s m below meth c A C hr hlk hA hK hP hD hS ls hl
  have hl : lv_has ls 4 [(0, .ref A_t), (1, .int a1)] := hl
  have hx := C.1
  have hb := C.2.1
  unfold f_X8_wordsBorneBy at hf
  have hb_4 : ∀ (n_4 : Nat) (l2 : Int32) (l3 : Int32) (H : Heap) (locs : List Loc) (ls : Array Slot), lv_has ls 4 [(0, .ref A_t), (1, .int a1), (2, .int l2), (3, .int l3)] → va_P D vwCl [oX8 A_t A_t_rhymes A_t_kind A_t_salt A_t_ink A_t_dread A_t_tries x_t_told x_t_nerve x_t_pictures x_t_written x_t_day x_t_x, iA cI 128 A_t_dread v_t_dread, iA cI 8 A_t_kind v_t_kind, oX4 A_t_rhymes A_t_rhymes_other, iA cI 16 A_t_rhymes_other v_t_rhymes_other, iA cI 8 A_t_salt v_t_salt] H → va_D A [oX8 A_t A_t_rhymes A_t_kind A_t_salt A_t_ink A_t_dread A_t_tries x_t_told x_t_nerve x_t_pictures x_t_written x_t_day x_t_x, iA cI 128 A_t_dread v_t_dread, iA cI 8 A_t_kind v_t_kind, oX4 A_t_rhymes A_t_rhymes_other, iA cI 16 A_t_rhymes_other v_t_rhymes_other, iA cI 8 A_t_salt v_t_salt] → va_S A s.heap H locs → f_X8_wordsBorneBy_b4 v_t_dread v_t_kind v_t_rhymes_other v_t_salt x_t_nerve a1 n_4 l2 l3 = some o_r → W p l e { frames := 4, cells := 0, slots := 0, locals := 88 } s m ([.ref A_t, .int a1] : List Value).toArray below meth c H locs 0 0 (MQ below (PoI D A [oX8 A_t A_t_rhymes A_t_kind A_t_salt A_t_ink A_t_dread A_t_tries x_t_told x_t_nerve x_t_pictures x_t_written x_t_day x_t_x, iA cI 128 A_t_dread v_t_dread, iA cI 8 A_t_kind v_t_kind, oX4 A_t_rhymes A_t_rhymes_other, iA cI 16 A_t_rhymes_other v_t_rhymes_other, iA cI 8 A_t_salt v_t_salt] o_r) ([.ref A_t, .int a1] : List Value).toArray s 0 0 A) (F0 m 4 ls []) := by
    intro n_4
    induction n_4 with
    | zero =>
      intro l2 l3 H locs ls hl hP hD hS hf
      exact absurd hf (fun h => by rw [f_X8_wordsBorneBy_b4] at h; cases h)
    | succ n_4 ih_4 =>
      have hb_27 : ∀ (s0 : Int32) (s1 : Int32) (l3 : Int32) (H : Heap) (locs : List Loc) (ls : Array Slot), lv_has ls 4 [(0, .ref A_t), (1, .int a1), (3, .int l3)] → va_P D vwCl [oX8 A_t A_t_rhymes A_t_kind A_t_salt A_t_ink A_t_dread A_t_tries x_t_told x_t_nerve x_t_pictures x_t_written x_t_day x_t_x, iA cI 128 A_t_dread v_t_dread, iA cI 8 A_t_kind v_t_kind, oX4 A_t_rhymes A_t_rhymes_other, iA cI 16 A_t_rhymes_other v_t_rhymes_other, iA cI 8 A_t_salt v_t_salt] H → va_D A [oX8 A_t A_t_rhymes A_t_kind A_t_salt A_t_ink A_t_dread A_t_tries x_t_told x_t_nerve x_t_pictures x_t_written x_t_day x_t_x, iA cI 128 A_t_dread v_t_dread, iA cI 8 A_t_kind v_t_kind, oX4 A_t_rhymes A_t_rhymes_other, iA cI 16 A_t_rhymes_other v_t_rhymes_other, iA cI 8 A_t_salt v_t_salt] → va_S A s.heap H locs → f_X8_wordsBorneBy_b27 a1 (f_X8_wordsBorneBy_b4 v_t_dread v_t_kind v_t_rhymes_other v_t_salt x_t_nerve a1 n_4) s0 s1 l3 = some o_r → W p l e { frames := 4, cells := 0, slots := 0, locals := 88 } s m ([.ref A_t, .int a1] : List Value).toArray below meth c H locs 0 0 (MQ below (PoI D A [oX8 A_t A_t_rhymes A_t_kind A_t_salt A_t_ink A_t_dread A_t_tries x_t_told x_t_nerve x_t_pictures x_t_written x_t_day x_t_x, iA cI 128 A_t_dread v_t_dread, iA cI 8 A_t_kind v_t_kind, oX4 A_t_rhymes A_t_rhymes_other, iA cI 16 A_t_rhymes_other v_t_rhymes_other, iA cI 8 A_t_salt v_t_salt] o_r) ([.ref A_t, .int a1] : List Value).toArray s 0 0 A) (F0 m 27 ls [.int s1, .int s0]) := by
        intro s0 s1 l3 H locs ls hl hP hD hS hf
        unfold f_X8_wordsBorneBy_b27 at hf
        refine lv_ior hx hb dX8_wordsBorneBy_27 ?_
        refine lv_istore_n (lv' := [(2, .int (s0 ||| s1)), (0, .ref A_t), (1, .int a1), (3, .int l3)]) hx hb dX8_wordsBorneBy_28 rfl hl (by decide) rfl (fun ls hl => ?_)
        refine lv_iinc (v := (l3 + (1 : Int32))) (lv' := [(3, .int (l3 + (1 : Int32))), (2, .int (s0 ||| s1)), (0, .ref A_t), (1, .int a1)]) hx hb dX8_wordsBorneBy_29 hl (k := 3) rfl rfl (by decide) rfl (fun ls hl => ?_)
        refine lv_goto (tgt := 4) hx hb dX8_wordsBorneBy_32 (by decide) ?_
        exact ih_4 (s0 ||| s1) (l3 + (1 : Int32)) _ _ ls (lv_sub hl [2, 3, 1, 0] rfl) hP hD hS hf
      intro l2 l3 H locs ls hl hP hD hS hf
      rw [f_X8_wordsBorneBy_b4] at hf
      refine lv_iload_n hx hb dX8_wordsBorneBy_4 rfl (lv_at hl 3 rfl) ?_
      refine lv_bipush (v := 16) hx hb dX8_wordsBorneBy_5 (by decide) ?_
      refine lv_icmp_ge (tgt := 35) hx hb dX8_wordsBorneBy_7 (by decide) (fun q => ?_) (fun q => ?_)
      · have hf := if_t q hf
        refine lv_iload_n hx hb dX8_wordsBorneBy_35 rfl (lv_at hl 2 rfl) ?_
        obtain rfl := ev1 hf
        exact x_iret C hr hlk hP hD hS dX8_wordsBorneBy_36
      · have hf := if_f q hf
        refine lv_iload_n hx hb dX8_wordsBorneBy_10 rfl (lv_at hl 2 rfl) ?_
        refine lv_aload_n hx hb dX8_wordsBorneBy_11 rfl (lv_at hl 0 rfl) ?_
        refine lv_iload_n hx hb dX8_wordsBorneBy_12 rfl (lv_at hl 1 rfl) ?_
        refine lv_iload_n hx hb dX8_wordsBorneBy_13 rfl (lv_at hl 3 rfl) ?_
        obtain ⟨r1, hc2, hf⟩ := bd1_e hf
        refine x_callVI (ws' := [oX8 A_t A_t_rhymes A_t_kind A_t_salt A_t_ink A_t_dread A_t_tries x_t_told x_t_nerve x_t_pictures x_t_written x_t_day x_t_x, iA cI 128 A_t_dread v_t_dread, iA cI 8 A_t_kind v_t_kind, oX4 A_t_rhymes A_t_rhymes_other, iA cI 16 A_t_rhymes_other v_t_rhymes_other, iA cI 8 A_t_salt v_t_salt]) (rest := [.int l2]) C hK hP hD hS hA hl mf_X8_88 (c_X8_bears hc2) [0, 1, 2, 3, 4, 5] 0 8 rfl rfl rfl rfl rfl rfl rfl rfl rfl rfl (Nat.le_of_ble_eq_true rfl) ⟨Nat.le_of_ble_eq_true rfl, Nat.le_of_ble_eq_true rfl⟩ ⟨Nat.le_refl _, Nat.le_refl _⟩ dX8_wordsBorneBy_14 ?_
        intro H locs hP hD hS
        refine lv_if_eq (tgt := 26) hx hb dX8_wordsBorneBy_17 (by decide) (fun q => ?_) (fun q => ?_)
        · have hf := if_t q hf
          refine lv_iconst (v := 0) hx hb dX8_wordsBorneBy_26 (by decide) ?_
          exact hb_27 l2 (0 : Int32) l3 _ _ ls (lv_sub hl [0, 1, 3] rfl) hP hD hS hf
        · have hf := if_f q hf
          refine lv_iconst (v := 1) hx hb dX8_wordsBorneBy_20 (by decide) ?_
          refine lv_iload_n hx hb dX8_wordsBorneBy_21 rfl (lv_at hl 3 rfl) ?_
          refine lv_ishl hx hb dX8_wordsBorneBy_22 ?_
          refine lv_goto (tgt := 27) hx hb dX8_wordsBorneBy_23 (by decide) ?_
          exact hb_27 l2 ((1 : Int32) <<< (l3 &&& 31)) l3 _ _ ls (lv_sub hl [0, 1, 3] rfl) hP hD hS hf
  refine lv_iconst (v := 0) hx hb dX8_wordsBorneBy_0 (by decide) ?_
  refine lv_istore_n (lv' := [(2, .int (0 : Int32)), (0, .ref A_t), (1, .int a1)]) hx hb dX8_wordsBorneBy_1 rfl hl (by decide) rfl (fun ls hl => ?_)
  refine lv_iconst (v := 0) hx hb dX8_wordsBorneBy_2 (by decide) ?_
  refine lv_istore_n (lv' := [(3, .int (0 : Int32)), (2, .int (0 : Int32)), (0, .ref A_t), (1, .int a1)]) hx hb dX8_wordsBorneBy_3 rfl hl (by decide) rfl (fun ls hl => ?_)
  exact hb_4 FU (0 : Int32) (0 : Int32) _ _ ls (lv_sub hl [2, 3, 1, 0] rfl) hP hD hS hf
def f_X8_bottlesBearing_b35 (a1 : Int32) (k4 : Int32 → Int32 → Option (Int32)) (s0 : Int32) (s1 : Int32) (l3 : Int32) : Option (Int32) :=
  k4 (s0 ||| s1) (l3 + (1 : Int32))
def f_X8_bottlesBearing_b34 (a1 : Int32) (k4 : Int32 → Int32 → Option (Int32)) (s0 : Int32) (l3 : Int32) : Option (Int32) :=
  f_X8_bottlesBearing_b35 a1 k4 s0 (0 : Int32) l3
def f_X8_bottlesBearing_b4 (v_t_dread : (Nat → Int32)) (v_t_kind : (Nat → Int32)) (v_t_rhymes_other : (Nat → Int32)) (v_t_salt : (Nat → Int32)) (x_t_nerve : Int32) (x_t_told : Int32) (a1 : Int32) : Nat → Int32 → Int32 → Option (Int32)
  | 0, _, _ => none
  | n + 1, l2, l3 =>
    if (8 : Int32) ≤ l3 then
      some l2
    else
      bd1 (f_X8_isTold x_t_told l3) (fun r1 =>
      if r1 = 0 then
        f_X8_bottlesBearing_b34 a1 (f_X8_bottlesBearing_b4 v_t_dread v_t_kind v_t_rhymes_other v_t_salt x_t_nerve x_t_told a1 n) l2 l3
      else
        bd1 (f_X8_bears v_t_dread v_t_kind v_t_rhymes_other v_t_salt x_t_nerve l3 a1) (fun r2 =>
        if r2 = 0 then
          f_X8_bottlesBearing_b34 a1 (f_X8_bottlesBearing_b4 v_t_dread v_t_kind v_t_rhymes_other v_t_salt x_t_nerve x_t_told a1 n) l2 l3
        else
          f_X8_bottlesBearing_b35 a1 (f_X8_bottlesBearing_b4 v_t_dread v_t_kind v_t_rhymes_other v_t_salt x_t_nerve x_t_told a1 n) l2 ((1 : Int32) <<< (l3 &&& 31)) l3))
def f_X8_bottlesBearing (v_t_dread : (Nat → Int32)) (v_t_kind : (Nat → Int32)) (v_t_rhymes_other : (Nat → Int32)) (v_t_salt : (Nat → Int32)) (x_t_nerve : Int32) (x_t_told : Int32) (a1 : Int32) : Option (Int32) :=
  f_X8_bottlesBearing_b4 v_t_dread v_t_kind v_t_rhymes_other v_t_salt x_t_nerve x_t_told a1 FU (0 : Int32) (0 : Int32)
set_option maxHeartbeats 4000000 in
set_option maxRecDepth 100000 in
theorem c_X8_bottlesBearing {l : Launch} {D : va_G} {cI cB : ClassId} {A_t A_t_rhymes A_t_kind A_t_salt A_t_ink A_t_dread A_t_tries A_t_rhymes_other : Nat} {x_t_told x_t_nerve x_t_pictures x_t_written x_t_day x_t_x a1 : Int32} {v_t_dread v_t_kind v_t_rhymes_other v_t_salt : Nat → Int32} {o_r : Int32} (hf : f_X8_bottlesBearing v_t_dread v_t_kind v_t_rhymes_other v_t_salt x_t_nerve x_t_told a1 = some o_r) : CtI l D cI cB yX8_bottlesBearing cX8_bottlesBearing 4 (some .int) 4 88 [.ref A_t, .int a1] [oX8 A_t A_t_rhymes A_t_kind A_t_salt A_t_ink A_t_dread A_t_tries x_t_told x_t_nerve x_t_pictures x_t_written x_t_day x_t_x, iA cI 128 A_t_dread v_t_dread, iA cI 8 A_t_kind v_t_kind, oX4 A_t_rhymes A_t_rhymes_other, iA cI 16 A_t_rhymes_other v_t_rhymes_other, iA cI 8 A_t_salt v_t_salt] [oX8 A_t A_t_rhymes A_t_kind A_t_salt A_t_ink A_t_dread A_t_tries x_t_told x_t_nerve x_t_pictures x_t_written x_t_day x_t_x, iA cI 128 A_t_dread v_t_dread, iA cI 8 A_t_kind v_t_kind, oX4 A_t_rhymes A_t_rhymes_other, iA cI 16 A_t_rhymes_other v_t_rhymes_other, iA cI 8 A_t_salt v_t_salt] o_r := by
  refine x_startI (by decide) (Nat.le_of_ble_eq_true rfl) ?_
  intro p e s m below meth c A C hr hlk hA hK hP hD hS ls hl
  have hl : lv_has ls 4 [(0, .ref A_t), (1, .int a1)] := hl
  have hx := C.1
  have hb := C.2.1
  unfold f_X8_bottlesBearing at hf
  have hb_4 : ∀ (n_4 : Nat) (l2 : Int32) (l3 : Int32) (H : Heap) (locs : List Loc) (ls : Array Slot), lv_has ls 4 [(0, .ref A_t), (1, .int a1), (2, .int l2), (3, .int l3)] → va_P D vwCl [oX8 A_t A_t_rhymes A_t_kind A_t_salt A_t_ink A_t_dread A_t_tries x_t_told x_t_nerve x_t_pictures x_t_written x_t_day x_t_x, iA cI 128 A_t_dread v_t_dread, iA cI 8 A_t_kind v_t_kind, oX4 A_t_rhymes A_t_rhymes_other, iA cI 16 A_t_rhymes_other v_t_rhymes_other, iA cI 8 A_t_salt v_t_salt] H → va_D A [oX8 A_t A_t_rhymes A_t_kind A_t_salt A_t_ink A_t_dread A_t_tries x_t_told x_t_nerve x_t_pictures x_t_written x_t_day x_t_x, iA cI 128 A_t_dread v_t_dread, iA cI 8 A_t_kind v_t_kind, oX4 A_t_rhymes A_t_rhymes_other, iA cI 16 A_t_rhymes_other v_t_rhymes_other, iA cI 8 A_t_salt v_t_salt] → va_S A s.heap H locs → f_X8_bottlesBearing_b4 v_t_dread v_t_kind v_t_rhymes_other v_t_salt x_t_nerve x_t_told a1 n_4 l2 l3 = some o_r → W p l e { frames := 4, cells := 0, slots := 0, locals := 88 } s m ([.ref A_t, .int a1] : List Value).toArray below meth c H locs 0 0 (MQ below (PoI D A [oX8 A_t A_t_rhymes A_t_kind A_t_salt A_t_ink A_t_dread A_t_tries x_t_told x_t_nerve x_t_pictures x_t_written x_t_day x_t_x, iA cI 128 A_t_dread v_t_dread, iA cI 8 A_t_kind v_t_kind, oX4 A_t_rhymes A_t_rhymes_other, iA cI 16 A_t_rhymes_other v_t_rhymes_other, iA cI 8 A_t_salt v_t_salt] o_r) ([.ref A_t, .int a1] : List Value).toArray s 0 0 A) (F0 m 4 ls []) := by
    intro n_4
    induction n_4 with
    | zero =>
      intro l2 l3 H locs ls hl hP hD hS hf
      exact absurd hf (fun h => by rw [f_X8_bottlesBearing_b4] at h; cases h)
    | succ n_4 ih_4 =>
      have hb_35 : ∀ (s0 : Int32) (s1 : Int32) (l3 : Int32) (H : Heap) (locs : List Loc) (ls : Array Slot), lv_has ls 4 [(0, .ref A_t), (1, .int a1), (3, .int l3)] → va_P D vwCl [oX8 A_t A_t_rhymes A_t_kind A_t_salt A_t_ink A_t_dread A_t_tries x_t_told x_t_nerve x_t_pictures x_t_written x_t_day x_t_x, iA cI 128 A_t_dread v_t_dread, iA cI 8 A_t_kind v_t_kind, oX4 A_t_rhymes A_t_rhymes_other, iA cI 16 A_t_rhymes_other v_t_rhymes_other, iA cI 8 A_t_salt v_t_salt] H → va_D A [oX8 A_t A_t_rhymes A_t_kind A_t_salt A_t_ink A_t_dread A_t_tries x_t_told x_t_nerve x_t_pictures x_t_written x_t_day x_t_x, iA cI 128 A_t_dread v_t_dread, iA cI 8 A_t_kind v_t_kind, oX4 A_t_rhymes A_t_rhymes_other, iA cI 16 A_t_rhymes_other v_t_rhymes_other, iA cI 8 A_t_salt v_t_salt] → va_S A s.heap H locs → f_X8_bottlesBearing_b35 a1 (f_X8_bottlesBearing_b4 v_t_dread v_t_kind v_t_rhymes_other v_t_salt x_t_nerve x_t_told a1 n_4) s0 s1 l3 = some o_r → W p l e { frames := 4, cells := 0, slots := 0, locals := 88 } s m ([.ref A_t, .int a1] : List Value).toArray below meth c H locs 0 0 (MQ below (PoI D A [oX8 A_t A_t_rhymes A_t_kind A_t_salt A_t_ink A_t_dread A_t_tries x_t_told x_t_nerve x_t_pictures x_t_written x_t_day x_t_x, iA cI 128 A_t_dread v_t_dread, iA cI 8 A_t_kind v_t_kind, oX4 A_t_rhymes A_t_rhymes_other, iA cI 16 A_t_rhymes_other v_t_rhymes_other, iA cI 8 A_t_salt v_t_salt] o_r) ([.ref A_t, .int a1] : List Value).toArray s 0 0 A) (F0 m 35 ls [.int s1, .int s0]) := by
        intro s0 s1 l3 H locs ls hl hP hD hS hf
        unfold f_X8_bottlesBearing_b35 at hf
        refine lv_ior hx hb dX8_bottlesBearing_35 ?_
        refine lv_istore_n (lv' := [(2, .int (s0 ||| s1)), (0, .ref A_t), (1, .int a1), (3, .int l3)]) hx hb dX8_bottlesBearing_36 rfl hl (by decide) rfl (fun ls hl => ?_)
        refine lv_iinc (v := (l3 + (1 : Int32))) (lv' := [(3, .int (l3 + (1 : Int32))), (2, .int (s0 ||| s1)), (0, .ref A_t), (1, .int a1)]) hx hb dX8_bottlesBearing_37 hl (k := 3) rfl rfl (by decide) rfl (fun ls hl => ?_)
        refine lv_goto (tgt := 4) hx hb dX8_bottlesBearing_40 (by decide) ?_
        exact ih_4 (s0 ||| s1) (l3 + (1 : Int32)) _ _ ls (lv_sub hl [2, 3, 1, 0] rfl) hP hD hS hf
      have hb_34 : ∀ (s0 : Int32) (l3 : Int32) (H : Heap) (locs : List Loc) (ls : Array Slot), lv_has ls 4 [(0, .ref A_t), (1, .int a1), (3, .int l3)] → va_P D vwCl [oX8 A_t A_t_rhymes A_t_kind A_t_salt A_t_ink A_t_dread A_t_tries x_t_told x_t_nerve x_t_pictures x_t_written x_t_day x_t_x, iA cI 128 A_t_dread v_t_dread, iA cI 8 A_t_kind v_t_kind, oX4 A_t_rhymes A_t_rhymes_other, iA cI 16 A_t_rhymes_other v_t_rhymes_other, iA cI 8 A_t_salt v_t_salt] H → va_D A [oX8 A_t A_t_rhymes A_t_kind A_t_salt A_t_ink A_t_dread A_t_tries x_t_told x_t_nerve x_t_pictures x_t_written x_t_day x_t_x, iA cI 128 A_t_dread v_t_dread, iA cI 8 A_t_kind v_t_kind, oX4 A_t_rhymes A_t_rhymes_other, iA cI 16 A_t_rhymes_other v_t_rhymes_other, iA cI 8 A_t_salt v_t_salt] → va_S A s.heap H locs → f_X8_bottlesBearing_b34 a1 (f_X8_bottlesBearing_b4 v_t_dread v_t_kind v_t_rhymes_other v_t_salt x_t_nerve x_t_told a1 n_4) s0 l3 = some o_r → W p l e { frames := 4, cells := 0, slots := 0, locals := 88 } s m ([.ref A_t, .int a1] : List Value).toArray below meth c H locs 0 0 (MQ below (PoI D A [oX8 A_t A_t_rhymes A_t_kind A_t_salt A_t_ink A_t_dread A_t_tries x_t_told x_t_nerve x_t_pictures x_t_written x_t_day x_t_x, iA cI 128 A_t_dread v_t_dread, iA cI 8 A_t_kind v_t_kind, oX4 A_t_rhymes A_t_rhymes_other, iA cI 16 A_t_rhymes_other v_t_rhymes_other, iA cI 8 A_t_salt v_t_salt] o_r) ([.ref A_t, .int a1] : List Value).toArray s 0 0 A) (F0 m 34 ls [.int s0]) := by
        intro s0 l3 H locs ls hl hP hD hS hf
        unfold f_X8_bottlesBearing_b34 at hf
        refine lv_iconst (v := 0) hx hb dX8_bottlesBearing_34 (by decide) ?_
        exact hb_35 s0 (0 : Int32) l3 _ _ ls (lv_sub hl [0, 1, 2] rfl) hP hD hS hf
      intro l2 l3 H locs ls hl hP hD hS hf
      rw [f_X8_bottlesBearing_b4] at hf
      refine lv_iload_n hx hb dX8_bottlesBearing_4 rfl (lv_at hl 3 rfl) ?_
      refine lv_bipush (v := 8) hx hb dX8_bottlesBearing_5 (by decide) ?_
      refine lv_icmp_ge (tgt := 43) hx hb dX8_bottlesBearing_7 (by decide) (fun q => ?_) (fun q => ?_)
      · have hf := if_t q hf
        refine lv_iload_n hx hb dX8_bottlesBearing_43 rfl (lv_at hl 2 rfl) ?_
        obtain rfl := ev1 hf
        exact x_iret C hr hlk hP hD hS dX8_bottlesBearing_44
      · have hf := if_f q hf
        refine lv_iload_n hx hb dX8_bottlesBearing_10 rfl (lv_at hl 2 rfl) ?_
        refine lv_aload_n hx hb dX8_bottlesBearing_11 rfl (lv_at hl 0 rfl) ?_
        refine lv_iload_n hx hb dX8_bottlesBearing_12 rfl (lv_at hl 3 rfl) ?_
        obtain ⟨r1, hc2, hf⟩ := bd1_e hf
        refine x_callVI (ws' := [oX8 A_t A_t_rhymes A_t_kind A_t_salt A_t_ink A_t_dread A_t_tries x_t_told x_t_nerve x_t_pictures x_t_written x_t_day x_t_x, iA cI 128 A_t_dread v_t_dread, iA cI 8 A_t_kind v_t_kind, oX4 A_t_rhymes A_t_rhymes_other, iA cI 16 A_t_rhymes_other v_t_rhymes_other, iA cI 8 A_t_salt v_t_salt]) (rest := [.int l2]) C hK hP hD hS hA hl mf_X8_92 (c_X8_isTold hc2) [0] 0 8 rfl rfl rfl rfl rfl rfl rfl rfl rfl rfl (Nat.le_of_ble_eq_true rfl) ⟨Nat.le_of_ble_eq_true rfl, Nat.le_of_ble_eq_true rfl⟩ ⟨Nat.le_refl _, Nat.le_refl _⟩ dX8_bottlesBearing_13 ?_
        intro H locs hP hD hS
        refine lv_if_eq (tgt := 34) hx hb dX8_bottlesBearing_16 (by decide) (fun q => ?_) (fun q => ?_)
        · have hf := if_t q hf
          exact hb_34 l2 l3 _ _ ls (lv_sub hl [0, 1, 3] rfl) hP hD hS hf
        · have hf := if_f q hf
          refine lv_aload_n hx hb dX8_bottlesBearing_19 rfl (lv_at hl 0 rfl) ?_
          refine lv_iload_n hx hb dX8_bottlesBearing_20 rfl (lv_at hl 3 rfl) ?_
          refine lv_iload_n hx hb dX8_bottlesBearing_21 rfl (lv_at hl 1 rfl) ?_
          obtain ⟨r3, hc4, hf⟩ := bd1_e hf
          refine x_callVI (ws' := [oX8 A_t A_t_rhymes A_t_kind A_t_salt A_t_ink A_t_dread A_t_tries x_t_told x_t_nerve x_t_pictures x_t_written x_t_day x_t_x, iA cI 128 A_t_dread v_t_dread, iA cI 8 A_t_kind v_t_kind, oX4 A_t_rhymes A_t_rhymes_other, iA cI 16 A_t_rhymes_other v_t_rhymes_other, iA cI 8 A_t_salt v_t_salt]) (rest := [.int l2]) C hK hP hD hS hA hl mf_X8_88 (c_X8_bears hc4) [0, 1, 2, 3, 4, 5] 0 8 rfl rfl rfl rfl rfl rfl rfl rfl rfl rfl (Nat.le_of_ble_eq_true rfl) ⟨Nat.le_of_ble_eq_true rfl, Nat.le_of_ble_eq_true rfl⟩ ⟨Nat.le_refl _, Nat.le_refl _⟩ dX8_bottlesBearing_22 ?_
          intro H locs hP hD hS
          refine lv_if_eq (tgt := 34) hx hb dX8_bottlesBearing_25 (by decide) (fun q => ?_) (fun q => ?_)
          · have hf := if_t q hf
            exact hb_34 l2 l3 _ _ ls (lv_sub hl [0, 1, 3] rfl) hP hD hS hf
          · have hf := if_f q hf
            refine lv_iconst (v := 1) hx hb dX8_bottlesBearing_28 (by decide) ?_
            refine lv_iload_n hx hb dX8_bottlesBearing_29 rfl (lv_at hl 3 rfl) ?_
            refine lv_ishl hx hb dX8_bottlesBearing_30 ?_
            refine lv_goto (tgt := 35) hx hb dX8_bottlesBearing_31 (by decide) ?_
            exact hb_35 l2 ((1 : Int32) <<< (l3 &&& 31)) l3 _ _ ls (lv_sub hl [0, 1, 3] rfl) hP hD hS hf
  refine lv_iconst (v := 0) hx hb dX8_bottlesBearing_0 (by decide) ?_
  refine lv_istore_n (lv' := [(2, .int (0 : Int32)), (0, .ref A_t), (1, .int a1)]) hx hb dX8_bottlesBearing_1 rfl hl (by decide) rfl (fun ls hl => ?_)
  refine lv_iconst (v := 0) hx hb dX8_bottlesBearing_2 (by decide) ?_
  refine lv_istore_n (lv' := [(3, .int (0 : Int32)), (2, .int (0 : Int32)), (0, .ref A_t), (1, .int a1)]) hx hb dX8_bottlesBearing_3 rfl hl (by decide) rfl (fun ls hl => ?_)
  exact hb_4 FU (0 : Int32) (0 : Int32) _ _ ls (lv_sub hl [2, 3, 1, 0] rfl) hP hD hS hf
def f_X8_wordsBorneByAll_b30 (k5 : Int32 → Int32 → Option (Int32)) (s0 : Int32) (s1 : Int32) (l2 : Int32) : Option (Int32) :=
  k5 (s0 &&& s1) (l2 + (1 : Int32))
def f_X8_wordsBorneByAll_b5 (v_t_dread : (Nat → Int32)) (v_t_kind : (Nat → Int32)) (v_t_rhymes_other : (Nat → Int32)) (v_t_salt : (Nat → Int32)) (x_t_nerve : Int32) (x_t_told : Int32) : Nat → Int32 → Int32 → Option (Int32)
  | 0, _, _ => none
  | n + 1, l1, l2 =>
    if (8 : Int32) ≤ l2 then
      some l1
    else
      bd1 (f_X8_isTold x_t_told l2) (fun r1 =>
      if r1 = 0 then
        f_X8_wordsBorneByAll_b30 (f_X8_wordsBorneByAll_b5 v_t_dread v_t_kind v_t_rhymes_other v_t_salt x_t_nerve x_t_told n) l1 (65535 : Int32) l2
      else
        bd1 (f_X8_wordsBorneBy v_t_dread v_t_kind v_t_rhymes_other v_t_salt x_t_nerve l2) (fun r2 =>
        f_X8_wordsBorneByAll_b30 (f_X8_wordsBorneByAll_b5 v_t_dread v_t_kind v_t_rhymes_other v_t_salt x_t_nerve x_t_told n) l1 r2 l2))
def f_X8_wordsBorneByAll (v_t_dread : (Nat → Int32)) (v_t_kind : (Nat → Int32)) (v_t_rhymes_other : (Nat → Int32)) (v_t_salt : (Nat → Int32)) (x_t_nerve : Int32) (x_t_told : Int32) : Option (Int32) :=
  f_X8_wordsBorneByAll_b5 v_t_dread v_t_kind v_t_rhymes_other v_t_salt x_t_nerve x_t_told FU (65535 : Int32) (0 : Int32)
set_option maxHeartbeats 4000000 in
set_option maxRecDepth 100000 in
theorem c_X8_wordsBorneByAll {l : Launch} {D : va_G} {cI cB : ClassId} {A_t A_t_rhymes A_t_kind A_t_salt A_t_ink A_t_dread A_t_tries A_t_rhymes_other : Nat} {x_t_told x_t_nerve x_t_pictures x_t_written x_t_day x_t_x : Int32} {v_t_dread v_t_kind v_t_rhymes_other v_t_salt : Nat → Int32} {o_r : Int32} (hf : f_X8_wordsBorneByAll v_t_dread v_t_kind v_t_rhymes_other v_t_salt x_t_nerve x_t_told = some o_r) : CtI l D cI cB yX8_wordsBorneByAll cX8_wordsBorneByAll 3 (some .int) 5 111 [.ref A_t] [oX8 A_t A_t_rhymes A_t_kind A_t_salt A_t_ink A_t_dread A_t_tries x_t_told x_t_nerve x_t_pictures x_t_written x_t_day x_t_x, iA cI 128 A_t_dread v_t_dread, iA cI 8 A_t_kind v_t_kind, oX4 A_t_rhymes A_t_rhymes_other, iA cI 16 A_t_rhymes_other v_t_rhymes_other, iA cI 8 A_t_salt v_t_salt] [oX8 A_t A_t_rhymes A_t_kind A_t_salt A_t_ink A_t_dread A_t_tries x_t_told x_t_nerve x_t_pictures x_t_written x_t_day x_t_x, iA cI 128 A_t_dread v_t_dread, iA cI 8 A_t_kind v_t_kind, oX4 A_t_rhymes A_t_rhymes_other, iA cI 16 A_t_rhymes_other v_t_rhymes_other, iA cI 8 A_t_salt v_t_salt] o_r := by
  refine x_startI (by decide) (Nat.le_of_ble_eq_true rfl) ?_
  intro p e s m below meth c A C hr hlk hA hK hP hD hS ls hl
  have hl : lv_has ls 3 [(0, .ref A_t)] := hl
  have hx := C.1
  have hb := C.2.1
  unfold f_X8_wordsBorneByAll at hf
  have hb_5 : ∀ (n_5 : Nat) (l1 : Int32) (l2 : Int32) (H : Heap) (locs : List Loc) (ls : Array Slot), lv_has ls 3 [(0, .ref A_t), (1, .int l1), (2, .int l2)] → va_P D vwCl [oX8 A_t A_t_rhymes A_t_kind A_t_salt A_t_ink A_t_dread A_t_tries x_t_told x_t_nerve x_t_pictures x_t_written x_t_day x_t_x, iA cI 128 A_t_dread v_t_dread, iA cI 8 A_t_kind v_t_kind, oX4 A_t_rhymes A_t_rhymes_other, iA cI 16 A_t_rhymes_other v_t_rhymes_other, iA cI 8 A_t_salt v_t_salt] H → va_D A [oX8 A_t A_t_rhymes A_t_kind A_t_salt A_t_ink A_t_dread A_t_tries x_t_told x_t_nerve x_t_pictures x_t_written x_t_day x_t_x, iA cI 128 A_t_dread v_t_dread, iA cI 8 A_t_kind v_t_kind, oX4 A_t_rhymes A_t_rhymes_other, iA cI 16 A_t_rhymes_other v_t_rhymes_other, iA cI 8 A_t_salt v_t_salt] → va_S A s.heap H locs → f_X8_wordsBorneByAll_b5 v_t_dread v_t_kind v_t_rhymes_other v_t_salt x_t_nerve x_t_told n_5 l1 l2 = some o_r → W p l e { frames := 5, cells := 0, slots := 0, locals := 111 } s m ([.ref A_t] : List Value).toArray below meth c H locs 0 0 (MQ below (PoI D A [oX8 A_t A_t_rhymes A_t_kind A_t_salt A_t_ink A_t_dread A_t_tries x_t_told x_t_nerve x_t_pictures x_t_written x_t_day x_t_x, iA cI 128 A_t_dread v_t_dread, iA cI 8 A_t_kind v_t_kind, oX4 A_t_rhymes A_t_rhymes_other, iA cI 16 A_t_rhymes_other v_t_rhymes_other, iA cI 8 A_t_salt v_t_salt] o_r) ([.ref A_t] : List Value).toArray s 0 0 A) (F0 m 5 ls []) := by
    intro n_5
    induction n_5 with
    | zero =>
      intro l1 l2 H locs ls hl hP hD hS hf
      exact absurd hf (fun h => by rw [f_X8_wordsBorneByAll_b5] at h; cases h)
    | succ n_5 ih_5 =>
      have hb_30 : ∀ (s0 : Int32) (s1 : Int32) (l2 : Int32) (H : Heap) (locs : List Loc) (ls : Array Slot), lv_has ls 3 [(0, .ref A_t), (2, .int l2)] → va_P D vwCl [oX8 A_t A_t_rhymes A_t_kind A_t_salt A_t_ink A_t_dread A_t_tries x_t_told x_t_nerve x_t_pictures x_t_written x_t_day x_t_x, iA cI 128 A_t_dread v_t_dread, iA cI 8 A_t_kind v_t_kind, oX4 A_t_rhymes A_t_rhymes_other, iA cI 16 A_t_rhymes_other v_t_rhymes_other, iA cI 8 A_t_salt v_t_salt] H → va_D A [oX8 A_t A_t_rhymes A_t_kind A_t_salt A_t_ink A_t_dread A_t_tries x_t_told x_t_nerve x_t_pictures x_t_written x_t_day x_t_x, iA cI 128 A_t_dread v_t_dread, iA cI 8 A_t_kind v_t_kind, oX4 A_t_rhymes A_t_rhymes_other, iA cI 16 A_t_rhymes_other v_t_rhymes_other, iA cI 8 A_t_salt v_t_salt] → va_S A s.heap H locs → f_X8_wordsBorneByAll_b30 (f_X8_wordsBorneByAll_b5 v_t_dread v_t_kind v_t_rhymes_other v_t_salt x_t_nerve x_t_told n_5) s0 s1 l2 = some o_r → W p l e { frames := 5, cells := 0, slots := 0, locals := 111 } s m ([.ref A_t] : List Value).toArray below meth c H locs 0 0 (MQ below (PoI D A [oX8 A_t A_t_rhymes A_t_kind A_t_salt A_t_ink A_t_dread A_t_tries x_t_told x_t_nerve x_t_pictures x_t_written x_t_day x_t_x, iA cI 128 A_t_dread v_t_dread, iA cI 8 A_t_kind v_t_kind, oX4 A_t_rhymes A_t_rhymes_other, iA cI 16 A_t_rhymes_other v_t_rhymes_other, iA cI 8 A_t_salt v_t_salt] o_r) ([.ref A_t] : List Value).toArray s 0 0 A) (F0 m 30 ls [.int s1, .int s0]) := by
        intro s0 s1 l2 H locs ls hl hP hD hS hf
        unfold f_X8_wordsBorneByAll_b30 at hf
        refine lv_iand hx hb dX8_wordsBorneByAll_30 ?_
        refine lv_istore_n (lv' := [(1, .int (s0 &&& s1)), (0, .ref A_t), (2, .int l2)]) hx hb dX8_wordsBorneByAll_31 rfl hl (by decide) rfl (fun ls hl => ?_)
        refine lv_iinc (v := (l2 + (1 : Int32))) (lv' := [(2, .int (l2 + (1 : Int32))), (1, .int (s0 &&& s1)), (0, .ref A_t)]) hx hb dX8_wordsBorneByAll_32 hl (k := 2) rfl rfl (by decide) rfl (fun ls hl => ?_)
        refine lv_goto (tgt := 5) hx hb dX8_wordsBorneByAll_35 (by decide) ?_
        exact ih_5 (s0 &&& s1) (l2 + (1 : Int32)) _ _ ls (lv_sub hl [2, 1, 0] rfl) hP hD hS hf
      intro l1 l2 H locs ls hl hP hD hS hf
      rw [f_X8_wordsBorneByAll_b5] at hf
      refine lv_iload_n hx hb dX8_wordsBorneByAll_5 rfl (lv_at hl 2 rfl) ?_
      refine lv_bipush (v := 8) hx hb dX8_wordsBorneByAll_6 (by decide) ?_
      refine lv_icmp_ge (tgt := 38) hx hb dX8_wordsBorneByAll_8 (by decide) (fun q => ?_) (fun q => ?_)
      · have hf := if_t q hf
        refine lv_iload_n hx hb dX8_wordsBorneByAll_38 rfl (lv_at hl 1 rfl) ?_
        obtain rfl := ev1 hf
        exact x_iret C hr hlk hP hD hS dX8_wordsBorneByAll_39
      · have hf := if_f q hf
        refine lv_iload_n hx hb dX8_wordsBorneByAll_11 rfl (lv_at hl 1 rfl) ?_
        refine lv_aload_n hx hb dX8_wordsBorneByAll_12 rfl (lv_at hl 0 rfl) ?_
        refine lv_iload_n hx hb dX8_wordsBorneByAll_13 rfl (lv_at hl 2 rfl) ?_
        obtain ⟨r1, hc2, hf⟩ := bd1_e hf
        refine x_callVI (ws' := [oX8 A_t A_t_rhymes A_t_kind A_t_salt A_t_ink A_t_dread A_t_tries x_t_told x_t_nerve x_t_pictures x_t_written x_t_day x_t_x, iA cI 128 A_t_dread v_t_dread, iA cI 8 A_t_kind v_t_kind, oX4 A_t_rhymes A_t_rhymes_other, iA cI 16 A_t_rhymes_other v_t_rhymes_other, iA cI 8 A_t_salt v_t_salt]) (rest := [.int l1]) C hK hP hD hS hA hl mf_X8_92 (c_X8_isTold hc2) [0] 0 8 rfl rfl rfl rfl rfl rfl rfl rfl rfl rfl (Nat.le_of_ble_eq_true rfl) ⟨Nat.le_of_ble_eq_true rfl, Nat.le_of_ble_eq_true rfl⟩ ⟨Nat.le_refl _, Nat.le_refl _⟩ dX8_wordsBorneByAll_14 ?_
        intro H locs hP hD hS
        refine lv_if_eq (tgt := 28) hx hb dX8_wordsBorneByAll_17 (by decide) (fun q => ?_) (fun q => ?_)
        · have hf := if_t q hf
          refine x_ldc C kc_X8_96 dX8_wordsBorneByAll_28 ?_
          exact hb_30 l1 (65535 : Int32) l2 _ _ ls (lv_sub hl [0, 2] rfl) hP hD hS hf
        · have hf := if_f q hf
          refine lv_aload_n hx hb dX8_wordsBorneByAll_20 rfl (lv_at hl 0 rfl) ?_
          refine lv_iload_n hx hb dX8_wordsBorneByAll_21 rfl (lv_at hl 2 rfl) ?_
          obtain ⟨r3, hc4, hf⟩ := bd1_e hf
          refine x_callVI (ws' := [oX8 A_t A_t_rhymes A_t_kind A_t_salt A_t_ink A_t_dread A_t_tries x_t_told x_t_nerve x_t_pictures x_t_written x_t_day x_t_x, iA cI 128 A_t_dread v_t_dread, iA cI 8 A_t_kind v_t_kind, oX4 A_t_rhymes A_t_rhymes_other, iA cI 16 A_t_rhymes_other v_t_rhymes_other, iA cI 8 A_t_salt v_t_salt]) (rest := [.int l1]) C hK hP hD hS hA hl mf_X8_97 (c_X8_wordsBorneBy hc4) [0, 1, 2, 3, 4, 5] 0 8 rfl rfl rfl rfl rfl rfl rfl rfl rfl rfl (Nat.le_of_ble_eq_true rfl) ⟨Nat.le_of_ble_eq_true rfl, Nat.le_of_ble_eq_true rfl⟩ ⟨Nat.le_refl _, Nat.le_refl _⟩ dX8_wordsBorneByAll_22 ?_
          intro H locs hP hD hS
          refine lv_goto (tgt := 30) hx hb dX8_wordsBorneByAll_25 (by decide) ?_
          exact hb_30 l1 r3 l2 _ _ ls (lv_sub hl [0, 2] rfl) hP hD hS hf
  refine x_ldc C kc_X8_96 dX8_wordsBorneByAll_0 ?_
  refine lv_istore_n (lv' := [(1, .int (65535 : Int32)), (0, .ref A_t)]) hx hb dX8_wordsBorneByAll_2 rfl hl (by decide) rfl (fun ls hl => ?_)
  refine lv_iconst (v := 0) hx hb dX8_wordsBorneByAll_3 (by decide) ?_
  refine lv_istore_n (lv' := [(2, .int (0 : Int32)), (1, .int (65535 : Int32)), (0, .ref A_t)]) hx hb dX8_wordsBorneByAll_4 rfl hl (by decide) rfl (fun ls hl => ?_)
  exact hb_5 FU (65535 : Int32) (0 : Int32) _ _ ls (lv_sub hl [2, 1, 0] rfl) hP hD hS hf
def f_X8_wordsBorneByNone_b32 (k5 : Int32 → Int32 → Option (Int32)) (s0 : Int32) (s1 : Int32) (l2 : Int32) : Option (Int32) :=
  k5 (s0 &&& s1) (l2 + (1 : Int32))
def f_X8_wordsBorneByNone_b5 (v_t_dread : (Nat → Int32)) (v_t_kind : (Nat → Int32)) (v_t_rhymes_other : (Nat → Int32)) (v_t_salt : (Nat → Int32)) (x_t_nerve : Int32) (x_t_told : Int32) : Nat → Int32 → Int32 → Option (Int32)
  | 0, _, _ => none
  | n + 1, l1, l2 =>
    if (8 : Int32) ≤ l2 then
      some l1
    else
      bd1 (f_X8_isTold x_t_told l2) (fun r1 =>
      if r1 = 0 then
        f_X8_wordsBorneByNone_b32 (f_X8_wordsBorneByNone_b5 v_t_dread v_t_kind v_t_rhymes_other v_t_salt x_t_nerve x_t_told n) l1 (65535 : Int32) l2
      else
        bd1 (f_X8_wordsBorneBy v_t_dread v_t_kind v_t_rhymes_other v_t_salt x_t_nerve l2) (fun r2 =>
        f_X8_wordsBorneByNone_b32 (f_X8_wordsBorneByNone_b5 v_t_dread v_t_kind v_t_rhymes_other v_t_salt x_t_nerve x_t_told n) l1 (r2 ^^^ (-1 : Int32)) l2))
def f_X8_wordsBorneByNone (v_t_dread : (Nat → Int32)) (v_t_kind : (Nat → Int32)) (v_t_rhymes_other : (Nat → Int32)) (v_t_salt : (Nat → Int32)) (x_t_nerve : Int32) (x_t_told : Int32) : Option (Int32) :=
  f_X8_wordsBorneByNone_b5 v_t_dread v_t_kind v_t_rhymes_other v_t_salt x_t_nerve x_t_told FU (65535 : Int32) (0 : Int32)
set_option maxHeartbeats 4000000 in
set_option maxRecDepth 100000 in
theorem c_X8_wordsBorneByNone {l : Launch} {D : va_G} {cI cB : ClassId} {A_t A_t_rhymes A_t_kind A_t_salt A_t_ink A_t_dread A_t_tries A_t_rhymes_other : Nat} {x_t_told x_t_nerve x_t_pictures x_t_written x_t_day x_t_x : Int32} {v_t_dread v_t_kind v_t_rhymes_other v_t_salt : Nat → Int32} {o_r : Int32} (hf : f_X8_wordsBorneByNone v_t_dread v_t_kind v_t_rhymes_other v_t_salt x_t_nerve x_t_told = some o_r) : CtI l D cI cB yX8_wordsBorneByNone cX8_wordsBorneByNone 3 (some .int) 5 111 [.ref A_t] [oX8 A_t A_t_rhymes A_t_kind A_t_salt A_t_ink A_t_dread A_t_tries x_t_told x_t_nerve x_t_pictures x_t_written x_t_day x_t_x, iA cI 128 A_t_dread v_t_dread, iA cI 8 A_t_kind v_t_kind, oX4 A_t_rhymes A_t_rhymes_other, iA cI 16 A_t_rhymes_other v_t_rhymes_other, iA cI 8 A_t_salt v_t_salt] [oX8 A_t A_t_rhymes A_t_kind A_t_salt A_t_ink A_t_dread A_t_tries x_t_told x_t_nerve x_t_pictures x_t_written x_t_day x_t_x, iA cI 128 A_t_dread v_t_dread, iA cI 8 A_t_kind v_t_kind, oX4 A_t_rhymes A_t_rhymes_other, iA cI 16 A_t_rhymes_other v_t_rhymes_other, iA cI 8 A_t_salt v_t_salt] o_r := by
  refine x_startI (by decide) (Nat.le_of_ble_eq_true rfl) ?_
  intro p e s m below meth c A C hr hlk hA hK hP hD hS ls hl
  have hl : lv_has ls 3 [(0, .ref A_t)] := hl
  have hx := C.1
  have hb := C.2.1
  unfold f_X8_wordsBorneByNone at hf
  have hb_5 : ∀ (n_5 : Nat) (l1 : Int32) (l2 : Int32) (H : Heap) (locs : List Loc) (ls : Array Slot), lv_has ls 3 [(0, .ref A_t), (1, .int l1), (2, .int l2)] → va_P D vwCl [oX8 A_t A_t_rhymes A_t_kind A_t_salt A_t_ink A_t_dread A_t_tries x_t_told x_t_nerve x_t_pictures x_t_written x_t_day x_t_x, iA cI 128 A_t_dread v_t_dread, iA cI 8 A_t_kind v_t_kind, oX4 A_t_rhymes A_t_rhymes_other, iA cI 16 A_t_rhymes_other v_t_rhymes_other, iA cI 8 A_t_salt v_t_salt] H → va_D A [oX8 A_t A_t_rhymes A_t_kind A_t_salt A_t_ink A_t_dread A_t_tries x_t_told x_t_nerve x_t_pictures x_t_written x_t_day x_t_x, iA cI 128 A_t_dread v_t_dread, iA cI 8 A_t_kind v_t_kind, oX4 A_t_rhymes A_t_rhymes_other, iA cI 16 A_t_rhymes_other v_t_rhymes_other, iA cI 8 A_t_salt v_t_salt] → va_S A s.heap H locs → f_X8_wordsBorneByNone_b5 v_t_dread v_t_kind v_t_rhymes_other v_t_salt x_t_nerve x_t_told n_5 l1 l2 = some o_r → W p l e { frames := 5, cells := 0, slots := 0, locals := 111 } s m ([.ref A_t] : List Value).toArray below meth c H locs 0 0 (MQ below (PoI D A [oX8 A_t A_t_rhymes A_t_kind A_t_salt A_t_ink A_t_dread A_t_tries x_t_told x_t_nerve x_t_pictures x_t_written x_t_day x_t_x, iA cI 128 A_t_dread v_t_dread, iA cI 8 A_t_kind v_t_kind, oX4 A_t_rhymes A_t_rhymes_other, iA cI 16 A_t_rhymes_other v_t_rhymes_other, iA cI 8 A_t_salt v_t_salt] o_r) ([.ref A_t] : List Value).toArray s 0 0 A) (F0 m 5 ls []) := by
    intro n_5
    induction n_5 with
    | zero =>
      intro l1 l2 H locs ls hl hP hD hS hf
      exact absurd hf (fun h => by rw [f_X8_wordsBorneByNone_b5] at h; cases h)
    | succ n_5 ih_5 =>
      have hb_32 : ∀ (s0 : Int32) (s1 : Int32) (l2 : Int32) (H : Heap) (locs : List Loc) (ls : Array Slot), lv_has ls 3 [(0, .ref A_t), (2, .int l2)] → va_P D vwCl [oX8 A_t A_t_rhymes A_t_kind A_t_salt A_t_ink A_t_dread A_t_tries x_t_told x_t_nerve x_t_pictures x_t_written x_t_day x_t_x, iA cI 128 A_t_dread v_t_dread, iA cI 8 A_t_kind v_t_kind, oX4 A_t_rhymes A_t_rhymes_other, iA cI 16 A_t_rhymes_other v_t_rhymes_other, iA cI 8 A_t_salt v_t_salt] H → va_D A [oX8 A_t A_t_rhymes A_t_kind A_t_salt A_t_ink A_t_dread A_t_tries x_t_told x_t_nerve x_t_pictures x_t_written x_t_day x_t_x, iA cI 128 A_t_dread v_t_dread, iA cI 8 A_t_kind v_t_kind, oX4 A_t_rhymes A_t_rhymes_other, iA cI 16 A_t_rhymes_other v_t_rhymes_other, iA cI 8 A_t_salt v_t_salt] → va_S A s.heap H locs → f_X8_wordsBorneByNone_b32 (f_X8_wordsBorneByNone_b5 v_t_dread v_t_kind v_t_rhymes_other v_t_salt x_t_nerve x_t_told n_5) s0 s1 l2 = some o_r → W p l e { frames := 5, cells := 0, slots := 0, locals := 111 } s m ([.ref A_t] : List Value).toArray below meth c H locs 0 0 (MQ below (PoI D A [oX8 A_t A_t_rhymes A_t_kind A_t_salt A_t_ink A_t_dread A_t_tries x_t_told x_t_nerve x_t_pictures x_t_written x_t_day x_t_x, iA cI 128 A_t_dread v_t_dread, iA cI 8 A_t_kind v_t_kind, oX4 A_t_rhymes A_t_rhymes_other, iA cI 16 A_t_rhymes_other v_t_rhymes_other, iA cI 8 A_t_salt v_t_salt] o_r) ([.ref A_t] : List Value).toArray s 0 0 A) (F0 m 32 ls [.int s1, .int s0]) := by
        intro s0 s1 l2 H locs ls hl hP hD hS hf
        unfold f_X8_wordsBorneByNone_b32 at hf
        refine lv_iand hx hb dX8_wordsBorneByNone_32 ?_
        refine lv_istore_n (lv' := [(1, .int (s0 &&& s1)), (0, .ref A_t), (2, .int l2)]) hx hb dX8_wordsBorneByNone_33 rfl hl (by decide) rfl (fun ls hl => ?_)
        refine lv_iinc (v := (l2 + (1 : Int32))) (lv' := [(2, .int (l2 + (1 : Int32))), (1, .int (s0 &&& s1)), (0, .ref A_t)]) hx hb dX8_wordsBorneByNone_34 hl (k := 2) rfl rfl (by decide) rfl (fun ls hl => ?_)
        refine lv_goto (tgt := 5) hx hb dX8_wordsBorneByNone_37 (by decide) ?_
        exact ih_5 (s0 &&& s1) (l2 + (1 : Int32)) _ _ ls (lv_sub hl [2, 1, 0] rfl) hP hD hS hf
      intro l1 l2 H locs ls hl hP hD hS hf
      rw [f_X8_wordsBorneByNone_b5] at hf
      refine lv_iload_n hx hb dX8_wordsBorneByNone_5 rfl (lv_at hl 2 rfl) ?_
      refine lv_bipush (v := 8) hx hb dX8_wordsBorneByNone_6 (by decide) ?_
      refine lv_icmp_ge (tgt := 40) hx hb dX8_wordsBorneByNone_8 (by decide) (fun q => ?_) (fun q => ?_)
      · have hf := if_t q hf
        refine lv_iload_n hx hb dX8_wordsBorneByNone_40 rfl (lv_at hl 1 rfl) ?_
        obtain rfl := ev1 hf
        exact x_iret C hr hlk hP hD hS dX8_wordsBorneByNone_41
      · have hf := if_f q hf
        refine lv_iload_n hx hb dX8_wordsBorneByNone_11 rfl (lv_at hl 1 rfl) ?_
        refine lv_aload_n hx hb dX8_wordsBorneByNone_12 rfl (lv_at hl 0 rfl) ?_
        refine lv_iload_n hx hb dX8_wordsBorneByNone_13 rfl (lv_at hl 2 rfl) ?_
        obtain ⟨r1, hc2, hf⟩ := bd1_e hf
        refine x_callVI (ws' := [oX8 A_t A_t_rhymes A_t_kind A_t_salt A_t_ink A_t_dread A_t_tries x_t_told x_t_nerve x_t_pictures x_t_written x_t_day x_t_x, iA cI 128 A_t_dread v_t_dread, iA cI 8 A_t_kind v_t_kind, oX4 A_t_rhymes A_t_rhymes_other, iA cI 16 A_t_rhymes_other v_t_rhymes_other, iA cI 8 A_t_salt v_t_salt]) (rest := [.int l1]) C hK hP hD hS hA hl mf_X8_92 (c_X8_isTold hc2) [0] 0 8 rfl rfl rfl rfl rfl rfl rfl rfl rfl rfl (Nat.le_of_ble_eq_true rfl) ⟨Nat.le_of_ble_eq_true rfl, Nat.le_of_ble_eq_true rfl⟩ ⟨Nat.le_refl _, Nat.le_refl _⟩ dX8_wordsBorneByNone_14 ?_
        intro H locs hP hD hS
        refine lv_if_eq (tgt := 30) hx hb dX8_wordsBorneByNone_17 (by decide) (fun q => ?_) (fun q => ?_)
        · have hf := if_t q hf
          refine x_ldc C kc_X8_96 dX8_wordsBorneByNone_30 ?_
          exact hb_32 l1 (65535 : Int32) l2 _ _ ls (lv_sub hl [0, 2] rfl) hP hD hS hf
        · have hf := if_f q hf
          refine lv_aload_n hx hb dX8_wordsBorneByNone_20 rfl (lv_at hl 0 rfl) ?_
          refine lv_iload_n hx hb dX8_wordsBorneByNone_21 rfl (lv_at hl 2 rfl) ?_
          obtain ⟨r3, hc4, hf⟩ := bd1_e hf
          refine x_callVI (ws' := [oX8 A_t A_t_rhymes A_t_kind A_t_salt A_t_ink A_t_dread A_t_tries x_t_told x_t_nerve x_t_pictures x_t_written x_t_day x_t_x, iA cI 128 A_t_dread v_t_dread, iA cI 8 A_t_kind v_t_kind, oX4 A_t_rhymes A_t_rhymes_other, iA cI 16 A_t_rhymes_other v_t_rhymes_other, iA cI 8 A_t_salt v_t_salt]) (rest := [.int l1]) C hK hP hD hS hA hl mf_X8_97 (c_X8_wordsBorneBy hc4) [0, 1, 2, 3, 4, 5] 0 8 rfl rfl rfl rfl rfl rfl rfl rfl rfl rfl (Nat.le_of_ble_eq_true rfl) ⟨Nat.le_of_ble_eq_true rfl, Nat.le_of_ble_eq_true rfl⟩ ⟨Nat.le_refl _, Nat.le_refl _⟩ dX8_wordsBorneByNone_22 ?_
          intro H locs hP hD hS
          refine lv_iconst (v := -1) hx hb dX8_wordsBorneByNone_25 (by decide) ?_
          refine lv_ixor hx hb dX8_wordsBorneByNone_26 ?_
          refine lv_goto (tgt := 32) hx hb dX8_wordsBorneByNone_27 (by decide) ?_
          exact hb_32 l1 (r3 ^^^ (-1 : Int32)) l2 _ _ ls (lv_sub hl [0, 2] rfl) hP hD hS hf
  refine x_ldc C kc_X8_96 dX8_wordsBorneByNone_0 ?_
  refine lv_istore_n (lv' := [(1, .int (65535 : Int32)), (0, .ref A_t)]) hx hb dX8_wordsBorneByNone_2 rfl hl (by decide) rfl (fun ls hl => ?_)
  refine lv_iconst (v := 0) hx hb dX8_wordsBorneByNone_3 (by decide) ?_
  refine lv_istore_n (lv' := [(2, .int (0 : Int32)), (1, .int (65535 : Int32)), (0, .ref A_t)]) hx hb dX8_wordsBorneByNone_4 rfl hl (by decide) rfl (fun ls hl => ?_)
  exact hb_5 FU (65535 : Int32) (0 : Int32) _ _ ls (lv_sub hl [2, 1, 0] rfl) hP hD hS hf
def f_X8_bearsWithSalt_b46 (a1 : Int32) (a2 : Int32) (a3 : Int32) (k3 : Int32 → Option (Int32)) (l4 : Int32) : Option (Int32) :=
  k3 (l4 + (1 : Int32))
def f_X8_bearsWithSalt_b3 (v_t_dread : (Nat → Int32)) (v_t_kind : (Nat → Int32)) (v_t_rhymes_other : (Nat → Int32)) (x_t_nerve : Int32) (a1 : Int32) (a2 : Int32) (a3 : Int32) : Nat → Int32 → Option (Int32)
  | 0, _ => none
  | n + 1, l4 =>
    if (16 : Int32) ≤ l4 then
      some (1 : Int32)
    else
      bd1 (f_X8_unsalted v_t_dread v_t_kind v_t_rhymes_other a1 l4) (fun r1 =>
      bd1 (f_X11_bounded (r1 - a3) (99 : Int32)) (fun r2 =>
      if ((a2 >>> (l4 &&& 31)) &&& (1 : Int32)) = 0 then
        f_X8_bearsWithSalt_b46 a1 a2 a3 (f_X8_bearsWithSalt_b3 v_t_dread v_t_kind v_t_rhymes_other x_t_nerve a1 a2 a3 n) l4
      else
        if r2 ≤ x_t_nerve then
          f_X8_bearsWithSalt_b46 a1 a2 a3 (f_X8_bearsWithSalt_b3 v_t_dread v_t_kind v_t_rhymes_other x_t_nerve a1 a2 a3 n) l4
        else
          some (0 : Int32)))
def f_X8_bearsWithSalt (v_t_dread : (Nat → Int32)) (v_t_kind : (Nat → Int32)) (v_t_rhymes_other : (Nat → Int32)) (x_t_nerve : Int32) (a1 : Int32) (a2 : Int32) (a3 : Int32) : Option (Int32) :=
  f_X8_bearsWithSalt_b3 v_t_dread v_t_kind v_t_rhymes_other x_t_nerve a1 a2 a3 FU (0 : Int32)
set_option maxHeartbeats 4000000 in
set_option maxRecDepth 100000 in
theorem c_X8_bearsWithSalt {l : Launch} {D : va_G} {cI cB : ClassId} {A_t A_t_rhymes A_t_kind A_t_salt A_t_ink A_t_dread A_t_tries A_t_rhymes_other : Nat} {x_t_told x_t_nerve x_t_pictures x_t_written x_t_day x_t_x a1 a2 a3 : Int32} {v_t_dread v_t_kind v_t_rhymes_other : Nat → Int32} {o_r : Int32} (hf : f_X8_bearsWithSalt v_t_dread v_t_kind v_t_rhymes_other x_t_nerve a1 a2 a3 = some o_r) : CtI l D cI cB yX8_bearsWithSalt cX8_bearsWithSalt 6 (some .boolean) 2 44 [.ref A_t, .int a1, .int a2, .int a3] [oX8 A_t A_t_rhymes A_t_kind A_t_salt A_t_ink A_t_dread A_t_tries x_t_told x_t_nerve x_t_pictures x_t_written x_t_day x_t_x, iA cI 128 A_t_dread v_t_dread, iA cI 8 A_t_kind v_t_kind, oX4 A_t_rhymes A_t_rhymes_other, iA cI 16 A_t_rhymes_other v_t_rhymes_other] [oX8 A_t A_t_rhymes A_t_kind A_t_salt A_t_ink A_t_dread A_t_tries x_t_told x_t_nerve x_t_pictures x_t_written x_t_day x_t_x, iA cI 128 A_t_dread v_t_dread, iA cI 8 A_t_kind v_t_kind, oX4 A_t_rhymes A_t_rhymes_other, iA cI 16 A_t_rhymes_other v_t_rhymes_other] o_r := by
  refine x_startI (by decide) (Nat.le_of_ble_eq_true rfl) ?_
  intro p e s m below meth c A C hr hlk hA hK hP hD hS ls hl
  have hl : lv_has ls 6 [(0, .ref A_t), (1, .int a1), (2, .int a2), (3, .int a3)] := hl
  have hx := C.1
  have hb := C.2.1
  unfold f_X8_bearsWithSalt at hf
  have hb_3 : ∀ (n_3 : Nat) (l4 : Int32) (H : Heap) (locs : List Loc) (ls : Array Slot), lv_has ls 6 [(0, .ref A_t), (1, .int a1), (2, .int a2), (3, .int a3), (4, .int l4)] → va_P D vwCl [oX8 A_t A_t_rhymes A_t_kind A_t_salt A_t_ink A_t_dread A_t_tries x_t_told x_t_nerve x_t_pictures x_t_written x_t_day x_t_x, iA cI 128 A_t_dread v_t_dread, iA cI 8 A_t_kind v_t_kind, oX4 A_t_rhymes A_t_rhymes_other, iA cI 16 A_t_rhymes_other v_t_rhymes_other] H → va_D A [oX8 A_t A_t_rhymes A_t_kind A_t_salt A_t_ink A_t_dread A_t_tries x_t_told x_t_nerve x_t_pictures x_t_written x_t_day x_t_x, iA cI 128 A_t_dread v_t_dread, iA cI 8 A_t_kind v_t_kind, oX4 A_t_rhymes A_t_rhymes_other, iA cI 16 A_t_rhymes_other v_t_rhymes_other] → va_S A s.heap H locs → f_X8_bearsWithSalt_b3 v_t_dread v_t_kind v_t_rhymes_other x_t_nerve a1 a2 a3 n_3 l4 = some o_r → W p l e { frames := 2, cells := 0, slots := 0, locals := 44 } s m ([.ref A_t, .int a1, .int a2, .int a3] : List Value).toArray below meth c H locs 0 0 (MQ below (PoI D A [oX8 A_t A_t_rhymes A_t_kind A_t_salt A_t_ink A_t_dread A_t_tries x_t_told x_t_nerve x_t_pictures x_t_written x_t_day x_t_x, iA cI 128 A_t_dread v_t_dread, iA cI 8 A_t_kind v_t_kind, oX4 A_t_rhymes A_t_rhymes_other, iA cI 16 A_t_rhymes_other v_t_rhymes_other] o_r) ([.ref A_t, .int a1, .int a2, .int a3] : List Value).toArray s 0 0 A) (F0 m 3 ls []) := by
    intro n_3
    induction n_3 with
    | zero =>
      intro l4 H locs ls hl hP hD hS hf
      exact absurd hf (fun h => by rw [f_X8_bearsWithSalt_b3] at h; cases h)
    | succ n_3 ih_3 =>
      have hb_46 : ∀ (l4 : Int32) (H : Heap) (locs : List Loc) (ls : Array Slot), lv_has ls 6 [(0, .ref A_t), (1, .int a1), (2, .int a2), (3, .int a3), (4, .int l4)] → va_P D vwCl [oX8 A_t A_t_rhymes A_t_kind A_t_salt A_t_ink A_t_dread A_t_tries x_t_told x_t_nerve x_t_pictures x_t_written x_t_day x_t_x, iA cI 128 A_t_dread v_t_dread, iA cI 8 A_t_kind v_t_kind, oX4 A_t_rhymes A_t_rhymes_other, iA cI 16 A_t_rhymes_other v_t_rhymes_other] H → va_D A [oX8 A_t A_t_rhymes A_t_kind A_t_salt A_t_ink A_t_dread A_t_tries x_t_told x_t_nerve x_t_pictures x_t_written x_t_day x_t_x, iA cI 128 A_t_dread v_t_dread, iA cI 8 A_t_kind v_t_kind, oX4 A_t_rhymes A_t_rhymes_other, iA cI 16 A_t_rhymes_other v_t_rhymes_other] → va_S A s.heap H locs → f_X8_bearsWithSalt_b46 a1 a2 a3 (f_X8_bearsWithSalt_b3 v_t_dread v_t_kind v_t_rhymes_other x_t_nerve a1 a2 a3 n_3) l4 = some o_r → W p l e { frames := 2, cells := 0, slots := 0, locals := 44 } s m ([.ref A_t, .int a1, .int a2, .int a3] : List Value).toArray below meth c H locs 0 0 (MQ below (PoI D A [oX8 A_t A_t_rhymes A_t_kind A_t_salt A_t_ink A_t_dread A_t_tries x_t_told x_t_nerve x_t_pictures x_t_written x_t_day x_t_x, iA cI 128 A_t_dread v_t_dread, iA cI 8 A_t_kind v_t_kind, oX4 A_t_rhymes A_t_rhymes_other, iA cI 16 A_t_rhymes_other v_t_rhymes_other] o_r) ([.ref A_t, .int a1, .int a2, .int a3] : List Value).toArray s 0 0 A) (F0 m 46 ls []) := by
        intro l4 H locs ls hl hP hD hS hf
        unfold f_X8_bearsWithSalt_b46 at hf
        refine lv_iinc (v := (l4 + (1 : Int32))) (lv' := [(4, .int (l4 + (1 : Int32))), (0, .ref A_t), (1, .int a1), (2, .int a2), (3, .int a3)]) hx hb dX8_bearsWithSalt_46 hl (k := 4) rfl rfl (by decide) rfl (fun ls hl => ?_)
        refine lv_goto (tgt := 3) hx hb dX8_bearsWithSalt_49 (by decide) ?_
        exact ih_3 (l4 + (1 : Int32)) _ _ ls (lv_sub hl [1, 2, 3, 4, 0] rfl) hP hD hS hf
      intro l4 H locs ls hl hP hD hS hf
      rw [f_X8_bearsWithSalt_b3] at hf
      refine lv_iload hx hb dX8_bearsWithSalt_3 (lv_at hl 4 rfl) ?_
      refine lv_bipush (v := 16) hx hb dX8_bearsWithSalt_5 (by decide) ?_
      refine lv_icmp_ge (tgt := 52) hx hb dX8_bearsWithSalt_7 (by decide) (fun q => ?_) (fun q => ?_)
      · have hf := if_t q hf
        refine lv_iconst (v := 1) hx hb dX8_bearsWithSalt_52 (by decide) ?_
        obtain rfl := ev1 hf
        exact x_zret C hr hlk (Or.inr rfl) hP hD hS dX8_bearsWithSalt_53
      · have hf := if_f q hf
        refine lv_aload_n hx hb dX8_bearsWithSalt_10 rfl (lv_at hl 0 rfl) ?_
        refine lv_iload_n hx hb dX8_bearsWithSalt_11 rfl (lv_at hl 1 rfl) ?_
        refine lv_iload hx hb dX8_bearsWithSalt_12 (lv_at hl 4 rfl) ?_
        obtain ⟨r1, hc2, hf⟩ := bd1_e hf
        refine x_callVI (ws' := [oX8 A_t A_t_rhymes A_t_kind A_t_salt A_t_ink A_t_dread A_t_tries x_t_told x_t_nerve x_t_pictures x_t_written x_t_day x_t_x, iA cI 128 A_t_dread v_t_dread, iA cI 8 A_t_kind v_t_kind, oX4 A_t_rhymes A_t_rhymes_other, iA cI 16 A_t_rhymes_other v_t_rhymes_other]) (rest := []) C hK hP hD hS hA hl mf_X8_79 (c_X8_unsalted hc2) [0, 1, 2, 3, 4] 0 8 rfl rfl rfl rfl rfl rfl rfl rfl rfl rfl (Nat.le_of_ble_eq_true rfl) ⟨Nat.le_of_ble_eq_true rfl, Nat.le_of_ble_eq_true rfl⟩ ⟨Nat.le_refl _, Nat.le_refl _⟩ dX8_bearsWithSalt_14 ?_
        intro H locs hP hD hS
        refine lv_iload_n hx hb dX8_bearsWithSalt_17 rfl (lv_at hl 3 rfl) ?_
        refine lv_isub hx hb dX8_bearsWithSalt_18 ?_
        refine lv_bipush (v := 99) hx hb dX8_bearsWithSalt_19 (by decide) ?_
        obtain ⟨r3, hc4, hf⟩ := bd1_e hf
        refine x_callSI (ws' := [oX8 A_t A_t_rhymes A_t_kind A_t_salt A_t_ink A_t_dread A_t_tries x_t_told x_t_nerve x_t_pictures x_t_written x_t_day x_t_x, iA cI 128 A_t_dread v_t_dread, iA cI 8 A_t_kind v_t_kind, oX4 A_t_rhymes A_t_rhymes_other, iA cI 16 A_t_rhymes_other v_t_rhymes_other]) (rest := []) C hK hP hD hS hA hl mf_X8_56 (c_X11_bounded hc4) [] rfl rfl rfl rfl rfl rfl rfl rfl (Nat.le_of_ble_eq_true rfl) ⟨Nat.le_of_ble_eq_true rfl, Nat.le_of_ble_eq_true rfl⟩ ⟨Nat.le_refl _, Nat.le_refl _⟩ dX8_bearsWithSalt_21 ?_
        intro H locs hP hD hS
        refine lv_istore (lv' := [(5, .int r3), (0, .ref A_t), (1, .int a1), (2, .int a2), (3, .int a3), (4, .int l4)]) hx hb dX8_bearsWithSalt_24 hl (by decide) rfl (fun ls hl => ?_)
        refine lv_iload_n hx hb dX8_bearsWithSalt_26 rfl (lv_at hl 3 rfl) ?_
        refine lv_iload hx hb dX8_bearsWithSalt_27 (lv_at hl 5 rfl) ?_
        refine lv_ishr hx hb dX8_bearsWithSalt_29 ?_
        refine lv_iconst (v := 1) hx hb dX8_bearsWithSalt_30 (by decide) ?_
        refine lv_iand hx hb dX8_bearsWithSalt_31 ?_
        refine lv_if_eq (tgt := 46) hx hb dX8_bearsWithSalt_32 (by decide) (fun q => ?_) (fun q => ?_)
        · have hf := if_t q hf
          exact hb_46 l4 _ _ ls (lv_sub hl [1, 2, 3, 4, 5] rfl) hP hD hS hf
        · have hf := if_f q hf
          refine lv_iload hx hb dX8_bearsWithSalt_35 (lv_at hl 0 rfl) ?_
          refine lv_aload_n hx hb dX8_bearsWithSalt_37 rfl (lv_at hl 1 rfl) ?_
          refine x_get C hK hP fd_X8_31 0 rfl rfl dX8_bearsWithSalt_38 ?_
          refine lv_icmp_le (tgt := 46) hx hb dX8_bearsWithSalt_41 (by decide) (fun q => ?_) (fun q => ?_)
          · have hf := if_t q hf
            exact hb_46 l4 _ _ ls (lv_sub hl [1, 2, 3, 4, 5] rfl) hP hD hS hf
          · have hf := if_f q hf
            refine lv_iconst (v := 0) hx hb dX8_bearsWithSalt_44 (by decide) ?_
            obtain rfl := ev1 hf
            exact x_zret C hr hlk (Or.inl rfl) hP hD hS dX8_bearsWithSalt_45
  refine lv_iconst (v := 0) hx hb dX8_bearsWithSalt_0 (by decide) ?_
  refine lv_istore (lv' := [(4, .int (0 : Int32)), (0, .ref A_t), (1, .int a1), (2, .int a2), (3, .int a3)]) hx hb dX8_bearsWithSalt_1 hl (by decide) rfl (fun ls hl => ?_)
  exact hb_3 FU (0 : Int32) _ _ ls (lv_sub hl [1, 2, 3, 4, 0] rfl) hP hD hS hf
def f_X8_mixtureBears_b58 (a1 : Int32) (a2 : Int32) (a3 : Int32) (a4 : Int32) (k3 : Int32 → Option (Int32)) (l5 : Int32) : Option (Int32) :=
  k3 (l5 + (1 : Int32))
def f_X8_mixtureBears_b3 (v_t_dread : (Nat → Int32)) (v_t_kind : (Nat → Int32)) (v_t_rhymes_other : (Nat → Int32)) (v_t_salt : (Nat → Int32)) (x_t_nerve : Int32) (a1 : Int32) (a2 : Int32) (a3 : Int32) (a4 : Int32) : Nat → Int32 → Option (Int32)
  | 0, _ => none
  | n + 1, l5 =>
    if (16 : Int32) ≤ l5 then
      some (1 : Int32)
    else
      bd1 (f_X8_shrinking v_t_dread v_t_kind v_t_rhymes_other v_t_salt a1 l5) (fun r1 =>
      bd1 (f_X8_shrinking v_t_dread v_t_kind v_t_rhymes_other v_t_salt a2 l5) (fun r2 =>
      dI ((a3 * r1) + (((8 : Int32) - a3) * r2)) (8 : Int32) (fun g3 =>
      if ((a4 >>> (l5 &&& 31)) &&& (1 : Int32)) = 0 then
        f_X8_mixtureBears_b58 a1 a2 a3 a4 (f_X8_mixtureBears_b3 v_t_dread v_t_kind v_t_rhymes_other v_t_salt x_t_nerve a1 a2 a3 a4 n) l5
      else
        if g3 ≤ x_t_nerve then
          f_X8_mixtureBears_b58 a1 a2 a3 a4 (f_X8_mixtureBears_b3 v_t_dread v_t_kind v_t_rhymes_other v_t_salt x_t_nerve a1 a2 a3 a4 n) l5
        else
          some (0 : Int32))))
def f_X8_mixtureBears (v_t_dread : (Nat → Int32)) (v_t_kind : (Nat → Int32)) (v_t_rhymes_other : (Nat → Int32)) (v_t_salt : (Nat → Int32)) (x_t_nerve : Int32) (a1 : Int32) (a2 : Int32) (a3 : Int32) (a4 : Int32) : Option (Int32) :=
  f_X8_mixtureBears_b3 v_t_dread v_t_kind v_t_rhymes_other v_t_salt x_t_nerve a1 a2 a3 a4 FU (0 : Int32)
set_option maxHeartbeats 4000000 in
set_option maxRecDepth 100000 in
theorem c_X8_mixtureBears {l : Launch} {D : va_G} {cI cB : ClassId} {A_t A_t_rhymes A_t_kind A_t_salt A_t_ink A_t_dread A_t_tries A_t_rhymes_other : Nat} {x_t_told x_t_nerve x_t_pictures x_t_written x_t_day x_t_x a1 a2 a3 a4 : Int32} {v_t_dread v_t_kind v_t_rhymes_other v_t_salt : Nat → Int32} {o_r : Int32} (hf : f_X8_mixtureBears v_t_dread v_t_kind v_t_rhymes_other v_t_salt x_t_nerve a1 a2 a3 a4 = some o_r) : CtI l D cI cB yX8_mixtureBears cX8_mixtureBears 7 (some .boolean) 3 66 [.ref A_t, .int a1, .int a2, .int a3, .int a4] [oX8 A_t A_t_rhymes A_t_kind A_t_salt A_t_ink A_t_dread A_t_tries x_t_told x_t_nerve x_t_pictures x_t_written x_t_day x_t_x, iA cI 128 A_t_dread v_t_dread, iA cI 8 A_t_kind v_t_kind, oX4 A_t_rhymes A_t_rhymes_other, iA cI 16 A_t_rhymes_other v_t_rhymes_other, iA cI 8 A_t_salt v_t_salt] [oX8 A_t A_t_rhymes A_t_kind A_t_salt A_t_ink A_t_dread A_t_tries x_t_told x_t_nerve x_t_pictures x_t_written x_t_day x_t_x, iA cI 128 A_t_dread v_t_dread, iA cI 8 A_t_kind v_t_kind, oX4 A_t_rhymes A_t_rhymes_other, iA cI 16 A_t_rhymes_other v_t_rhymes_other, iA cI 8 A_t_salt v_t_salt] o_r := by
  refine x_startI (by decide) (Nat.le_of_ble_eq_true rfl) ?_
  intro p e s m below meth c A C hr hlk hA hK hP hD hS ls hl
  have hl : lv_has ls 7 [(0, .ref A_t), (1, .int a1), (2, .int a2), (3, .int a3), (4, .int a4)] := hl
  have hx := C.1
  have hb := C.2.1
  unfold f_X8_mixtureBears at hf
  have hb_3 : ∀ (n_3 : Nat) (l5 : Int32) (H : Heap) (locs : List Loc) (ls : Array Slot), lv_has ls 7 [(0, .ref A_t), (1, .int a1), (2, .int a2), (3, .int a3), (4, .int a4), (5, .int l5)] → va_P D vwCl [oX8 A_t A_t_rhymes A_t_kind A_t_salt A_t_ink A_t_dread A_t_tries x_t_told x_t_nerve x_t_pictures x_t_written x_t_day x_t_x, iA cI 128 A_t_dread v_t_dread, iA cI 8 A_t_kind v_t_kind, oX4 A_t_rhymes A_t_rhymes_other, iA cI 16 A_t_rhymes_other v_t_rhymes_other, iA cI 8 A_t_salt v_t_salt] H → va_D A [oX8 A_t A_t_rhymes A_t_kind A_t_salt A_t_ink A_t_dread A_t_tries x_t_told x_t_nerve x_t_pictures x_t_written x_t_day x_t_x, iA cI 128 A_t_dread v_t_dread, iA cI 8 A_t_kind v_t_kind, oX4 A_t_rhymes A_t_rhymes_other, iA cI 16 A_t_rhymes_other v_t_rhymes_other, iA cI 8 A_t_salt v_t_salt] → va_S A s.heap H locs → f_X8_mixtureBears_b3 v_t_dread v_t_kind v_t_rhymes_other v_t_salt x_t_nerve a1 a2 a3 a4 n_3 l5 = some o_r → W p l e { frames := 3, cells := 0, slots := 0, locals := 66 } s m ([.ref A_t, .int a1, .int a2, .int a3, .int a4] : List Value).toArray below meth c H locs 0 0 (MQ below (PoI D A [oX8 A_t A_t_rhymes A_t_kind A_t_salt A_t_ink A_t_dread A_t_tries x_t_told x_t_nerve x_t_pictures x_t_written x_t_day x_t_x, iA cI 128 A_t_dread v_t_dread, iA cI 8 A_t_kind v_t_kind, oX4 A_t_rhymes A_t_rhymes_other, iA cI 16 A_t_rhymes_other v_t_rhymes_other, iA cI 8 A_t_salt v_t_salt] o_r) ([.ref A_t, .int a1, .int a2, .int a3, .int a4] : List Value).toArray s 0 0 A) (F0 m 3 ls []) := by
    intro n_3
    induction n_3 with
    | zero =>
      intro l5 H locs ls hl hP hD hS hf
      exact absurd hf (fun h => by rw [f_X8_mixtureBears_b3] at h; cases h)
    | succ n_3 ih_3 =>
      have hb_58 : ∀ (l5 : Int32) (H : Heap) (locs : List Loc) (ls : Array Slot), lv_has ls 7 [(0, .ref A_t), (1, .int a1), (2, .int a2), (3, .int a3), (4, .int a4), (5, .int l5)] → va_P D vwCl [oX8 A_t A_t_rhymes A_t_kind A_t_salt A_t_ink A_t_dread A_t_tries x_t_told x_t_nerve x_t_pictures x_t_written x_t_day x_t_x, iA cI 128 A_t_dread v_t_dread, iA cI 8 A_t_kind v_t_kind, oX4 A_t_rhymes A_t_rhymes_other, iA cI 16 A_t_rhymes_other v_t_rhymes_other, iA cI 8 A_t_salt v_t_salt] H → va_D A [oX8 A_t A_t_rhymes A_t_kind A_t_salt A_t_ink A_t_dread A_t_tries x_t_told x_t_nerve x_t_pictures x_t_written x_t_day x_t_x, iA cI 128 A_t_dread v_t_dread, iA cI 8 A_t_kind v_t_kind, oX4 A_t_rhymes A_t_rhymes_other, iA cI 16 A_t_rhymes_other v_t_rhymes_other, iA cI 8 A_t_salt v_t_salt] → va_S A s.heap H locs → f_X8_mixtureBears_b58 a1 a2 a3 a4 (f_X8_mixtureBears_b3 v_t_dread v_t_kind v_t_rhymes_other v_t_salt x_t_nerve a1 a2 a3 a4 n_3) l5 = some o_r → W p l e { frames := 3, cells := 0, slots := 0, locals := 66 } s m ([.ref A_t, .int a1, .int a2, .int a3, .int a4] : List Value).toArray below meth c H locs 0 0 (MQ below (PoI D A [oX8 A_t A_t_rhymes A_t_kind A_t_salt A_t_ink A_t_dread A_t_tries x_t_told x_t_nerve x_t_pictures x_t_written x_t_day x_t_x, iA cI 128 A_t_dread v_t_dread, iA cI 8 A_t_kind v_t_kind, oX4 A_t_rhymes A_t_rhymes_other, iA cI 16 A_t_rhymes_other v_t_rhymes_other, iA cI 8 A_t_salt v_t_salt] o_r) ([.ref A_t, .int a1, .int a2, .int a3, .int a4] : List Value).toArray s 0 0 A) (F0 m 58 ls []) := by
        intro l5 H locs ls hl hP hD hS hf
        unfold f_X8_mixtureBears_b58 at hf
        refine lv_iinc (v := (l5 + (1 : Int32))) (lv' := [(5, .int (l5 + (1 : Int32))), (0, .ref A_t), (1, .int a1), (2, .int a2), (3, .int a3), (4, .int a4)]) hx hb dX8_mixtureBears_58 hl (k := 5) rfl rfl (by decide) rfl (fun ls hl => ?_)
        refine lv_goto (tgt := 3) hx hb dX8_mixtureBears_61 (by decide) ?_
        exact ih_3 (l5 + (1 : Int32)) _ _ ls (lv_sub hl [1, 2, 3, 4, 5, 0] rfl) hP hD hS hf
      intro l5 H locs ls hl hP hD hS hf
      rw [f_X8_mixtureBears_b3] at hf
      refine lv_iload hx hb dX8_mixtureBears_3 (lv_at hl 5 rfl) ?_
      refine lv_bipush (v := 16) hx hb dX8_mixtureBears_5 (by decide) ?_
      refine lv_icmp_ge (tgt := 64) hx hb dX8_mixtureBears_7 (by decide) (fun q => ?_) (fun q => ?_)
      · have hf := if_t q hf
        refine lv_iconst (v := 1) hx hb dX8_mixtureBears_64 (by decide) ?_
        obtain rfl := ev1 hf
        exact x_zret C hr hlk (Or.inr rfl) hP hD hS dX8_mixtureBears_65
      · have hf := if_f q hf
        refine lv_iload_n hx hb dX8_mixtureBears_10 rfl (lv_at hl 3 rfl) ?_
        refine lv_aload_n hx hb dX8_mixtureBears_11 rfl (lv_at hl 0 rfl) ?_
        refine lv_iload_n hx hb dX8_mixtureBears_12 rfl (lv_at hl 1 rfl) ?_
        refine lv_iload hx hb dX8_mixtureBears_13 (lv_at hl 5 rfl) ?_
        obtain ⟨r1, hc2, hf⟩ := bd1_e hf
        refine x_callVI (ws' := [oX8 A_t A_t_rhymes A_t_kind A_t_salt A_t_ink A_t_dread A_t_tries x_t_told x_t_nerve x_t_pictures x_t_written x_t_day x_t_x, iA cI 128 A_t_dread v_t_dread, iA cI 8 A_t_kind v_t_kind, oX4 A_t_rhymes A_t_rhymes_other, iA cI 16 A_t_rhymes_other v_t_rhymes_other, iA cI 8 A_t_salt v_t_salt]) (rest := [.int a3]) C hK hP hD hS hA hl mf_X8_85 (c_X8_shrinking hc2) [0, 1, 2, 3, 4, 5] 0 8 rfl rfl rfl rfl rfl rfl rfl rfl rfl rfl (Nat.le_of_ble_eq_true rfl) ⟨Nat.le_of_ble_eq_true rfl, Nat.le_of_ble_eq_true rfl⟩ ⟨Nat.le_refl _, Nat.le_refl _⟩ dX8_mixtureBears_15 ?_
        intro H locs hP hD hS
        refine lv_imul hx hb dX8_mixtureBears_18 ?_
        refine lv_bipush (v := 8) hx hb dX8_mixtureBears_19 (by decide) ?_
        refine lv_iload_n hx hb dX8_mixtureBears_21 rfl (lv_at hl 3 rfl) ?_
        refine lv_isub hx hb dX8_mixtureBears_22 ?_
        refine lv_aload_n hx hb dX8_mixtureBears_23 rfl (lv_at hl 0 rfl) ?_
        refine lv_iload_n hx hb dX8_mixtureBears_24 rfl (lv_at hl 2 rfl) ?_
        refine lv_iload hx hb dX8_mixtureBears_25 (lv_at hl 5 rfl) ?_
        obtain ⟨r3, hc4, hf⟩ := bd1_e hf
        refine x_callVI (ws' := [oX8 A_t A_t_rhymes A_t_kind A_t_salt A_t_ink A_t_dread A_t_tries x_t_told x_t_nerve x_t_pictures x_t_written x_t_day x_t_x, iA cI 128 A_t_dread v_t_dread, iA cI 8 A_t_kind v_t_kind, oX4 A_t_rhymes A_t_rhymes_other, iA cI 16 A_t_rhymes_other v_t_rhymes_other, iA cI 8 A_t_salt v_t_salt]) (rest := [.int ((8 : Int32) - a3), .int (a3 * r1)]) C hK hP hD hS hA hl mf_X8_85 (c_X8_shrinking hc4) [0, 1, 2, 3, 4, 5] 0 8 rfl rfl rfl rfl rfl rfl rfl rfl rfl rfl (Nat.le_of_ble_eq_true rfl) ⟨Nat.le_of_ble_eq_true rfl, Nat.le_of_ble_eq_true rfl⟩ ⟨Nat.le_refl _, Nat.le_refl _⟩ dX8_mixtureBears_27 ?_
        intro H locs hP hD hS
        refine lv_imul hx hb dX8_mixtureBears_30 ?_
        refine lv_iadd hx hb dX8_mixtureBears_31 ?_
        refine lv_bipush (v := 8) hx hb dX8_mixtureBears_32 (by decide) ?_
        obtain ⟨hz, hf⟩ := dI_e hf
        refine lv_idiv hx hb dX8_mixtureBears_34 hz ?_
        refine lv_istore (lv' := [(6, .int (((a3 * r1) + (((8 : Int32) - a3) * r3)) / (8 : Int32))), (0, .ref A_t), (1, .int a1), (2, .int a2), (3, .int a3), (4, .int a4), (5, .int l5)]) hx hb dX8_mixtureBears_35 hl (by decide) rfl (fun ls hl => ?_)
        refine lv_iload hx hb dX8_mixtureBears_37 (lv_at hl 5 rfl) ?_
        refine lv_iload hx hb dX8_mixtureBears_39 (lv_at hl 6 rfl) ?_
        refine lv_ishr hx hb dX8_mixtureBears_41 ?_
        refine lv_iconst (v := 1) hx hb dX8_mixtureBears_42 (by decide) ?_
        refine lv_iand hx hb dX8_mixtureBears_43 ?_
        refine lv_if_eq (tgt := 58) hx hb dX8_mixtureBears_44 (by decide) (fun q => ?_) (fun q => ?_)
        · have hf := if_t q hf
          exact hb_58 l5 _ _ ls (lv_sub hl [1, 2, 3, 4, 5, 6] rfl) hP hD hS hf
        · have hf := if_f q hf
          refine lv_iload hx hb dX8_mixtureBears_47 (lv_at hl 0 rfl) ?_
          refine lv_aload_n hx hb dX8_mixtureBears_49 rfl (lv_at hl 1 rfl) ?_
          refine x_get C hK hP fd_X8_31 0 rfl rfl dX8_mixtureBears_50 ?_
          refine lv_icmp_le (tgt := 58) hx hb dX8_mixtureBears_53 (by decide) (fun q => ?_) (fun q => ?_)
          · have hf := if_t q hf
            exact hb_58 l5 _ _ ls (lv_sub hl [1, 2, 3, 4, 5, 6] rfl) hP hD hS hf
          · have hf := if_f q hf
            refine lv_iconst (v := 0) hx hb dX8_mixtureBears_56 (by decide) ?_
            obtain rfl := ev1 hf
            exact x_zret C hr hlk (Or.inl rfl) hP hD hS dX8_mixtureBears_57
  refine lv_iconst (v := 0) hx hb dX8_mixtureBears_0 (by decide) ?_
  refine lv_istore (lv' := [(5, .int (0 : Int32)), (0, .ref A_t), (1, .int a1), (2, .int a2), (3, .int a3), (4, .int a4)]) hx hb dX8_mixtureBears_1 hl (by decide) rfl (fun ls hl => ?_)
  exact hb_3 FU (0 : Int32) _ _ ls (lv_sub hl [1, 2, 3, 4, 5, 0] rfl) hP hD hS hf
def f_X8_countWord_b39 (x_t_pictures : Int32) (x_t_written : Int32) : Option (Int32 × Int32) :=
  some (x_t_pictures, x_t_written)
def f_X8_countWord (x_t_pictures : Int32) (x_t_written : Int32) (a1 : Int32) : Option (Int32 × Int32) :=
  if a1 = 0 then
    f_X8_countWord_b39 (mnI (x_t_pictures + (1 : Int32)) (9999 : Int32)) x_t_written
  else
    f_X8_countWord_b39 x_t_pictures (mnI (x_t_written + (1 : Int32)) (9999 : Int32))
set_option maxHeartbeats 4000000 in
set_option maxRecDepth 100000 in
theorem c_X8_countWord {l : Launch} {D : va_G} {cI cB : ClassId} {A_t A_t_rhymes A_t_kind A_t_salt A_t_ink A_t_dread A_t_tries : Nat} {x_t_told x_t_nerve x_t_pictures x_t_written x_t_day x_t_x a1 : Int32} {o_x_t_pictures o_x_t_written : Int32} (hf : f_X8_countWord x_t_pictures x_t_written a1 = some (o_x_t_pictures, o_x_t_written)) : CtV l D cI cB yX8_countWord cX8_countWord 2 1 21 [.ref A_t, .int a1] [oX8 A_t A_t_rhymes A_t_kind A_t_salt A_t_ink A_t_dread A_t_tries x_t_told x_t_nerve x_t_pictures x_t_written x_t_day x_t_x] [oX8 A_t A_t_rhymes A_t_kind A_t_salt A_t_ink A_t_dread A_t_tries x_t_told x_t_nerve o_x_t_pictures o_x_t_written x_t_day x_t_x] := by
  refine x_startV (by decide) (Nat.le_of_ble_eq_true rfl) ?_
  intro p e s m below meth c A C hr hlk hA hK hP hD hS ls hl
  have hl : lv_has ls 2 [(0, .ref A_t), (1, .int a1)] := hl
  have hx := C.1
  have hb := C.2.1
  unfold f_X8_countWord at hf
  have hb_39 : ∀ (x_t_pictures : Int32) (x_t_written : Int32) (H : Heap) (locs : List Loc) (ls : Array Slot), lv_has ls 2 [] → va_P D vwCl [oX8 A_t A_t_rhymes A_t_kind A_t_salt A_t_ink A_t_dread A_t_tries x_t_told x_t_nerve x_t_pictures x_t_written x_t_day x_t_x] H → va_D A [oX8 A_t A_t_rhymes A_t_kind A_t_salt A_t_ink A_t_dread A_t_tries x_t_told x_t_nerve x_t_pictures x_t_written x_t_day x_t_x] → va_S A s.heap H locs → f_X8_countWord_b39 x_t_pictures x_t_written = some (o_x_t_pictures, o_x_t_written) → W p l e { frames := 1, cells := 0, slots := 0, locals := 21 } s m ([.ref A_t, .int a1] : List Value).toArray below meth c H locs 0 0 (MQ below (PoV D A [oX8 A_t A_t_rhymes A_t_kind A_t_salt A_t_ink A_t_dread A_t_tries x_t_told x_t_nerve o_x_t_pictures o_x_t_written x_t_day x_t_x]) ([.ref A_t, .int a1] : List Value).toArray s 0 0 A) (F0 m 39 ls []) := by
    intro x_t_pictures x_t_written H locs ls hl hP hD hS hf
    unfold f_X8_countWord_b39 at hf
    obtain ⟨rfl, rfl⟩ := ev2 hf
    exact x_vret C hr hlk hP hD hS dX8_countWord_39
  refine lv_iload_n hx hb dX8_countWord_0 rfl (lv_at hl 1 rfl) ?_
  refine lv_if_eq (tgt := 23) hx hb dX8_countWord_1 (by decide) (fun q => ?_) (fun q => ?_)
  · have hf := if_t q hf
    refine lv_aload_n hx hb dX8_countWord_23 rfl (lv_at hl 0 rfl) ?_
    refine lv_aload_n hx hb dX8_countWord_24 rfl (lv_at hl 0 rfl) ?_
    refine x_get C hK hP fd_X8_47 0 rfl rfl dX8_countWord_25 ?_
    refine lv_iconst (v := 1) hx hb dX8_countWord_28 (by decide) ?_
    refine lv_iadd hx hb dX8_countWord_29 ?_
    refine lv_sipush (v := 9999) hx hb dX8_countWord_30 (by decide) ?_
    refine x_mmin C hl ml_X8_100 (Nat.le_of_ble_eq_true rfl) (Nat.le_of_ble_eq_true rfl) ⟨Nat.le_refl _, Nat.le_refl _⟩ dX8_countWord_33 ?_
    refine x_put (ws' := [oX8 A_t A_t_rhymes A_t_kind A_t_salt A_t_ink A_t_dread A_t_tries x_t_told x_t_nerve (mnI (x_t_pictures + (1 : Int32)) (9999 : Int32)) x_t_written x_t_day x_t_x]) C hK hP hD hS fp_X8_47 0 rfl rfl rfl (Nat.le_of_ble_eq_true rfl) rfl dX8_countWord_36 ?_
    intro H locs hP hD hS
    exact hb_39 (mnI (x_t_pictures + (1 : Int32)) (9999 : Int32)) x_t_written _ _ ls (lv_sub hl [] rfl) hP hD hS hf
  · have hf := if_f q hf
    refine lv_aload_n hx hb dX8_countWord_4 rfl (lv_at hl 0 rfl) ?_
    refine lv_aload_n hx hb dX8_countWord_5 rfl (lv_at hl 0 rfl) ?_
    refine x_get C hK hP fd_X8_50 0 rfl rfl dX8_countWord_6 ?_
    refine lv_iconst (v := 1) hx hb dX8_countWord_9 (by decide) ?_
    refine lv_iadd hx hb dX8_countWord_10 ?_
    refine lv_sipush (v := 9999) hx hb dX8_countWord_11 (by decide) ?_
    refine x_mmin C hl ml_X8_100 (Nat.le_of_ble_eq_true rfl) (Nat.le_of_ble_eq_true rfl) ⟨Nat.le_refl _, Nat.le_refl _⟩ dX8_countWord_14 ?_
    refine x_put (ws' := [oX8 A_t A_t_rhymes A_t_kind A_t_salt A_t_ink A_t_dread A_t_tries x_t_told x_t_nerve x_t_pictures (mnI (x_t_written + (1 : Int32)) (9999 : Int32)) x_t_day x_t_x]) C hK hP hD hS fp_X8_50 0 rfl rfl rfl (Nat.le_of_ble_eq_true rfl) rfl dX8_countWord_17 ?_
    intro H locs hP hD hS
    refine lv_goto (tgt := 39) hx hb dX8_countWord_20 (by decide) ?_
    exact hb_39 x_t_pictures (mnI (x_t_written + (1 : Int32)) (9999 : Int32)) _ _ ls (lv_sub hl [] rfl) hP hD hS hf
def f_X8_makeUsed_b43 (v_t_dread : (Nat → Int32)) (v_t_tries : (Nat → Int32)) : Option ((Nat → Int32) × (Nat → Int32)) :=
  some (v_t_dread, v_t_tries)
def f_X8_makeUsed (v_t_dread : (Nat → Int32)) (v_t_rhymes_other : (Nat → Int32)) (v_t_tries : (Nat → Int32)) (a1 : Int32) (a2 : Int32) : Option ((Nat → Int32) × (Nat → Int32)) :=
  bd1 (f_X8_setDread v_t_dread a1 a2 (0 : Int32)) (fun w1 =>
  bd1 (f_X8_setTries v_t_tries a1 a2 (0 : Int32)) (fun w2 =>
  bd1 (f_X4_of v_t_rhymes_other a2) (fun r3 =>
  if r3 = a2 then
    f_X8_makeUsed_b43 w1 w2
  else
    bd1 (f_X8_dreadOf w1 a1 r3) (fun r4 =>
    bd1 (f_X8_setDread w1 a1 r3 (r4 + (9 : Int32))) (fun w5 =>
    f_X8_makeUsed_b43 w5 w2)))))
set_option maxHeartbeats 4000000 in
set_option maxRecDepth 100000 in
theorem c_X8_makeUsed {l : Launch} {D : va_G} {cI cB : ClassId} {A_t A_t_rhymes A_t_kind A_t_salt A_t_ink A_t_dread A_t_tries A_t_rhymes_other : Nat} {x_t_told x_t_nerve x_t_pictures x_t_written x_t_day x_t_x a1 a2 : Int32} {v_t_dread v_t_rhymes_other v_t_tries : Nat → Int32} {o_v_t_dread o_v_t_tries : Nat → Int32} (hf : f_X8_makeUsed v_t_dread v_t_rhymes_other v_t_tries a1 a2 = some (o_v_t_dread, o_v_t_tries)) : CtV l D cI cB yX8_makeUsed cX8_makeUsed 4 3 65 [.ref A_t, .int a1, .int a2] [oX8 A_t A_t_rhymes A_t_kind A_t_salt A_t_ink A_t_dread A_t_tries x_t_told x_t_nerve x_t_pictures x_t_written x_t_day x_t_x, iA cI 128 A_t_dread v_t_dread, oX4 A_t_rhymes A_t_rhymes_other, iA cI 16 A_t_rhymes_other v_t_rhymes_other, iA cI 128 A_t_tries v_t_tries] [oX8 A_t A_t_rhymes A_t_kind A_t_salt A_t_ink A_t_dread A_t_tries x_t_told x_t_nerve x_t_pictures x_t_written x_t_day x_t_x, iA cI 128 A_t_dread o_v_t_dread, oX4 A_t_rhymes A_t_rhymes_other, iA cI 16 A_t_rhymes_other v_t_rhymes_other, iA cI 128 A_t_tries o_v_t_tries] := by
  refine x_startV (by decide) (Nat.le_of_ble_eq_true rfl) ?_
  intro p e s m below meth c A C hr hlk hA hK hP hD hS ls hl
  have hl : lv_has ls 4 [(0, .ref A_t), (1, .int a1), (2, .int a2)] := hl
  have hx := C.1
  have hb := C.2.1
  unfold f_X8_makeUsed at hf
  have hb_43 : ∀ (v_t_dread : (Nat → Int32)) (v_t_tries : (Nat → Int32)) (H : Heap) (locs : List Loc) (ls : Array Slot), lv_has ls 4 [] → va_P D vwCl [oX8 A_t A_t_rhymes A_t_kind A_t_salt A_t_ink A_t_dread A_t_tries x_t_told x_t_nerve x_t_pictures x_t_written x_t_day x_t_x, iA cI 128 A_t_dread v_t_dread, oX4 A_t_rhymes A_t_rhymes_other, iA cI 16 A_t_rhymes_other v_t_rhymes_other, iA cI 128 A_t_tries v_t_tries] H → va_D A [oX8 A_t A_t_rhymes A_t_kind A_t_salt A_t_ink A_t_dread A_t_tries x_t_told x_t_nerve x_t_pictures x_t_written x_t_day x_t_x, iA cI 128 A_t_dread v_t_dread, oX4 A_t_rhymes A_t_rhymes_other, iA cI 16 A_t_rhymes_other v_t_rhymes_other, iA cI 128 A_t_tries v_t_tries] → va_S A s.heap H locs → f_X8_makeUsed_b43 v_t_dread v_t_tries = some (o_v_t_dread, o_v_t_tries) → W p l e { frames := 3, cells := 0, slots := 0, locals := 65 } s m ([.ref A_t, .int a1, .int a2] : List Value).toArray below meth c H locs 0 0 (MQ below (PoV D A [oX8 A_t A_t_rhymes A_t_kind A_t_salt A_t_ink A_t_dread A_t_tries x_t_told x_t_nerve x_t_pictures x_t_written x_t_day x_t_x, iA cI 128 A_t_dread o_v_t_dread, oX4 A_t_rhymes A_t_rhymes_other, iA cI 16 A_t_rhymes_other v_t_rhymes_other, iA cI 128 A_t_tries o_v_t_tries]) ([.ref A_t, .int a1, .int a2] : List Value).toArray s 0 0 A) (F0 m 43 ls []) := by
    intro v_t_dread v_t_tries H locs ls hl hP hD hS hf
    unfold f_X8_makeUsed_b43 at hf
    obtain ⟨rfl, rfl⟩ := ev2 hf
    exact x_vret C hr hlk hP hD hS dX8_makeUsed_43
  refine lv_aload_n hx hb dX8_makeUsed_0 rfl (lv_at hl 0 rfl) ?_
  refine lv_iload_n hx hb dX8_makeUsed_1 rfl (lv_at hl 1 rfl) ?_
  refine lv_iload_n hx hb dX8_makeUsed_2 rfl (lv_at hl 2 rfl) ?_
  refine lv_iconst (v := 0) hx hb dX8_makeUsed_3 (by decide) ?_
  obtain ⟨w1, hc2, hf⟩ := bd1_e hf
  refine x_callVV (ws' := [oX8 A_t A_t_rhymes A_t_kind A_t_salt A_t_ink A_t_dread A_t_tries x_t_told x_t_nerve x_t_pictures x_t_written x_t_day x_t_x, iA cI 128 A_t_dread w1, oX4 A_t_rhymes A_t_rhymes_other, iA cI 16 A_t_rhymes_other v_t_rhymes_other, iA cI 128 A_t_tries v_t_tries]) (rest := []) C hK hP hD hS hA hl mf_X8_68 (c_X8_setDread hc2) [0, 1] 0 8 rfl rfl rfl rfl rfl rfl rfl rfl rfl rfl (Nat.le_of_ble_eq_true rfl) ⟨Nat.le_of_ble_eq_true rfl, Nat.le_of_ble_eq_true rfl⟩ ⟨Nat.le_refl _, Nat.le_refl _⟩ dX8_makeUsed_4 ?_
  intro H locs hP hD hS
  refine lv_aload_n hx hb dX8_makeUsed_7 rfl (lv_at hl 0 rfl) ?_
  refine lv_iload_n hx hb dX8_makeUsed_8 rfl (lv_at hl 1 rfl) ?_
  refine lv_iload_n hx hb dX8_makeUsed_9 rfl (lv_at hl 2 rfl) ?_
  refine lv_iconst (v := 0) hx hb dX8_makeUsed_10 (by decide) ?_
  obtain ⟨w3, hc4, hf⟩ := bd1_e hf
  refine x_callVV (ws' := [oX8 A_t A_t_rhymes A_t_kind A_t_salt A_t_ink A_t_dread A_t_tries x_t_told x_t_nerve x_t_pictures x_t_written x_t_day x_t_x, iA cI 128 A_t_dread w1, oX4 A_t_rhymes A_t_rhymes_other, iA cI 16 A_t_rhymes_other v_t_rhymes_other, iA cI 128 A_t_tries w3]) (rest := []) C hK hP hD hS hA hl mf_X8_117 (c_X8_setTries hc4) [0, 4] 0 8 rfl rfl rfl rfl rfl rfl rfl rfl rfl rfl (Nat.le_of_ble_eq_true rfl) ⟨Nat.le_of_ble_eq_true rfl, Nat.le_of_ble_eq_true rfl⟩ ⟨Nat.le_refl _, Nat.le_refl _⟩ dX8_makeUsed_11 ?_
  intro H locs hP hD hS
  refine lv_aload_n hx hb dX8_makeUsed_14 rfl (lv_at hl 0 rfl) ?_
  refine x_get C hK hP fd_X8_27 0 rfl rfl dX8_makeUsed_15 ?_
  refine lv_iload_n hx hb dX8_makeUsed_18 rfl (lv_at hl 2 rfl) ?_
  obtain ⟨r5, hc6, hf⟩ := bd1_e hf
  refine x_callVI (ws' := [oX8 A_t A_t_rhymes A_t_kind A_t_salt A_t_ink A_t_dread A_t_tries x_t_told x_t_nerve x_t_pictures x_t_written x_t_day x_t_x, iA cI 128 A_t_dread w1, oX4 A_t_rhymes A_t_rhymes_other, iA cI 16 A_t_rhymes_other v_t_rhymes_other, iA cI 128 A_t_tries w3]) (rest := []) C hK hP hD hS hA hl mf_X8_123 (c_X4_of hc6) [2, 3] 0 4 rfl rfl rfl rfl rfl rfl rfl rfl rfl rfl (Nat.le_of_ble_eq_true rfl) ⟨Nat.le_of_ble_eq_true rfl, Nat.le_of_ble_eq_true rfl⟩ ⟨Nat.le_refl _, Nat.le_refl _⟩ dX8_makeUsed_19 ?_
  intro H locs hP hD hS
  refine lv_istore_n (lv' := [(3, .int r5), (0, .ref A_t), (1, .int a1), (2, .int a2)]) hx hb dX8_makeUsed_22 rfl hl (by decide) rfl (fun ls hl => ?_)
  refine lv_iload_n hx hb dX8_makeUsed_23 rfl (lv_at hl 0 rfl) ?_
  refine lv_iload_n hx hb dX8_makeUsed_24 rfl (lv_at hl 3 rfl) ?_
  refine lv_icmp_eq (tgt := 43) hx hb dX8_makeUsed_25 (by decide) (fun q => ?_) (fun q => ?_)
  · have hf := if_t q hf
    exact hb_43 w1 w3 _ _ ls (lv_sub hl [] rfl) hP hD hS hf
  · have hf := if_f q hf
    refine lv_aload_n hx hb dX8_makeUsed_28 rfl (lv_at hl 1 rfl) ?_
    refine lv_iload_n hx hb dX8_makeUsed_29 rfl (lv_at hl 2 rfl) ?_
    refine lv_iload_n hx hb dX8_makeUsed_30 rfl (lv_at hl 0 rfl) ?_
    refine lv_aload_n hx hb dX8_makeUsed_31 rfl (lv_at hl 1 rfl) ?_
    refine lv_iload_n hx hb dX8_makeUsed_32 rfl (lv_at hl 2 rfl) ?_
    refine lv_iload_n hx hb dX8_makeUsed_33 rfl (lv_at hl 0 rfl) ?_
    obtain ⟨r7, hc8, hf⟩ := bd1_e hf
    refine x_callVI (ws' := [oX8 A_t A_t_rhymes A_t_kind A_t_salt A_t_ink A_t_dread A_t_tries x_t_told x_t_nerve x_t_pictures x_t_written x_t_day x_t_x, iA cI 128 A_t_dread w1, oX4 A_t_rhymes A_t_rhymes_other, iA cI 16 A_t_rhymes_other v_t_rhymes_other, iA cI 128 A_t_tries w3]) (rest := [.int r5, .int a1, .ref A_t]) C hK hP hD hS hA hl mf_X8_76 (c_X8_dreadOf hc8) [0, 1] 0 8 rfl rfl rfl rfl rfl rfl rfl rfl rfl rfl (Nat.le_of_ble_eq_true rfl) ⟨Nat.le_of_ble_eq_true rfl, Nat.le_of_ble_eq_true rfl⟩ ⟨Nat.le_refl _, Nat.le_refl _⟩ dX8_makeUsed_34 ?_
    intro H locs hP hD hS
    refine lv_bipush (v := 9) hx hb dX8_makeUsed_37 (by decide) ?_
    refine lv_iadd hx hb dX8_makeUsed_39 ?_
    obtain ⟨w9, hc10, hf⟩ := bd1_e hf
    refine x_callVV (ws' := [oX8 A_t A_t_rhymes A_t_kind A_t_salt A_t_ink A_t_dread A_t_tries x_t_told x_t_nerve x_t_pictures x_t_written x_t_day x_t_x, iA cI 128 A_t_dread w9, oX4 A_t_rhymes A_t_rhymes_other, iA cI 16 A_t_rhymes_other v_t_rhymes_other, iA cI 128 A_t_tries w3]) (rest := []) C hK hP hD hS hA hl mf_X8_68 (c_X8_setDread hc10) [0, 1] 0 8 rfl rfl rfl rfl rfl rfl rfl rfl rfl rfl (Nat.le_of_ble_eq_true rfl) ⟨Nat.le_of_ble_eq_true rfl, Nat.le_of_ble_eq_true rfl⟩ ⟨Nat.le_refl _, Nat.le_refl _⟩ dX8_makeUsed_40 ?_
    intro H locs hP hD hS
    exact hb_43 w9 w3 _ _ ls (lv_sub hl [] rfl) hP hD hS hf
def f_X8_tryWord (v_t_dread : (Nat → Int32)) (v_t_ink : (Nat → Int32)) (v_t_rhymes_other : (Nat → Int32)) (v_t_tries : (Nat → Int32)) (a1 : Int32) (a2 : Int32) : Option (Int32 × (Nat → Int32) × (Nat → Int32) × (Nat → Int32)) :=
  bd1 (f_X8_inkOf v_t_ink a1) (fun r1 =>
  bd1 (f_X8_setInk v_t_ink a1 (mxI (0 : Int32) (r1 - (1 : Int32)))) (fun w2 =>
  bd1 (f_X8_triesOf v_t_tries a1 a2) (fun r3 =>
  bd1 (f_X8_setTries v_t_tries a1 a2 (r3 + (1 : Int32))) (fun w4 =>
  bd1 (f_X8_triesOf w4 a1 a2) (fun r5 =>
  if (9 : Int32) ≤ r5 then
    bd2 (f_X8_makeUsed v_t_dread v_t_rhymes_other w4 a1 a2) (fun w6 w7 =>
    some ((1 : Int32), w6, w2, w7))
  else
    some ((0 : Int32), v_t_dread, w2, w4))))))
set_option maxHeartbeats 4000000 in
set_option maxRecDepth 100000 in
theorem c_X8_tryWord {l : Launch} {D : va_G} {cI cB : ClassId} {A_t A_t_rhymes A_t_kind A_t_salt A_t_ink A_t_dread A_t_tries A_t_rhymes_other : Nat} {x_t_told x_t_nerve x_t_pictures x_t_written x_t_day x_t_x a1 a2 : Int32} {v_t_dread v_t_ink v_t_rhymes_other v_t_tries : Nat → Int32} {o_r : Int32} {o_v_t_dread o_v_t_ink o_v_t_tries : Nat → Int32} (hf : f_X8_tryWord v_t_dread v_t_ink v_t_rhymes_other v_t_tries a1 a2 = some (o_r, o_v_t_dread, o_v_t_ink, o_v_t_tries)) : CtI l D cI cB yX8_tryWord cX8_tryWord 3 (some .boolean) 4 88 [.ref A_t, .int a1, .int a2] [oX8 A_t A_t_rhymes A_t_kind A_t_salt A_t_ink A_t_dread A_t_tries x_t_told x_t_nerve x_t_pictures x_t_written x_t_day x_t_x, iA cI 128 A_t_dread v_t_dread, iA cI 8 A_t_ink v_t_ink, oX4 A_t_rhymes A_t_rhymes_other, iA cI 16 A_t_rhymes_other v_t_rhymes_other, iA cI 128 A_t_tries v_t_tries] [oX8 A_t A_t_rhymes A_t_kind A_t_salt A_t_ink A_t_dread A_t_tries x_t_told x_t_nerve x_t_pictures x_t_written x_t_day x_t_x, iA cI 128 A_t_dread o_v_t_dread, iA cI 8 A_t_ink o_v_t_ink, oX4 A_t_rhymes A_t_rhymes_other, iA cI 16 A_t_rhymes_other v_t_rhymes_other, iA cI 128 A_t_tries o_v_t_tries] o_r := by
  refine x_startI (by decide) (Nat.le_of_ble_eq_true rfl) ?_
  intro p e s m below meth c A C hr hlk hA hK hP hD hS ls hl
  have hl : lv_has ls 3 [(0, .ref A_t), (1, .int a1), (2, .int a2)] := hl
  have hx := C.1
  have hb := C.2.1
  unfold f_X8_tryWord at hf
  refine lv_aload_n hx hb dX8_tryWord_0 rfl (lv_at hl 0 rfl) ?_
  refine lv_iload_n hx hb dX8_tryWord_1 rfl (lv_at hl 1 rfl) ?_
  refine lv_iconst (v := 0) hx hb dX8_tryWord_2 (by decide) ?_
  refine lv_aload_n hx hb dX8_tryWord_3 rfl (lv_at hl 0 rfl) ?_
  refine lv_iload_n hx hb dX8_tryWord_4 rfl (lv_at hl 1 rfl) ?_
  obtain ⟨r1, hc2, hf⟩ := bd1_e hf
  refine x_callVI (ws' := [oX8 A_t A_t_rhymes A_t_kind A_t_salt A_t_ink A_t_dread A_t_tries x_t_told x_t_nerve x_t_pictures x_t_written x_t_day x_t_x, iA cI 128 A_t_dread v_t_dread, iA cI 8 A_t_ink v_t_ink, oX4 A_t_rhymes A_t_rhymes_other, iA cI 16 A_t_rhymes_other v_t_rhymes_other, iA cI 128 A_t_tries v_t_tries]) (rest := [.int (0 : Int32), .int a1, .ref A_t]) C hK hP hD hS hA hl mf_X8_105 (c_X8_inkOf hc2) [0, 2] 0 8 rfl rfl rfl rfl rfl rfl rfl rfl rfl rfl (Nat.le_of_ble_eq_true rfl) ⟨Nat.le_of_ble_eq_true rfl, Nat.le_of_ble_eq_true rfl⟩ ⟨Nat.le_refl _, Nat.le_refl _⟩ dX8_tryWord_5 ?_
  intro H locs hP hD hS
  refine lv_iconst (v := 1) hx hb dX8_tryWord_8 (by decide) ?_
  refine lv_isub hx hb dX8_tryWord_9 ?_
  refine x_mmax C hl ml_X8_108 (Nat.le_of_ble_eq_true rfl) (Nat.le_of_ble_eq_true rfl) ⟨Nat.le_refl _, Nat.le_refl _⟩ dX8_tryWord_10 ?_
  obtain ⟨w3, hc4, hf⟩ := bd1_e hf
  refine x_callVV (ws' := [oX8 A_t A_t_rhymes A_t_kind A_t_salt A_t_ink A_t_dread A_t_tries x_t_told x_t_nerve x_t_pictures x_t_written x_t_day x_t_x, iA cI 128 A_t_dread v_t_dread, iA cI 8 A_t_ink w3, oX4 A_t_rhymes A_t_rhymes_other, iA cI 16 A_t_rhymes_other v_t_rhymes_other, iA cI 128 A_t_tries v_t_tries]) (rest := []) C hK hP hD hS hA hl mf_X8_111 (c_X8_setInk hc4) [0, 2] 0 8 rfl rfl rfl rfl rfl rfl rfl rfl rfl rfl (Nat.le_of_ble_eq_true rfl) ⟨Nat.le_of_ble_eq_true rfl, Nat.le_of_ble_eq_true rfl⟩ ⟨Nat.le_refl _, Nat.le_refl _⟩ dX8_tryWord_13 ?_
  intro H locs hP hD hS
  refine lv_aload_n hx hb dX8_tryWord_16 rfl (lv_at hl 0 rfl) ?_
  refine lv_iload_n hx hb dX8_tryWord_17 rfl (lv_at hl 1 rfl) ?_
  refine lv_iload_n hx hb dX8_tryWord_18 rfl (lv_at hl 2 rfl) ?_
  refine lv_aload_n hx hb dX8_tryWord_19 rfl (lv_at hl 0 rfl) ?_
  refine lv_iload_n hx hb dX8_tryWord_20 rfl (lv_at hl 1 rfl) ?_
  refine lv_iload_n hx hb dX8_tryWord_21 rfl (lv_at hl 2 rfl) ?_
  obtain ⟨r5, hc6, hf⟩ := bd1_e hf
  refine x_callVI (ws' := [oX8 A_t A_t_rhymes A_t_kind A_t_salt A_t_ink A_t_dread A_t_tries x_t_told x_t_nerve x_t_pictures x_t_written x_t_day x_t_x, iA cI 128 A_t_dread v_t_dread, iA cI 8 A_t_ink w3, oX4 A_t_rhymes A_t_rhymes_other, iA cI 16 A_t_rhymes_other v_t_rhymes_other, iA cI 128 A_t_tries v_t_tries]) (rest := [.int a2, .int a1, .ref A_t]) C hK hP hD hS hA hl mf_X8_114 (c_X8_triesOf hc6) [0, 5] 0 8 rfl rfl rfl rfl rfl rfl rfl rfl rfl rfl (Nat.le_of_ble_eq_true rfl) ⟨Nat.le_of_ble_eq_true rfl, Nat.le_of_ble_eq_true rfl⟩ ⟨Nat.le_refl _, Nat.le_refl _⟩ dX8_tryWord_22 ?_
  intro H locs hP hD hS
  refine lv_iconst (v := 1) hx hb dX8_tryWord_25 (by decide) ?_
  refine lv_iadd hx hb dX8_tryWord_26 ?_
  obtain ⟨w7, hc8, hf⟩ := bd1_e hf
  refine x_callVV (ws' := [oX8 A_t A_t_rhymes A_t_kind A_t_salt A_t_ink A_t_dread A_t_tries x_t_told x_t_nerve x_t_pictures x_t_written x_t_day x_t_x, iA cI 128 A_t_dread v_t_dread, iA cI 8 A_t_ink w3, oX4 A_t_rhymes A_t_rhymes_other, iA cI 16 A_t_rhymes_other v_t_rhymes_other, iA cI 128 A_t_tries w7]) (rest := []) C hK hP hD hS hA hl mf_X8_117 (c_X8_setTries hc8) [0, 5] 0 8 rfl rfl rfl rfl rfl rfl rfl rfl rfl rfl (Nat.le_of_ble_eq_true rfl) ⟨Nat.le_of_ble_eq_true rfl, Nat.le_of_ble_eq_true rfl⟩ ⟨Nat.le_refl _, Nat.le_refl _⟩ dX8_tryWord_27 ?_
  intro H locs hP hD hS
  refine lv_aload_n hx hb dX8_tryWord_30 rfl (lv_at hl 0 rfl) ?_
  refine lv_iload_n hx hb dX8_tryWord_31 rfl (lv_at hl 1 rfl) ?_
  refine lv_iload_n hx hb dX8_tryWord_32 rfl (lv_at hl 2 rfl) ?_
  obtain ⟨r9, hc10, hf⟩ := bd1_e hf
  refine x_callVI (ws' := [oX8 A_t A_t_rhymes A_t_kind A_t_salt A_t_ink A_t_dread A_t_tries x_t_told x_t_nerve x_t_pictures x_t_written x_t_day x_t_x, iA cI 128 A_t_dread v_t_dread, iA cI 8 A_t_ink w3, oX4 A_t_rhymes A_t_rhymes_other, iA cI 16 A_t_rhymes_other v_t_rhymes_other, iA cI 128 A_t_tries w7]) (rest := []) C hK hP hD hS hA hl mf_X8_114 (c_X8_triesOf hc10) [0, 5] 0 8 rfl rfl rfl rfl rfl rfl rfl rfl rfl rfl (Nat.le_of_ble_eq_true rfl) ⟨Nat.le_of_ble_eq_true rfl, Nat.le_of_ble_eq_true rfl⟩ ⟨Nat.le_refl _, Nat.le_refl _⟩ dX8_tryWord_33 ?_
  intro H locs hP hD hS
  refine lv_bipush (v := 9) hx hb dX8_tryWord_36 (by decide) ?_
  refine lv_icmp_ge (tgt := 43) hx hb dX8_tryWord_38 (by decide) (fun q => ?_) (fun q => ?_)
  · have hf := if_t q hf
    refine lv_aload_n hx hb dX8_tryWord_43 rfl (lv_at hl 0 rfl) ?_
    refine lv_iload_n hx hb dX8_tryWord_44 rfl (lv_at hl 1 rfl) ?_
    refine lv_iload_n hx hb dX8_tryWord_45 rfl (lv_at hl 2 rfl) ?_
    obtain ⟨w11, w12, hc13, hf⟩ := bd2_e hf
    refine x_callVV (ws' := [oX8 A_t A_t_rhymes A_t_kind A_t_salt A_t_ink A_t_dread A_t_tries x_t_told x_t_nerve x_t_pictures x_t_written x_t_day x_t_x, iA cI 128 A_t_dread w11, iA cI 8 A_t_ink w3, oX4 A_t_rhymes A_t_rhymes_other, iA cI 16 A_t_rhymes_other v_t_rhymes_other, iA cI 128 A_t_tries w12]) (rest := []) C hK hP hD hS hA hl mf_X8_120 (c_X8_makeUsed hc13) [0, 1, 3, 4, 5] 0 8 rfl rfl rfl rfl rfl rfl rfl rfl rfl rfl (Nat.le_of_ble_eq_true rfl) ⟨Nat.le_of_ble_eq_true rfl, Nat.le_of_ble_eq_true rfl⟩ ⟨Nat.le_refl _, Nat.le_refl _⟩ dX8_tryWord_46 ?_
    intro H locs hP hD hS
    refine lv_iconst (v := 1) hx hb dX8_tryWord_49 (by decide) ?_
    obtain ⟨rfl, rfl, rfl, rfl⟩ := ev4 hf
    exact x_zret C hr hlk (Or.inr rfl) hP hD hS dX8_tryWord_50
  · have hf := if_f q hf
    refine lv_iconst (v := 0) hx hb dX8_tryWord_41 (by decide) ?_
    obtain ⟨rfl, rfl, rfl, rfl⟩ := ev4 hf
    exact x_zret C hr hlk (Or.inl rfl) hP hD hS dX8_tryWord_42
