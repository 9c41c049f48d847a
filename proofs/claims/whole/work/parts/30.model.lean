def f_X12_in_b15 (s0 : Int32) : Option (Int32) :=
  zI s0 (some s0)
def f_X12_in_b14 : Option (Int32) :=
  f_X12_in_b15 (0 : Int32)
def f_X12_in (a0 : Int32) (a1 : Int32) (a2 : Int32) : Option (Int32) :=
  if a0 < a1 then
    f_X12_in_b14
  else
    if a2 < a0 then
      f_X12_in_b14
    else
      f_X12_in_b15 (1 : Int32)
set_option maxHeartbeats 4000000 in
set_option maxRecDepth 100000 in
theorem c_X12_in {l : Launch} {D : va_G} {cI cB : ClassId} {a0 a1 a2 : Int32} {o_r : Int32} (hf : f_X12_in a0 a1 a2 = some o_r) : CtI l D cI cB yX12_in cX12_in 3 (some .boolean) 0 0 [.int a0, .int a1, .int a2] [] [] o_r := by
  refine x_startI (by decide) (Nat.le_of_ble_eq_true rfl) ?_
  intro p e s m below meth c A C hr hlk hA hK hP hD hS ls hl
  have hl : lv_has ls 3 [(0, .int a0), (1, .int a1), (2, .int a2)] := hl
  have hx := C.1
  have hb := C.2.1
  unfold f_X12_in at hf
  have hb_15 : ∀ (s0 : Int32) (H : Heap) (locs : List Loc) (ls : Array Slot), lv_has ls 3 [] → va_P D vwCl [] H → va_D A [] → va_S A s.heap H locs → f_X12_in_b15 s0 = some o_r → W p l e { frames := 0, cells := 0, slots := 0, locals := 0 } s m ([.int a0, .int a1, .int a2] : List Value).toArray below meth c H locs 0 0 (MQ below (PoI D A [] o_r) ([.int a0, .int a1, .int a2] : List Value).toArray s 0 0 A) (F0 m 15 ls [.int s0]) := by
    intro s0 H locs ls hl hP hD hS hf
    unfold f_X12_in_b15 at hf
    obtain ⟨hz, hf⟩ := zI_e hf
    obtain rfl := ev1 hf
    exact x_zret C hr hlk hz hP hD hS dX12_in_15
  have hb_14 : ∀ (H : Heap) (locs : List Loc) (ls : Array Slot), lv_has ls 3 [] → va_P D vwCl [] H → va_D A [] → va_S A s.heap H locs → f_X12_in_b14 = some o_r → W p l e { frames := 0, cells := 0, slots := 0, locals := 0 } s m ([.int a0, .int a1, .int a2] : List Value).toArray below meth c H locs 0 0 (MQ below (PoI D A [] o_r) ([.int a0, .int a1, .int a2] : List Value).toArray s 0 0 A) (F0 m 14 ls []) := by
    intro H locs ls hl hP hD hS hf
    unfold f_X12_in_b14 at hf
    refine lv_iconst (v := 0) hx hb dX12_in_14 (by decide) ?_
    exact hb_15 (0 : Int32) _ _ ls (lv_sub hl [] rfl) hP hD hS hf
  refine lv_iload_n hx hb dX12_in_0 rfl (lv_at hl 0 rfl) ?_
  refine lv_iload_n hx hb dX12_in_1 rfl (lv_at hl 1 rfl) ?_
  refine lv_icmp_lt (tgt := 14) hx hb dX12_in_2 (by decide) (fun q => ?_) (fun q => ?_)
  · have hf := if_t q hf
    exact hb_14 _ _ ls (lv_sub hl [] rfl) hP hD hS hf
  · have hf := if_f q hf
    refine lv_iload_n hx hb dX12_in_5 rfl (lv_at hl 0 rfl) ?_
    refine lv_iload_n hx hb dX12_in_6 rfl (lv_at hl 2 rfl) ?_
    refine lv_icmp_gt (tgt := 14) hx hb dX12_in_7 (by decide) (fun q => ?_) (fun q => ?_)
    · have hf := if_t q hf
      exact hb_14 _ _ ls (lv_sub hl [] rfl) hP hD hS hf
    · have hf := if_f q hf
      refine lv_iconst (v := 1) hx hb dX12_in_10 (by decide) ?_
      refine lv_goto (tgt := 15) hx hb dX12_in_11 (by decide) ?_
      exact hb_15 (1 : Int32) _ _ ls (lv_sub hl [] rfl) hP hD hS hf
def f_X12_min_b10 (s0 : Int32) : Option (Int32) :=
  some s0
def f_X12_min (a0 : Int32) (a1 : Int32) : Option (Int32) :=
  if a1 ≤ a0 then
    f_X12_min_b10 a1
  else
    f_X12_min_b10 a0
set_option maxHeartbeats 4000000 in
set_option maxRecDepth 100000 in
theorem c_X12_min {l : Launch} {D : va_G} {cI cB : ClassId} {a0 a1 : Int32} {o_r : Int32} (hf : f_X12_min a0 a1 = some o_r) : CtI l D cI cB yX12_min cX12_min 2 (some .int) 0 0 [.int a0, .int a1] [] [] o_r := by
  refine x_startI (by decide) (Nat.le_of_ble_eq_true rfl) ?_
  intro p e s m below meth c A C hr hlk hA hK hP hD hS ls hl
  have hl : lv_has ls 2 [(0, .int a0), (1, .int a1)] := hl
  have hx := C.1
  have hb := C.2.1
  unfold f_X12_min at hf
  have hb_10 : ∀ (s0 : Int32) (H : Heap) (locs : List Loc) (ls : Array Slot), lv_has ls 2 [] → va_P D vwCl [] H → va_D A [] → va_S A s.heap H locs → f_X12_min_b10 s0 = some o_r → W p l e { frames := 0, cells := 0, slots := 0, locals := 0 } s m ([.int a0, .int a1] : List Value).toArray below meth c H locs 0 0 (MQ below (PoI D A [] o_r) ([.int a0, .int a1] : List Value).toArray s 0 0 A) (F0 m 10 ls [.int s0]) := by
    intro s0 H locs ls hl hP hD hS hf
    unfold f_X12_min_b10 at hf
    obtain rfl := ev1 hf
    exact x_iret C hr hlk hP hD hS dX12_min_10
  refine lv_iload_n hx hb dX12_min_0 rfl (lv_at hl 0 rfl) ?_
  refine lv_iload_n hx hb dX12_min_1 rfl (lv_at hl 1 rfl) ?_
  refine lv_icmp_ge (tgt := 9) hx hb dX12_min_2 (by decide) (fun q => ?_) (fun q => ?_)
  · have hf := if_t q hf
    refine lv_iload_n hx hb dX12_min_9 rfl (lv_at hl 1 rfl) ?_
    exact hb_10 a1 _ _ ls (lv_sub hl [] rfl) hP hD hS hf
  · have hf := if_f q hf
    refine lv_iload_n hx hb dX12_min_5 rfl (lv_at hl 0 rfl) ?_
    refine lv_goto (tgt := 10) hx hb dX12_min_6 (by decide) ?_
    exact hb_10 a0 _ _ ls (lv_sub hl [] rfl) hP hD hS hf
def f_X12_max_b10 (s0 : Int32) : Option (Int32) :=
  some s0
def f_X12_max (a0 : Int32) (a1 : Int32) : Option (Int32) :=
  if a0 ≤ a1 then
    f_X12_max_b10 a1
  else
    f_X12_max_b10 a0
set_option maxHeartbeats 4000000 in
set_option maxRecDepth 100000 in
theorem c_X12_max {l : Launch} {D : va_G} {cI cB : ClassId} {a0 a1 : Int32} {o_r : Int32} (hf : f_X12_max a0 a1 = some o_r) : CtI l D cI cB yX12_max cX12_max 2 (some .int) 0 0 [.int a0, .int a1] [] [] o_r := by
  refine x_startI (by decide) (Nat.le_of_ble_eq_true rfl) ?_
  intro p e s m below meth c A C hr hlk hA hK hP hD hS ls hl
  have hl : lv_has ls 2 [(0, .int a0), (1, .int a1)] := hl
  have hx := C.1
  have hb := C.2.1
  unfold f_X12_max at hf
  have hb_10 : ∀ (s0 : Int32) (H : Heap) (locs : List Loc) (ls : Array Slot), lv_has ls 2 [] → va_P D vwCl [] H → va_D A [] → va_S A s.heap H locs → f_X12_max_b10 s0 = some o_r → W p l e { frames := 0, cells := 0, slots := 0, locals := 0 } s m ([.int a0, .int a1] : List Value).toArray below meth c H locs 0 0 (MQ below (PoI D A [] o_r) ([.int a0, .int a1] : List Value).toArray s 0 0 A) (F0 m 10 ls [.int s0]) := by
    intro s0 H locs ls hl hP hD hS hf
    unfold f_X12_max_b10 at hf
    obtain rfl := ev1 hf
    exact x_iret C hr hlk hP hD hS dX12_max_10
  refine lv_iload_n hx hb dX12_max_0 rfl (lv_at hl 0 rfl) ?_
  refine lv_iload_n hx hb dX12_max_1 rfl (lv_at hl 1 rfl) ?_
  refine lv_icmp_le (tgt := 9) hx hb dX12_max_2 (by decide) (fun q => ?_) (fun q => ?_)
  · have hf := if_t q hf
    refine lv_iload_n hx hb dX12_max_9 rfl (lv_at hl 1 rfl) ?_
    exact hb_10 a1 _ _ ls (lv_sub hl [] rfl) hP hD hS hf
  · have hf := if_f q hf
    refine lv_iload_n hx hb dX12_max_5 rfl (lv_at hl 0 rfl) ?_
    refine lv_goto (tgt := 10) hx hb dX12_max_6 (by decide) ?_
    exact hb_10 a0 _ _ ls (lv_sub hl [] rfl) hP hD hS hf
def f_X12_limit (a0 : Int32) : Option (Int32) :=
  bd1 (f_X12_min (99 : Int32) a0) (fun r1 =>
  bd1 (f_X12_max (0 : Int32) r1) (fun r2 =>
  some r2))
set_option maxHeartbeats 4000000 in
set_option maxRecDepth 100000 in
theorem c_X12_limit {l : Launch} {D : va_G} {cI cB : ClassId} {a0 : Int32} {o_r : Int32} (hf : f_X12_limit a0 = some o_r) : CtI l D cI cB yX12_limit cX12_limit 1 (some .int) 1 21 [.int a0] [] [] o_r := by
  refine x_startI (by decide) (Nat.le_of_ble_eq_true rfl) ?_
  intro p e s m below meth c A C hr hlk hA hK hP hD hS ls hl
  have hl : lv_has ls 1 [(0, .int a0)] := hl
  have hx := C.1
  have hb := C.2.1
  unfold f_X12_limit at hf
  refine lv_iconst (v := 0) hx hb dX12_limit_0 (by decide) ?_
  refine lv_bipush (v := 99) hx hb dX12_limit_1 (by decide) ?_
  refine lv_iload_n hx hb dX12_limit_3 rfl (lv_at hl 0 rfl) ?_
  obtain ⟨r1, hc2, hf⟩ := bd1_e hf
  refine x_callSI (ws' := []) (rest := [.int (0 : Int32)]) C hK hP hD hS hA hl mf_X12_98 (c_X12_min hc2) [] rfl rfl rfl rfl rfl rfl rfl rfl (Nat.le_of_ble_eq_true rfl) ⟨Nat.le_of_ble_eq_true rfl, Nat.le_of_ble_eq_true rfl⟩ ⟨Nat.le_refl _, Nat.le_refl _⟩ dX12_limit_4 ?_
  intro H locs hP hD hS
  obtain ⟨r3, hc4, hf⟩ := bd1_e hf
  refine x_callSI (ws' := []) (rest := []) C hK hP hD hS hA hl mf_X12_102 (c_X12_max hc4) [] rfl rfl rfl rfl rfl rfl rfl rfl (Nat.le_of_ble_eq_true rfl) ⟨Nat.le_of_ble_eq_true rfl, Nat.le_of_ble_eq_true rfl⟩ ⟨Nat.le_refl _, Nat.le_refl _⟩ dX12_limit_7 ?_
  intro H locs hP hD hS
  obtain rfl := ev1 hf
  exact x_iret C hr hlk hP hD hS dX12_limit_10
def f_X12_has_b14 (s0 : Int32) : Option (Int32) :=
  zI s0 (some s0)
def f_X12_has (a0 : Int32) (a1 : Int32) : Option (Int32) :=
  if ((a0 >>> (a1 &&& 31)) &&& (1 : Int32)) = (1 : Int32) then
    f_X12_has_b14 (1 : Int32)
  else
    f_X12_has_b14 (0 : Int32)
set_option maxHeartbeats 4000000 in
set_option maxRecDepth 100000 in
theorem c_X12_has {l : Launch} {D : va_G} {cI cB : ClassId} {a0 a1 : Int32} {o_r : Int32} (hf : f_X12_has a0 a1 = some o_r) : CtI l D cI cB yX12_has cX12_has 2 (some .boolean) 0 0 [.int a0, .int a1] [] [] o_r := by
  refine x_startI (by decide) (Nat.le_of_ble_eq_true rfl) ?_
  intro p e s m below meth c A C hr hlk hA hK hP hD hS ls hl
  have hl : lv_has ls 2 [(0, .int a0), (1, .int a1)] := hl
  have hx := C.1
  have hb := C.2.1
  unfold f_X12_has at hf
  have hb_14 : ∀ (s0 : Int32) (H : Heap) (locs : List Loc) (ls : Array Slot), lv_has ls 2 [] → va_P D vwCl [] H → va_D A [] → va_S A s.heap H locs → f_X12_has_b14 s0 = some o_r → W p l e { frames := 0, cells := 0, slots := 0, locals := 0 } s m ([.int a0, .int a1] : List Value).toArray below meth c H locs 0 0 (MQ below (PoI D A [] o_r) ([.int a0, .int a1] : List Value).toArray s 0 0 A) (F0 m 14 ls [.int s0]) := by
    intro s0 H locs ls hl hP hD hS hf
    unfold f_X12_has_b14 at hf
    obtain ⟨hz, hf⟩ := zI_e hf
    obtain rfl := ev1 hf
    exact x_zret C hr hlk hz hP hD hS dX12_has_14
  refine lv_iload_n hx hb dX12_has_0 rfl (lv_at hl 0 rfl) ?_
  refine lv_iload_n hx hb dX12_has_1 rfl (lv_at hl 1 rfl) ?_
  refine lv_ishr hx hb dX12_has_2 ?_
  refine lv_iconst (v := 1) hx hb dX12_has_3 (by decide) ?_
  refine lv_iand hx hb dX12_has_4 ?_
  refine lv_iconst (v := 1) hx hb dX12_has_5 (by decide) ?_
  refine lv_icmp_ne (tgt := 13) hx hb dX12_has_6 (by decide) (fun q => ?_) (fun q => ?_)
  · have hf := if_f q hf
    refine lv_iconst (v := 0) hx hb dX12_has_13 (by decide) ?_
    exact hb_14 (0 : Int32) _ _ ls (lv_sub hl [] rfl) hP hD hS hf
  · have hf := if_t q hf
    refine lv_iconst (v := 1) hx hb dX12_has_9 (by decide) ?_
    refine lv_goto (tgt := 14) hx hb dX12_has_10 (by decide) ?_
    exact hb_14 (1 : Int32) _ _ ls (lv_sub hl [] rfl) hP hD hS hf
def f_X12_bits_b4 (a0 : Int32) : Nat → Int32 → Int32 → Option (Int32)
  | 0, _, _ => none
  | n + 1, l1, l2 =>
    if (16 : Int32) ≤ l2 then
      some l1
    else
      f_X12_bits_b4 a0 n (l1 + ((a0 >>> (l2 &&& 31)) &&& (1 : Int32))) (l2 + (1 : Int32))
def f_X12_bits (a0 : Int32) : Option (Int32) :=
  f_X12_bits_b4 a0 FU (0 : Int32) (0 : Int32)
set_option maxHeartbeats 4000000 in
set_option maxRecDepth 100000 in
theorem c_X12_bits {l : Launch} {D : va_G} {cI cB : ClassId} {a0 : Int32} {o_r : Int32} (hf : f_X12_bits a0 = some o_r) : CtI l D cI cB yX12_bits cX12_bits 3 (some .int) 0 0 [.int a0] [] [] o_r := by
  refine x_startI (by decide) (Nat.le_of_ble_eq_true rfl) ?_
  intro p e s m below meth c A C hr hlk hA hK hP hD hS ls hl
  have hl : lv_has ls 3 [(0, .int a0)] := hl
  have hx := C.1
  have hb := C.2.1
  unfold f_X12_bits at hf
  have hb_4 : ∀ (n_4 : Nat) (l1 : Int32) (l2 : Int32) (H : Heap) (locs : List Loc) (ls : Array Slot), lv_has ls 3 [(0, .int a0), (1, .int l1), (2, .int l2)] → va_P D vwCl [] H → va_D A [] → va_S A s.heap H locs → f_X12_bits_b4 a0 n_4 l1 l2 = some o_r → W p l e { frames := 0, cells := 0, slots := 0, locals := 0 } s m ([.int a0] : List Value).toArray below meth c H locs 0 0 (MQ below (PoI D A [] o_r) ([.int a0] : List Value).toArray s 0 0 A) (F0 m 4 ls []) := by
    intro n_4
    induction n_4 with
    | zero =>
      intro l1 l2 H locs ls hl hP hD hS hf
      exact absurd hf (fun h => by rw [f_X12_bits_b4] at h; cases h)
    | succ n_4 ih_4 =>
      intro l1 l2 H locs ls hl hP hD hS hf
      rw [f_X12_bits_b4] at hf
      refine lv_iload_n hx hb dX12_bits_4 rfl (lv_at hl 2 rfl) ?_
      refine lv_bipush (v := 16) hx hb dX12_bits_5 (by decide) ?_
      refine lv_icmp_ge (tgt := 24) hx hb dX12_bits_7 (by decide) (fun q => ?_) (fun q => ?_)
      · have hf := if_t q hf
        refine lv_iload_n hx hb dX12_bits_24 rfl (lv_at hl 1 rfl) ?_
        obtain rfl := ev1 hf
        exact x_iret C hr hlk hP hD hS dX12_bits_25
      · have hf := if_f q hf
        refine lv_iload_n hx hb dX12_bits_10 rfl (lv_at hl 1 rfl) ?_
        refine lv_iload_n hx hb dX12_bits_11 rfl (lv_at hl 0 rfl) ?_
        refine lv_iload_n hx hb dX12_bits_12 rfl (lv_at hl 2 rfl) ?_
        refine lv_ishr hx hb dX12_bits_13 ?_
        refine lv_iconst (v := 1) hx hb dX12_bits_14 (by decide) ?_
        refine lv_iand hx hb dX12_bits_15 ?_
        refine lv_iadd hx hb dX12_bits_16 ?_
        refine lv_istore_n (lv' := [(1, .int (l1 + ((a0 >>> (l2 &&& 31)) &&& (1 : Int32)))), (0, .int a0), (2, .int l2)]) hx hb dX12_bits_17 rfl hl (by decide) rfl (fun ls hl => ?_)
        refine lv_iinc (v := (l2 + (1 : Int32))) (lv' := [(2, .int (l2 + (1 : Int32))), (1, .int (l1 + ((a0 >>> (l2 &&& 31)) &&& (1 : Int32)))), (0, .int a0)]) hx hb dX12_bits_18 hl (k := 2) rfl rfl (by decide) rfl (fun ls hl => ?_)
        refine lv_goto (tgt := 4) hx hb dX12_bits_21 (by decide) ?_
        exact ih_4 (l1 + ((a0 >>> (l2 &&& 31)) &&& (1 : Int32))) (l2 + (1 : Int32)) _ _ ls (lv_sub hl [2, 1, 0] rfl) hP hD hS hf
  refine lv_iconst (v := 0) hx hb dX12_bits_0 (by decide) ?_
  refine lv_istore_n (lv' := [(1, .int (0 : Int32)), (0, .int a0)]) hx hb dX12_bits_1 rfl hl (by decide) rfl (fun ls hl => ?_)
  refine lv_iconst (v := 0) hx hb dX12_bits_2 (by decide) ?_
  refine lv_istore_n (lv' := [(2, .int (0 : Int32)), (1, .int (0 : Int32)), (0, .int a0)]) hx hb dX12_bits_3 rfl hl (by decide) rfl (fun ls hl => ?_)
  exact hb_4 FU (0 : Int32) (0 : Int32) _ _ ls (lv_sub hl [2, 1, 0] rfl) hP hD hS hf
def f_X12_copies_b2 (v_o0 : (Nat → Int32)) : Nat → (Nat → Int32) → Int32 → Option ((Nat → Int32))
  | 0, _, _ => none
  | n + 1, v_o1, l2 =>
    if (293 : Int32) ≤ l2 then
      some v_o1
    else
      gI 293 v_o0 l2 (fun g1 =>
      sI 293 v_o1 l2 g1 (fun w2 =>
      f_X12_copies_b2 v_o0 n w2 (l2 + (1 : Int32))))
def f_X12_copies (v_o0 : (Nat → Int32)) (v_o1 : (Nat → Int32)) : Option ((Nat → Int32)) :=
  f_X12_copies_b2 v_o0 FU v_o1 (0 : Int32)
set_option maxHeartbeats 4000000 in
set_option maxRecDepth 100000 in
theorem c_X12_copies {l : Launch} {D : va_G} {cI cB : ClassId} {A_o0 A_o1 : Nat} {v_o0 v_o1 : Nat → Int32} {o_v_o1 : Nat → Int32} (hf : f_X12_copies v_o0 v_o1 = some o_v_o1) : CtV l D cI cB yX12_copies cX12_copies 3 0 0 [.ref A_o0, .ref A_o1] [iA cI 293 A_o0 v_o0, iA cI 293 A_o1 v_o1] [iA cI 293 A_o0 v_o0, iA cI 293 A_o1 o_v_o1] := by
  refine x_startV (by decide) (Nat.le_of_ble_eq_true rfl) ?_
  intro p e s m below meth c A C hr hlk hA hK hP hD hS ls hl
  have hl : lv_has ls 3 [(0, .ref A_o0), (1, .ref A_o1)] := hl
  have hx := C.1
  have hb := C.2.1
  unfold f_X12_copies at hf
  have hb_2 : ∀ (n_2 : Nat) (v_o1 : (Nat → Int32)) (l2 : Int32) (H : Heap) (locs : List Loc) (ls : Array Slot), lv_has ls 3 [(0, .ref A_o0), (1, .ref A_o1), (2, .int l2)] → va_P D vwCl [iA cI 293 A_o0 v_o0, iA cI 293 A_o1 v_o1] H → va_D A [iA cI 293 A_o0 v_o0, iA cI 293 A_o1 v_o1] → va_S A s.heap H locs → f_X12_copies_b2 v_o0 n_2 v_o1 l2 = some o_v_o1 → W p l e { frames := 0, cells := 0, slots := 0, locals := 0 } s m ([.ref A_o0, .ref A_o1] : List Value).toArray below meth c H locs 0 0 (MQ below (PoV D A [iA cI 293 A_o0 v_o0, iA cI 293 A_o1 o_v_o1]) ([.ref A_o0, .ref A_o1] : List Value).toArray s 0 0 A) (F0 m 2 ls []) := by
    intro n_2
    induction n_2 with
    | zero =>
      intro v_o1 l2 H locs ls hl hP hD hS hf
      exact absurd hf (fun h => by rw [f_X12_copies_b2] at h; cases h)
    | succ n_2 ih_2 =>
      intro v_o1 l2 H locs ls hl hP hD hS hf
      rw [f_X12_copies_b2] at hf
      refine lv_iload_n hx hb dX12_copies_2 rfl (lv_at hl 2 rfl) ?_
      refine lv_sipush (v := 293) hx hb dX12_copies_3 (by decide) ?_
      refine lv_icmp_ge (tgt := 21) hx hb dX12_copies_6 (by decide) (fun q => ?_) (fun q => ?_)
      · have hf := if_t q hf
        obtain rfl := ev1 hf
        exact x_vret C hr hlk hP hD hS dX12_copies_21
      · have hf := if_f q hf
        refine lv_aload_n hx hb dX12_copies_9 rfl (lv_at hl 1 rfl) ?_
        refine lv_iload_n hx hb dX12_copies_10 rfl (lv_at hl 2 rfl) ?_
        refine lv_aload_n hx hb dX12_copies_11 rfl (lv_at hl 0 rfl) ?_
        refine lv_iload_n hx hb dX12_copies_12 rfl (lv_at hl 2 rfl) ?_
        obtain ⟨hi, hf⟩ := gI_e hf
        refine x_iald C hK hP 0 rfl hi dX12_copies_13 ?_
        obtain ⟨hi, hf⟩ := sI_e hf
        refine x_iast (ws' := [iA cI 293 A_o0 v_o0, iA cI 293 A_o1 (upd v_o1 l2.toNatClampNeg (v_o0 l2.toNatClampNeg))]) C hK hP hD hS 1 rfl hi rfl dX12_copies_14 ?_
        intro H locs hP hD hS
        refine lv_iinc (v := (l2 + (1 : Int32))) (lv' := [(2, .int (l2 + (1 : Int32))), (0, .ref A_o0), (1, .ref A_o1)]) hx hb dX12_copies_15 hl (k := 2) rfl rfl (by decide) rfl (fun ls hl => ?_)
        refine lv_goto (tgt := 2) hx hb dX12_copies_18 (by decide) ?_
        exact ih_2 (upd v_o1 l2.toNatClampNeg (v_o0 l2.toNatClampNeg)) (l2 + (1 : Int32)) _ _ ls (lv_sub hl [1, 2, 0] rfl) hP hD hS hf
  refine lv_iconst (v := 0) hx hb dX12_copies_0 (by decide) ?_
  refine lv_istore_n (lv' := [(2, .int (0 : Int32)), (0, .ref A_o0), (1, .ref A_o1)]) hx hb dX12_copies_1 rfl hl (by decide) rfl (fun ls hl => ?_)
  exact hb_2 FU v_o1 (0 : Int32) _ _ ls (lv_sub hl [1, 2, 0] rfl) hP hD hS hf
def f_X12_isTold_b27 (s0 : Int32) : Option (Int32) :=
  zI s0 (some s0)
def f_X12_isTold_b26 : Option (Int32) :=
  f_X12_isTold_b27 (0 : Int32)
def f_X12_isTold (v_t_now : (Nat → Int32)) (a1 : Int32) : Option (Int32) :=
  bd1 (f_X12_in a1 (0 : Int32) (7 : Int32)) (fun r1 =>
  if r1 = 0 then
    f_X12_isTold_b26
  else
    gI 293 v_t_now ((0 : Int32) + a1) (fun g2 =>
    if g2 = (1 : Int32) then
      f_X12_isTold_b27 (1 : Int32)
    else
      f_X12_isTold_b26))
set_option maxHeartbeats 4000000 in
set_option maxRecDepth 100000 in
theorem c_X12_isTold {l : Launch} {D : va_G} {cI cB : ClassId} {A_t A_t_now A_t_aside A_t_kept A_t_rhymeOf A_t_wasRhyme A_t_wordAt A_t_tape A_t_said A_t_waitsAt A_t_saidLetter A_t_saidFrom A_t_saidHalf A_t_saidTo A_t_codes A_t_clauseOf A_t_codeFrom A_t_codeHalf A_t_codeTo A_t_stack A_t_facts A_t_newWords A_t_roundFrom A_t_roundAt A_t_roundTimes A_t_leastFrom A_t_rowNow A_t_bornOf A_t_trainsTo A_t_trainAt : Nat} {x_t_wordMany x_t_taped x_t_place0 x_t_length0 x_t_fault x_t_number0 x_t_open x_t_codeMany x_t_waiting x_t_saidMany x_t_clauses x_t_lines x_t_newMany x_t_rounds x_t_itFrom x_t_itTimes x_t_writtenNow x_t_picturesNow x_t_usedNow x_t_chosen x_t_fearOfChosen x_t_changesNow x_t_left0 x_t_trainMany x_t_leastTries x_t_firstTrained x_t_isKept a1 : Int32} {v_t_now : Nat → Int32} {o_r : Int32} (hf : f_X12_isTold v_t_now a1 = some o_r) : CtI l D cI cB yX12_isTold cX12_isTold 2 (some .boolean) 1 22 [.ref A_t, .int a1] [oX12 A_t A_t_now A_t_aside A_t_kept A_t_rhymeOf A_t_wasRhyme A_t_wordAt x_t_wordMany A_t_tape x_t_taped x_t_place0 x_t_length0 x_t_fault x_t_number0 x_t_open x_t_codeMany x_t_waiting x_t_saidMany x_t_clauses A_t_said A_t_waitsAt A_t_saidLetter A_t_saidFrom A_t_saidHalf A_t_saidTo A_t_codes A_t_clauseOf A_t_codeFrom A_t_codeHalf A_t_codeTo A_t_stack A_t_facts x_t_lines A_t_newWords A_t_roundFrom A_t_roundAt A_t_roundTimes x_t_newMany x_t_rounds x_t_itFrom x_t_itTimes x_t_writtenNow x_t_picturesNow x_t_usedNow x_t_chosen x_t_fearOfChosen A_t_leastFrom A_t_rowNow x_t_changesNow x_t_left0 A_t_bornOf A_t_trainsTo A_t_trainAt x_t_trainMany x_t_leastTries x_t_firstTrained x_t_isKept, iA cI 293 A_t_now v_t_now] [oX12 A_t A_t_now A_t_aside A_t_kept A_t_rhymeOf A_t_wasRhyme A_t_wordAt x_t_wordMany A_t_tape x_t_taped x_t_place0 x_t_length0 x_t_fault x_t_number0 x_t_open x_t_codeMany x_t_waiting x_t_saidMany x_t_clauses A_t_said A_t_waitsAt A_t_saidLetter A_t_saidFrom A_t_saidHalf A_t_saidTo A_t_codes A_t_clauseOf A_t_codeFrom A_t_codeHalf A_t_codeTo A_t_stack A_t_facts x_t_lines A_t_newWords A_t_roundFrom A_t_roundAt A_t_roundTimes x_t_newMany x_t_rounds x_t_itFrom x_t_itTimes x_t_writtenNow x_t_picturesNow x_t_usedNow x_t_chosen x_t_fearOfChosen A_t_leastFrom A_t_rowNow x_t_changesNow x_t_left0 A_t_bornOf A_t_trainsTo A_t_trainAt x_t_trainMany x_t_leastTries x_t_firstTrained x_t_isKept, iA cI 293 A_t_now v_t_now] o_r := by
  refine x_startI (by decide) (Nat.le_of_ble_eq_true rfl) ?_
  intro p e s m below meth c A C hr hlk hA hK hP hD hS ls hl
  have hl : lv_has ls 2 [(0, .ref A_t), (1, .int a1)] := hl
  have hx := C.1
  have hb := C.2.1
  unfold f_X12_isTold at hf
  have hb_27 : ∀ (s0 : Int32) (H : Heap) (locs : List Loc) (ls : Array Slot), lv_has ls 2 [] → va_P D vwCl [oX12 A_t A_t_now A_t_aside A_t_kept A_t_rhymeOf A_t_wasRhyme A_t_wordAt x_t_wordMany A_t_tape x_t_taped x_t_place0 x_t_length0 x_t_fault x_t_number0 x_t_open x_t_codeMany x_t_waiting x_t_saidMany x_t_clauses A_t_said A_t_waitsAt A_t_saidLetter A_t_saidFrom A_t_saidHalf A_t_saidTo A_t_codes A_t_clauseOf A_t_codeFrom A_t_codeHalf A_t_codeTo A_t_stack A_t_facts x_t_lines A_t_newWords A_t_roundFrom A_t_roundAt A_t_roundTimes x_t_newMany x_t_rounds x_t_itFrom x_t_itTimes x_t_writtenNow x_t_picturesNow x_t_usedNow x_t_chosen x_t_fearOfChosen A_t_leastFrom A_t_rowNow x_t_changesNow x_t_left0 A_t_bornOf A_t_trainsTo A_t_trainAt x_t_trainMany x_t_leastTries x_t_firstTrained x_t_isKept, iA cI 293 A_t_now v_t_now] H → va_D A [oX12 A_t A_t_now A_t_aside A_t_kept A_t_rhymeOf A_t_wasRhyme A_t_wordAt x_t_wordMany A_t_tape x_t_taped x_t_place0 x_t_length0 x_t_fault x_t_number0 x_t_open x_t_codeMany x_t_waiting x_t_saidMany x_t_clauses A_t_said A_t_waitsAt A_t_saidLetter A_t_saidFrom A_t_saidHalf A_t_saidTo A_t_codes A_t_clauseOf A_t_codeFrom A_t_codeHalf A_t_codeTo A_t_stack A_t_facts x_t_lines A_t_newWords A_t_roundFrom A_t_roundAt A_t_roundTimes x_t_newMany x_t_rounds x_t_itFrom x_t_itTimes x_t_writtenNow x_t_picturesNow x_t_usedNow x_t_chosen x_t_fearOfChosen A_t_leastFrom A_t_rowNow x_t_changesNow x_t_left0 A_t_bornOf A_t_trainsTo A_t_trainAt x_t_trainMany x_t_leastTries x_t_firstTrained x_t_isKept, iA cI 293 A_t_now v_t_now] → va_S A s.heap H locs → f_X12_isTold_b27 s0 = some o_r → W p l e { frames := 1, cells := 0, slots := 0, locals := 22 } s m ([.ref A_t, .int a1] : List Value).toArray below meth c H locs 0 0 (MQ below (PoI D A [oX12 A_t A_t_now A_t_aside A_t_kept A_t_rhymeOf A_t_wasRhyme A_t_wordAt x_t_wordMany A_t_tape x_t_taped x_t_place0 x_t_length0 x_t_fault x_t_number0 x_t_open x_t_codeMany x_t_waiting x_t_saidMany x_t_clauses A_t_said A_t_waitsAt A_t_saidLetter A_t_saidFrom A_t_saidHalf A_t_saidTo A_t_codes A_t_clauseOf A_t_codeFrom A_t_codeHalf A_t_codeTo A_t_stack A_t_facts x_t_lines A_t_newWords A_t_roundFrom A_t_roundAt A_t_roundTimes x_t_newMany x_t_rounds x_t_itFrom x_t_itTimes x_t_writtenNow x_t_picturesNow x_t_usedNow x_t_chosen x_t_fearOfChosen A_t_leastFrom A_t_rowNow x_t_changesNow x_t_left0 A_t_bornOf A_t_trainsTo A_t_trainAt x_t_trainMany x_t_leastTries x_t_firstTrained x_t_isKept, iA cI 293 A_t_now v_t_now] o_r) ([.ref A_t, .int a1] : List Value).toArray s 0 0 A) (F0 m 27 ls [.int s0]) := by
    intro s0 H locs ls hl hP hD hS hf
    unfold f_X12_isTold_b27 at hf
    obtain ⟨hz, hf⟩ := zI_e hf
    obtain rfl := ev1 hf
    exact x_zret C hr hlk hz hP hD hS dX12_isTold_27
  have hb_26 : ∀ (H : Heap) (locs : List Loc) (ls : Array Slot), lv_has ls 2 [] → va_P D vwCl [oX12 A_t A_t_now A_t_aside A_t_kept A_t_rhymeOf A_t_wasRhyme A_t_wordAt x_t_wordMany A_t_tape x_t_taped x_t_place0 x_t_length0 x_t_fault x_t_number0 x_t_open x_t_codeMany x_t_waiting x_t_saidMany x_t_clauses A_t_said A_t_waitsAt A_t_saidLetter A_t_saidFrom A_t_saidHalf A_t_saidTo A_t_codes A_t_clauseOf A_t_codeFrom A_t_codeHalf A_t_codeTo A_t_stack A_t_facts x_t_lines A_t_newWords A_t_roundFrom A_t_roundAt A_t_roundTimes x_t_newMany x_t_rounds x_t_itFrom x_t_itTimes x_t_writtenNow x_t_picturesNow x_t_usedNow x_t_chosen x_t_fearOfChosen A_t_leastFrom A_t_rowNow x_t_changesNow x_t_left0 A_t_bornOf A_t_trainsTo A_t_trainAt x_t_trainMany x_t_leastTries x_t_firstTrained x_t_isKept, iA cI 293 A_t_now v_t_now] H → va_D A [oX12 A_t A_t_now A_t_aside A_t_kept A_t_rhymeOf A_t_wasRhyme A_t_wordAt x_t_wordMany A_t_tape x_t_taped x_t_place0 x_t_length0 x_t_fault x_t_number0 x_t_open x_t_codeMany x_t_waiting x_t_saidMany x_t_clauses A_t_said A_t_waitsAt A_t_saidLetter A_t_saidFrom A_t_saidHalf A_t_saidTo A_t_codes A_t_clauseOf A_t_codeFrom A_t_codeHalf A_t_codeTo A_t_stack A_t_facts x_t_lines A_t_newWords A_t_roundFrom A_t_roundAt A_t_roundTimes x_t_newMany x_t_rounds x_t_itFrom x_t_itTimes x_t_writtenNow x_t_picturesNow x_t_usedNow x_t_chosen x_t_fearOfChosen A_t_leastFrom A_t_rowNow x_t_changesNow x_t_left0 A_t_bornOf A_t_trainsTo A_t_trainAt x_t_trainMany x_t_leastTries x_t_firstTrained x_t_isKept, iA cI 293 A_t_now v_t_now] → va_S A s.heap H locs → f_X12_isTold_b26 = some o_r → W p l e { frames := 1, cells := 0, slots := 0, locals := 22 } s m ([.ref A_t, .int a1] : List Value).toArray below meth c H locs 0 0 (MQ below (PoI D A [oX12 A_t A_t_now A_t_aside A_t_kept A_t_rhymeOf A_t_wasRhyme A_t_wordAt x_t_wordMany A_t_tape x_t_taped x_t_place0 x_t_length0 x_t_fault x_t_number0 x_t_open x_t_codeMany x_t_waiting x_t_saidMany x_t_clauses A_t_said A_t_waitsAt A_t_saidLetter A_t_saidFrom A_t_saidHalf A_t_saidTo A_t_codes A_t_clauseOf A_t_codeFrom A_t_codeHalf A_t_codeTo A_t_stack A_t_facts x_t_lines A_t_newWords A_t_roundFrom A_t_roundAt A_t_roundTimes x_t_newMany x_t_rounds x_t_itFrom x_t_itTimes x_t_writtenNow x_t_picturesNow x_t_usedNow x_t_chosen x_t_fearOfChosen A_t_leastFrom A_t_rowNow x_t_changesNow x_t_left0 A_t_bornOf A_t_trainsTo A_t_trainAt x_t_trainMany x_t_leastTries x_t_firstTrained x_t_isKept, iA cI 293 A_t_now v_t_now] o_r) ([.ref A_t, .int a1] : List Value).toArray s 0 0 A) (F0 m 26 ls []) := by
    intro H locs ls hl hP hD hS hf
    unfold f_X12_isTold_b26 at hf
    refine lv_iconst (v := 0) hx hb dX12_isTold_26 (by decide) ?_
    exact hb_27 (0 : Int32) _ _ ls (lv_sub hl [] rfl) hP hD hS hf
  refine lv_iload_n hx hb dX12_isTold_0 rfl (lv_at hl 1 rfl) ?_
  refine lv_iconst (v := 0) hx hb dX12_isTold_1 (by decide) ?_
  refine lv_bipush (v := 7) hx hb dX12_isTold_2 (by decide) ?_
  obtain ⟨r1, hc2, hf⟩ := bd1_e hf
  refine x_callSI (ws' := [oX12 A_t A_t_now A_t_aside A_t_kept A_t_rhymeOf A_t_wasRhyme A_t_wordAt x_t_wordMany A_t_tape x_t_taped x_t_place0 x_t_length0 x_t_fault x_t_number0 x_t_open x_t_codeMany x_t_waiting x_t_saidMany x_t_clauses A_t_said A_t_waitsAt A_t_saidLetter A_t_saidFrom A_t_saidHalf A_t_saidTo A_t_codes A_t_clauseOf A_t_codeFrom A_t_codeHalf A_t_codeTo A_t_stack A_t_facts x_t_lines A_t_newWords A_t_roundFrom A_t_roundAt A_t_roundTimes x_t_newMany x_t_rounds x_t_itFrom x_t_itTimes x_t_writtenNow x_t_picturesNow x_t_usedNow x_t_chosen x_t_fearOfChosen A_t_leastFrom A_t_rowNow x_t_changesNow x_t_left0 A_t_bornOf A_t_trainsTo A_t_trainAt x_t_trainMany x_t_leastTries x_t_firstTrained x_t_isKept, iA cI 293 A_t_now v_t_now]) (rest := []) C hK hP hD hS hA hl mf_X12_105 (c_X12_in hc2) [] rfl rfl rfl rfl rfl rfl rfl rfl (Nat.le_of_ble_eq_true rfl) ⟨Nat.le_of_ble_eq_true rfl, Nat.le_of_ble_eq_true rfl⟩ ⟨Nat.le_refl _, Nat.le_refl _⟩ dX12_isTold_4 ?_
  intro H locs hP hD hS
  refine lv_if_eq (tgt := 26) hx hb dX12_isTold_7 (by decide) (fun q => ?_) (fun q => ?_)
  · have hf := if_t q hf
    exact hb_26 _ _ ls (lv_sub hl [] rfl) hP hD hS hf
  · have hf := if_f q hf
    refine lv_aload_n hx hb dX12_isTold_10 rfl (lv_at hl 0 rfl) ?_
    refine x_get C hK hP fd_X12_7 0 rfl rfl dX12_isTold_11 ?_
    refine lv_iconst (v := 0) hx hb dX12_isTold_14 (by decide) ?_
    refine lv_iload_n hx hb dX12_isTold_15 rfl (lv_at hl 1 rfl) ?_
    refine lv_iadd hx hb dX12_isTold_16 ?_
    obtain ⟨hi, hf⟩ := gI_e hf
    refine x_iald C hK hP 1 rfl hi dX12_isTold_17 ?_
    refine lv_iconst (v := 1) hx hb dX12_isTold_18 (by decide) ?_
    refine lv_icmp_ne (tgt := 26) hx hb dX12_isTold_19 (by decide) (fun q => ?_) (fun q => ?_)
    · have hf := if_f q hf
      exact hb_26 _ _ ls (lv_sub hl [] rfl) hP hD hS hf
    · have hf := if_t q hf
      refine lv_iconst (v := 1) hx hb dX12_isTold_22 (by decide) ?_
      refine lv_goto (tgt := 27) hx hb dX12_isTold_23 (by decide) ?_
      exact hb_27 (1 : Int32) _ _ ls (lv_sub hl [] rfl) hP hD hS hf
def f_X12_isWord (a0 : Int32) : Option (Int32) :=
  bd1 (f_X12_in a0 (0 : Int32) (15 : Int32)) (fun r1 =>
  zI r1 (some r1))
set_option maxHeartbeats 4000000 in
set_option maxRecDepth 100000 in
theorem c_X12_isWord {l : Launch} {D : va_G} {cI cB : ClassId} {a0 : Int32} {o_r : Int32} (hf : f_X12_isWord a0 = some o_r) : CtI l D cI cB yX12_isWord cX12_isWord 1 (some .boolean) 1 22 [.int a0] [] [] o_r := by
  refine x_startI (by decide) (Nat.le_of_ble_eq_true rfl) ?_
  intro p e s m below meth c A C hr hlk hA hK hP hD hS ls hl
  have hl : lv_has ls 1 [(0, .int a0)] := hl
  have hx := C.1
  have hb := C.2.1
  unfold f_X12_isWord at hf
  refine lv_iload_n hx hb dX12_isWord_0 rfl (lv_at hl 0 rfl) ?_
  refine lv_iconst (v := 0) hx hb dX12_isWord_1 (by decide) ?_
  refine lv_bipush (v := 15) hx hb dX12_isWord_2 (by decide) ?_
  obtain ⟨r1, hc2, hf⟩ := bd1_e hf
  refine x_callSI (ws' := []) (rest := []) C hK hP hD hS hA hl mf_X12_105 (c_X12_in hc2) [] rfl rfl rfl rfl rfl rfl rfl rfl (Nat.le_of_ble_eq_true rfl) ⟨Nat.le_of_ble_eq_true rfl, Nat.le_of_ble_eq_true rfl⟩ ⟨Nat.le_refl _, Nat.le_refl _⟩ dX12_isWord_4 ?_
  intro H locs hP hD hS
  obtain ⟨hz, hf⟩ := zI_e hf
  obtain rfl := ev1 hf
  exact x_zret C hr hlk hz hP hD hS dX12_isWord_7
def f_X12_toldSet_b24 (k4 : Int32 → Int32 → Option (Int32)) (l1 : Int32) (l2 : Int32) : Option (Int32) :=
  k4 l1 (l2 + (1 : Int32))
def f_X12_toldSet_b4 (v_t_now : (Nat → Int32)) : Nat → Int32 → Int32 → Option (Int32)
  | 0, _, _ => none
  | n + 1, l1, l2 =>
    if (8 : Int32) ≤ l2 then
      some l1
    else
      bd1 (f_X12_isTold v_t_now l2) (fun r1 =>
      if r1 = 0 then
        f_X12_toldSet_b24 (f_X12_toldSet_b4 v_t_now n) l1 l2
      else
        f_X12_toldSet_b24 (f_X12_toldSet_b4 v_t_now n) (l1 ||| ((1 : Int32) <<< (l2 &&& 31))) l2)
def f_X12_toldSet (v_t_now : (Nat → Int32)) : Option (Int32) :=
  f_X12_toldSet_b4 v_t_now FU (0 : Int32) (0 : Int32)
set_option maxHeartbeats 4000000 in
set_option maxRecDepth 100000 in
theorem c_X12_toldSet {l : Launch} {D : va_G} {cI cB : ClassId} {A_t A_t_now A_t_aside A_t_kept A_t_rhymeOf A_t_wasRhyme A_t_wordAt A_t_tape A_t_said A_t_waitsAt A_t_saidLetter A_t_saidFrom A_t_saidHalf A_t_saidTo A_t_codes A_t_clauseOf A_t_codeFrom A_t_codeHalf A_t_codeTo A_t_stack A_t_facts A_t_newWords A_t_roundFrom A_t_roundAt A_t_roundTimes A_t_leastFrom A_t_rowNow A_t_bornOf A_t_trainsTo A_t_trainAt : Nat} {x_t_wordMany x_t_taped x_t_place0 x_t_length0 x_t_fault x_t_number0 x_t_open x_t_codeMany x_t_waiting x_t_saidMany x_t_clauses x_t_lines x_t_newMany x_t_rounds x_t_itFrom x_t_itTimes x_t_writtenNow x_t_picturesNow x_t_usedNow x_t_chosen x_t_fearOfChosen x_t_changesNow x_t_left0 x_t_trainMany x_t_leastTries x_t_firstTrained x_t_isKept : Int32} {v_t_now : Nat → Int32} {o_r : Int32} (hf : f_X12_toldSet v_t_now = some o_r) : CtI l D cI cB yX12_toldSet cX12_toldSet 3 (some .int) 2 43 [.ref A_t] [oX12 A_t A_t_now A_t_aside A_t_kept A_t_rhymeOf A_t_wasRhyme A_t_wordAt x_t_wordMany A_t_tape x_t_taped x_t_place0 x_t_length0 x_t_fault x_t_number0 x_t_open x_t_codeMany x_t_waiting x_t_saidMany x_t_clauses A_t_said A_t_waitsAt A_t_saidLetter A_t_saidFrom A_t_saidHalf A_t_saidTo A_t_codes A_t_clauseOf A_t_codeFrom A_t_codeHalf A_t_codeTo A_t_stack A_t_facts x_t_lines A_t_newWords A_t_roundFrom A_t_roundAt A_t_roundTimes x_t_newMany x_t_rounds x_t_itFrom x_t_itTimes x_t_writtenNow x_t_picturesNow x_t_usedNow x_t_chosen x_t_fearOfChosen A_t_leastFrom A_t_rowNow x_t_changesNow x_t_left0 A_t_bornOf A_t_trainsTo A_t_trainAt x_t_trainMany x_t_leastTries x_t_firstTrained x_t_isKept, iA cI 293 A_t_now v_t_now] [oX12 A_t A_t_now A_t_aside A_t_kept A_t_rhymeOf A_t_wasRhyme A_t_wordAt x_t_wordMany A_t_tape x_t_taped x_t_place0 x_t_length0 x_t_fault x_t_number0 x_t_open x_t_codeMany x_t_waiting x_t_saidMany x_t_clauses A_t_said A_t_waitsAt A_t_saidLetter A_t_saidFrom A_t_saidHalf A_t_saidTo A_t_codes A_t_clauseOf A_t_codeFrom A_t_codeHalf A_t_codeTo A_t_stack A_t_facts x_t_lines A_t_newWords A_t_roundFrom A_t_roundAt A_t_roundTimes x_t_newMany x_t_rounds x_t_itFrom x_t_itTimes x_t_writtenNow x_t_picturesNow x_t_usedNow x_t_chosen x_t_fearOfChosen A_t_leastFrom A_t_rowNow x_t_changesNow x_t_left0 A_t_bornOf A_t_trainsTo A_t_trainAt x_t_trainMany x_t_leastTries x_t_firstTrained x_t_isKept, iA cI 293 A_t_now v_t_now] o_r := by
  refine x_startI (by decide) (Nat.le_of_ble_eq_true rfl) ?_
  intro p e s m below meth c A C hr hlk hA hK hP hD hS ls hl
  have hl : lv_has ls 3 [(0, .ref A_t)] := hl
  have hx := C.1
  have hb := C.2.1
  unfold f_X12_toldSet at hf
  have hb_4 : ∀ (n_4 : Nat) (l1 : Int32) (l2 : Int32) (H : Heap) (locs : List Loc) (ls : Array Slot), lv_has ls 3 [(0, .ref A_t), (1, .int l1), (2, .int l2)] → va_P D vwCl [oX12 A_t A_t_now A_t_aside A_t_kept A_t_rhymeOf A_t_wasRhyme A_t_wordAt x_t_wordMany A_t_tape x_t_taped x_t_place0 x_t_length0 x_t_fault x_t_number0 x_t_open x_t_codeMany x_t_waiting x_t_saidMany x_t_clauses A_t_said A_t_waitsAt A_t_saidLetter A_t_saidFrom A_t_saidHalf A_t_saidTo A_t_codes A_t_clauseOf A_t_codeFrom A_t_codeHalf A_t_codeTo A_t_stack A_t_facts x_t_lines A_t_newWords A_t_roundFrom A_t_roundAt A_t_roundTimes x_t_newMany x_t_rounds x_t_itFrom x_t_itTimes x_t_writtenNow x_t_picturesNow x_t_usedNow x_t_chosen x_t_fearOfChosen A_t_leastFrom A_t_rowNow x_t_changesNow x_t_left0 A_t_bornOf A_t_trainsTo A_t_trainAt x_t_trainMany x_t_leastTries x_t_firstTrained x_t_isKept, iA cI 293 A_t_now v_t_now] H → va_D A [oX12 A_t A_t_now A_t_aside A_t_kept A_t_rhymeOf A_t_wasRhyme A_t_wordAt x_t_wordMany A_t_tape x_t_taped x_t_place0 x_t_length0 x_t_fault x_t_number0 x_t_open x_t_codeMany x_t_waiting x_t_saidMany x_t_clauses A_t_said A_t_waitsAt A_t_saidLetter A_t_saidFrom A_t_saidHalf A_t_saidTo A_t_codes A_t_clauseOf A_t_codeFrom A_t_codeHalf A_t_codeTo A_t_stack A_t_facts x_t_lines A_t_newWords A_t_roundFrom A_t_roundAt A_t_roundTimes x_t_newMany x_t_rounds x_t_itFrom x_t_itTimes x_t_writtenNow x_t_picturesNow x_t_usedNow x_t_chosen x_t_fearOfChosen A_t_leastFrom A_t_rowNow x_t_changesNow x_t_left0 A_t_bornOf A_t_trainsTo A_t_trainAt x_t_trainMany x_t_leastTries x_t_firstTrained x_t_isKept, iA cI 293 A_t_now v_t_now] → va_S A s.heap H locs → f_X12_toldSet_b4 v_t_now n_4 l1 l2 = some o_r → W p l e { frames := 2, cells := 0, slots := 0, locals := 43 } s m ([.ref A_t] : List Value).toArray below meth c H locs 0 0 (MQ below (PoI D A [oX12 A_t A_t_now A_t_aside A_t_kept A_t_rhymeOf A_t_wasRhyme A_t_wordAt x_t_wordMany A_t_tape x_t_taped x_t_place0 x_t_length0 x_t_fault x_t_number0 x_t_open x_t_codeMany x_t_waiting x_t_saidMany x_t_clauses A_t_said A_t_waitsAt A_t_saidLetter A_t_saidFrom A_t_saidHalf A_t_saidTo A_t_codes A_t_clauseOf A_t_codeFrom A_t_codeHalf A_t_codeTo A_t_stack A_t_facts x_t_lines A_t_newWords A_t_roundFrom A_t_roundAt A_t_roundTimes x_t_newMany x_t_rounds x_t_itFrom x_t_itTimes x_t_writtenNow x_t_picturesNow x_t_usedNow x_t_chosen x_t_fearOfChosen A_t_leastFrom A_t_rowNow x_t_changesNow x_t_left0 A_t_bornOf A_t_trainsTo A_t_trainAt x_t_trainMany x_t_leastTries x_t_firstTrained x_t_isKept, iA cI 293 A_t_now v_t_now] o_r) ([.ref A_t] : List Value).toArray s 0 0 A) (F0 m 4 ls []) := by
    intro n_4
    induction n_4 with
    | zero =>
      intro l1 l2 H locs ls hl hP hD hS hf
      exact absurd hf (fun h => by rw [f_X12_toldSet_b4] at h; cases h)
    | succ n_4 ih_4 =>
      have hb_24 : ∀ (l1 : Int32) (l2 : Int32) (H : Heap) (locs : List Loc) (ls : Array Slot), lv_has ls 3 [(0, .ref A_t), (1, .int l1), (2, .int l2)] → va_P D vwCl [oX12 A_t A_t_now A_t_aside A_t_kept A_t_rhymeOf A_t_wasRhyme A_t_wordAt x_t_wordMany A_t_tape x_t_taped x_t_place0 x_t_length0 x_t_fault x_t_number0 x_t_open x_t_codeMany x_t_waiting x_t_saidMany x_t_clauses A_t_said A_t_waitsAt A_t_saidLetter A_t_saidFrom A_t_saidHalf A_t_saidTo A_t_codes A_t_clauseOf A_t_codeFrom A_t_codeHalf A_t_codeTo A_t_stack A_t_facts x_t_lines A_t_newWords A_t_roundFrom A_t_roundAt A_t_roundTimes x_t_newMany x_t_rounds x_t_itFrom x_t_itTimes x_t_writtenNow x_t_picturesNow x_t_usedNow x_t_chosen x_t_fearOfChosen A_t_leastFrom A_t_rowNow x_t_changesNow x_t_left0 A_t_bornOf A_t_trainsTo A_t_trainAt x_t_trainMany x_t_leastTries x_t_firstTrained x_t_isKept, iA cI 293 A_t_now v_t_now] H → va_D A [oX12 A_t A_t_now A_t_aside A_t_kept A_t_rhymeOf A_t_wasRhyme A_t_wordAt x_t_wordMany A_t_tape x_t_taped x_t_place0 x_t_length0 x_t_fault x_t_number0 x_t_open x_t_codeMany x_t_waiting x_t_saidMany x_t_clauses A_t_said A_t_waitsAt A_t_saidLetter A_t_saidFrom A_t_saidHalf A_t_saidTo A_t_codes A_t_clauseOf A_t_codeFrom A_t_codeHalf A_t_codeTo A_t_stack A_t_facts x_t_lines A_t_newWords A_t_roundFrom A_t_roundAt A_t_roundTimes x_t_newMany x_t_rounds x_t_itFrom x_t_itTimes x_t_writtenNow x_t_picturesNow x_t_usedNow x_t_chosen x_t_fearOfChosen A_t_leastFrom A_t_rowNow x_t_changesNow x_t_left0 A_t_bornOf A_t_trainsTo A_t_trainAt x_t_trainMany x_t_leastTries x_t_firstTrained x_t_isKept, iA cI 293 A_t_now v_t_now] → va_S A s.heap H locs → f_X12_toldSet_b24 (f_X12_toldSet_b4 v_t_now n_4) l1 l2 = some o_r → W p l e { frames := 2, cells := 0, slots := 0, locals := 43 } s m ([.ref A_t] : List Value).toArray below meth c H locs 0 0 (MQ below (PoI D A [oX12 A_t A_t_now A_t_aside A_t_kept A_t_rhymeOf A_t_wasRhyme A_t_wordAt x_t_wordMany A_t_tape x_t_taped x_t_place0 x_t_length0 x_t_fault x_t_number0 x_t_open x_t_codeMany x_t_waiting x_t_saidMany x_t_clauses A_t_said A_t_waitsAt A_t_saidLetter A_t_saidFrom A_t_saidHalf A_t_saidTo A_t_codes A_t_clauseOf A_t_codeFrom A_t_codeHalf A_t_codeTo A_t_stack A_t_facts x_t_lines A_t_newWords A_t_roundFrom A_t_roundAt A_t_roundTimes x_t_newMany x_t_rounds x_t_itFrom x_t_itTimes x_t_writtenNow x_t_picturesNow x_t_usedNow x_t_chosen x_t_fearOfChosen A_t_leastFrom A_t_rowNow x_t_changesNow x_t_left0 A_t_bornOf A_t_trainsTo A_t_trainAt x_t_trainMany x_t_leastTries x_t_firstTrained x_t_isKept, iA cI 293 A_t_now v_t_now] o_r) ([.ref A_t] : List Value).toArray s 0 0 A) (F0 m 24 ls []) := by
        intro l1 l2 H locs ls hl hP hD hS hf
        unfold f_X12_toldSet_b24 at hf
        refine lv_iinc (v := (l2 + (1 : Int32))) (lv' := [(2, .int (l2 + (1 : Int32))), (0, .ref A_t), (1, .int l1)]) hx hb dX12_toldSet_24 hl (k := 2) rfl rfl (by decide) rfl (fun ls hl => ?_)
        refine lv_goto (tgt := 4) hx hb dX12_toldSet_27 (by decide) ?_
        exact ih_4 l1 (l2 + (1 : Int32)) _ _ ls (lv_sub hl [1, 2, 0] rfl) hP hD hS hf
      intro l1 l2 H locs ls hl hP hD hS hf
      rw [f_X12_toldSet_b4] at hf
      refine lv_iload_n hx hb dX12_toldSet_4 rfl (lv_at hl 2 rfl) ?_
      refine lv_bipush (v := 8) hx hb dX12_toldSet_5 (by decide) ?_
      refine lv_icmp_ge (tgt := 30) hx hb dX12_toldSet_7 (by decide) (fun q => ?_) (fun q => ?_)
      · have hf := if_t q hf
        refine lv_iload_n hx hb dX12_toldSet_30 rfl (lv_at hl 1 rfl) ?_
        obtain rfl := ev1 hf
        exact x_iret C hr hlk hP hD hS dX12_toldSet_31
      · have hf := if_f q hf
        refine lv_aload_n hx hb dX12_toldSet_10 rfl (lv_at hl 0 rfl) ?_
        refine lv_iload_n hx hb dX12_toldSet_11 rfl (lv_at hl 2 rfl) ?_
        obtain ⟨r1, hc2, hf⟩ := bd1_e hf
        refine x_callVI (ws' := [oX12 A_t A_t_now A_t_aside A_t_kept A_t_rhymeOf A_t_wasRhyme A_t_wordAt x_t_wordMany A_t_tape x_t_taped x_t_place0 x_t_length0 x_t_fault x_t_number0 x_t_open x_t_codeMany x_t_waiting x_t_saidMany x_t_clauses A_t_said A_t_waitsAt A_t_saidLetter A_t_saidFrom A_t_saidHalf A_t_saidTo A_t_codes A_t_clauseOf A_t_codeFrom A_t_codeHalf A_t_codeTo A_t_stack A_t_facts x_t_lines A_t_newWords A_t_roundFrom A_t_roundAt A_t_roundTimes x_t_newMany x_t_rounds x_t_itFrom x_t_itTimes x_t_writtenNow x_t_picturesNow x_t_usedNow x_t_chosen x_t_fearOfChosen A_t_leastFrom A_t_rowNow x_t_changesNow x_t_left0 A_t_bornOf A_t_trainsTo A_t_trainAt x_t_trainMany x_t_leastTries x_t_firstTrained x_t_isKept, iA cI 293 A_t_now v_t_now]) (rest := []) C hK hP hD hS hA hl mf_X12_109 (c_X12_isTold hc2) [0, 1] 0 12 rfl rfl rfl rfl rfl rfl rfl rfl rfl rfl (Nat.le_of_ble_eq_true rfl) ⟨Nat.le_of_ble_eq_true rfl, Nat.le_of_ble_eq_true rfl⟩ ⟨Nat.le_refl _, Nat.le_refl _⟩ dX12_toldSet_12 ?_
        intro H locs hP hD hS
        refine lv_if_eq (tgt := 24) hx hb dX12_toldSet_15 (by decide) (fun q => ?_) (fun q => ?_)
        · have hf := if_t q hf
          exact hb_24 l1 l2 _ _ ls (lv_sub hl [0, 1, 2] rfl) hP hD hS hf
        · have hf := if_f q hf
          refine lv_iload_n hx hb dX12_toldSet_18 rfl (lv_at hl 1 rfl) ?_
          refine lv_iconst (v := 1) hx hb dX12_toldSet_19 (by decide) ?_
          refine lv_iload_n hx hb dX12_toldSet_20 rfl (lv_at hl 2 rfl) ?_
          refine lv_ishl hx hb dX12_toldSet_21 ?_
          refine lv_ior hx hb dX12_toldSet_22 ?_
          refine lv_istore_n (lv' := [(1, .int (l1 ||| ((1 : Int32) <<< (l2 &&& 31)))), (0, .ref A_t), (2, .int l2)]) hx hb dX12_toldSet_23 rfl hl (by decide) rfl (fun ls hl => ?_)
          exact hb_24 (l1 ||| ((1 : Int32) <<< (l2 &&& 31))) l2 _ _ ls (lv_sub hl [1, 0, 2] rfl) hP hD hS hf
  refine lv_iconst (v := 0) hx hb dX12_toldSet_0 (by decide) ?_
  refine lv_istore_n (lv' := [(1, .int (0 : Int32)), (0, .ref A_t)]) hx hb dX12_toldSet_1 rfl hl (by decide) rfl (fun ls hl => ?_)
  refine lv_iconst (v := 0) hx hb dX12_toldSet_2 (by decide) ?_
  refine lv_istore_n (lv' := [(2, .int (0 : Int32)), (1, .int (0 : Int32)), (0, .ref A_t)]) hx hb dX12_toldSet_3 rfl hl (by decide) rfl (fun ls hl => ?_)
  exact hb_4 FU (0 : Int32) (0 : Int32) _ _ ls (lv_sub hl [2, 1, 0] rfl) hP hD hS hf
def f_X12_dreadOf (v_t_now : (Nat → Int32)) (a1 : Int32) (a2 : Int32) : Option (Int32) :=
  gI 293 v_t_now (((32 : Int32) + ((16 : Int32) * a1)) + a2) (fun g1 =>
  some g1)
set_option maxHeartbeats 4000000 in
set_option maxRecDepth 100000 in
theorem c_X12_dreadOf {l : Launch} {D : va_G} {cI cB : ClassId} {A_t A_t_now A_t_aside A_t_kept A_t_rhymeOf A_t_wasRhyme A_t_wordAt A_t_tape A_t_said A_t_waitsAt A_t_saidLetter A_t_saidFrom A_t_saidHalf A_t_saidTo A_t_codes A_t_clauseOf A_t_codeFrom A_t_codeHalf A_t_codeTo A_t_stack A_t_facts A_t_newWords A_t_roundFrom A_t_roundAt A_t_roundTimes A_t_leastFrom A_t_rowNow A_t_bornOf A_t_trainsTo A_t_trainAt : Nat} {x_t_wordMany x_t_taped x_t_place0 x_t_length0 x_t_fault x_t_number0 x_t_open x_t_codeMany x_t_waiting x_t_saidMany x_t_clauses x_t_lines x_t_newMany x_t_rounds x_t_itFrom x_t_itTimes x_t_writtenNow x_t_picturesNow x_t_usedNow x_t_chosen x_t_fearOfChosen x_t_changesNow x_t_left0 x_t_trainMany x_t_leastTries x_t_firstTrained x_t_isKept a1 a2 : Int32} {v_t_now : Nat → Int32} {o_r : Int32} (hf : f_X12_dreadOf v_t_now a1 a2 = some o_r) : CtI l D cI cB yX12_dreadOf cX12_dreadOf 3 (some .int) 0 0 [.ref A_t, .int a1, .int a2] [oX12 A_t A_t_now A_t_aside A_t_kept A_t_rhymeOf A_t_wasRhyme A_t_wordAt x_t_wordMany A_t_tape x_t_taped x_t_place0 x_t_length0 x_t_fault x_t_number0 x_t_open x_t_codeMany x_t_waiting x_t_saidMany x_t_clauses A_t_said A_t_waitsAt A_t_saidLetter A_t_saidFrom A_t_saidHalf A_t_saidTo A_t_codes A_t_clauseOf A_t_codeFrom A_t_codeHalf A_t_codeTo A_t_stack A_t_facts x_t_lines A_t_newWords A_t_roundFrom A_t_roundAt A_t_roundTimes x_t_newMany x_t_rounds x_t_itFrom x_t_itTimes x_t_writtenNow x_t_picturesNow x_t_usedNow x_t_chosen x_t_fearOfChosen A_t_leastFrom A_t_rowNow x_t_changesNow x_t_left0 A_t_bornOf A_t_trainsTo A_t_trainAt x_t_trainMany x_t_leastTries x_t_firstTrained x_t_isKept, iA cI 293 A_t_now v_t_now] [oX12 A_t A_t_now A_t_aside A_t_kept A_t_rhymeOf A_t_wasRhyme A_t_wordAt x_t_wordMany A_t_tape x_t_taped x_t_place0 x_t_length0 x_t_fault x_t_number0 x_t_open x_t_codeMany x_t_waiting x_t_saidMany x_t_clauses A_t_said A_t_waitsAt A_t_saidLetter A_t_saidFrom A_t_saidHalf A_t_saidTo A_t_codes A_t_clauseOf A_t_codeFrom A_t_codeHalf A_t_codeTo A_t_stack A_t_facts x_t_lines A_t_newWords A_t_roundFrom A_t_roundAt A_t_roundTimes x_t_newMany x_t_rounds x_t_itFrom x_t_itTimes x_t_writtenNow x_t_picturesNow x_t_usedNow x_t_chosen x_t_fearOfChosen A_t_leastFrom A_t_rowNow x_t_changesNow x_t_left0 A_t_bornOf A_t_trainsTo A_t_trainAt x_t_trainMany x_t_leastTries x_t_firstTrained x_t_isKept, iA cI 293 A_t_now v_t_now] o_r := by
  refine x_startI (by decide) (Nat.le_of_ble_eq_true rfl) ?_
  intro p e s m below meth c A C hr hlk hA hK hP hD hS ls hl
  have hl : lv_has ls 3 [(0, .ref A_t), (1, .int a1), (2, .int a2)] := hl
  have hx := C.1
  have hb := C.2.1
  unfold f_X12_dreadOf at hf
  refine lv_aload_n hx hb dX12_dreadOf_0 rfl (lv_at hl 0 rfl) ?_
  refine x_get C hK hP fd_X12_7 0 rfl rfl dX12_dreadOf_1 ?_
  refine lv_bipush (v := 32) hx hb dX12_dreadOf_4 (by decide) ?_
  refine lv_bipush (v := 16) hx hb dX12_dreadOf_6 (by decide) ?_
  refine lv_iload_n hx hb dX12_dreadOf_8 rfl (lv_at hl 1 rfl) ?_
  refine lv_imul hx hb dX12_dreadOf_9 ?_
  refine lv_iadd hx hb dX12_dreadOf_10 ?_
  refine lv_iload_n hx hb dX12_dreadOf_11 rfl (lv_at hl 2 rfl) ?_
  refine lv_iadd hx hb dX12_dreadOf_12 ?_
  obtain ⟨hi, hf⟩ := gI_e hf
  refine x_iald C hK hP 1 rfl hi dX12_dreadOf_13 ?_
  obtain rfl := ev1 hf
  exact x_iret C hr hlk hP hD hS dX12_dreadOf_14
def f_X12_shrinkingBy (v_t_now : (Nat → Int32)) (v_t_rhymeOf : (Nat → Int32)) (a1 : Int32) (a2 : Int32) (a3 : Int32) : Option (Int32) :=
  bd1 (f_X12_dreadOf v_t_now a1 a2) (fun r1 =>
  gI 293 v_t_now ((8 : Int32) + a1) (fun g2 =>
  if g2 = (0 : Int32) then
    bd1 (f_X12_limit (r1 - a3)) (fun r3 =>
    some r3)
  else
  if g2 = (1 : Int32) then
    bd1 (f_X12_limit (((2 : Int32) * r1) - a3)) (fun r4 =>
    some r4)
  else
  if g2 = (2 : Int32) then
    dI r1 (2 : Int32) (fun g5 =>
    bd1 (f_X12_limit (g5 - a3)) (fun r6 =>
    some r6))
  else
  if g2 = (3 : Int32) then
    some (0 : Int32)
  else
    gI 16 v_t_rhymeOf a2 (fun g7 =>
    bd1 (f_X12_dreadOf v_t_now a1 g7) (fun r8 =>
    dI ((r1 + r8) + (1 : Int32)) (2 : Int32) (fun g9 =>
    bd1 (f_X12_limit (g9 - a3)) (fun r10 =>
    some r10))))))
set_option maxHeartbeats 4000000 in
set_option maxRecDepth 100000 in
theorem c_X12_shrinkingBy {l : Launch} {D : va_G} {cI cB : ClassId} {A_t A_t_now A_t_aside A_t_kept A_t_rhymeOf A_t_wasRhyme A_t_wordAt A_t_tape A_t_said A_t_waitsAt A_t_saidLetter A_t_saidFrom A_t_saidHalf A_t_saidTo A_t_codes A_t_clauseOf A_t_codeFrom A_t_codeHalf A_t_codeTo A_t_stack A_t_facts A_t_newWords A_t_roundFrom A_t_roundAt A_t_roundTimes A_t_leastFrom A_t_rowNow A_t_bornOf A_t_trainsTo A_t_trainAt : Nat} {x_t_wordMany x_t_taped x_t_place0 x_t_length0 x_t_fault x_t_number0 x_t_open x_t_codeMany x_t_waiting x_t_saidMany x_t_clauses x_t_lines x_t_newMany x_t_rounds x_t_itFrom x_t_itTimes x_t_writtenNow x_t_picturesNow x_t_usedNow x_t_chosen x_t_fearOfChosen x_t_changesNow x_t_left0 x_t_trainMany x_t_leastTries x_t_firstTrained x_t_isKept a1 a2 a3 : Int32} {v_t_now v_t_rhymeOf : Nat → Int32} {o_r : Int32} (hf : f_X12_shrinkingBy v_t_now v_t_rhymeOf a1 a2 a3 = some o_r) : CtI l D cI cB yX12_shrinkingBy cX12_shrinkingBy 5 (some .int) 2 41 [.ref A_t, .int a1, .int a2, .int a3] [oX12 A_t A_t_now A_t_aside A_t_kept A_t_rhymeOf A_t_wasRhyme A_t_wordAt x_t_wordMany A_t_tape x_t_taped x_t_place0 x_t_length0 x_t_fault x_t_number0 x_t_open x_t_codeMany x_t_waiting x_t_saidMany x_t_clauses A_t_said A_t_waitsAt A_t_saidLetter A_t_saidFrom A_t_saidHalf A_t_saidTo A_t_codes A_t_clauseOf A_t_codeFrom A_t_codeHalf A_t_codeTo A_t_stack A_t_facts x_t_lines A_t_newWords A_t_roundFrom A_t_roundAt A_t_roundTimes x_t_newMany x_t_rounds x_t_itFrom x_t_itTimes x_t_writtenNow x_t_picturesNow x_t_usedNow x_t_chosen x_t_fearOfChosen A_t_leastFrom A_t_rowNow x_t_changesNow x_t_left0 A_t_bornOf A_t_trainsTo A_t_trainAt x_t_trainMany x_t_leastTries x_t_firstTrained x_t_isKept, iA cI 293 A_t_now v_t_now, iA cI 16 A_t_rhymeOf v_t_rhymeOf] [oX12 A_t A_t_now A_t_aside A_t_kept A_t_rhymeOf A_t_wasRhyme A_t_wordAt x_t_wordMany A_t_tape x_t_taped x_t_place0 x_t_length0 x_t_fault x_t_number0 x_t_open x_t_codeMany x_t_waiting x_t_saidMany x_t_clauses A_t_said A_t_waitsAt A_t_saidLetter A_t_saidFrom A_t_saidHalf A_t_saidTo A_t_codes A_t_clauseOf A_t_codeFrom A_t_codeHalf A_t_codeTo A_t_stack A_t_facts x_t_lines A_t_newWords A_t_roundFrom A_t_roundAt A_t_roundTimes x_t_newMany x_t_rounds x_t_itFrom x_t_itTimes x_t_writtenNow x_t_picturesNow x_t_usedNow x_t_chosen x_t_fearOfChosen A_t_leastFrom A_t_rowNow x_t_changesNow x_t_left0 A_t_bornOf A_t_trainsTo A_t_trainAt x_t_trainMany x_t_leastTries x_t_firstTrained x_t_isKept, iA cI 293 A_t_now v_t_now, iA cI 16 A_t_rhymeOf v_t_rhymeOf] o_r := by
  refine x_startI (by decide) (Nat.le_of_ble_eq_true rfl) ?_
  intro p e s m below meth c A C hr hlk hA hK hP hD hS ls hl
  have hl : lv_has ls 5 [(0, .ref A_t), (1, .int a1), (2, .int a2), (3, .int a3)] := hl
  have hx := C.1
  have hb := C.2.1
  unfold f_X12_shrinkingBy at hf
  refine lv_aload_n hx hb dX12_shrinkingBy_0 rfl (lv_at hl 0 rfl) ?_
  refine lv_iload_n hx hb dX12_shrinkingBy_1 rfl (lv_at hl 1 rfl) ?_
  refine lv_iload_n hx hb dX12_shrinkingBy_2 rfl (lv_at hl 2 rfl) ?_
  obtain ⟨r1, hc2, hf⟩ := bd1_e hf
  refine x_callVI (ws' := [oX12 A_t A_t_now A_t_aside A_t_kept A_t_rhymeOf A_t_wasRhyme A_t_wordAt x_t_wordMany A_t_tape x_t_taped x_t_place0 x_t_length0 x_t_fault x_t_number0 x_t_open x_t_codeMany x_t_waiting x_t_saidMany x_t_clauses A_t_said A_t_waitsAt A_t_saidLetter A_t_saidFrom A_t_saidHalf A_t_saidTo A_t_codes A_t_clauseOf A_t_codeFrom A_t_codeHalf A_t_codeTo A_t_stack A_t_facts x_t_lines A_t_newWords A_t_roundFrom A_t_roundAt A_t_roundTimes x_t_newMany x_t_rounds x_t_itFrom x_t_itTimes x_t_writtenNow x_t_picturesNow x_t_usedNow x_t_chosen x_t_fearOfChosen A_t_leastFrom A_t_rowNow x_t_changesNow x_t_left0 A_t_bornOf A_t_trainsTo A_t_trainAt x_t_trainMany x_t_leastTries x_t_firstTrained x_t_isKept, iA cI 293 A_t_now v_t_now, iA cI 16 A_t_rhymeOf v_t_rhymeOf]) (rest := []) C hK hP hD hS hA hl mf_X12_113 (c_X12_dreadOf hc2) [0, 1] 0 12 rfl rfl rfl rfl rfl rfl rfl rfl rfl rfl (Nat.le_of_ble_eq_true rfl) ⟨Nat.le_of_ble_eq_true rfl, Nat.le_of_ble_eq_true rfl⟩ ⟨Nat.le_refl _, Nat.le_refl _⟩ dX12_shrinkingBy_3 ?_
  intro H locs hP hD hS
  refine lv_istore (lv' := [(4, .int r1), (0, .ref A_t), (1, .int a1), (2, .int a2), (3, .int a3)]) hx hb dX12_shrinkingBy_6 hl (by decide) rfl (fun ls hl => ?_)
  refine lv_aload_n hx hb dX12_shrinkingBy_8 rfl (lv_at hl 1 rfl) ?_
  refine x_get C hK hP fd_X12_7 0 rfl rfl dX12_shrinkingBy_9 ?_
  refine lv_bipush (v := 8) hx hb dX12_shrinkingBy_12 (by decide) ?_
  refine lv_iload_n hx hb dX12_shrinkingBy_14 rfl (lv_at hl 2 rfl) ?_
  refine lv_iadd hx hb dX12_shrinkingBy_15 ?_
  obtain ⟨hi, hf⟩ := gI_e hf
  refine x_iald C hK hP 1 rfl hi dX12_shrinkingBy_16 ?_
  by_cases q_0 : (v_t_now ((8 : Int32) + a1).toNatClampNeg) = (0 : Int32)
  · have hf := if_t q_0 hf
    refine lv_tableIn (tgt := 48) hx hb dX12_shrinkingBy_17 (by rw [q_0]; decide) (by rw [q_0]; decide) (by rw [q_0]; rfl) (by decide) ?_
    refine lv_iload hx hb dX12_shrinkingBy_48 (lv_at hl 0 rfl) ?_
    refine lv_iload_n hx hb dX12_shrinkingBy_50 rfl (lv_at hl 4 rfl) ?_
    refine lv_isub hx hb dX12_shrinkingBy_51 ?_
    obtain ⟨r3, hc4, hf⟩ := bd1_e hf
    refine x_callSI (ws' := [oX12 A_t A_t_now A_t_aside A_t_kept A_t_rhymeOf A_t_wasRhyme A_t_wordAt x_t_wordMany A_t_tape x_t_taped x_t_place0 x_t_length0 x_t_fault x_t_number0 x_t_open x_t_codeMany x_t_waiting x_t_saidMany x_t_clauses A_t_said A_t_waitsAt A_t_saidLetter A_t_saidFrom A_t_saidHalf A_t_saidTo A_t_codes A_t_clauseOf A_t_codeFrom A_t_codeHalf A_t_codeTo A_t_stack A_t_facts x_t_lines A_t_newWords A_t_roundFrom A_t_roundAt A_t_roundTimes x_t_newMany x_t_rounds x_t_itFrom x_t_itTimes x_t_writtenNow x_t_picturesNow x_t_usedNow x_t_chosen x_t_fearOfChosen A_t_leastFrom A_t_rowNow x_t_changesNow x_t_left0 A_t_bornOf A_t_trainsTo A_t_trainAt x_t_trainMany x_t_leastTries x_t_firstTrained x_t_isKept, iA cI 293 A_t_now v_t_now, iA cI 16 A_t_rhymeOf v_t_rhymeOf]) (rest := []) C hK hP hD hS hA hl mf_X12_116 (c_X12_limit hc4) [] rfl rfl rfl rfl rfl rfl rfl rfl (Nat.le_of_ble_eq_true rfl) ⟨Nat.le_of_ble_eq_true rfl, Nat.le_of_ble_eq_true rfl⟩ ⟨Nat.le_refl _, Nat.le_refl _⟩ dX12_shrinkingBy_52 ?_
    intro H locs hP hD hS
    obtain rfl := ev1 hf
    exact x_iret C hr hlk hP hD hS dX12_shrinkingBy_55
  have hf := if_f q_0 hf
  by_cases q_1 : (v_t_now ((8 : Int32) + a1).toNatClampNeg) = (1 : Int32)
  · have hf := if_t q_1 hf
    refine lv_tableIn (tgt := 56) hx hb dX12_shrinkingBy_17 (by rw [q_1]; decide) (by rw [q_1]; decide) (by rw [q_1]; rfl) (by decide) ?_
    refine lv_iconst (v := 2) hx hb dX12_shrinkingBy_56 (by decide) ?_
    refine lv_iload hx hb dX12_shrinkingBy_57 (lv_at hl 0 rfl) ?_
    refine lv_imul hx hb dX12_shrinkingBy_59 ?_
    refine lv_iload_n hx hb dX12_shrinkingBy_60 rfl (lv_at hl 4 rfl) ?_
    refine lv_isub hx hb dX12_shrinkingBy_61 ?_
    obtain ⟨r5, hc6, hf⟩ := bd1_e hf
    refine x_callSI (ws' := [oX12 A_t A_t_now A_t_aside A_t_kept A_t_rhymeOf A_t_wasRhyme A_t_wordAt x_t_wordMany A_t_tape x_t_taped x_t_place0 x_t_length0 x_t_fault x_t_number0 x_t_open x_t_codeMany x_t_waiting x_t_saidMany x_t_clauses A_t_said A_t_waitsAt A_t_saidLetter A_t_saidFrom A_t_saidHalf A_t_saidTo A_t_codes A_t_clauseOf A_t_codeFrom A_t_codeHalf A_t_codeTo A_t_stack A_t_facts x_t_lines A_t_newWords A_t_roundFrom A_t_roundAt A_t_roundTimes x_t_newMany x_t_rounds x_t_itFrom x_t_itTimes x_t_writtenNow x_t_picturesNow x_t_usedNow x_t_chosen x_t_fearOfChosen A_t_leastFrom A_t_rowNow x_t_changesNow x_t_left0 A_t_bornOf A_t_trainsTo A_t_trainAt x_t_trainMany x_t_leastTries x_t_firstTrained x_t_isKept, iA cI 293 A_t_now v_t_now, iA cI 16 A_t_rhymeOf v_t_rhymeOf]) (rest := []) C hK hP hD hS hA hl mf_X12_116 (c_X12_limit hc6) [] rfl rfl rfl rfl rfl rfl rfl rfl (Nat.le_of_ble_eq_true rfl) ⟨Nat.le_of_ble_eq_true rfl, Nat.le_of_ble_eq_true rfl⟩ ⟨Nat.le_refl _, Nat.le_refl _⟩ dX12_shrinkingBy_62 ?_
    intro H locs hP hD hS
    obtain rfl := ev1 hf
    exact x_iret C hr hlk hP hD hS dX12_shrinkingBy_65
  have hf := if_f q_1 hf
  by_cases q_2 : (v_t_now ((8 : Int32) + a1).toNatClampNeg) = (2 : Int32)
  · have hf := if_t q_2 hf
    refine lv_tableIn (tgt := 66) hx hb dX12_shrinkingBy_17 (by rw [q_2]; decide) (by rw [q_2]; decide) (by rw [q_2]; rfl) (by decide) ?_
    refine lv_iload hx hb dX12_shrinkingBy_66 (lv_at hl 0 rfl) ?_
    refine lv_iconst (v := 2) hx hb dX12_shrinkingBy_68 (by decide) ?_
    obtain ⟨hz, hf⟩ := dI_e hf
    refine lv_idiv hx hb dX12_shrinkingBy_69 hz ?_
    refine lv_iload_n hx hb dX12_shrinkingBy_70 rfl (lv_at hl 4 rfl) ?_
    refine lv_isub hx hb dX12_shrinkingBy_71 ?_
    obtain ⟨r7, hc8, hf⟩ := bd1_e hf
    refine x_callSI (ws' := [oX12 A_t A_t_now A_t_aside A_t_kept A_t_rhymeOf A_t_wasRhyme A_t_wordAt x_t_wordMany A_t_tape x_t_taped x_t_place0 x_t_length0 x_t_fault x_t_number0 x_t_open x_t_codeMany x_t_waiting x_t_saidMany x_t_clauses A_t_said A_t_waitsAt A_t_saidLetter A_t_saidFrom A_t_saidHalf A_t_saidTo A_t_codes A_t_clauseOf A_t_codeFrom A_t_codeHalf A_t_codeTo A_t_stack A_t_facts x_t_lines A_t_newWords A_t_roundFrom A_t_roundAt A_t_roundTimes x_t_newMany x_t_rounds x_t_itFrom x_t_itTimes x_t_writtenNow x_t_picturesNow x_t_usedNow x_t_chosen x_t_fearOfChosen A_t_leastFrom A_t_rowNow x_t_changesNow x_t_left0 A_t_bornOf A_t_trainsTo A_t_trainAt x_t_trainMany x_t_leastTries x_t_firstTrained x_t_isKept, iA cI 293 A_t_now v_t_now, iA cI 16 A_t_rhymeOf v_t_rhymeOf]) (rest := []) C hK hP hD hS hA hl mf_X12_116 (c_X12_limit hc8) [] rfl rfl rfl rfl rfl rfl rfl rfl (Nat.le_of_ble_eq_true rfl) ⟨Nat.le_of_ble_eq_true rfl, Nat.le_of_ble_eq_true rfl⟩ ⟨Nat.le_refl _, Nat.le_refl _⟩ dX12_shrinkingBy_72 ?_
    intro H locs hP hD hS
    obtain rfl := ev1 hf
    exact x_iret C hr hlk hP hD hS dX12_shrinkingBy_75
  have hf := if_f q_2 hf
  by_cases q_3 : (v_t_now ((8 : Int32) + a1).toNatClampNeg) = (3 : Int32)
  · have hf := if_t q_3 hf
    refine lv_tableIn (tgt := 76) hx hb dX12_shrinkingBy_17 (by rw [q_3]; decide) (by rw [q_3]; decide) (by rw [q_3]; rfl) (by decide) ?_
    refine lv_iconst (v := 0) hx hb dX12_shrinkingBy_76 (by decide) ?_
    obtain rfl := ev1 hf
    exact x_iret C hr hlk hP hD hS dX12_shrinkingBy_77
  have hf := if_f q_3 hf
  have eq_0 : (v_t_now ((8 : Int32) + a1).toNatClampNeg).toInt ≠ 0 := fun h => q_0 (Int32.toInt_inj.mp (h.trans (by decide)))
  have eq_1 : (v_t_now ((8 : Int32) + a1).toNatClampNeg).toInt ≠ 1 := fun h => q_1 (Int32.toInt_inj.mp (h.trans (by decide)))
  have eq_2 : (v_t_now ((8 : Int32) + a1).toNatClampNeg).toInt ≠ 2 := fun h => q_2 (Int32.toInt_inj.mp (h.trans (by decide)))
  have eq_3 : (v_t_now ((8 : Int32) + a1).toNatClampNeg).toInt ≠ 3 := fun h => q_3 (Int32.toInt_inj.mp (h.trans (by decide)))
  refine lv_tableOut (tgt := 78) hx hb dX12_shrinkingBy_17 (by omega) (by decide) ?_
  refine lv_iload hx hb dX12_shrinkingBy_78 (lv_at hl 0 rfl) ?_
  refine lv_aload_n hx hb dX12_shrinkingBy_80 rfl (lv_at hl 1 rfl) ?_
  refine lv_iload_n hx hb dX12_shrinkingBy_81 rfl (lv_at hl 2 rfl) ?_
  refine lv_aload_n hx hb dX12_shrinkingBy_82 rfl (lv_at hl 1 rfl) ?_
  refine x_get C hK hP fd_X12_19 0 rfl rfl dX12_shrinkingBy_83 ?_
  refine lv_iload_n hx hb dX12_shrinkingBy_86 rfl (lv_at hl 3 rfl) ?_
  obtain ⟨hi, hf⟩ := gI_e hf
  refine x_iald C hK hP 2 rfl hi dX12_shrinkingBy_87 ?_
  obtain ⟨r9, hc10, hf⟩ := bd1_e hf
  refine x_callVI (ws' := [oX12 A_t A_t_now A_t_aside A_t_kept A_t_rhymeOf A_t_wasRhyme A_t_wordAt x_t_wordMany A_t_tape x_t_taped x_t_place0 x_t_length0 x_t_fault x_t_number0 x_t_open x_t_codeMany x_t_waiting x_t_saidMany x_t_clauses A_t_said A_t_waitsAt A_t_saidLetter A_t_saidFrom A_t_saidHalf A_t_saidTo A_t_codes A_t_clauseOf A_t_codeFrom A_t_codeHalf A_t_codeTo A_t_stack A_t_facts x_t_lines A_t_newWords A_t_roundFrom A_t_roundAt A_t_roundTimes x_t_newMany x_t_rounds x_t_itFrom x_t_itTimes x_t_writtenNow x_t_picturesNow x_t_usedNow x_t_chosen x_t_fearOfChosen A_t_leastFrom A_t_rowNow x_t_changesNow x_t_left0 A_t_bornOf A_t_trainsTo A_t_trainAt x_t_trainMany x_t_leastTries x_t_firstTrained x_t_isKept, iA cI 293 A_t_now v_t_now, iA cI 16 A_t_rhymeOf v_t_rhymeOf]) (rest := [.int r1]) C hK hP hD hS hA hl mf_X12_113 (c_X12_dreadOf hc10) [0, 1] 0 12 rfl rfl rfl rfl rfl rfl rfl rfl rfl rfl (Nat.le_of_ble_eq_true rfl) ⟨Nat.le_of_ble_eq_true rfl, Nat.le_of_ble_eq_true rfl⟩ ⟨Nat.le_refl _, Nat.le_refl _⟩ dX12_shrinkingBy_88 ?_
  intro H locs hP hD hS
  refine lv_iadd hx hb dX12_shrinkingBy_91 ?_
  refine lv_iconst (v := 1) hx hb dX12_shrinkingBy_92 (by decide) ?_
  refine lv_iadd hx hb dX12_shrinkingBy_93 ?_
  refine lv_iconst (v := 2) hx hb dX12_shrinkingBy_94 (by decide) ?_
  obtain ⟨hz, hf⟩ := dI_e hf
  refine lv_idiv hx hb dX12_shrinkingBy_95 hz ?_
  refine lv_iload_n hx hb dX12_shrinkingBy_96 rfl (lv_at hl 4 rfl) ?_
  refine lv_isub hx hb dX12_shrinkingBy_97 ?_
  obtain ⟨r11, hc12, hf⟩ := bd1_e hf
  refine x_callSI (ws' := [oX12 A_t A_t_now A_t_aside A_t_kept A_t_rhymeOf A_t_wasRhyme A_t_wordAt x_t_wordMany A_t_tape x_t_taped x_t_place0 x_t_length0 x_t_fault x_t_number0 x_t_open x_t_codeMany x_t_waiting x_t_saidMany x_t_clauses A_t_said A_t_waitsAt A_t_saidLetter A_t_saidFrom A_t_saidHalf A_t_saidTo A_t_codes A_t_clauseOf A_t_codeFrom A_t_codeHalf A_t_codeTo A_t_stack A_t_facts x_t_lines A_t_newWords A_t_roundFrom A_t_roundAt A_t_roundTimes x_t_newMany x_t_rounds x_t_itFrom x_t_itTimes x_t_writtenNow x_t_picturesNow x_t_usedNow x_t_chosen x_t_fearOfChosen A_t_leastFrom A_t_rowNow x_t_changesNow x_t_left0 A_t_bornOf A_t_trainsTo A_t_trainAt x_t_trainMany x_t_leastTries x_t_firstTrained x_t_isKept, iA cI 293 A_t_now v_t_now, iA cI 16 A_t_rhymeOf v_t_rhymeOf]) (rest := []) C hK hP hD hS hA hl mf_X12_116 (c_X12_limit hc12) [] rfl rfl rfl rfl rfl rfl rfl rfl (Nat.le_of_ble_eq_true rfl) ⟨Nat.le_of_ble_eq_true rfl, Nat.le_of_ble_eq_true rfl⟩ ⟨Nat.le_refl _, Nat.le_refl _⟩ dX12_shrinkingBy_98 ?_
  intro H locs hP hD hS
  obtain rfl := ev1 hf
  exact x_iret C hr hlk hP hD hS dX12_shrinkingBy_101
def f_X12_shrinking (v_t_now : (Nat → Int32)) (v_t_rhymeOf : (Nat → Int32)) (a1 : Int32) (a2 : Int32) : Option (Int32) :=
  gI 293 v_t_now ((16 : Int32) + a1) (fun g1 =>
  bd1 (f_X12_shrinkingBy v_t_now v_t_rhymeOf a1 a2 g1) (fun r2 =>
  some r2))
set_option maxHeartbeats 4000000 in
set_option maxRecDepth 100000 in
theorem c_X12_shrinking {l : Launch} {D : va_G} {cI cB : ClassId} {A_t A_t_now A_t_aside A_t_kept A_t_rhymeOf A_t_wasRhyme A_t_wordAt A_t_tape A_t_said A_t_waitsAt A_t_saidLetter A_t_saidFrom A_t_saidHalf A_t_saidTo A_t_codes A_t_clauseOf A_t_codeFrom A_t_codeHalf A_t_codeTo A_t_stack A_t_facts A_t_newWords A_t_roundFrom A_t_roundAt A_t_roundTimes A_t_leastFrom A_t_rowNow A_t_bornOf A_t_trainsTo A_t_trainAt : Nat} {x_t_wordMany x_t_taped x_t_place0 x_t_length0 x_t_fault x_t_number0 x_t_open x_t_codeMany x_t_waiting x_t_saidMany x_t_clauses x_t_lines x_t_newMany x_t_rounds x_t_itFrom x_t_itTimes x_t_writtenNow x_t_picturesNow x_t_usedNow x_t_chosen x_t_fearOfChosen x_t_changesNow x_t_left0 x_t_trainMany x_t_leastTries x_t_firstTrained x_t_isKept a1 a2 : Int32} {v_t_now v_t_rhymeOf : Nat → Int32} {o_r : Int32} (hf : f_X12_shrinking v_t_now v_t_rhymeOf a1 a2 = some o_r) : CtI l D cI cB yX12_shrinking cX12_shrinking 3 (some .int) 3 65 [.ref A_t, .int a1, .int a2] [oX12 A_t A_t_now A_t_aside A_t_kept A_t_rhymeOf A_t_wasRhyme A_t_wordAt x_t_wordMany A_t_tape x_t_taped x_t_place0 x_t_length0 x_t_fault x_t_number0 x_t_open x_t_codeMany x_t_waiting x_t_saidMany x_t_clauses A_t_said A_t_waitsAt A_t_saidLetter A_t_saidFrom A_t_saidHalf A_t_saidTo A_t_codes A_t_clauseOf A_t_codeFrom A_t_codeHalf A_t_codeTo A_t_stack A_t_facts x_t_lines A_t_newWords A_t_roundFrom A_t_roundAt A_t_roundTimes x_t_newMany x_t_rounds x_t_itFrom x_t_itTimes x_t_writtenNow x_t_picturesNow x_t_usedNow x_t_chosen x_t_fearOfChosen A_t_leastFrom A_t_rowNow x_t_changesNow x_t_left0 A_t_bornOf A_t_trainsTo A_t_trainAt x_t_trainMany x_t_leastTries x_t_firstTrained x_t_isKept, iA cI 293 A_t_now v_t_now, iA cI 16 A_t_rhymeOf v_t_rhymeOf] [oX12 A_t A_t_now A_t_aside A_t_kept A_t_rhymeOf A_t_wasRhyme A_t_wordAt x_t_wordMany A_t_tape x_t_taped x_t_place0 x_t_length0 x_t_fault x_t_number0 x_t_open x_t_codeMany x_t_waiting x_t_saidMany x_t_clauses A_t_said A_t_waitsAt A_t_saidLetter A_t_saidFrom A_t_saidHalf A_t_saidTo A_t_codes A_t_clauseOf A_t_codeFrom A_t_codeHalf A_t_codeTo A_t_stack A_t_facts x_t_lines A_t_newWords A_t_roundFrom A_t_roundAt A_t_roundTimes x_t_newMany x_t_rounds x_t_itFrom x_t_itTimes x_t_writtenNow x_t_picturesNow x_t_usedNow x_t_chosen x_t_fearOfChosen A_t_leastFrom A_t_rowNow x_t_changesNow x_t_left0 A_t_bornOf A_t_trainsTo A_t_trainAt x_t_trainMany x_t_leastTries x_t_firstTrained x_t_isKept, iA cI 293 A_t_now v_t_now, iA cI 16 A_t_rhymeOf v_t_rhymeOf] o_r := by
  refine x_startI (by decide) (Nat.le_of_ble_eq_true rfl) ?_
  intro p e s m below meth c A C hr hlk hA hK hP hD hS ls hl
  have hl : lv_has ls 3 [(0, .ref A_t), (1, .int a1), (2, .int a2)] := hl
  have hx := C.1
  have hb := C.2.1
  unfold f_X12_shrinking at hf
  refine lv_aload_n hx hb dX12_shrinking_0 rfl (lv_at hl 0 rfl) ?_
  refine lv_iload_n hx hb dX12_shrinking_1 rfl (lv_at hl 1 rfl) ?_
  refine lv_iload_n hx hb dX12_shrinking_2 rfl (lv_at hl 2 rfl) ?_
  refine lv_aload_n hx hb dX12_shrinking_3 rfl (lv_at hl 0 rfl) ?_
  refine x_get C hK hP fd_X12_7 0 rfl rfl dX12_shrinking_4 ?_
  refine lv_bipush (v := 16) hx hb dX12_shrinking_7 (by decide) ?_
  refine lv_iload_n hx hb dX12_shrinking_9 rfl (lv_at hl 1 rfl) ?_
  refine lv_iadd hx hb dX12_shrinking_10 ?_
  obtain ⟨hi, hf⟩ := gI_e hf
  refine x_iald C hK hP 1 rfl hi dX12_shrinking_11 ?_
  obtain ⟨r1, hc2, hf⟩ := bd1_e hf
  refine x_callVI (ws' := [oX12 A_t A_t_now A_t_aside A_t_kept A_t_rhymeOf A_t_wasRhyme A_t_wordAt x_t_wordMany A_t_tape x_t_taped x_t_place0 x_t_length0 x_t_fault x_t_number0 x_t_open x_t_codeMany x_t_waiting x_t_saidMany x_t_clauses A_t_said A_t_waitsAt A_t_saidLetter A_t_saidFrom A_t_saidHalf A_t_saidTo A_t_codes A_t_clauseOf A_t_codeFrom A_t_codeHalf A_t_codeTo A_t_stack A_t_facts x_t_lines A_t_newWords A_t_roundFrom A_t_roundAt A_t_roundTimes x_t_newMany x_t_rounds x_t_itFrom x_t_itTimes x_t_writtenNow x_t_picturesNow x_t_usedNow x_t_chosen x_t_fearOfChosen A_t_leastFrom A_t_rowNow x_t_changesNow x_t_left0 A_t_bornOf A_t_trainsTo A_t_trainAt x_t_trainMany x_t_leastTries x_t_firstTrained x_t_isKept, iA cI 293 A_t_now v_t_now, iA cI 16 A_t_rhymeOf v_t_rhymeOf]) (rest := []) C hK hP hD hS hA hl mf_X12_120 (c_X12_shrinkingBy hc2) [0, 1, 2] 0 12 rfl rfl rfl rfl rfl rfl rfl rfl rfl rfl (Nat.le_of_ble_eq_true rfl) ⟨Nat.le_of_ble_eq_true rfl, Nat.le_of_ble_eq_true rfl⟩ ⟨Nat.le_refl _, Nat.le_refl _⟩ dX12_shrinking_12 ?_
  intro H locs hP hD hS
  obtain rfl := ev1 hf
  exact x_iret C hr hlk hP hD hS dX12_shrinking_15
def f_X12_bears_b22 (s0 : Int32) : Option (Int32) :=
  zI s0 (some s0)
def f_X12_bears (v_t_now : (Nat → Int32)) (v_t_rhymeOf : (Nat → Int32)) (a1 : Int32) (a2 : Int32) : Option (Int32) :=
  bd1 (f_X12_shrinking v_t_now v_t_rhymeOf a1 a2) (fun r1 =>
  gI 293 v_t_now (288 : Int32) (fun g2 =>
  if g2 < r1 then
    f_X12_bears_b22 (0 : Int32)
  else
    f_X12_bears_b22 (1 : Int32)))
set_option maxHeartbeats 4000000 in
set_option maxRecDepth 100000 in
theorem c_X12_bears {l : Launch} {D : va_G} {cI cB : ClassId} {A_t A_t_now A_t_aside A_t_kept A_t_rhymeOf A_t_wasRhyme A_t_wordAt A_t_tape A_t_said A_t_waitsAt A_t_saidLetter A_t_saidFrom A_t_saidHalf A_t_saidTo A_t_codes A_t_clauseOf A_t_codeFrom A_t_codeHalf A_t_codeTo A_t_stack A_t_facts A_t_newWords A_t_roundFrom A_t_roundAt A_t_roundTimes A_t_leastFrom A_t_rowNow A_t_bornOf A_t_trainsTo A_t_trainAt : Nat} {x_t_wordMany x_t_taped x_t_place0 x_t_length0 x_t_fault x_t_number0 x_t_open x_t_codeMany x_t_waiting x_t_saidMany x_t_clauses x_t_lines x_t_newMany x_t_rounds x_t_itFrom x_t_itTimes x_t_writtenNow x_t_picturesNow x_t_usedNow x_t_chosen x_t_fearOfChosen x_t_changesNow x_t_left0 x_t_trainMany x_t_leastTries x_t_firstTrained x_t_isKept a1 a2 : Int32} {v_t_now v_t_rhymeOf : Nat → Int32} {o_r : Int32} (hf : f_X12_bears v_t_now v_t_rhymeOf a1 a2 = some o_r) : CtI l D cI cB yX12_bears cX12_bears 3 (some .boolean) 4 87 [.ref A_t, .int a1, .int a2] [oX12 A_t A_t_now A_t_aside A_t_kept A_t_rhymeOf A_t_wasRhyme A_t_wordAt x_t_wordMany A_t_tape x_t_taped x_t_place0 x_t_length0 x_t_fault x_t_number0 x_t_open x_t_codeMany x_t_waiting x_t_saidMany x_t_clauses A_t_said A_t_waitsAt A_t_saidLetter A_t_saidFrom A_t_saidHalf A_t_saidTo A_t_codes A_t_clauseOf A_t_codeFrom A_t_codeHalf A_t_codeTo A_t_stack A_t_facts x_t_lines A_t_newWords A_t_roundFrom A_t_roundAt A_t_roundTimes x_t_newMany x_t_rounds x_t_itFrom x_t_itTimes x_t_writtenNow x_t_picturesNow x_t_usedNow x_t_chosen x_t_fearOfChosen A_t_leastFrom A_t_rowNow x_t_changesNow x_t_left0 A_t_bornOf A_t_trainsTo A_t_trainAt x_t_trainMany x_t_leastTries x_t_firstTrained x_t_isKept, iA cI 293 A_t_now v_t_now, iA cI 16 A_t_rhymeOf v_t_rhymeOf] [oX12 A_t A_t_now A_t_aside A_t_kept A_t_rhymeOf A_t_wasRhyme A_t_wordAt x_t_wordMany A_t_tape x_t_taped x_t_place0 x_t_length0 x_t_fault x_t_number0 x_t_open x_t_codeMany x_t_waiting x_t_saidMany x_t_clauses A_t_said A_t_waitsAt A_t_saidLetter A_t_saidFrom A_t_saidHalf A_t_saidTo A_t_codes A_t_clauseOf A_t_codeFrom A_t_codeHalf A_t_codeTo A_t_stack A_t_facts x_t_lines A_t_newWords A_t_roundFrom A_t_roundAt A_t_roundTimes x_t_newMany x_t_rounds x_t_itFrom x_t_itTimes x_t_writtenNow x_t_picturesNow x_t_usedNow x_t_chosen x_t_fearOfChosen A_t_leastFrom A_t_rowNow x_t_changesNow x_t_left0 A_t_bornOf A_t_trainsTo A_t_trainAt x_t_trainMany x_t_leastTries x_t_firstTrained x_t_isKept, iA cI 293 A_t_now v_t_now, iA cI 16 A_t_rhymeOf v_t_rhymeOf] o_r := by
  refine x_startI (by decide) (Nat.le_of_ble_eq_true rfl) ?_
  intro p e s m below meth c A C hr hlk hA hK hP hD hS ls hl
  have hl : lv_has ls 3 [(0, .ref A_t), (1, .int a1), (2, .int a2)] := hl
  have hx := C.1
  have hb := C.2.1
  unfold f_X12_bears at hf
  have hb_22 : ∀ (s0 : Int32) (H : Heap) (locs : List Loc) (ls : Array Slot), lv_has ls 3 [] → va_P D vwCl [oX12 A_t A_t_now A_t_aside A_t_kept A_t_rhymeOf A_t_wasRhyme A_t_wordAt x_t_wordMany A_t_tape x_t_taped x_t_place0 x_t_length0 x_t_fault x_t_number0 x_t_open x_t_codeMany x_t_waiting x_t_saidMany x_t_clauses A_t_said A_t_waitsAt A_t_saidLetter A_t_saidFrom A_t_saidHalf A_t_saidTo A_t_codes A_t_clauseOf A_t_codeFrom A_t_codeHalf A_t_codeTo A_t_stack A_t_facts x_t_lines A_t_newWords A_t_roundFrom A_t_roundAt A_t_roundTimes x_t_newMany x_t_rounds x_t_itFrom x_t_itTimes x_t_writtenNow x_t_picturesNow x_t_usedNow x_t_chosen x_t_fearOfChosen A_t_leastFrom A_t_rowNow x_t_changesNow x_t_left0 A_t_bornOf A_t_trainsTo A_t_trainAt x_t_trainMany x_t_leastTries x_t_firstTrained x_t_isKept, iA cI 293 A_t_now v_t_now, iA cI 16 A_t_rhymeOf v_t_rhymeOf] H → va_D A [oX12 A_t A_t_now A_t_aside A_t_kept A_t_rhymeOf A_t_wasRhyme A_t_wordAt x_t_wordMany A_t_tape x_t_taped x_t_place0 x_t_length0 x_t_fault x_t_number0 x_t_open x_t_codeMany x_t_waiting x_t_saidMany x_t_clauses A_t_said A_t_waitsAt A_t_saidLetter A_t_saidFrom A_t_saidHalf A_t_saidTo A_t_codes A_t_clauseOf A_t_codeFrom A_t_codeHalf A_t_codeTo A_t_stack A_t_facts x_t_lines A_t_newWords A_t_roundFrom A_t_roundAt A_t_roundTimes x_t_newMany x_t_rounds x_t_itFrom x_t_itTimes x_t_writtenNow x_t_picturesNow x_t_usedNow x_t_chosen x_t_fearOfChosen A_t_leastFrom A_t_rowNow x_t_changesNow x_t_left0 A_t_bornOf A_t_trainsTo A_t_trainAt x_t_trainMany x_t_leastTries x_t_firstTrained x_t_isKept, iA cI 293 A_t_now v_t_now, iA cI 16 A_t_rhymeOf v_t_rhymeOf] → va_S A s.heap H locs → f_X12_bears_b22 s0 = some o_r → W p l e { frames := 4, cells := 0, slots := 0, locals := 87 } s m ([.ref A_t, .int a1, .int a2] : List Value).toArray below meth c H locs 0 0 (MQ below (PoI D A [oX12 A_t A_t_now A_t_aside A_t_kept A_t_rhymeOf A_t_wasRhyme A_t_wordAt x_t_wordMany A_t_tape x_t_taped x_t_place0 x_t_length0 x_t_fault x_t_number0 x_t_open x_t_codeMany x_t_waiting x_t_saidMany x_t_clauses A_t_said A_t_waitsAt A_t_saidLetter A_t_saidFrom A_t_saidHalf A_t_saidTo A_t_codes A_t_clauseOf A_t_codeFrom A_t_codeHalf A_t_codeTo A_t_stack A_t_facts x_t_lines A_t_newWords A_t_roundFrom A_t_roundAt A_t_roundTimes x_t_newMany x_t_rounds x_t_itFrom x_t_itTimes x_t_writtenNow x_t_picturesNow x_t_usedNow x_t_chosen x_t_fearOfChosen A_t_leastFrom A_t_rowNow x_t_changesNow x_t_left0 A_t_bornOf A_t_trainsTo A_t_trainAt x_t_trainMany x_t_leastTries x_t_firstTrained x_t_isKept, iA cI 293 A_t_now v_t_now, iA cI 16 A_t_rhymeOf v_t_rhymeOf] o_r) ([.ref A_t, .int a1, .int a2] : List Value).toArray s 0 0 A) (F0 m 22 ls [.int s0]) := by
    intro s0 H locs ls hl hP hD hS hf
    unfold f_X12_bears_b22 at hf
    obtain ⟨hz, hf⟩ := zI_e hf
    obtain rfl := ev1 hf
    exact x_zret C hr hlk hz hP hD hS dX12_bears_22
  refine lv_aload_n hx hb dX12_bears_0 rfl (lv_at hl 0 rfl) ?_
  refine lv_iload_n hx hb dX12_bears_1 rfl (lv_at hl 1 rfl) ?_
  refine lv_iload_n hx hb dX12_bears_2 rfl (lv_at hl 2 rfl) ?_
  obtain ⟨r1, hc2, hf⟩ := bd1_e hf
  refine x_callVI (ws' := [oX12 A_t A_t_now A_t_aside A_t_kept A_t_rhymeOf A_t_wasRhyme A_t_wordAt x_t_wordMany A_t_tape x_t_taped x_t_place0 x_t_length0 x_t_fault x_t_number0 x_t_open x_t_codeMany x_t_waiting x_t_saidMany x_t_clauses A_t_said A_t_waitsAt A_t_saidLetter A_t_saidFrom A_t_saidHalf A_t_saidTo A_t_codes A_t_clauseOf A_t_codeFrom A_t_codeHalf A_t_codeTo A_t_stack A_t_facts x_t_lines A_t_newWords A_t_roundFrom A_t_roundAt A_t_roundTimes x_t_newMany x_t_rounds x_t_itFrom x_t_itTimes x_t_writtenNow x_t_picturesNow x_t_usedNow x_t_chosen x_t_fearOfChosen A_t_leastFrom A_t_rowNow x_t_changesNow x_t_left0 A_t_bornOf A_t_trainsTo A_t_trainAt x_t_trainMany x_t_leastTries x_t_firstTrained x_t_isKept, iA cI 293 A_t_now v_t_now, iA cI 16 A_t_rhymeOf v_t_rhymeOf]) (rest := []) C hK hP hD hS hA hl mf_X12_124 (c_X12_shrinking hc2) [0, 1, 2] 0 12 rfl rfl rfl rfl rfl rfl rfl rfl rfl rfl (Nat.le_of_ble_eq_true rfl) ⟨Nat.le_of_ble_eq_true rfl, Nat.le_of_ble_eq_true rfl⟩ ⟨Nat.le_refl _, Nat.le_refl _⟩ dX12_bears_3 ?_
  intro H locs hP hD hS
  refine lv_aload_n hx hb dX12_bears_6 rfl (lv_at hl 0 rfl) ?_
  refine x_get C hK hP fd_X12_7 0 rfl rfl dX12_bears_7 ?_
  refine lv_sipush (v := 288) hx hb dX12_bears_10 (by decide) ?_
  obtain ⟨hi, hf⟩ := gI_e hf
  refine x_iald C hK hP 1 rfl hi dX12_bears_13 ?_
  refine lv_icmp_gt (tgt := 21) hx hb dX12_bears_14 (by decide) (fun q => ?_) (fun q => ?_)
  · have hf := if_t q hf
    refine lv_iconst (v := 0) hx hb dX12_bears_21 (by decide) ?_
    exact hb_22 (0 : Int32) _ _ ls (lv_sub hl [] rfl) hP hD hS hf
  · have hf := if_f q hf
    refine lv_iconst (v := 1) hx hb dX12_bears_17 (by decide) ?_
    refine lv_goto (tgt := 22) hx hb dX12_bears_18 (by decide) ?_
    exact hb_22 (1 : Int32) _ _ ls (lv_sub hl [] rfl) hP hD hS hf
def f_X12_bornBy_b25 (a1 : Int32) (k4 : Int32 → Int32 → Option (Int32)) (l2 : Int32) (l3 : Int32) : Option (Int32) :=
  k4 l2 (l3 + (1 : Int32))
def f_X12_bornBy_b4 (v_t_now : (Nat → Int32)) (v_t_rhymeOf : (Nat → Int32)) (a1 : Int32) : Nat → Int32 → Int32 → Option (Int32)
  | 0, _, _ => none
  | n + 1, l2, l3 =>
    if (16 : Int32) ≤ l3 then
      some l2
    else
      bd1 (f_X12_bears v_t_now v_t_rhymeOf a1 l3) (fun r1 =>
      if r1 = 0 then
        f_X12_bornBy_b25 a1 (f_X12_bornBy_b4 v_t_now v_t_rhymeOf a1 n) l2 l3
      else
        f_X12_bornBy_b25 a1 (f_X12_bornBy_b4 v_t_now v_t_rhymeOf a1 n) (l2 ||| ((1 : Int32) <<< (l3 &&& 31))) l3)
def f_X12_bornBy (v_t_now : (Nat → Int32)) (v_t_rhymeOf : (Nat → Int32)) (a1 : Int32) : Option (Int32) :=
  f_X12_bornBy_b4 v_t_now v_t_rhymeOf a1 FU (0 : Int32) (0 : Int32)
set_option maxHeartbeats 4000000 in
set_option maxRecDepth 100000 in
theorem c_X12_bornBy {l : Launch} {D : va_G} {cI cB : ClassId} {A_t A_t_now A_t_aside A_t_kept A_t_rhymeOf A_t_wasRhyme A_t_wordAt A_t_tape A_t_said A_t_waitsAt A_t_saidLetter A_t_saidFrom A_t_saidHalf A_t_saidTo A_t_codes A_t_clauseOf A_t_codeFrom A_t_codeHalf A_t_codeTo A_t_stack A_t_facts A_t_newWords A_t_roundFrom A_t_roundAt A_t_roundTimes A_t_leastFrom A_t_rowNow A_t_bornOf A_t_trainsTo A_t_trainAt : Nat} {x_t_wordMany x_t_taped x_t_place0 x_t_length0 x_t_fault x_t_number0 x_t_open x_t_codeMany x_t_waiting x_t_saidMany x_t_clauses x_t_lines x_t_newMany x_t_rounds x_t_itFrom x_t_itTimes x_t_writtenNow x_t_picturesNow x_t_usedNow x_t_chosen x_t_fearOfChosen x_t_changesNow x_t_left0 x_t_trainMany x_t_leastTries x_t_firstTrained x_t_isKept a1 : Int32} {v_t_now v_t_rhymeOf : Nat → Int32} {o_r : Int32} (hf : f_X12_bornBy v_t_now v_t_rhymeOf a1 = some o_r) : CtI l D cI cB yX12_bornBy cX12_bornBy 4 (some .int) 5 109 [.ref A_t, .int a1] [oX12 A_t A_t_now A_t_aside A_t_kept A_t_rhymeOf A_t_wasRhyme A_t_wordAt x_t_wordMany A_t_tape x_t_taped x_t_place0 x_t_length0 x_t_fault x_t_number0 x_t_open x_t_codeMany x_t_waiting x_t_saidMany x_t_clauses A_t_said A_t_waitsAt A_t_saidLetter A_t_saidFrom A_t_saidHalf A_t_saidTo A_t_codes A_t_clauseOf A_t_codeFrom A_t_codeHalf A_t_codeTo A_t_stack A_t_facts x_t_lines A_t_newWords A_t_roundFrom A_t_roundAt A_t_roundTimes x_t_newMany x_t_rounds x_t_itFrom x_t_itTimes x_t_writtenNow x_t_picturesNow x_t_usedNow x_t_chosen x_t_fearOfChosen A_t_leastFrom A_t_rowNow x_t_changesNow x_t_left0 A_t_bornOf A_t_trainsTo A_t_trainAt x_t_trainMany x_t_leastTries x_t_firstTrained x_t_isKept, iA cI 293 A_t_now v_t_now, iA cI 16 A_t_rhymeOf v_t_rhymeOf] [oX12 A_t A_t_now A_t_aside A_t_kept A_t_rhymeOf A_t_wasRhyme A_t_wordAt x_t_wordMany A_t_tape x_t_taped x_t_place0 x_t_length0 x_t_fault x_t_number0 x_t_open x_t_codeMany x_t_waiting x_t_saidMany x_t_clauses A_t_said A_t_waitsAt A_t_saidLetter A_t_saidFrom A_t_saidHalf A_t_saidTo A_t_codes A_t_clauseOf A_t_codeFrom A_t_codeHalf A_t_codeTo A_t_stack A_t_facts x_t_lines A_t_newWords A_t_roundFrom A_t_roundAt A_t_roundTimes x_t_newMany x_t_rounds x_t_itFrom x_t_itTimes x_t_writtenNow x_t_picturesNow x_t_usedNow x_t_chosen x_t_fearOfChosen A_t_leastFrom A_t_rowNow x_t_changesNow x_t_left0 A_t_bornOf A_t_trainsTo A_t_trainAt x_t_trainMany x_t_leastTries x_t_firstTrained x_t_isKept, iA cI 293 A_t_now v_t_now, iA cI 16 A_t_rhymeOf v_t_rhymeOf] o_r := by
  refine x_startI (by decide) (Nat.le_of_ble_eq_true rfl) ?_
  intro p e s m below meth c A C hr hlk hA hK hP hD hS ls hl
  have hl : lv_has ls 4 [(0, .ref A_t), (1, .int a1)] := hl
  have hx := C.1
  have hb := C.2.1
  unfold f_X12_bornBy at hf
  have hb_4 : ∀ (n_4 : Nat) (l2 : Int32) (l3 : Int32) (H : Heap) (locs : List Loc) (ls : Array Slot), lv_has ls 4 [(0, .ref A_t), (1, .int a1), (2, .int l2), (3, .int l3)] → va_P D vwCl [oX12 A_t A_t_now A_t_aside A_t_kept A_t_rhymeOf A_t_wasRhyme A_t_wordAt x_t_wordMany A_t_tape x_t_taped x_t_place0 x_t_length0 x_t_fault x_t_number0 x_t_open x_t_codeMany x_t_waiting x_t_saidMany x_t_clauses A_t_said A_t_waitsAt A_t_saidLetter A_t_saidFrom A_t_saidHalf A_t_saidTo A_t_codes A_t_clauseOf A_t_codeFrom A_t_codeHalf A_t_codeTo A_t_stack A_t_facts x_t_lines A_t_newWords A_t_roundFrom A_t_roundAt A_t_roundTimes x_t_newMany x_t_rounds x_t_itFrom x_t_itTimes x_t_writtenNow x_t_picturesNow x_t_usedNow x_t_chosen x_t_fearOfChosen A_t_leastFrom A_t_rowNow x_t_changesNow x_t_left0 A_t_bornOf A_t_trainsTo A_t_trainAt x_t_trainMany x_t_leastTries x_t_firstTrained x_t_isKept, iA cI 293 A_t_now v_t_now, iA cI 16 A_t_rhymeOf v_t_rhymeOf] H → va_D A [oX12 A_t A_t_now A_t_aside A_t_kept A_t_rhymeOf A_t_wasRhyme A_t_wordAt x_t_wordMany A_t_tape x_t_taped x_t_place0 x_t_length0 x_t_fault x_t_number0 x_t_open x_t_codeMany x_t_waiting x_t_saidMany x_t_clauses A_t_said A_t_waitsAt A_t_saidLetter A_t_saidFrom A_t_saidHalf A_t_saidTo A_t_codes A_t_clauseOf A_t_codeFrom A_t_codeHalf A_t_codeTo A_t_stack A_t_facts x_t_lines A_t_newWords A_t_roundFrom A_t_roundAt A_t_roundTimes x_t_newMany x_t_rounds x_t_itFrom x_t_itTimes x_t_writtenNow x_t_picturesNow x_t_usedNow x_t_chosen x_t_fearOfChosen A_t_leastFrom A_t_rowNow x_t_changesNow x_t_left0 A_t_bornOf A_t_trainsTo A_t_trainAt x_t_trainMany x_t_leastTries x_t_firstTrained x_t_isKept, iA cI 293 A_t_now v_t_now, iA cI 16 A_t_rhymeOf v_t_rhymeOf] → va_S A s.heap H locs → f_X12_bornBy_b4 v_t_now v_t_rhymeOf a1 n_4 l2 l3 = some o_r → W p l e { frames := 5, cells := 0, slots := 0, locals := 109 } s m ([.ref A_t, .int a1] : List Value).toArray below meth c H locs 0 0 (MQ below (PoI D A [oX12 A_t A_t_now A_t_aside A_t_kept A_t_rhymeOf A_t_wasRhyme A_t_wordAt x_t_wordMany A_t_tape x_t_taped x_t_place0 x_t_length0 x_t_fault x_t_number0 x_t_open x_t_codeMany x_t_waiting x_t_saidMany x_t_clauses A_t_said A_t_waitsAt A_t_saidLetter A_t_saidFrom A_t_saidHalf A_t_saidTo A_t_codes A_t_clauseOf A_t_codeFrom A_t_codeHalf A_t_codeTo A_t_stack A_t_facts x_t_lines A_t_newWords A_t_roundFrom A_t_roundAt A_t_roundTimes x_t_newMany x_t_rounds x_t_itFrom x_t_itTimes x_t_writtenNow x_t_picturesNow x_t_usedNow x_t_chosen x_t_fearOfChosen A_t_leastFrom A_t_rowNow x_t_changesNow x_t_left0 A_t_bornOf A_t_trainsTo A_t_trainAt x_t_trainMany x_t_leastTries x_t_firstTrained x_t_isKept, iA cI 293 A_t_now v_t_now, iA cI 16 A_t_rhymeOf v_t_rhymeOf] o_r) ([.ref A_t, .int a1] : List Value).toArray s 0 0 A) (F0 m 4 ls []) := by
    intro n_4
    induction n_4 with
    | zero =>
      intro l2 l3 H locs ls hl hP hD hS hf
      exact absurd hf (fun h => by rw [f_X12_bornBy_b4] at h; cases h)
    | succ n_4 ih_4 =>
      have hb_25 : ∀ (l2 : Int32) (l3 : Int32) (H : Heap) (locs : List Loc) (ls : Array Slot), lv_has ls 4 [(0, .ref A_t), (1, .int a1), (2, .int l2), (3, .int l3)] → va_P D vwCl [oX12 A_t A_t_now A_t_aside A_t_kept A_t_rhymeOf A_t_wasRhyme A_t_wordAt x_t_wordMany A_t_tape x_t_taped x_t_place0 x_t_length0 x_t_fault x_t_number0 x_t_open x_t_codeMany x_t_waiting x_t_saidMany x_t_clauses A_t_said A_t_waitsAt A_t_saidLetter A_t_saidFrom A_t_saidHalf A_t_saidTo A_t_codes A_t_clauseOf A_t_codeFrom A_t_codeHalf A_t_codeTo A_t_stack A_t_facts x_t_lines A_t_newWords A_t_roundFrom A_t_roundAt A_t_roundTimes x_t_newMany x_t_rounds x_t_itFrom x_t_itTimes x_t_writtenNow x_t_picturesNow x_t_usedNow x_t_chosen x_t_fearOfChosen A_t_leastFrom A_t_rowNow x_t_changesNow x_t_left0 A_t_bornOf A_t_trainsTo A_t_trainAt x_t_trainMany x_t_leastTries x_t_firstTrained x_t_isKept, iA cI 293 A_t_now v_t_now, iA cI 16 A_t_rhymeOf v_t_rhymeOf] H → va_D A [oX12 A_t A_t_now A_t_aside A_t_kept A_t_rhymeOf A_t_wasRhyme A_t_wordAt x_t_wordMany A_t_tape x_t_taped x_t_place0 x_t_length0 x_t_fault x_t_number0 x_t_open x_t_codeMany x_t_waiting x_t_saidMany x_t_clauses A_t_said A_t_waitsAt A_t_saidLetter A_t_saidFrom A_t_saidHalf A_t_saidTo A_t_codes A_t_clauseOf A_t_codeFrom A_t_codeHalf A_t_codeTo A_t_stack A_t_facts x_t_lines A_t_newWords A_t_roundFrom A_t_roundAt A_t_roundTimes x_t_newMany x_t_rounds x_t_itFrom x_t_itTimes x_t_writtenNow x_t_picturesNow x_t_usedNow x_t_chosen x_t_fearOfChosen A_t_leastFrom A_t_rowNow x_t_changesNow x_t_left0 A_t_bornOf A_t_trainsTo A_t_trainAt x_t_trainMany x_t_leastTries x_t_firstTrained x_t_isKept, iA cI 293 A_t_now v_t_now, iA cI 16 A_t_rhymeOf v_t_rhymeOf] → va_S A s.heap H locs → f_X12_bornBy_b25 a1 (f_X12_bornBy_b4 v_t_now v_t_rhymeOf a1 n_4) l2 l3 = some o_r → W p l e { frames := 5, cells := 0, slots := 0, locals := 109 } s m ([.ref A_t, .int a1] : List Value).toArray below meth c H locs 0 0 (MQ below (PoI D A [oX12 A_t A_t_now A_t_aside A_t_kept A_t_rhymeOf A_t_wasRhyme A_t_wordAt x_t_wordMany A_t_tape x_t_taped x_t_place0 x_t_length0 x_t_fault x_t_number0 x_t_open x_t_codeMany x_t_waiting x_t_saidMany x_t_clauses A_t_said A_t_waitsAt A_t_saidLetter A_t_saidFrom A_t_saidHalf A_t_saidTo A_t_codes A_t_clauseOf A_t_codeFrom A_t_codeHalf A_t_codeTo A_t_stack A_t_facts x_t_lines A_t_newWords A_t_roundFrom A_t_roundAt A_t_roundTimes x_t_newMany x_t_rounds x_t_itFrom x_t_itTimes x_t_writtenNow x_t_picturesNow x_t_usedNow x_t_chosen x_t_fearOfChosen A_t_leastFrom A_t_rowNow x_t_changesNow x_t_left0 A_t_bornOf A_t_trainsTo A_t_trainAt x_t_trainMany x_t_leastTries x_t_firstTrained x_t_isKept, iA cI 293 A_t_now v_t_now, iA cI 16 A_t_rhymeOf v_t_rhymeOf] o_r) ([.ref A_t, .int a1] : List Value).toArray s 0 0 A) (F0 m 25 ls []) := by
        intro l2 l3 H locs ls hl hP hD hS hf
        unfold f_X12_bornBy_b25 at hf
        refine lv_iinc (v := (l3 + (1 : Int32))) (lv' := [(3, .int (l3 + (1 : Int32))), (0, .ref A_t), (1, .int a1), (2, .int l2)]) hx hb dX12_bornBy_25 hl (k := 3) rfl rfl (by decide) rfl (fun ls hl => ?_)
        refine lv_goto (tgt := 4) hx hb dX12_bornBy_28 (by decide) ?_
        exact ih_4 l2 (l3 + (1 : Int32)) _ _ ls (lv_sub hl [1, 2, 3, 0] rfl) hP hD hS hf
      intro l2 l3 H locs ls hl hP hD hS hf
      rw [f_X12_bornBy_b4] at hf
      refine lv_iload_n hx hb dX12_bornBy_4 rfl (lv_at hl 3 rfl) ?_
      refine lv_bipush (v := 16) hx hb dX12_bornBy_5 (by decide) ?_
      refine lv_icmp_ge (tgt := 31) hx hb dX12_bornBy_7 (by decide) (fun q => ?_) (fun q => ?_)
      · have hf := if_t q hf
        refine lv_iload_n hx hb dX12_bornBy_31 rfl (lv_at hl 2 rfl) ?_
        obtain rfl := ev1 hf
        exact x_iret C hr hlk hP hD hS dX12_bornBy_32
      · have hf := if_f q hf
        refine lv_aload_n hx hb dX12_bornBy_10 rfl (lv_at hl 0 rfl) ?_
        refine lv_iload_n hx hb dX12_bornBy_11 rfl (lv_at hl 1 rfl) ?_
        refine lv_iload_n hx hb dX12_bornBy_12 rfl (lv_at hl 3 rfl) ?_
        obtain ⟨r1, hc2, hf⟩ := bd1_e hf
        refine x_callVI (ws' := [oX12 A_t A_t_now A_t_aside A_t_kept A_t_rhymeOf A_t_wasRhyme A_t_wordAt x_t_wordMany A_t_tape x_t_taped x_t_place0 x_t_length0 x_t_fault x_t_number0 x_t_open x_t_codeMany x_t_waiting x_t_saidMany x_t_clauses A_t_said A_t_waitsAt A_t_saidLetter A_t_saidFrom A_t_saidHalf A_t_saidTo A_t_codes A_t_clauseOf A_t_codeFrom A_t_codeHalf A_t_codeTo A_t_stack A_t_facts x_t_lines A_t_newWords A_t_roundFrom A_t_roundAt A_t_roundTimes x_t_newMany x_t_rounds x_t_itFrom x_t_itTimes x_t_writtenNow x_t_picturesNow x_t_usedNow x_t_chosen x_t_fearOfChosen A_t_leastFrom A_t_rowNow x_t_changesNow x_t_left0 A_t_bornOf A_t_trainsTo A_t_trainAt x_t_trainMany x_t_leastTries x_t_firstTrained x_t_isKept, iA cI 293 A_t_now v_t_now, iA cI 16 A_t_rhymeOf v_t_rhymeOf]) (rest := []) C hK hP hD hS hA hl mf_X12_127 (c_X12_bears hc2) [0, 1, 2] 0 12 rfl rfl rfl rfl rfl rfl rfl rfl rfl rfl (Nat.le_of_ble_eq_true rfl) ⟨Nat.le_of_ble_eq_true rfl, Nat.le_of_ble_eq_true rfl⟩ ⟨Nat.le_refl _, Nat.le_refl _⟩ dX12_bornBy_13 ?_
        intro H locs hP hD hS
        refine lv_if_eq (tgt := 25) hx hb dX12_bornBy_16 (by decide) (fun q => ?_) (fun q => ?_)
        · have hf := if_t q hf
          exact hb_25 l2 l3 _ _ ls (lv_sub hl [0, 1, 2, 3] rfl) hP hD hS hf
        · have hf := if_f q hf
          refine lv_iload_n hx hb dX12_bornBy_19 rfl (lv_at hl 2 rfl) ?_
          refine lv_iconst (v := 1) hx hb dX12_bornBy_20 (by decide) ?_
          refine lv_iload_n hx hb dX12_bornBy_21 rfl (lv_at hl 3 rfl) ?_
          refine lv_ishl hx hb dX12_bornBy_22 ?_
          refine lv_ior hx hb dX12_bornBy_23 ?_
          refine lv_istore_n (lv' := [(2, .int (l2 ||| ((1 : Int32) <<< (l3 &&& 31)))), (0, .ref A_t), (1, .int a1), (3, .int l3)]) hx hb dX12_bornBy_24 rfl hl (by decide) rfl (fun ls hl => ?_)
          exact hb_25 (l2 ||| ((1 : Int32) <<< (l3 &&& 31))) l3 _ _ ls (lv_sub hl [1, 2, 0, 3] rfl) hP hD hS hf
  refine lv_iconst (v := 0) hx hb dX12_bornBy_0 (by decide) ?_
  refine lv_istore_n (lv' := [(2, .int (0 : Int32)), (0, .ref A_t), (1, .int a1)]) hx hb dX12_bornBy_1 rfl hl (by decide) rfl (fun ls hl => ?_)
  refine lv_iconst (v := 0) hx hb dX12_bornBy_2 (by decide) ?_
  refine lv_istore_n (lv' := [(3, .int (0 : Int32)), (2, .int (0 : Int32)), (0, .ref A_t), (1, .int a1)]) hx hb dX12_bornBy_3 rfl hl (by decide) rfl (fun ls hl => ?_)
  exact hb_4 FU (0 : Int32) (0 : Int32) _ _ ls (lv_sub hl [2, 3, 1, 0] rfl) hP hD hS hf
def f_X12_becomesNew_b24 (a1 : Int32) : Nat → (Nat → Int32) → Int32 → Option ((Nat → Int32))
  | 0, _, _ => none
  | n + 1, v_t_now, l2 =>
    if (16 : Int32) ≤ l2 then
      some v_t_now
    else
      sI 293 v_t_now (((32 : Int32) + ((16 : Int32) * a1)) + l2) (0 : Int32) (fun w1 =>
      sI 293 w1 (((160 : Int32) + ((16 : Int32) * a1)) + l2) (0 : Int32) (fun w2 =>
      f_X12_becomesNew_b24 a1 n w2 (l2 + (1 : Int32))))
def f_X12_becomesNew (v_t_now : (Nat → Int32)) (a1 : Int32) : Option ((Nat → Int32)) :=
  sI 293 v_t_now ((16 : Int32) + a1) (0 : Int32) (fun w3 =>
  sI 293 w3 ((24 : Int32) + a1) (999 : Int32) (fun w4 =>
  f_X12_becomesNew_b24 a1 FU w4 (0 : Int32)))
set_option maxHeartbeats 4000000 in
set_option maxRecDepth 100000 in
theorem c_X12_becomesNew {l : Launch} {D : va_G} {cI cB : ClassId} {A_t A_t_now A_t_aside A_t_kept A_t_rhymeOf A_t_wasRhyme A_t_wordAt A_t_tape A_t_said A_t_waitsAt A_t_saidLetter A_t_saidFrom A_t_saidHalf A_t_saidTo A_t_codes A_t_clauseOf A_t_codeFrom A_t_codeHalf A_t_codeTo A_t_stack A_t_facts A_t_newWords A_t_roundFrom A_t_roundAt A_t_roundTimes A_t_leastFrom A_t_rowNow A_t_bornOf A_t_trainsTo A_t_trainAt : Nat} {x_t_wordMany x_t_taped x_t_place0 x_t_length0 x_t_fault x_t_number0 x_t_open x_t_codeMany x_t_waiting x_t_saidMany x_t_clauses x_t_lines x_t_newMany x_t_rounds x_t_itFrom x_t_itTimes x_t_writtenNow x_t_picturesNow x_t_usedNow x_t_chosen x_t_fearOfChosen x_t_changesNow x_t_left0 x_t_trainMany x_t_leastTries x_t_firstTrained x_t_isKept a1 : Int32} {v_t_now : Nat → Int32} {o_v_t_now : Nat → Int32} (hf : f_X12_becomesNew v_t_now a1 = some o_v_t_now) : CtV l D cI cB yX12_becomesNew cX12_becomesNew 3 0 0 [.ref A_t, .int a1] [oX12 A_t A_t_now A_t_aside A_t_kept A_t_rhymeOf A_t_wasRhyme A_t_wordAt x_t_wordMany A_t_tape x_t_taped x_t_place0 x_t_length0 x_t_fault x_t_number0 x_t_open x_t_codeMany x_t_waiting x_t_saidMany x_t_clauses A_t_said A_t_waitsAt A_t_saidLetter A_t_saidFrom A_t_saidHalf A_t_saidTo A_t_codes A_t_clauseOf A_t_codeFrom A_t_codeHalf A_t_codeTo A_t_stack A_t_facts x_t_lines A_t_newWords A_t_roundFrom A_t_roundAt A_t_roundTimes x_t_newMany x_t_rounds x_t_itFrom x_t_itTimes x_t_writtenNow x_t_picturesNow x_t_usedNow x_t_chosen x_t_fearOfChosen A_t_leastFrom A_t_rowNow x_t_changesNow x_t_left0 A_t_bornOf A_t_trainsTo A_t_trainAt x_t_trainMany x_t_leastTries x_t_firstTrained x_t_isKept, iA cI 293 A_t_now v_t_now] [oX12 A_t A_t_now A_t_aside A_t_kept A_t_rhymeOf A_t_wasRhyme A_t_wordAt x_t_wordMany A_t_tape x_t_taped x_t_place0 x_t_length0 x_t_fault x_t_number0 x_t_open x_t_codeMany x_t_waiting x_t_saidMany x_t_clauses A_t_said A_t_waitsAt A_t_saidLetter A_t_saidFrom A_t_saidHalf A_t_saidTo A_t_codes A_t_clauseOf A_t_codeFrom A_t_codeHalf A_t_codeTo A_t_stack A_t_facts x_t_lines A_t_newWords A_t_roundFrom A_t_roundAt A_t_roundTimes x_t_newMany x_t_rounds x_t_itFrom x_t_itTimes x_t_writtenNow x_t_picturesNow x_t_usedNow x_t_chosen x_t_fearOfChosen A_t_leastFrom A_t_rowNow x_t_changesNow x_t_left0 A_t_bornOf A_t_trainsTo A_t_trainAt x_t_trainMany x_t_leastTries x_t_firstTrained x_t_isKept, iA cI 293 A_t_now o_v_t_now] := by
  refine x_startV (by decide) (Nat.le_of_ble_eq_true rfl) ?_
  intro p e s m below meth c A C hr hlk hA hK hP hD hS ls hl
  have hl : lv_has ls 3 [(0, .ref A_t), (1, .int a1)] := hl
  have hx := C.1
  have hb := C.2.1
  unfold f_X12_becomesNew at hf
  have hb_24 : ∀ (n_24 : Nat) (v_t_now : (Nat → Int32)) (l2 : Int32) (H : Heap) (locs : List Loc) (ls : Array Slot), lv_has ls 3 [(0, .ref A_t), (1, .int a1), (2, .int l2)] → va_P D vwCl [oX12 A_t A_t_now A_t_aside A_t_kept A_t_rhymeOf A_t_wasRhyme A_t_wordAt x_t_wordMany A_t_tape x_t_taped x_t_place0 x_t_length0 x_t_fault x_t_number0 x_t_open x_t_codeMany x_t_waiting x_t_saidMany x_t_clauses A_t_said A_t_waitsAt A_t_saidLetter A_t_saidFrom A_t_saidHalf A_t_saidTo A_t_codes A_t_clauseOf A_t_codeFrom A_t_codeHalf A_t_codeTo A_t_stack A_t_facts x_t_lines A_t_newWords A_t_roundFrom A_t_roundAt A_t_roundTimes x_t_newMany x_t_rounds x_t_itFrom x_t_itTimes x_t_writtenNow x_t_picturesNow x_t_usedNow x_t_chosen x_t_fearOfChosen A_t_leastFrom A_t_rowNow x_t_changesNow x_t_left0 A_t_bornOf A_t_trainsTo A_t_trainAt x_t_trainMany x_t_leastTries x_t_firstTrained x_t_isKept, iA cI 293 A_t_now v_t_now] H → va_D A [oX12 A_t A_t_now A_t_aside A_t_kept A_t_rhymeOf A_t_wasRhyme A_t_wordAt x_t_wordMany A_t_tape x_t_taped x_t_place0 x_t_length0 x_t_fault x_t_number0 x_t_open x_t_codeMany x_t_waiting x_t_saidMany x_t_clauses A_t_said A_t_waitsAt A_t_saidLetter A_t_saidFrom A_t_saidHalf A_t_saidTo A_t_codes A_t_clauseOf A_t_codeFrom A_t_codeHalf A_t_codeTo A_t_stack A_t_facts x_t_lines A_t_newWords A_t_roundFrom A_t_roundAt A_t_roundTimes x_t_newMany x_t_rounds x_t_itFrom x_t_itTimes x_t_writtenNow x_t_picturesNow x_t_usedNow x_t_chosen x_t_fearOfChosen A_t_leastFrom A_t_rowNow x_t_changesNow x_t_left0 A_t_bornOf A_t_trainsTo A_t_trainAt x_t_trainMany x_t_leastTries x_t_firstTrained x_t_isKept, iA cI 293 A_t_now v_t_now] → va_S A s.heap H locs → f_X12_becomesNew_b24 a1 n_24 v_t_now l2 = some o_v_t_now → W p l e { frames := 0, cells := 0, slots := 0, locals := 0 } s m ([.ref A_t, .int a1] : List Value).toArray below meth c H locs 0 0 (MQ below (PoV D A [oX12 A_t A_t_now A_t_aside A_t_kept A_t_rhymeOf A_t_wasRhyme A_t_wordAt x_t_wordMany A_t_tape x_t_taped x_t_place0 x_t_length0 x_t_fault x_t_number0 x_t_open x_t_codeMany x_t_waiting x_t_saidMany x_t_clauses A_t_said A_t_waitsAt A_t_saidLetter A_t_saidFrom A_t_saidHalf A_t_saidTo A_t_codes A_t_clauseOf A_t_codeFrom A_t_codeHalf A_t_codeTo A_t_stack A_t_facts x_t_lines A_t_newWords A_t_roundFrom A_t_roundAt A_t_roundTimes x_t_newMany x_t_rounds x_t_itFrom x_t_itTimes x_t_writtenNow x_t_picturesNow x_t_usedNow x_t_chosen x_t_fearOfChosen A_t_leastFrom A_t_rowNow x_t_changesNow x_t_left0 A_t_bornOf A_t_trainsTo A_t_trainAt x_t_trainMany x_t_leastTries x_t_firstTrained x_t_isKept, iA cI 293 A_t_now o_v_t_now]) ([.ref A_t, .int a1] : List Value).toArray s 0 0 A) (F0 m 24 ls []) := by
    intro n_24
    induction n_24 with
    | zero =>
      intro v_t_now l2 H locs ls hl hP hD hS hf
      exact absurd hf (fun h => by rw [f_X12_becomesNew_b24] at h; cases h)
    | succ n_24 ih_24 =>
      intro v_t_now l2 H locs ls hl hP hD hS hf
      rw [f_X12_becomesNew_b24] at hf
      refine lv_iload_n hx hb dX12_becomesNew_24 rfl (lv_at hl 2 rfl) ?_
      refine lv_bipush (v := 16) hx hb dX12_becomesNew_25 (by decide) ?_
      refine lv_icmp_ge (tgt := 67) hx hb dX12_becomesNew_27 (by decide) (fun q => ?_) (fun q => ?_)
      · have hf := if_t q hf
        obtain rfl := ev1 hf
        exact x_vret C hr hlk hP hD hS dX12_becomesNew_67
      · have hf := if_f q hf
        refine lv_aload_n hx hb dX12_becomesNew_30 rfl (lv_at hl 0 rfl) ?_
        refine x_get C hK hP fd_X12_7 0 rfl rfl dX12_becomesNew_31 ?_
        refine lv_bipush (v := 32) hx hb dX12_becomesNew_34 (by decide) ?_
        refine lv_bipush (v := 16) hx hb dX12_becomesNew_36 (by decide) ?_
        refine lv_iload_n hx hb dX12_becomesNew_38 rfl (lv_at hl 1 rfl) ?_
        refine lv_imul hx hb dX12_becomesNew_39 ?_
        refine lv_iadd hx hb dX12_becomesNew_40 ?_
        refine lv_iload_n hx hb dX12_becomesNew_41 rfl (lv_at hl 2 rfl) ?_
        refine lv_iadd hx hb dX12_becomesNew_42 ?_
        refine lv_iconst (v := 0) hx hb dX12_becomesNew_43 (by decide) ?_
        obtain ⟨hi, hf⟩ := sI_e hf
        refine x_iast (ws' := [oX12 A_t A_t_now A_t_aside A_t_kept A_t_rhymeOf A_t_wasRhyme A_t_wordAt x_t_wordMany A_t_tape x_t_taped x_t_place0 x_t_length0 x_t_fault x_t_number0 x_t_open x_t_codeMany x_t_waiting x_t_saidMany x_t_clauses A_t_said A_t_waitsAt A_t_saidLetter A_t_saidFrom A_t_saidHalf A_t_saidTo A_t_codes A_t_clauseOf A_t_codeFrom A_t_codeHalf A_t_codeTo A_t_stack A_t_facts x_t_lines A_t_newWords A_t_roundFrom A_t_roundAt A_t_roundTimes x_t_newMany x_t_rounds x_t_itFrom x_t_itTimes x_t_writtenNow x_t_picturesNow x_t_usedNow x_t_chosen x_t_fearOfChosen A_t_leastFrom A_t_rowNow x_t_changesNow x_t_left0 A_t_bornOf A_t_trainsTo A_t_trainAt x_t_trainMany x_t_leastTries x_t_firstTrained x_t_isKept, iA cI 293 A_t_now (upd v_t_now (((32 : Int32) + ((16 : Int32) * a1)) + l2).toNatClampNeg (0 : Int32))]) C hK hP hD hS 1 rfl hi rfl dX12_becomesNew_44 ?_
        intro H locs hP hD hS
        refine lv_aload_n hx hb dX12_becomesNew_45 rfl (lv_at hl 0 rfl) ?_
        refine x_get C hK hP fd_X12_7 0 rfl rfl dX12_becomesNew_46 ?_
        refine lv_sipush (v := 160) hx hb dX12_becomesNew_49 (by decide) ?_
        refine lv_bipush (v := 16) hx hb dX12_becomesNew_52 (by decide) ?_
        refine lv_iload_n hx hb dX12_becomesNew_54 rfl (lv_at hl 1 rfl) ?_
        refine lv_imul hx hb dX12_becomesNew_55 ?_
        refine lv_iadd hx hb dX12_becomesNew_56 ?_
        refine lv_iload_n hx hb dX12_becomesNew_57 rfl (lv_at hl 2 rfl) ?_
        refine lv_iadd hx hb dX12_becomesNew_58 ?_
        refine lv_iconst (v := 0) hx hb dX12_becomesNew_59 (by decide) ?_
        obtain ⟨hi, hf⟩ := sI_e hf
        refine x_iast (ws' := [oX12 A_t A_t_now A_t_aside A_t_kept A_t_rhymeOf A_t_wasRhyme A_t_wordAt x_t_wordMany A_t_tape x_t_taped x_t_place0 x_t_length0 x_t_fault x_t_number0 x_t_open x_t_codeMany x_t_waiting x_t_saidMany x_t_clauses A_t_said A_t_waitsAt A_t_saidLetter A_t_saidFrom A_t_saidHalf A_t_saidTo A_t_codes A_t_clauseOf A_t_codeFrom A_t_codeHalf A_t_codeTo A_t_stack A_t_facts x_t_lines A_t_newWords A_t_roundFrom A_t_roundAt A_t_roundTimes x_t_newMany x_t_rounds x_t_itFrom x_t_itTimes x_t_writtenNow x_t_picturesNow x_t_usedNow x_t_chosen x_t_fearOfChosen A_t_leastFrom A_t_rowNow x_t_changesNow x_t_left0 A_t_bornOf A_t_trainsTo A_t_trainAt x_t_trainMany x_t_leastTries x_t_firstTrained x_t_isKept, iA cI 293 A_t_now (upd (upd v_t_now (((32 : Int32) + ((16 : Int32) * a1)) + l2).toNatClampNeg (0 : Int32)) (((160 : Int32) + ((16 : Int32) * a1)) + l2).toNatClampNeg (0 : Int32))]) C hK hP hD hS 1 rfl hi rfl dX12_becomesNew_60 ?_
        intro H locs hP hD hS
        refine lv_iinc (v := (l2 + (1 : Int32))) (lv' := [(2, .int (l2 + (1 : Int32))), (0, .ref A_t), (1, .int a1)]) hx hb dX12_becomesNew_61 hl (k := 2) rfl rfl (by decide) rfl (fun ls hl => ?_)
        refine lv_goto (tgt := 24) hx hb dX12_becomesNew_64 (by decide) ?_
        exact ih_24 (upd (upd v_t_now (((32 : Int32) + ((16 : Int32) * a1)) + l2).toNatClampNeg (0 : Int32)) (((160 : Int32) + ((16 : Int32) * a1)) + l2).toNatClampNeg (0 : Int32)) (l2 + (1 : Int32)) _ _ ls (lv_sub hl [1, 2, 0] rfl) hP hD hS hf
  refine lv_aload_n hx hb dX12_becomesNew_0 rfl (lv_at hl 0 rfl) ?_
  refine x_get C hK hP fd_X12_7 0 rfl rfl dX12_becomesNew_1 ?_
  refine lv_bipush (v := 16) hx hb dX12_becomesNew_4 (by decide) ?_
  refine lv_iload_n hx hb dX12_becomesNew_6 rfl (lv_at hl 1 rfl) ?_
  refine lv_iadd hx hb dX12_becomesNew_7 ?_
  refine lv_iconst (v := 0) hx hb dX12_becomesNew_8 (by decide) ?_
  obtain ⟨hi, hf⟩ := sI_e hf
  refine x_iast (ws' := [oX12 A_t A_t_now A_t_aside A_t_kept A_t_rhymeOf A_t_wasRhyme A_t_wordAt x_t_wordMany A_t_tape x_t_taped x_t_place0 x_t_length0 x_t_fault x_t_number0 x_t_open x_t_codeMany x_t_waiting x_t_saidMany x_t_clauses A_t_said A_t_waitsAt A_t_saidLetter A_t_saidFrom A_t_saidHalf A_t_saidTo A_t_codes A_t_clauseOf A_t_codeFrom A_t_codeHalf A_t_codeTo A_t_stack A_t_facts x_t_lines A_t_newWords A_t_roundFrom A_t_roundAt A_t_roundTimes x_t_newMany x_t_rounds x_t_itFrom x_t_itTimes x_t_writtenNow x_t_picturesNow x_t_usedNow x_t_chosen x_t_fearOfChosen A_t_leastFrom A_t_rowNow x_t_changesNow x_t_left0 A_t_bornOf A_t_trainsTo A_t_trainAt x_t_trainMany x_t_leastTries x_t_firstTrained x_t_isKept, iA cI 293 A_t_now (upd v_t_now ((16 : Int32) + a1).toNatClampNeg (0 : Int32))]) C hK hP hD hS 1 rfl hi rfl dX12_becomesNew_9 ?_
  intro H locs hP hD hS
  refine lv_aload_n hx hb dX12_becomesNew_10 rfl (lv_at hl 0 rfl) ?_
  refine x_get C hK hP fd_X12_7 0 rfl rfl dX12_becomesNew_11 ?_
  refine lv_bipush (v := 24) hx hb dX12_becomesNew_14 (by decide) ?_
  refine lv_iload_n hx hb dX12_becomesNew_16 rfl (lv_at hl 1 rfl) ?_
  refine lv_iadd hx hb dX12_becomesNew_17 ?_
  refine lv_sipush (v := 999) hx hb dX12_becomesNew_18 (by decide) ?_
  obtain ⟨hi, hf⟩ := sI_e hf
  refine x_iast (ws' := [oX12 A_t A_t_now A_t_aside A_t_kept A_t_rhymeOf A_t_wasRhyme A_t_wordAt x_t_wordMany A_t_tape x_t_taped x_t_place0 x_t_length0 x_t_fault x_t_number0 x_t_open x_t_codeMany x_t_waiting x_t_saidMany x_t_clauses A_t_said A_t_waitsAt A_t_saidLetter A_t_saidFrom A_t_saidHalf A_t_saidTo A_t_codes A_t_clauseOf A_t_codeFrom A_t_codeHalf A_t_codeTo A_t_stack A_t_facts x_t_lines A_t_newWords A_t_roundFrom A_t_roundAt A_t_roundTimes x_t_newMany x_t_rounds x_t_itFrom x_t_itTimes x_t_writtenNow x_t_picturesNow x_t_usedNow x_t_chosen x_t_fearOfChosen A_t_leastFrom A_t_rowNow x_t_changesNow x_t_left0 A_t_bornOf A_t_trainsTo A_t_trainAt x_t_trainMany x_t_leastTries x_t_firstTrained x_t_isKept, iA cI 293 A_t_now (upd (upd v_t_now ((16 : Int32) + a1).toNatClampNeg (0 : Int32)) ((24 : Int32) + a1).toNatClampNeg (999 : Int32))]) C hK hP hD hS 1 rfl hi rfl dX12_becomesNew_21 ?_
  intro H locs hP hD hS
  refine lv_iconst (v := 0) hx hb dX12_becomesNew_22 (by decide) ?_
  refine lv_istore_n (lv' := [(2, .int (0 : Int32)), (0, .ref A_t), (1, .int a1)]) hx hb dX12_becomesNew_23 rfl hl (by decide) rfl (fun ls hl => ?_)
  exact hb_24 FU (upd (upd v_t_now ((16 : Int32) + a1).toNatClampNeg (0 : Int32)) ((24 : Int32) + a1).toNatClampNeg (999 : Int32)) (0 : Int32) _ _ ls (lv_sub hl [1, 2, 0] rfl) hP hD hS hf
def f_X12_bottle_b19 (v_t_now : (Nat → Int32)) : Option (Int32 × (Nat → Int32)) :=
  some ((0 : Int32), v_t_now)
def f_X12_bottle (v_t_now : (Nat → Int32)) (a1 : Int32) (a2 : Int32) : Option (Int32 × (Nat → Int32)) :=
  bd1 (f_X12_in a1 (0 : Int32) (7 : Int32)) (fun r1 =>
  if r1 = 0 then
    f_X12_bottle_b19 v_t_now
  else
    bd1 (f_X12_in a2 (0 : Int32) (4 : Int32)) (fun r2 =>
    if r2 = 0 then
      f_X12_bottle_b19 v_t_now
    else
      bd1 (f_X12_becomesNew v_t_now a1) (fun w3 =>
      sI 293 w3 ((0 : Int32) + a1) (1 : Int32) (fun w4 =>
      sI 293 w4 ((8 : Int32) + a1) a2 (fun w5 =>
      some ((1 : Int32), w5))))))
set_option maxHeartbeats 4000000 in
set_option maxRecDepth 100000 in
theorem c_X12_bottle {l : Launch} {D : va_G} {cI cB : ClassId} {A_t A_t_now A_t_aside A_t_kept A_t_rhymeOf A_t_wasRhyme A_t_wordAt A_t_tape A_t_said A_t_waitsAt A_t_saidLetter A_t_saidFrom A_t_saidHalf A_t_saidTo A_t_codes A_t_clauseOf A_t_codeFrom A_t_codeHalf A_t_codeTo A_t_stack A_t_facts A_t_newWords A_t_roundFrom A_t_roundAt A_t_roundTimes A_t_leastFrom A_t_rowNow A_t_bornOf A_t_trainsTo A_t_trainAt : Nat} {x_t_wordMany x_t_taped x_t_place0 x_t_length0 x_t_fault x_t_number0 x_t_open x_t_codeMany x_t_waiting x_t_saidMany x_t_clauses x_t_lines x_t_newMany x_t_rounds x_t_itFrom x_t_itTimes x_t_writtenNow x_t_picturesNow x_t_usedNow x_t_chosen x_t_fearOfChosen x_t_changesNow x_t_left0 x_t_trainMany x_t_leastTries x_t_firstTrained x_t_isKept a1 a2 : Int32} {v_t_now : Nat → Int32} {o_r : Int32} {o_v_t_now : Nat → Int32} (hf : f_X12_bottle v_t_now a1 a2 = some (o_r, o_v_t_now)) : CtI l D cI cB yX12_bottle cX12_bottle 3 (some .boolean) 1 22 [.ref A_t, .int a1, .int a2] [oX12 A_t A_t_now A_t_aside A_t_kept A_t_rhymeOf A_t_wasRhyme A_t_wordAt x_t_wordMany A_t_tape x_t_taped x_t_place0 x_t_length0 x_t_fault x_t_number0 x_t_open x_t_codeMany x_t_waiting x_t_saidMany x_t_clauses A_t_said A_t_waitsAt A_t_saidLetter A_t_saidFrom A_t_saidHalf A_t_saidTo A_t_codes A_t_clauseOf A_t_codeFrom A_t_codeHalf A_t_codeTo A_t_stack A_t_facts x_t_lines A_t_newWords A_t_roundFrom A_t_roundAt A_t_roundTimes x_t_newMany x_t_rounds x_t_itFrom x_t_itTimes x_t_writtenNow x_t_picturesNow x_t_usedNow x_t_chosen x_t_fearOfChosen A_t_leastFrom A_t_rowNow x_t_changesNow x_t_left0 A_t_bornOf A_t_trainsTo A_t_trainAt x_t_trainMany x_t_leastTries x_t_firstTrained x_t_isKept, iA cI 293 A_t_now v_t_now] [oX12 A_t A_t_now A_t_aside A_t_kept A_t_rhymeOf A_t_wasRhyme A_t_wordAt x_t_wordMany A_t_tape x_t_taped x_t_place0 x_t_length0 x_t_fault x_t_number0 x_t_open x_t_codeMany x_t_waiting x_t_saidMany x_t_clauses A_t_said A_t_waitsAt A_t_saidLetter A_t_saidFrom A_t_saidHalf A_t_saidTo A_t_codes A_t_clauseOf A_t_codeFrom A_t_codeHalf A_t_codeTo A_t_stack A_t_facts x_t_lines A_t_newWords A_t_roundFrom A_t_roundAt A_t_roundTimes x_t_newMany x_t_rounds x_t_itFrom x_t_itTimes x_t_writtenNow x_t_picturesNow x_t_usedNow x_t_chosen x_t_fearOfChosen A_t_leastFrom A_t_rowNow x_t_changesNow x_t_left0 A_t_bornOf A_t_trainsTo A_t_trainAt x_t_trainMany x_t_leastTries x_t_firstTrained x_t_isKept, iA cI 293 A_t_now o_v_t_now] o_r := by
  refine x_startI (by decide) (Nat.le_of_ble_eq_true rfl) ?_
  intro p e s m below meth c A C hr hlk hA hK hP hD hS ls hl
  have hl : lv_has ls 3 [(0, .ref A_t), (1, .int a1), (2, .int a2)] := hl
  have hx := C.1
  have hb := C.2.1
  unfold f_X12_bottle at hf
  have hb_19 : ∀ (v_t_now : (Nat → Int32)) (H : Heap) (locs : List Loc) (ls : Array Slot), lv_has ls 3 [] → va_P D vwCl [oX12 A_t A_t_now A_t_aside A_t_kept A_t_rhymeOf A_t_wasRhyme A_t_wordAt x_t_wordMany A_t_tape x_t_taped x_t_place0 x_t_length0 x_t_fault x_t_number0 x_t_open x_t_codeMany x_t_waiting x_t_saidMany x_t_clauses A_t_said A_t_waitsAt A_t_saidLetter A_t_saidFrom A_t_saidHalf A_t_saidTo A_t_codes A_t_clauseOf A_t_codeFrom A_t_codeHalf A_t_codeTo A_t_stack A_t_facts x_t_lines A_t_newWords A_t_roundFrom A_t_roundAt A_t_roundTimes x_t_newMany x_t_rounds x_t_itFrom x_t_itTimes x_t_writtenNow x_t_picturesNow x_t_usedNow x_t_chosen x_t_fearOfChosen A_t_leastFrom A_t_rowNow x_t_changesNow x_t_left0 A_t_bornOf A_t_trainsTo A_t_trainAt x_t_trainMany x_t_leastTries x_t_firstTrained x_t_isKept, iA cI 293 A_t_now v_t_now] H → va_D A [oX12 A_t A_t_now A_t_aside A_t_kept A_t_rhymeOf A_t_wasRhyme A_t_wordAt x_t_wordMany A_t_tape x_t_taped x_t_place0 x_t_length0 x_t_fault x_t_number0 x_t_open x_t_codeMany x_t_waiting x_t_saidMany x_t_clauses A_t_said A_t_waitsAt A_t_saidLetter A_t_saidFrom A_t_saidHalf A_t_saidTo A_t_codes A_t_clauseOf A_t_codeFrom A_t_codeHalf A_t_codeTo A_t_stack A_t_facts x_t_lines A_t_newWords A_t_roundFrom A_t_roundAt A_t_roundTimes x_t_newMany x_t_rounds x_t_itFrom x_t_itTimes x_t_writtenNow x_t_picturesNow x_t_usedNow x_t_chosen x_t_fearOfChosen A_t_leastFrom A_t_rowNow x_t_changesNow x_t_left0 A_t_bornOf A_t_trainsTo A_t_trainAt x_t_trainMany x_t_leastTries x_t_firstTrained x_t_isKept, iA cI 293 A_t_now v_t_now] → va_S A s.heap H locs → f_X12_bottle_b19 v_t_now = some (o_r, o_v_t_now) → W p l e { frames := 1, cells := 0, slots := 0, locals := 22 } s m ([.ref A_t, .int a1, .int a2] : List Value).toArray below meth c H locs 0 0 (MQ below (PoI D A [oX12 A_t A_t_now A_t_aside A_t_kept A_t_rhymeOf A_t_wasRhyme A_t_wordAt x_t_wordMany A_t_tape x_t_taped x_t_place0 x_t_length0 x_t_fault x_t_number0 x_t_open x_t_codeMany x_t_waiting x_t_saidMany x_t_clauses A_t_said A_t_waitsAt A_t_saidLetter A_t_saidFrom A_t_saidHalf A_t_saidTo A_t_codes A_t_clauseOf A_t_codeFrom A_t_codeHalf A_t_codeTo A_t_stack A_t_facts x_t_lines A_t_newWords A_t_roundFrom A_t_roundAt A_t_roundTimes x_t_newMany x_t_rounds x_t_itFrom x_t_itTimes x_t_writtenNow x_t_picturesNow x_t_usedNow x_t_chosen x_t_fearOfChosen A_t_leastFrom A_t_rowNow x_t_changesNow x_t_left0 A_t_bornOf A_t_trainsTo A_t_trainAt x_t_trainMany x_t_leastTries x_t_firstTrained x_t_isKept, iA cI 293 A_t_now o_v_t_now] o_r) ([.ref A_t, .int a1, .int a2] : List Value).toArray s 0 0 A) (F0 m 19 ls []) := by
    intro v_t_now H locs ls hl hP hD hS hf
    unfold f_X12_bottle_b19 at hf
    refine lv_iconst (v := 0) hx hb dX12_bottle_19 (by decide) ?_
    obtain ⟨rfl, rfl⟩ := ev2 hf
    exact x_zret C hr hlk (Or.inl rfl) hP hD hS dX12_bottle_20
  refine lv_iload_n hx hb dX12_bottle_0 rfl (lv_at hl 1 rfl) ?_
  refine lv_iconst (v := 0) hx hb dX12_bottle_1 (by decide) ?_
  refine lv_bipush (v := 7) hx hb dX12_bottle_2 (by decide) ?_
  obtain ⟨r1, hc2, hf⟩ := bd1_e hf
  refine x_callSI (ws' := [oX12 A_t A_t_now A_t_aside A_t_kept A_t_rhymeOf A_t_wasRhyme A_t_wordAt x_t_wordMany A_t_tape x_t_taped x_t_place0 x_t_length0 x_t_fault x_t_number0 x_t_open x_t_codeMany x_t_waiting x_t_saidMany x_t_clauses A_t_said A_t_waitsAt A_t_saidLetter A_t_saidFrom A_t_saidHalf A_t_saidTo A_t_codes A_t_clauseOf A_t_codeFrom A_t_codeHalf A_t_codeTo A_t_stack A_t_facts x_t_lines A_t_newWords A_t_roundFrom A_t_roundAt A_t_roundTimes x_t_newMany x_t_rounds x_t_itFrom x_t_itTimes x_t_writtenNow x_t_picturesNow x_t_usedNow x_t_chosen x_t_fearOfChosen A_t_leastFrom A_t_rowNow x_t_changesNow x_t_left0 A_t_bornOf A_t_trainsTo A_t_trainAt x_t_trainMany x_t_leastTries x_t_firstTrained x_t_isKept, iA cI 293 A_t_now v_t_now]) (rest := []) C hK hP hD hS hA hl mf_X12_105 (c_X12_in hc2) [] rfl rfl rfl rfl rfl rfl rfl rfl (Nat.le_of_ble_eq_true rfl) ⟨Nat.le_of_ble_eq_true rfl, Nat.le_of_ble_eq_true rfl⟩ ⟨Nat.le_refl _, Nat.le_refl _⟩ dX12_bottle_4 ?_
  intro H locs hP hD hS
  refine lv_if_eq (tgt := 19) hx hb dX12_bottle_7 (by decide) (fun q => ?_) (fun q => ?_)
  · have hf := if_t q hf
    exact hb_19 v_t_now _ _ ls (lv_sub hl [] rfl) hP hD hS hf
  · have hf := if_f q hf
    refine lv_iload_n hx hb dX12_bottle_10 rfl (lv_at hl 2 rfl) ?_
    refine lv_iconst (v := 0) hx hb dX12_bottle_11 (by decide) ?_
    refine lv_iconst (v := 4) hx hb dX12_bottle_12 (by decide) ?_
    obtain ⟨r3, hc4, hf⟩ := bd1_e hf
    refine x_callSI (ws' := [oX12 A_t A_t_now A_t_aside A_t_kept A_t_rhymeOf A_t_wasRhyme A_t_wordAt x_t_wordMany A_t_tape x_t_taped x_t_place0 x_t_length0 x_t_fault x_t_number0 x_t_open x_t_codeMany x_t_waiting x_t_saidMany x_t_clauses A_t_said A_t_waitsAt A_t_saidLetter A_t_saidFrom A_t_saidHalf A_t_saidTo A_t_codes A_t_clauseOf A_t_codeFrom A_t_codeHalf A_t_codeTo A_t_stack A_t_facts x_t_lines A_t_newWords A_t_roundFrom A_t_roundAt A_t_roundTimes x_t_newMany x_t_rounds x_t_itFrom x_t_itTimes x_t_writtenNow x_t_picturesNow x_t_usedNow x_t_chosen x_t_fearOfChosen A_t_leastFrom A_t_rowNow x_t_changesNow x_t_left0 A_t_bornOf A_t_trainsTo A_t_trainAt x_t_trainMany x_t_leastTries x_t_firstTrained x_t_isKept, iA cI 293 A_t_now v_t_now]) (rest := []) C hK hP hD hS hA hl mf_X12_105 (c_X12_in hc4) [] rfl rfl rfl rfl rfl rfl rfl rfl (Nat.le_of_ble_eq_true rfl) ⟨Nat.le_of_ble_eq_true rfl, Nat.le_of_ble_eq_true rfl⟩ ⟨Nat.le_refl _, Nat.le_refl _⟩ dX12_bottle_13 ?_
    intro H locs hP hD hS
    refine lv_if_ne (tgt := 21) hx hb dX12_bottle_16 (by decide) (fun q => ?_) (fun q => ?_)
    · have hf := if_f q hf
      refine lv_aload_n hx hb dX12_bottle_21 rfl (lv_at hl 0 rfl) ?_
      refine lv_iload_n hx hb dX12_bottle_22 rfl (lv_at hl 1 rfl) ?_
      obtain ⟨w5, hc6, hf⟩ := bd1_e hf
      refine x_callVV (ws' := [oX12 A_t A_t_now A_t_aside A_t_kept A_t_rhymeOf A_t_wasRhyme A_t_wordAt x_t_wordMany A_t_tape x_t_taped x_t_place0 x_t_length0 x_t_fault x_t_number0 x_t_open x_t_codeMany x_t_waiting x_t_saidMany x_t_clauses A_t_said A_t_waitsAt A_t_saidLetter A_t_saidFrom A_t_saidHalf A_t_saidTo A_t_codes A_t_clauseOf A_t_codeFrom A_t_codeHalf A_t_codeTo A_t_stack A_t_facts x_t_lines A_t_newWords A_t_roundFrom A_t_roundAt A_t_roundTimes x_t_newMany x_t_rounds x_t_itFrom x_t_itTimes x_t_writtenNow x_t_picturesNow x_t_usedNow x_t_chosen x_t_fearOfChosen A_t_leastFrom A_t_rowNow x_t_changesNow x_t_left0 A_t_bornOf A_t_trainsTo A_t_trainAt x_t_trainMany x_t_leastTries x_t_firstTrained x_t_isKept, iA cI 293 A_t_now w5]) (rest := []) C hK hP hD hS hA hl mf_X12_131 (c_X12_becomesNew hc6) [0, 1] 0 12 rfl rfl rfl rfl rfl rfl rfl rfl rfl rfl (Nat.le_of_ble_eq_true rfl) ⟨Nat.le_of_ble_eq_true rfl, Nat.le_of_ble_eq_true rfl⟩ ⟨Nat.le_refl _, Nat.le_refl _⟩ dX12_bottle_23 ?_
      intro H locs hP hD hS
      refine lv_aload_n hx hb dX12_bottle_26 rfl (lv_at hl 0 rfl) ?_
      refine x_get C hK hP fd_X12_7 0 rfl rfl dX12_bottle_27 ?_
      refine lv_iconst (v := 0) hx hb dX12_bottle_30 (by decide) ?_
      refine lv_iload_n hx hb dX12_bottle_31 rfl (lv_at hl 1 rfl) ?_
      refine lv_iadd hx hb dX12_bottle_32 ?_
      refine lv_iconst (v := 1) hx hb dX12_bottle_33 (by decide) ?_
      obtain ⟨hi, hf⟩ := sI_e hf
      refine x_iast (ws' := [oX12 A_t A_t_now A_t_aside A_t_kept A_t_rhymeOf A_t_wasRhyme A_t_wordAt x_t_wordMany A_t_tape x_t_taped x_t_place0 x_t_length0 x_t_fault x_t_number0 x_t_open x_t_codeMany x_t_waiting x_t_saidMany x_t_clauses A_t_said A_t_waitsAt A_t_saidLetter A_t_saidFrom A_t_saidHalf A_t_saidTo A_t_codes A_t_clauseOf A_t_codeFrom A_t_codeHalf A_t_codeTo A_t_stack A_t_facts x_t_lines A_t_newWords A_t_roundFrom A_t_roundAt A_t_roundTimes x_t_newMany x_t_rounds x_t_itFrom x_t_itTimes x_t_writtenNow x_t_picturesNow x_t_usedNow x_t_chosen x_t_fearOfChosen A_t_leastFrom A_t_rowNow x_t_changesNow x_t_left0 A_t_bornOf A_t_trainsTo A_t_trainAt x_t_trainMany x_t_leastTries x_t_firstTrained x_t_isKept, iA cI 293 A_t_now (upd w5 ((0 : Int32) + a1).toNatClampNeg (1 : Int32))]) C hK hP hD hS 1 rfl hi rfl dX12_bottle_34 ?_
      intro H locs hP hD hS
      refine lv_aload_n hx hb dX12_bottle_35 rfl (lv_at hl 0 rfl) ?_
      refine x_get C hK hP fd_X12_7 0 rfl rfl dX12_bottle_36 ?_
      refine lv_bipush (v := 8) hx hb dX12_bottle_39 (by decide) ?_
      refine lv_iload_n hx hb dX12_bottle_41 rfl (lv_at hl 1 rfl) ?_
      refine lv_iadd hx hb dX12_bottle_42 ?_
      refine lv_iload_n hx hb dX12_bottle_43 rfl (lv_at hl 2 rfl) ?_
      obtain ⟨hi, hf⟩ := sI_e hf
      refine x_iast (ws' := [oX12 A_t A_t_now A_t_aside A_t_kept A_t_rhymeOf A_t_wasRhyme A_t_wordAt x_t_wordMany A_t_tape x_t_taped x_t_place0 x_t_length0 x_t_fault x_t_number0 x_t_open x_t_codeMany x_t_waiting x_t_saidMany x_t_clauses A_t_said A_t_waitsAt A_t_saidLetter A_t_saidFrom A_t_saidHalf A_t_saidTo A_t_codes A_t_clauseOf A_t_codeFrom A_t_codeHalf A_t_codeTo A_t_stack A_t_facts x_t_lines A_t_newWords A_t_roundFrom A_t_roundAt A_t_roundTimes x_t_newMany x_t_rounds x_t_itFrom x_t_itTimes x_t_writtenNow x_t_picturesNow x_t_usedNow x_t_chosen x_t_fearOfChosen A_t_leastFrom A_t_rowNow x_t_changesNow x_t_left0 A_t_bornOf A_t_trainsTo A_t_trainAt x_t_trainMany x_t_leastTries x_t_firstTrained x_t_isKept, iA cI 293 A_t_now (upd (upd w5 ((0 : Int32) + a1).toNatClampNeg (1 : Int32)) ((8 : Int32) + a1).toNatClampNeg a2)]) C hK hP hD hS 1 rfl hi rfl dX12_bottle_44 ?_
      intro H locs hP hD hS
      refine lv_iconst (v := 1) hx hb dX12_bottle_45 (by decide) ?_
      obtain ⟨rfl, rfl⟩ := ev2 hf
      exact x_zret C hr hlk (Or.inr rfl) hP hD hS dX12_bottle_46
    · have hf := if_t q hf
      exact hb_19 v_t_now _ _ ls (lv_sub hl [] rfl) hP hD hS hf
def f_X12_ink_b19 (v_t_now : (Nat → Int32)) : Option (Int32 × (Nat → Int32)) :=
  some ((0 : Int32), v_t_now)
def f_X12_ink (v_t_now : (Nat → Int32)) (a1 : Int32) (a2 : Int32) : Option (Int32 × (Nat → Int32)) :=
  bd1 (f_X12_isTold v_t_now a1) (fun r1 =>
  if r1 = 0 then
    f_X12_ink_b19 v_t_now
  else
    bd1 (f_X12_in a2 (0 : Int32) (999 : Int32)) (fun r2 =>
    if r2 = 0 then
      f_X12_ink_b19 v_t_now
    else
      sI 293 v_t_now ((24 : Int32) + a1) a2 (fun w3 =>
      some ((1 : Int32), w3))))
set_option maxHeartbeats 4000000 in
set_option maxRecDepth 100000 in
theorem c_X12_ink {l : Launch} {D : va_G} {cI cB : ClassId} {A_t A_t_now A_t_aside A_t_kept A_t_rhymeOf A_t_wasRhyme A_t_wordAt A_t_tape A_t_said A_t_waitsAt A_t_saidLetter A_t_saidFrom A_t_saidHalf A_t_saidTo A_t_codes A_t_clauseOf A_t_codeFrom A_t_codeHalf A_t_codeTo A_t_stack A_t_facts A_t_newWords A_t_roundFrom A_t_roundAt A_t_roundTimes A_t_leastFrom A_t_rowNow A_t_bornOf A_t_trainsTo A_t_trainAt : Nat} {x_t_wordMany x_t_taped x_t_place0 x_t_length0 x_t_fault x_t_number0 x_t_open x_t_codeMany x_t_waiting x_t_saidMany x_t_clauses x_t_lines x_t_newMany x_t_rounds x_t_itFrom x_t_itTimes x_t_writtenNow x_t_picturesNow x_t_usedNow x_t_chosen x_t_fearOfChosen x_t_changesNow x_t_left0 x_t_trainMany x_t_leastTries x_t_firstTrained x_t_isKept a1 a2 : Int32} {v_t_now : Nat → Int32} {o_r : Int32} {o_v_t_now : Nat → Int32} (hf : f_X12_ink v_t_now a1 a2 = some (o_r, o_v_t_now)) : CtI l D cI cB yX12_ink cX12_ink 3 (some .boolean) 2 43 [.ref A_t, .int a1, .int a2] [oX12 A_t A_t_now A_t_aside A_t_kept A_t_rhymeOf A_t_wasRhyme A_t_wordAt x_t_wordMany A_t_tape x_t_taped x_t_place0 x_t_length0 x_t_fault x_t_number0 x_t_open x_t_codeMany x_t_waiting x_t_saidMany x_t_clauses A_t_said A_t_waitsAt A_t_saidLetter A_t_saidFrom A_t_saidHalf A_t_saidTo A_t_codes A_t_clauseOf A_t_codeFrom A_t_codeHalf A_t_codeTo A_t_stack A_t_facts x_t_lines A_t_newWords A_t_roundFrom A_t_roundAt A_t_roundTimes x_t_newMany x_t_rounds x_t_itFrom x_t_itTimes x_t_writtenNow x_t_picturesNow x_t_usedNow x_t_chosen x_t_fearOfChosen A_t_leastFrom A_t_rowNow x_t_changesNow x_t_left0 A_t_bornOf A_t_trainsTo A_t_trainAt x_t_trainMany x_t_leastTries x_t_firstTrained x_t_isKept, iA cI 293 A_t_now v_t_now] [oX12 A_t A_t_now A_t_aside A_t_kept A_t_rhymeOf A_t_wasRhyme A_t_wordAt x_t_wordMany A_t_tape x_t_taped x_t_place0 x_t_length0 x_t_fault x_t_number0 x_t_open x_t_codeMany x_t_waiting x_t_saidMany x_t_clauses A_t_said A_t_waitsAt A_t_saidLetter A_t_saidFrom A_t_saidHalf A_t_saidTo A_t_codes A_t_clauseOf A_t_codeFrom A_t_codeHalf A_t_codeTo A_t_stack A_t_facts x_t_lines A_t_newWords A_t_roundFrom A_t_roundAt A_t_roundTimes x_t_newMany x_t_rounds x_t_itFrom x_t_itTimes x_t_writtenNow x_t_picturesNow x_t_usedNow x_t_chosen x_t_fearOfChosen A_t_leastFrom A_t_rowNow x_t_changesNow x_t_left0 A_t_bornOf A_t_trainsTo A_t_trainAt x_t_trainMany x_t_leastTries x_t_firstTrained x_t_isKept, iA cI 293 A_t_now o_v_t_now] o_r := by
  refine x_startI (by decide) (Nat.le_of_ble_eq_true rfl) ?_
  intro p e s m below meth c A C hr hlk hA hK hP hD hS ls hl
  have hl : lv_has ls 3 [(0, .ref A_t), (1, .int a1), (2, .int a2)] := hl
  have hx := C.1
  have hb := C.2.1
  unfold f_X12_ink at hf
  have hb_19 : ∀ (v_t_now : (Nat → Int32)) (H : Heap) (locs : List Loc) (ls : Array Slot), lv_has ls 3 [] → va_P D vwCl [oX12 A_t A_t_now A_t_aside A_t_kept A_t_rhymeOf A_t_wasRhyme A_t_wordAt x_t_wordMany A_t_tape x_t_taped x_t_place0 x_t_length0 x_t_fault x_t_number0 x_t_open x_t_codeMany x_t_waiting x_t_saidMany x_t_clauses A_t_said A_t_waitsAt A_t_saidLetter A_t_saidFrom A_t_saidHalf A_t_saidTo A_t_codes A_t_clauseOf A_t_codeFrom A_t_codeHalf A_t_codeTo A_t_stack A_t_facts x_t_lines A_t_newWords A_t_roundFrom A_t_roundAt A_t_roundTimes x_t_newMany x_t_rounds x_t_itFrom x_t_itTimes x_t_writtenNow x_t_picturesNow x_t_usedNow x_t_chosen x_t_fearOfChosen A_t_leastFrom A_t_rowNow x_t_changesNow x_t_left0 A_t_bornOf A_t_trainsTo A_t_trainAt x_t_trainMany x_t_leastTries x_t_firstTrained x_t_isKept, iA cI 293 A_t_now v_t_now] H → va_D A [oX12 A_t A_t_now A_t_aside A_t_kept A_t_rhymeOf A_t_wasRhyme A_t_wordAt x_t_wordMany A_t_tape x_t_taped x_t_place0 x_t_length0 x_t_fault x_t_number0 x_t_open x_t_codeMany x_t_waiting x_t_saidMany x_t_clauses A_t_said A_t_waitsAt A_t_saidLetter A_t_saidFrom A_t_saidHalf A_t_saidTo A_t_codes A_t_clauseOf A_t_codeFrom A_t_codeHalf A_t_codeTo A_t_stack A_t_facts x_t_lines A_t_newWords A_t_roundFrom A_t_roundAt A_t_roundTimes x_t_newMany x_t_rounds x_t_itFrom x_t_itTimes x_t_writtenNow x_t_picturesNow x_t_usedNow x_t_chosen x_t_fearOfChosen A_t_leastFrom A_t_rowNow x_t_changesNow x_t_left0 A_t_bornOf A_t_trainsTo A_t_trainAt x_t_trainMany x_t_leastTries x_t_firstTrained x_t_isKept, iA cI 293 A_t_now v_t_now] → va_S A s.heap H locs → f_X12_ink_b19 v_t_now = some (o_r, o_v_t_now) → W p l e { frames := 2, cells := 0, slots := 0, locals := 43 } s m ([.ref A_t, .int a1, .int a2] : List Value).toArray below meth c H locs 0 0 (MQ below (PoI D A [oX12 A_t A_t_now A_t_aside A_t_kept A_t_rhymeOf A_t_wasRhyme A_t_wordAt x_t_wordMany A_t_tape x_t_taped x_t_place0 x_t_length0 x_t_fault x_t_number0 x_t_open x_t_codeMany x_t_waiting x_t_saidMany x_t_clauses A_t_said A_t_waitsAt A_t_saidLetter A_t_saidFrom A_t_saidHalf A_t_saidTo A_t_codes A_t_clauseOf A_t_codeFrom A_t_codeHalf A_t_codeTo A_t_stack A_t_facts x_t_lines A_t_newWords A_t_roundFrom A_t_roundAt A_t_roundTimes x_t_newMany x_t_rounds x_t_itFrom x_t_itTimes x_t_writtenNow x_t_picturesNow x_t_usedNow x_t_chosen x_t_fearOfChosen A_t_leastFrom A_t_rowNow x_t_changesNow x_t_left0 A_t_bornOf A_t_trainsTo A_t_trainAt x_t_trainMany x_t_leastTries x_t_firstTrained x_t_isKept, iA cI 293 A_t_now o_v_t_now] o_r) ([.ref A_t, .int a1, .int a2] : List Value).toArray s 0 0 A) (F0 m 19 ls []) := by
    intro v_t_now H locs ls hl hP hD hS hf
    unfold f_X12_ink_b19 at hf
    refine lv_iconst (v := 0) hx hb dX12_ink_19 (by decide) ?_
    obtain ⟨rfl, rfl⟩ := ev2 hf
    exact x_zret C hr hlk (Or.inl rfl) hP hD hS dX12_ink_20
  refine lv_aload_n hx hb dX12_ink_0 rfl (lv_at hl 0 rfl) ?_
  refine lv_iload_n hx hb dX12_ink_1 rfl (lv_at hl 1 rfl) ?_
  obtain ⟨r1, hc2, hf⟩ := bd1_e hf
  refine x_callVI (ws' := [oX12 A_t A_t_now A_t_aside A_t_kept A_t_rhymeOf A_t_wasRhyme A_t_wordAt x_t_wordMany A_t_tape x_t_taped x_t_place0 x_t_length0 x_t_fault x_t_number0 x_t_open x_t_codeMany x_t_waiting x_t_saidMany x_t_clauses A_t_said A_t_waitsAt A_t_saidLetter A_t_saidFrom A_t_saidHalf A_t_saidTo A_t_codes A_t_clauseOf A_t_codeFrom A_t_codeHalf A_t_codeTo A_t_stack A_t_facts x_t_lines A_t_newWords A_t_roundFrom A_t_roundAt A_t_roundTimes x_t_newMany x_t_rounds x_t_itFrom x_t_itTimes x_t_writtenNow x_t_picturesNow x_t_usedNow x_t_chosen x_t_fearOfChosen A_t_leastFrom A_t_rowNow x_t_changesNow x_t_left0 A_t_bornOf A_t_trainsTo A_t_trainAt x_t_trainMany x_t_leastTries x_t_firstTrained x_t_isKept, iA cI 293 A_t_now v_t_now]) (rest := []) C hK hP hD hS hA hl mf_X12_109 (c_X12_isTold hc2) [0, 1] 0 12 rfl rfl rfl rfl rfl rfl rfl rfl rfl rfl (Nat.le_of_ble_eq_true rfl) ⟨Nat.le_of_ble_eq_true rfl, Nat.le_of_ble_eq_true rfl⟩ ⟨Nat.le_refl _, Nat.le_refl _⟩ dX12_ink_2 ?_
  intro H locs hP hD hS
  refine lv_if_eq (tgt := 19) hx hb dX12_ink_5 (by decide) (fun q => ?_) (fun q => ?_)
  · have hf := if_t q hf
    exact hb_19 v_t_now _ _ ls (lv_sub hl [] rfl) hP hD hS hf
  · have hf := if_f q hf
    refine lv_iload_n hx hb dX12_ink_8 rfl (lv_at hl 2 rfl) ?_
    refine lv_iconst (v := 0) hx hb dX12_ink_9 (by decide) ?_
    refine lv_sipush (v := 999) hx hb dX12_ink_10 (by decide) ?_
    obtain ⟨r3, hc4, hf⟩ := bd1_e hf
    refine x_callSI (ws' := [oX12 A_t A_t_now A_t_aside A_t_kept A_t_rhymeOf A_t_wasRhyme A_t_wordAt x_t_wordMany A_t_tape x_t_taped x_t_place0 x_t_length0 x_t_fault x_t_number0 x_t_open x_t_codeMany x_t_waiting x_t_saidMany x_t_clauses A_t_said A_t_waitsAt A_t_saidLetter A_t_saidFrom A_t_saidHalf A_t_saidTo A_t_codes A_t_clauseOf A_t_codeFrom A_t_codeHalf A_t_codeTo A_t_stack A_t_facts x_t_lines A_t_newWords A_t_roundFrom A_t_roundAt A_t_roundTimes x_t_newMany x_t_rounds x_t_itFrom x_t_itTimes x_t_writtenNow x_t_picturesNow x_t_usedNow x_t_chosen x_t_fearOfChosen A_t_leastFrom A_t_rowNow x_t_changesNow x_t_left0 A_t_bornOf A_t_trainsTo A_t_trainAt x_t_trainMany x_t_leastTries x_t_firstTrained x_t_isKept, iA cI 293 A_t_now v_t_now]) (rest := []) C hK hP hD hS hA hl mf_X12_105 (c_X12_in hc4) [] rfl rfl rfl rfl rfl rfl rfl rfl (Nat.le_of_ble_eq_true rfl) ⟨Nat.le_of_ble_eq_true rfl, Nat.le_of_ble_eq_true rfl⟩ ⟨Nat.le_refl _, Nat.le_refl _⟩ dX12_ink_13 ?_
    intro H locs hP hD hS
    refine lv_if_ne (tgt := 21) hx hb dX12_ink_16 (by decide) (fun q => ?_) (fun q => ?_)
    · have hf := if_f q hf
      refine lv_aload_n hx hb dX12_ink_21 rfl (lv_at hl 0 rfl) ?_
      refine x_get C hK hP fd_X12_7 0 rfl rfl dX12_ink_22 ?_
      refine lv_bipush (v := 24) hx hb dX12_ink_25 (by decide) ?_
      refine lv_iload_n hx hb dX12_ink_27 rfl (lv_at hl 1 rfl) ?_
      refine lv_iadd hx hb dX12_ink_28 ?_
      refine lv_iload_n hx hb dX12_ink_29 rfl (lv_at hl 2 rfl) ?_
      obtain ⟨hi, hf⟩ := sI_e hf
      refine x_iast (ws' := [oX12 A_t A_t_now A_t_aside A_t_kept A_t_rhymeOf A_t_wasRhyme A_t_wordAt x_t_wordMany A_t_tape x_t_taped x_t_place0 x_t_length0 x_t_fault x_t_number0 x_t_open x_t_codeMany x_t_waiting x_t_saidMany x_t_clauses A_t_said A_t_waitsAt A_t_saidLetter A_t_saidFrom A_t_saidHalf A_t_saidTo A_t_codes A_t_clauseOf A_t_codeFrom A_t_codeHalf A_t_codeTo A_t_stack A_t_facts x_t_lines A_t_newWords A_t_roundFrom A_t_roundAt A_t_roundTimes x_t_newMany x_t_rounds x_t_itFrom x_t_itTimes x_t_writtenNow x_t_picturesNow x_t_usedNow x_t_chosen x_t_fearOfChosen A_t_leastFrom A_t_rowNow x_t_changesNow x_t_left0 A_t_bornOf A_t_trainsTo A_t_trainAt x_t_trainMany x_t_leastTries x_t_firstTrained x_t_isKept, iA cI 293 A_t_now (upd v_t_now ((24 : Int32) + a1).toNatClampNeg a2)]) C hK hP hD hS 1 rfl hi rfl dX12_ink_30 ?_
      intro H locs hP hD hS
      refine lv_iconst (v := 1) hx hb dX12_ink_31 (by decide) ?_
      obtain ⟨rfl, rfl⟩ := ev2 hf
      exact x_zret C hr hlk (Or.inr rfl) hP hD hS dX12_ink_32
    · have hf := if_t q hf
      exact hb_19 v_t_now _ _ ls (lv_sub hl [] rfl) hP hD hS hf
def f_X12_nerve (v_t_now : (Nat → Int32)) (a1 : Int32) : Option (Int32 × (Nat → Int32)) :=
  bd1 (f_X12_in a1 (0 : Int32) (99 : Int32)) (fun r1 =>
  if r1 = 0 then
    some ((0 : Int32), v_t_now)
  else
    sI 293 v_t_now (288 : Int32) a1 (fun w2 =>
    some ((1 : Int32), w2)))
set_option maxHeartbeats 4000000 in
set_option maxRecDepth 100000 in
theorem c_X12_nerve {l : Launch} {D : va_G} {cI cB : ClassId} {A_t A_t_now A_t_aside A_t_kept A_t_rhymeOf A_t_wasRhyme A_t_wordAt A_t_tape A_t_said A_t_waitsAt A_t_saidLetter A_t_saidFrom A_t_saidHalf A_t_saidTo A_t_codes A_t_clauseOf A_t_codeFrom A_t_codeHalf A_t_codeTo A_t_stack A_t_facts A_t_newWords A_t_roundFrom A_t_roundAt A_t_roundTimes A_t_leastFrom A_t_rowNow A_t_bornOf A_t_trainsTo A_t_trainAt : Nat} {x_t_wordMany x_t_taped x_t_place0 x_t_length0 x_t_fault x_t_number0 x_t_open x_t_codeMany x_t_waiting x_t_saidMany x_t_clauses x_t_lines x_t_newMany x_t_rounds x_t_itFrom x_t_itTimes x_t_writtenNow x_t_picturesNow x_t_usedNow x_t_chosen x_t_fearOfChosen x_t_changesNow x_t_left0 x_t_trainMany x_t_leastTries x_t_firstTrained x_t_isKept a1 : Int32} {v_t_now : Nat → Int32} {o_r : Int32} {o_v_t_now : Nat → Int32} (hf : f_X12_nerve v_t_now a1 = some (o_r, o_v_t_now)) : CtI l D cI cB yX12_nerve cX12_nerve 2 (some .boolean) 1 22 [.ref A_t, .int a1] [oX12 A_t A_t_now A_t_aside A_t_kept A_t_rhymeOf A_t_wasRhyme A_t_wordAt x_t_wordMany A_t_tape x_t_taped x_t_place0 x_t_length0 x_t_fault x_t_number0 x_t_open x_t_codeMany x_t_waiting x_t_saidMany x_t_clauses A_t_said A_t_waitsAt A_t_saidLetter A_t_saidFrom A_t_saidHalf A_t_saidTo A_t_codes A_t_clauseOf A_t_codeFrom A_t_codeHalf A_t_codeTo A_t_stack A_t_facts x_t_lines A_t_newWords A_t_roundFrom A_t_roundAt A_t_roundTimes x_t_newMany x_t_rounds x_t_itFrom x_t_itTimes x_t_writtenNow x_t_picturesNow x_t_usedNow x_t_chosen x_t_fearOfChosen A_t_leastFrom A_t_rowNow x_t_changesNow x_t_left0 A_t_bornOf A_t_trainsTo A_t_trainAt x_t_trainMany x_t_leastTries x_t_firstTrained x_t_isKept, iA cI 293 A_t_now v_t_now] [oX12 A_t A_t_now A_t_aside A_t_kept A_t_rhymeOf A_t_wasRhyme A_t_wordAt x_t_wordMany A_t_tape x_t_taped x_t_place0 x_t_length0 x_t_fault x_t_number0 x_t_open x_t_codeMany x_t_waiting x_t_saidMany x_t_clauses A_t_said A_t_waitsAt A_t_saidLetter A_t_saidFrom A_t_saidHalf A_t_saidTo A_t_codes A_t_clauseOf A_t_codeFrom A_t_codeHalf A_t_codeTo A_t_stack A_t_facts x_t_lines A_t_newWords A_t_roundFrom A_t_roundAt A_t_roundTimes x_t_newMany x_t_rounds x_t_itFrom x_t_itTimes x_t_writtenNow x_t_picturesNow x_t_usedNow x_t_chosen x_t_fearOfChosen A_t_leastFrom A_t_rowNow x_t_changesNow x_t_left0 A_t_bornOf A_t_trainsTo A_t_trainAt x_t_trainMany x_t_leastTries x_t_firstTrained x_t_isKept, iA cI 293 A_t_now o_v_t_now] o_r := by
  refine x_startI (by decide) (Nat.le_of_ble_eq_true rfl) ?_
  intro p e s m below meth c A C hr hlk hA hK hP hD hS ls hl
  have hl : lv_has ls 2 [(0, .ref A_t), (1, .int a1)] := hl
  have hx := C.1
  have hb := C.2.1
  unfold f_X12_nerve at hf
  refine lv_iload_n hx hb dX12_nerve_0 rfl (lv_at hl 1 rfl) ?_
  refine lv_iconst (v := 0) hx hb dX12_nerve_1 (by decide) ?_
  refine lv_bipush (v := 99) hx hb dX12_nerve_2 (by decide) ?_
  obtain ⟨r1, hc2, hf⟩ := bd1_e hf
  refine x_callSI (ws' := [oX12 A_t A_t_now A_t_aside A_t_kept A_t_rhymeOf A_t_wasRhyme A_t_wordAt x_t_wordMany A_t_tape x_t_taped x_t_place0 x_t_length0 x_t_fault x_t_number0 x_t_open x_t_codeMany x_t_waiting x_t_saidMany x_t_clauses A_t_said A_t_waitsAt A_t_saidLetter A_t_saidFrom A_t_saidHalf A_t_saidTo A_t_codes A_t_clauseOf A_t_codeFrom A_t_codeHalf A_t_codeTo A_t_stack A_t_facts x_t_lines A_t_newWords A_t_roundFrom A_t_roundAt A_t_roundTimes x_t_newMany x_t_rounds x_t_itFrom x_t_itTimes x_t_writtenNow x_t_picturesNow x_t_usedNow x_t_chosen x_t_fearOfChosen A_t_leastFrom A_t_rowNow x_t_changesNow x_t_left0 A_t_bornOf A_t_trainsTo A_t_trainAt x_t_trainMany x_t_leastTries x_t_firstTrained x_t_isKept, iA cI 293 A_t_now v_t_now]) (rest := []) C hK hP hD hS hA hl mf_X12_105 (c_X12_in hc2) [] rfl rfl rfl rfl rfl rfl rfl rfl (Nat.le_of_ble_eq_true rfl) ⟨Nat.le_of_ble_eq_true rfl, Nat.le_of_ble_eq_true rfl⟩ ⟨Nat.le_refl _, Nat.le_refl _⟩ dX12_nerve_4 ?_
  intro H locs hP hD hS
  refine lv_if_ne (tgt := 12) hx hb dX12_nerve_7 (by decide) (fun q => ?_) (fun q => ?_)
  · have hf := if_f q hf
    refine lv_aload_n hx hb dX12_nerve_12 rfl (lv_at hl 0 rfl) ?_
    refine x_get C hK hP fd_X12_7 0 rfl rfl dX12_nerve_13 ?_
    refine lv_sipush (v := 288) hx hb dX12_nerve_16 (by decide) ?_
    refine lv_iload_n hx hb dX12_nerve_19 rfl (lv_at hl 1 rfl) ?_
    obtain ⟨hi, hf⟩ := sI_e hf
    refine x_iast (ws' := [oX12 A_t A_t_now A_t_aside A_t_kept A_t_rhymeOf A_t_wasRhyme A_t_wordAt x_t_wordMany A_t_tape x_t_taped x_t_place0 x_t_length0 x_t_fault x_t_number0 x_t_open x_t_codeMany x_t_waiting x_t_saidMany x_t_clauses A_t_said A_t_waitsAt A_t_saidLetter A_t_saidFrom A_t_saidHalf A_t_saidTo A_t_codes A_t_clauseOf A_t_codeFrom A_t_codeHalf A_t_codeTo A_t_stack A_t_facts x_t_lines A_t_newWords A_t_roundFrom A_t_roundAt A_t_roundTimes x_t_newMany x_t_rounds x_t_itFrom x_t_itTimes x_t_writtenNow x_t_picturesNow x_t_usedNow x_t_chosen x_t_fearOfChosen A_t_leastFrom A_t_rowNow x_t_changesNow x_t_left0 A_t_bornOf A_t_trainsTo A_t_trainAt x_t_trainMany x_t_leastTries x_t_firstTrained x_t_isKept, iA cI 293 A_t_now (upd v_t_now (288 : Int32).toNatClampNeg a1)]) C hK hP hD hS 1 rfl hi rfl dX12_nerve_20 ?_
    intro H locs hP hD hS
    refine lv_iconst (v := 1) hx hb dX12_nerve_21 (by decide) ?_
    obtain ⟨rfl, rfl⟩ := ev2 hf
    exact x_zret C hr hlk (Or.inr rfl) hP hD hS dX12_nerve_22
  · have hf := if_t q hf
    refine lv_iconst (v := 0) hx hb dX12_nerve_10 (by decide) ?_
    obtain ⟨rfl, rfl⟩ := ev2 hf
    exact x_zret C hr hlk (Or.inl rfl) hP hD hS dX12_nerve_11
def f_X12_nextLot (a0 : Int32) : Option (Int32) :=
  rI (((25173 : Int32) * a0) + (13849 : Int32)) (65536 : Int32) (fun g1 =>
  some g1)
set_option maxHeartbeats 4000000 in
set_option maxRecDepth 100000 in
theorem c_X12_nextLot {l : Launch} {D : va_G} {cI cB : ClassId} {a0 : Int32} {o_r : Int32} (hf : f_X12_nextLot a0 = some o_r) : CtI l D cI cB yX12_nextLot cX12_nextLot 1 (some .int) 0 0 [.int a0] [] [] o_r := by
  refine x_startI (by decide) (Nat.le_of_ble_eq_true rfl) ?_
  intro p e s m below meth c A C hr hlk hA hK hP hD hS ls hl
  have hl : lv_has ls 1 [(0, .int a0)] := hl
  have hx := C.1
  have hb := C.2.1
  unfold f_X12_nextLot at hf
  refine lv_sipush (v := 25173) hx hb dX12_nextLot_0 (by decide) ?_
  refine lv_iload_n hx hb dX12_nextLot_3 rfl (lv_at hl 0 rfl) ?_
  refine lv_imul hx hb dX12_nextLot_4 ?_
  refine lv_sipush (v := 13849) hx hb dX12_nextLot_5 (by decide) ?_
  refine lv_iadd hx hb dX12_nextLot_8 ?_
  refine x_ldc C kc_X12_135 dX12_nextLot_9 ?_
  obtain ⟨hz, hf⟩ := rI_e hf
  refine lv_irem hx hb dX12_nextLot_11 hz ?_
  obtain rfl := ev1 hf
  exact x_iret C hr hlk hP hD hS dX12_nextLot_12
def f_X12_dreadSum_b4 (v_t_now : (Nat → Int32)) (a1 : Int32) : Nat → Int32 → Int32 → Option (Int32)
  | 0, _, _ => none
  | n + 1, l2, l3 =>
    if (16 : Int32) ≤ l3 then
      some l2
    else
      bd1 (f_X12_dreadOf v_t_now a1 l3) (fun r1 =>
      f_X12_dreadSum_b4 v_t_now a1 n (l2 + r1) (l3 + (1 : Int32)))
def f_X12_dreadSum (v_t_now : (Nat → Int32)) (a1 : Int32) : Option (Int32) :=
  f_X12_dreadSum_b4 v_t_now a1 FU (0 : Int32) (0 : Int32)
set_option maxHeartbeats 4000000 in
set_option maxRecDepth 100000 in
theorem c_X12_dreadSum {l : Launch} {D : va_G} {cI cB : ClassId} {A_t A_t_now A_t_aside A_t_kept A_t_rhymeOf A_t_wasRhyme A_t_wordAt A_t_tape A_t_said A_t_waitsAt A_t_saidLetter A_t_saidFrom A_t_saidHalf A_t_saidTo A_t_codes A_t_clauseOf A_t_codeFrom A_t_codeHalf A_t_codeTo A_t_stack A_t_facts A_t_newWords A_t_roundFrom A_t_roundAt A_t_roundTimes A_t_leastFrom A_t_rowNow A_t_bornOf A_t_trainsTo A_t_trainAt : Nat} {x_t_wordMany x_t_taped x_t_place0 x_t_length0 x_t_fault x_t_number0 x_t_open x_t_codeMany x_t_waiting x_t_saidMany x_t_clauses x_t_lines x_t_newMany x_t_rounds x_t_itFrom x_t_itTimes x_t_writtenNow x_t_picturesNow x_t_usedNow x_t_chosen x_t_fearOfChosen x_t_changesNow x_t_left0 x_t_trainMany x_t_leastTries x_t_firstTrained x_t_isKept a1 : Int32} {v_t_now : Nat → Int32} {o_r : Int32} (hf : f_X12_dreadSum v_t_now a1 = some o_r) : CtI l D cI cB yX12_dreadSum cX12_dreadSum 4 (some .int) 1 22 [.ref A_t, .int a1] [oX12 A_t A_t_now A_t_aside A_t_kept A_t_rhymeOf A_t_wasRhyme A_t_wordAt x_t_wordMany A_t_tape x_t_taped x_t_place0 x_t_length0 x_t_fault x_t_number0 x_t_open x_t_codeMany x_t_waiting x_t_saidMany x_t_clauses A_t_said A_t_waitsAt A_t_saidLetter A_t_saidFrom A_t_saidHalf A_t_saidTo A_t_codes A_t_clauseOf A_t_codeFrom A_t_codeHalf A_t_codeTo A_t_stack A_t_facts x_t_lines A_t_newWords A_t_roundFrom A_t_roundAt A_t_roundTimes x_t_newMany x_t_rounds x_t_itFrom x_t_itTimes x_t_writtenNow x_t_picturesNow x_t_usedNow x_t_chosen x_t_fearOfChosen A_t_leastFrom A_t_rowNow x_t_changesNow x_t_left0 A_t_bornOf A_t_trainsTo A_t_trainAt x_t_trainMany x_t_leastTries x_t_firstTrained x_t_isKept, iA cI 293 A_t_now v_t_now] [oX12 A_t A_t_now A_t_aside A_t_kept A_t_rhymeOf A_t_wasRhyme A_t_wordAt x_t_wordMany A_t_tape x_t_taped x_t_place0 x_t_length0 x_t_fault x_t_number0 x_t_open x_t_codeMany x_t_waiting x_t_saidMany x_t_clauses A_t_said A_t_waitsAt A_t_saidLetter A_t_saidFrom A_t_saidHalf A_t_saidTo A_t_codes A_t_clauseOf A_t_codeFrom A_t_codeHalf A_t_codeTo A_t_stack A_t_facts x_t_lines A_t_newWords A_t_roundFrom A_t_roundAt A_t_roundTimes x_t_newMany x_t_rounds x_t_itFrom x_t_itTimes x_t_writtenNow x_t_picturesNow x_t_usedNow x_t_chosen x_t_fearOfChosen A_t_leastFrom A_t_rowNow x_t_changesNow x_t_left0 A_t_bornOf A_t_trainsTo A_t_trainAt x_t_trainMany x_t_leastTries x_t_firstTrained x_t_isKept, iA cI 293 A_t_now v_t_now] o_r := by
  refine x_startI (by decide) (Nat.le_of_ble_eq_true rfl) ?_
  intro p e s m below meth c A C hr hlk hA hK hP hD hS ls hl
  have hl : lv_has ls 4 [(0, .ref A_t), (1, .int a1)] := hl
  have hx := C.1
  have hb := C.2.1
  unfold f_X12_dreadSum at hf
  have hb_4 : ∀ (n_4 : Nat) (l2 : Int32) (l3 : Int32) (H : Heap) (locs : List Loc) (ls : Array Slot), lv_has ls 4 [(0, .ref A_t), (1, .int a1), (2, .int l2), (3, .int l3)] → va_P D vwCl [oX12 A_t A_t_now A_t_aside A_t_kept A_t_rhymeOf A_t_wasRhyme A_t_wordAt x_t_wordMany A_t_tape x_t_taped x_t_place0 x_t_length0 x_t_fault x_t_number0 x_t_open x_t_codeMany x_t_waiting x_t_saidMany x_t_clauses A_t_said A_t_waitsAt A_t_saidLetter A_t_saidFrom A_t_saidHalf A_t_saidTo A_t_codes A_t_clauseOf A_t_codeFrom A_t_codeHalf A_t_codeTo A_t_stack A_t_facts x_t_lines A_t_newWords A_t_roundFrom A_t_roundAt A_t_roundTimes x_t_newMany x_t_rounds x_t_itFrom x_t_itTimes x_t_writtenNow x_t_picturesNow x_t_usedNow x_t_chosen x_t_fearOfChosen A_t_leastFrom A_t_rowNow x_t_changesNow x_t_left0 A_t_bornOf A_t_trainsTo A_t_trainAt x_t_trainMany x_t_leastTries x_t_firstTrained x_t_isKept, iA cI 293 A_t_now v_t_now] H → va_D A [oX12 A_t A_t_now A_t_aside A_t_kept A_t_rhymeOf A_t_wasRhyme A_t_wordAt x_t_wordMany A_t_tape x_t_taped x_t_place0 x_t_length0 x_t_fault x_t_number0 x_t_open x_t_codeMany x_t_waiting x_t_saidMany x_t_clauses A_t_said A_t_waitsAt A_t_saidLetter A_t_saidFrom A_t_saidHalf A_t_saidTo A_t_codes A_t_clauseOf A_t_codeFrom A_t_codeHalf A_t_codeTo A_t_stack A_t_facts x_t_lines A_t_newWords A_t_roundFrom A_t_roundAt A_t_roundTimes x_t_newMany x_t_rounds x_t_itFrom x_t_itTimes x_t_writtenNow x_t_picturesNow x_t_usedNow x_t_chosen x_t_fearOfChosen A_t_leastFrom A_t_rowNow x_t_changesNow x_t_left0 A_t_bornOf A_t_trainsTo A_t_trainAt x_t_trainMany x_t_leastTries x_t_firstTrained x_t_isKept, iA cI 293 A_t_now v_t_now] → va_S A s.heap H locs → f_X12_dreadSum_b4 v_t_now a1 n_4 l2 l3 = some o_r → W p l e { frames := 1, cells := 0, slots := 0, locals := 22 } s m ([.ref A_t, .int a1] : List Value).toArray below meth c H locs 0 0 (MQ below (PoI D A [oX12 A_t A_t_now A_t_aside A_t_kept A_t_rhymeOf A_t_wasRhyme A_t_wordAt x_t_wordMany A_t_tape x_t_taped x_t_place0 x_t_length0 x_t_fault x_t_number0 x_t_open x_t_codeMany x_t_waiting x_t_saidMany x_t_clauses A_t_said A_t_waitsAt A_t_saidLetter A_t_saidFrom A_t_saidHalf A_t_saidTo A_t_codes A_t_clauseOf A_t_codeFrom A_t_codeHalf A_t_codeTo A_t_stack A_t_facts x_t_lines A_t_newWords A_t_roundFrom A_t_roundAt A_t_roundTimes x_t_newMany x_t_rounds x_t_itFrom x_t_itTimes x_t_writtenNow x_t_picturesNow x_t_usedNow x_t_chosen x_t_fearOfChosen A_t_leastFrom A_t_rowNow x_t_changesNow x_t_left0 A_t_bornOf A_t_trainsTo A_t_trainAt x_t_trainMany x_t_leastTries x_t_firstTrained x_t_isKept, iA cI 293 A_t_now v_t_now] o_r) ([.ref A_t, .int a1] : List Value).toArray s 0 0 A) (F0 m 4 ls []) := by
    intro n_4
    induction n_4 with
    | zero =>
      intro l2 l3 H locs ls hl hP hD hS hf
      exact absurd hf (fun h => by rw [f_X12_dreadSum_b4] at h; cases h)
    | succ n_4 ih_4 =>
      intro l2 l3 H locs ls hl hP hD hS hf
      rw [f_X12_dreadSum_b4] at hf
      refine lv_iload_n hx hb dX12_dreadSum_4 rfl (lv_at hl 3 rfl) ?_
      refine lv_bipush (v := 16) hx hb dX12_dreadSum_5 (by decide) ?_
      refine lv_icmp_ge (tgt := 25) hx hb dX12_dreadSum_7 (by decide) (fun q => ?_) (fun q => ?_)
      · have hf := if_t q hf
        refine lv_iload_n hx hb dX12_dreadSum_25 rfl (lv_at hl 2 rfl) ?_
        obtain rfl := ev1 hf
        exact x_iret C hr hlk hP hD hS dX12_dreadSum_26
      · have hf := if_f q hf
        refine lv_iload_n hx hb dX12_dreadSum_10 rfl (lv_at hl 2 rfl) ?_
        refine lv_aload_n hx hb dX12_dreadSum_11 rfl (lv_at hl 0 rfl) ?_
        refine lv_iload_n hx hb dX12_dreadSum_12 rfl (lv_at hl 1 rfl) ?_
        refine lv_iload_n hx hb dX12_dreadSum_13 rfl (lv_at hl 3 rfl) ?_
        obtain ⟨r1, hc2, hf⟩ := bd1_e hf
        refine x_callVI (ws' := [oX12 A_t A_t_now A_t_aside A_t_kept A_t_rhymeOf A_t_wasRhyme A_t_wordAt x_t_wordMany A_t_tape x_t_taped x_t_place0 x_t_length0 x_t_fault x_t_number0 x_t_open x_t_codeMany x_t_waiting x_t_saidMany x_t_clauses A_t_said A_t_waitsAt A_t_saidLetter A_t_saidFrom A_t_saidHalf A_t_saidTo A_t_codes A_t_clauseOf A_t_codeFrom A_t_codeHalf A_t_codeTo A_t_stack A_t_facts x_t_lines A_t_newWords A_t_roundFrom A_t_roundAt A_t_roundTimes x_t_newMany x_t_rounds x_t_itFrom x_t_itTimes x_t_writtenNow x_t_picturesNow x_t_usedNow x_t_chosen x_t_fearOfChosen A_t_leastFrom A_t_rowNow x_t_changesNow x_t_left0 A_t_bornOf A_t_trainsTo A_t_trainAt x_t_trainMany x_t_leastTries x_t_firstTrained x_t_isKept, iA cI 293 A_t_now v_t_now]) (rest := [.int l2]) C hK hP hD hS hA hl mf_X12_113 (c_X12_dreadOf hc2) [0, 1] 0 12 rfl rfl rfl rfl rfl rfl rfl rfl rfl rfl (Nat.le_of_ble_eq_true rfl) ⟨Nat.le_of_ble_eq_true rfl, Nat.le_of_ble_eq_true rfl⟩ ⟨Nat.le_refl _, Nat.le_refl _⟩ dX12_dreadSum_14 ?_
        intro H locs hP hD hS
        refine lv_iadd hx hb dX12_dreadSum_17 ?_
        refine lv_istore_n (lv' := [(2, .int (l2 + r1)), (0, .ref A_t), (1, .int a1), (3, .int l3)]) hx hb dX12_dreadSum_18 rfl hl (by decide) rfl (fun ls hl => ?_)
        refine lv_iinc (v := (l3 + (1 : Int32))) (lv' := [(3, .int (l3 + (1 : Int32))), (2, .int (l2 + r1)), (0, .ref A_t), (1, .int a1)]) hx hb dX12_dreadSum_19 hl (k := 3) rfl rfl (by decide) rfl (fun ls hl => ?_)
        refine lv_goto (tgt := 4) hx hb dX12_dreadSum_22 (by decide) ?_
        exact ih_4 (l2 + r1) (l3 + (1 : Int32)) _ _ ls (lv_sub hl [2, 3, 1, 0] rfl) hP hD hS hf
  refine lv_iconst (v := 0) hx hb dX12_dreadSum_0 (by decide) ?_
  refine lv_istore_n (lv' := [(2, .int (0 : Int32)), (0, .ref A_t), (1, .int a1)]) hx hb dX12_dreadSum_1 rfl hl (by decide) rfl (fun ls hl => ?_)
  refine lv_iconst (v := 0) hx hb dX12_dreadSum_2 (by decide) ?_
  refine lv_istore_n (lv' := [(3, .int (0 : Int32)), (2, .int (0 : Int32)), (0, .ref A_t), (1, .int a1)]) hx hb dX12_dreadSum_3 rfl hl (by decide) rfl (fun ls hl => ?_)
  exact hb_4 FU (0 : Int32) (0 : Int32) _ _ ls (lv_sub hl [2, 3, 1, 0] rfl) hP hD hS hf
def f_X12_pressed_b18 (v_t_now : (Nat → Int32)) : Option (Int32 × (Nat → Int32)) :=
  some ((-1 : Int32), v_t_now)
def f_X12_pressed_b30 (a1 : Int32) : Nat → (Nat → Int32) → Int32 → Int32 → Option (Int32 × (Nat → Int32))
  | 0, _, _, _ => none
  | n + 1, v_t_now, l3, l4 =>
    if (16 : Int32) ≤ l4 then
      bd1 (f_X12_dreadSum v_t_now a1) (fun r1 =>
      some (r1, v_t_now))
    else
      bd1 (f_X12_nextLot l3) (fun r2 =>
      rI r2 (10 : Int32) (fun g3 =>
      bd1 (f_X12_nextLot r2) (fun r4 =>
      rI r4 (10 : Int32) (fun g5 =>
      sI 293 v_t_now (((32 : Int32) + ((16 : Int32) * a1)) + l4) (((10 : Int32) * g3) + g5) (fun w6 =>
      f_X12_pressed_b30 a1 n w6 r4 (l4 + (1 : Int32)))))))
def f_X12_pressed (v_t_now : (Nat → Int32)) (a1 : Int32) (a2 : Int32) : Option (Int32 × (Nat → Int32)) :=
  bd1 (f_X12_isTold v_t_now a1) (fun r7 =>
  if r7 = 0 then
    f_X12_pressed_b18 v_t_now
  else
    bd1 (f_X12_in a2 (0 : Int32) (65535 : Int32)) (fun r8 =>
    if r8 = 0 then
      f_X12_pressed_b18 v_t_now
    else
      bd1 (f_X12_becomesNew v_t_now a1) (fun w9 =>
      f_X12_pressed_b30 a1 FU w9 a2 (0 : Int32))))
set_option maxHeartbeats 4000000 in
set_option maxRecDepth 100000 in
theorem c_X12_pressed {l : Launch} {D : va_G} {cI cB : ClassId} {A_t A_t_now A_t_aside A_t_kept A_t_rhymeOf A_t_wasRhyme A_t_wordAt A_t_tape A_t_said A_t_waitsAt A_t_saidLetter A_t_saidFrom A_t_saidHalf A_t_saidTo A_t_codes A_t_clauseOf A_t_codeFrom A_t_codeHalf A_t_codeTo A_t_stack A_t_facts A_t_newWords A_t_roundFrom A_t_roundAt A_t_roundTimes A_t_leastFrom A_t_rowNow A_t_bornOf A_t_trainsTo A_t_trainAt : Nat} {x_t_wordMany x_t_taped x_t_place0 x_t_length0 x_t_fault x_t_number0 x_t_open x_t_codeMany x_t_waiting x_t_saidMany x_t_clauses x_t_lines x_t_newMany x_t_rounds x_t_itFrom x_t_itTimes x_t_writtenNow x_t_picturesNow x_t_usedNow x_t_chosen x_t_fearOfChosen x_t_changesNow x_t_left0 x_t_trainMany x_t_leastTries x_t_firstTrained x_t_isKept a1 a2 : Int32} {v_t_now : Nat → Int32} {o_r : Int32} {o_v_t_now : Nat → Int32} (hf : f_X12_pressed v_t_now a1 a2 = some (o_r, o_v_t_now)) : CtI l D cI cB yX12_pressed cX12_pressed 6 (some .int) 2 45 [.ref A_t, .int a1, .int a2] [oX12 A_t A_t_now A_t_aside A_t_kept A_t_rhymeOf A_t_wasRhyme A_t_wordAt x_t_wordMany A_t_tape x_t_taped x_t_place0 x_t_length0 x_t_fault x_t_number0 x_t_open x_t_codeMany x_t_waiting x_t_saidMany x_t_clauses A_t_said A_t_waitsAt A_t_saidLetter A_t_saidFrom A_t_saidHalf A_t_saidTo A_t_codes A_t_clauseOf A_t_codeFrom A_t_codeHalf A_t_codeTo A_t_stack A_t_facts x_t_lines A_t_newWords A_t_roundFrom A_t_roundAt A_t_roundTimes x_t_newMany x_t_rounds x_t_itFrom x_t_itTimes x_t_writtenNow x_t_picturesNow x_t_usedNow x_t_chosen x_t_fearOfChosen A_t_leastFrom A_t_rowNow x_t_changesNow x_t_left0 A_t_bornOf A_t_trainsTo A_t_trainAt x_t_trainMany x_t_leastTries x_t_firstTrained x_t_isKept, iA cI 293 A_t_now v_t_now] [oX12 A_t A_t_now A_t_aside A_t_kept A_t_rhymeOf A_t_wasRhyme A_t_wordAt x_t_wordMany A_t_tape x_t_taped x_t_place0 x_t_length0 x_t_fault x_t_number0 x_t_open x_t_codeMany x_t_waiting x_t_saidMany x_t_clauses A_t_said A_t_waitsAt A_t_saidLetter A_t_saidFrom A_t_saidHalf A_t_saidTo A_t_codes A_t_clauseOf A_t_codeFrom A_t_codeHalf A_t_codeTo A_t_stack A_t_facts x_t_lines A_t_newWords A_t_roundFrom A_t_roundAt A_t_roundTimes x_t_newMany x_t_rounds x_t_itFrom x_t_itTimes x_t_writtenNow x_t_picturesNow x_t_usedNow x_t_chosen x_t_fearOfChosen A_t_leastFrom A_t_rowNow x_t_changesNow x_t_left0 A_t_bornOf A_t_trainsTo A_t_trainAt x_t_trainMany x_t_leastTries x_t_firstTrained x_t_isKept, iA cI 293 A_t_now o_v_t_now] o_r := by
  refine x_startI (by decide) (Nat.le_of_ble_eq_true rfl) ?_
  intro p e s m below meth c A C hr hlk hA hK hP hD hS ls hl
  have hl : lv_has ls 6 [(0, .ref A_t), (1, .int a1), (2, .int a2)] := hl
  have hx := C.1
  have hb := C.2.1
  unfold f_X12_pressed at hf
  have hb_18 : ∀ (v_t_now : (Nat → Int32)) (H : Heap) (locs : List Loc) (ls : Array Slot), lv_has ls 6 [] → va_P D vwCl [oX12 A_t A_t_now A_t_aside A_t_kept A_t_rhymeOf A_t_wasRhyme A_t_wordAt x_t_wordMany A_t_tape x_t_taped x_t_place0 x_t_length0 x_t_fault x_t_number0 x_t_open x_t_codeMany x_t_waiting x_t_saidMany x_t_clauses A_t_said A_t_waitsAt A_t_saidLetter A_t_saidFrom A_t_saidHalf A_t_saidTo A_t_codes A_t_clauseOf A_t_codeFrom A_t_codeHalf A_t_codeTo A_t_stack A_t_facts x_t_lines A_t_newWords A_t_roundFrom A_t_roundAt A_t_roundTimes x_t_newMany x_t_rounds x_t_itFrom x_t_itTimes x_t_writtenNow x_t_picturesNow x_t_usedNow x_t_chosen x_t_fearOfChosen A_t_leastFrom A_t_rowNow x_t_changesNow x_t_left0 A_t_bornOf A_t_trainsTo A_t_trainAt x_t_trainMany x_t_leastTries x_t_firstTrained x_t_isKept, iA cI 293 A_t_now v_t_now] H → va_D A [oX12 A_t A_t_now A_t_aside A_t_kept A_t_rhymeOf A_t_wasRhyme A_t_wordAt x_t_wordMany A_t_tape x_t_taped x_t_place0 x_t_length0 x_t_fault x_t_number0 x_t_open x_t_codeMany x_t_waiting x_t_saidMany x_t_clauses A_t_said A_t_waitsAt A_t_saidLetter A_t_saidFrom A_t_saidHalf A_t_saidTo A_t_codes A_t_clauseOf A_t_codeFrom A_t_codeHalf A_t_codeTo A_t_stack A_t_facts x_t_lines A_t_newWords A_t_roundFrom A_t_roundAt A_t_roundTimes x_t_newMany x_t_rounds x_t_itFrom x_t_itTimes x_t_writtenNow x_t_picturesNow x_t_usedNow x_t_chosen x_t_fearOfChosen A_t_leastFrom A_t_rowNow x_t_changesNow x_t_left0 A_t_bornOf A_t_trainsTo A_t_trainAt x_t_trainMany x_t_leastTries x_t_firstTrained x_t_isKept, iA cI 293 A_t_now v_t_now] → va_S A s.heap H locs → f_X12_pressed_b18 v_t_now = some (o_r, o_v_t_now) → W p l e { frames := 2, cells := 0, slots := 0, locals := 45 } s m ([.ref A_t, .int a1, .int a2] : List Value).toArray below meth c H locs 0 0 (MQ below (PoI D A [oX12 A_t A_t_now A_t_aside A_t_kept A_t_rhymeOf A_t_wasRhyme A_t_wordAt x_t_wordMany A_t_tape x_t_taped x_t_place0 x_t_length0 x_t_fault x_t_number0 x_t_open x_t_codeMany x_t_waiting x_t_saidMany x_t_clauses A_t_said A_t_waitsAt A_t_saidLetter A_t_saidFrom A_t_saidHalf A_t_saidTo A_t_codes A_t_clauseOf A_t_codeFrom A_t_codeHalf A_t_codeTo A_t_stack A_t_facts x_t_lines A_t_newWords A_t_roundFrom A_t_roundAt A_t_roundTimes x_t_newMany x_t_rounds x_t_itFrom x_t_itTimes x_t_writtenNow x_t_picturesNow x_t_usedNow x_t_chosen x_t_fearOfChosen A_t_leastFrom A_t_rowNow x_t_changesNow x_t_left0 A_t_bornOf A_t_trainsTo A_t_trainAt x_t_trainMany x_t_leastTries x_t_firstTrained x_t_isKept, iA cI 293 A_t_now o_v_t_now] o_r) ([.ref A_t, .int a1, .int a2] : List Value).toArray s 0 0 A) (F0 m 18 ls []) := by
    intro v_t_now H locs ls hl hP hD hS hf
    unfold f_X12_pressed_b18 at hf
    refine lv_iconst (v := -1) hx hb dX12_pressed_18 (by decide) ?_
    obtain ⟨rfl, rfl⟩ := ev2 hf
    exact x_iret C hr hlk hP hD hS dX12_pressed_19
  have hb_30 : ∀ (n_30 : Nat) (v_t_now : (Nat → Int32)) (l3 : Int32) (l4 : Int32) (H : Heap) (locs : List Loc) (ls : Array Slot), lv_has ls 6 [(0, .ref A_t), (1, .int a1), (3, .int l3), (4, .int l4)] → va_P D vwCl [oX12 A_t A_t_now A_t_aside A_t_kept A_t_rhymeOf A_t_wasRhyme A_t_wordAt x_t_wordMany A_t_tape x_t_taped x_t_place0 x_t_length0 x_t_fault x_t_number0 x_t_open x_t_codeMany x_t_waiting x_t_saidMany x_t_clauses A_t_said A_t_waitsAt A_t_saidLetter A_t_saidFrom A_t_saidHalf A_t_saidTo A_t_codes A_t_clauseOf A_t_codeFrom A_t_codeHalf A_t_codeTo A_t_stack A_t_facts x_t_lines A_t_newWords A_t_roundFrom A_t_roundAt A_t_roundTimes x_t_newMany x_t_rounds x_t_itFrom x_t_itTimes x_t_writtenNow x_t_picturesNow x_t_usedNow x_t_chosen x_t_fearOfChosen A_t_leastFrom A_t_rowNow x_t_changesNow x_t_left0 A_t_bornOf A_t_trainsTo A_t_trainAt x_t_trainMany x_t_leastTries x_t_firstTrained x_t_isKept, iA cI 293 A_t_now v_t_now] H → va_D A [oX12 A_t A_t_now A_t_aside A_t_kept A_t_rhymeOf A_t_wasRhyme A_t_wordAt x_t_wordMany A_t_tape x_t_taped x_t_place0 x_t_length0 x_t_fault x_t_number0 x_t_open x_t_codeMany x_t_waiting x_t_saidMany x_t_clauses A_t_said A_t_waitsAt A_t_saidLetter A_t_saidFrom A_t_saidHalf A_t_saidTo A_t_codes A_t_clauseOf A_t_codeFrom A_t_codeHalf A_t_codeTo A_t_stack A_t_facts x_t_lines A_t_newWords A_t_roundFrom A_t_roundAt A_t_roundTimes x_t_newMany x_t_rounds x_t_itFrom x_t_itTimes x_t_writtenNow x_t_picturesNow x_t_usedNow x_t_chosen x_t_fearOfChosen A_t_leastFrom A_t_rowNow x_t_changesNow x_t_left0 A_t_bornOf A_t_trainsTo A_t_trainAt x_t_trainMany x_t_leastTries x_t_firstTrained x_t_isKept, iA cI 293 A_t_now v_t_now] → va_S A s.heap H locs → f_X12_pressed_b30 a1 n_30 v_t_now l3 l4 = some (o_r, o_v_t_now) → W p l e { frames := 2, cells := 0, slots := 0, locals := 45 } s m ([.ref A_t, .int a1, .int a2] : List Value).toArray below meth c H locs 0 0 (MQ below (PoI D A [oX12 A_t A_t_now A_t_aside A_t_kept A_t_rhymeOf A_t_wasRhyme A_t_wordAt x_t_wordMany A_t_tape x_t_taped x_t_place0 x_t_length0 x_t_fault x_t_number0 x_t_open x_t_codeMany x_t_waiting x_t_saidMany x_t_clauses A_t_said A_t_waitsAt A_t_saidLetter A_t_saidFrom A_t_saidHalf A_t_saidTo A_t_codes A_t_clauseOf A_t_codeFrom A_t_codeHalf A_t_codeTo A_t_stack A_t_facts x_t_lines A_t_newWords A_t_roundFrom A_t_roundAt A_t_roundTimes x_t_newMany x_t_rounds x_t_itFrom x_t_itTimes x_t_writtenNow x_t_picturesNow x_t_usedNow x_t_chosen x_t_fearOfChosen A_t_leastFrom A_t_rowNow x_t_changesNow x_t_left0 A_t_bornOf A_t_trainsTo A_t_trainAt x_t_trainMany x_t_leastTries x_t_firstTrained x_t_isKept, iA cI 293 A_t_now o_v_t_now] o_r) ([.ref A_t, .int a1, .int a2] : List Value).toArray s 0 0 A) (F0 m 30 ls []) := by
    intro n_30
    induction n_30 with
    | zero =>
      intro v_t_now l3 l4 H locs ls hl hP hD hS hf
      exact absurd hf (fun h => by rw [f_X12_pressed_b30] at h; cases h)
    | succ n_30 ih_30 =>
      intro v_t_now l3 l4 H locs ls hl hP hD hS hf
      rw [f_X12_pressed_b30] at hf
      refine lv_iload hx hb dX12_pressed_30 (lv_at hl 3 rfl) ?_
      refine lv_bipush (v := 16) hx hb dX12_pressed_32 (by decide) ?_
      refine lv_icmp_ge (tgt := 84) hx hb dX12_pressed_34 (by decide) (fun q => ?_) (fun q => ?_)
      · have hf := if_t q hf
        refine lv_aload_n hx hb dX12_pressed_84 rfl (lv_at hl 0 rfl) ?_
        refine lv_iload_n hx hb dX12_pressed_85 rfl (lv_at hl 1 rfl) ?_
        obtain ⟨r1, hc2, hf⟩ := bd1_e hf
        refine x_callVI (ws' := [oX12 A_t A_t_now A_t_aside A_t_kept A_t_rhymeOf A_t_wasRhyme A_t_wordAt x_t_wordMany A_t_tape x_t_taped x_t_place0 x_t_length0 x_t_fault x_t_number0 x_t_open x_t_codeMany x_t_waiting x_t_saidMany x_t_clauses A_t_said A_t_waitsAt A_t_saidLetter A_t_saidFrom A_t_saidHalf A_t_saidTo A_t_codes A_t_clauseOf A_t_codeFrom A_t_codeHalf A_t_codeTo A_t_stack A_t_facts x_t_lines A_t_newWords A_t_roundFrom A_t_roundAt A_t_roundTimes x_t_newMany x_t_rounds x_t_itFrom x_t_itTimes x_t_writtenNow x_t_picturesNow x_t_usedNow x_t_chosen x_t_fearOfChosen A_t_leastFrom A_t_rowNow x_t_changesNow x_t_left0 A_t_bornOf A_t_trainsTo A_t_trainAt x_t_trainMany x_t_leastTries x_t_firstTrained x_t_isKept, iA cI 293 A_t_now v_t_now]) (rest := []) C hK hP hD hS hA hl mf_X12_140 (c_X12_dreadSum hc2) [0, 1] 0 12 rfl rfl rfl rfl rfl rfl rfl rfl rfl rfl (Nat.le_of_ble_eq_true rfl) ⟨Nat.le_of_ble_eq_true rfl, Nat.le_of_ble_eq_true rfl⟩ ⟨Nat.le_refl _, Nat.le_refl _⟩ dX12_pressed_86 ?_
        intro H locs hP hD hS
        obtain ⟨rfl, rfl⟩ := ev2 hf
        exact x_iret C hr hlk hP hD hS dX12_pressed_89
      · have hf := if_f q hf
        refine lv_iload_n hx hb dX12_pressed_37 rfl (lv_at hl 2 rfl) ?_
        obtain ⟨r3, hc4, hf⟩ := bd1_e hf
        refine x_callSI (ws' := [oX12 A_t A_t_now A_t_aside A_t_kept A_t_rhymeOf A_t_wasRhyme A_t_wordAt x_t_wordMany A_t_tape x_t_taped x_t_place0 x_t_length0 x_t_fault x_t_number0 x_t_open x_t_codeMany x_t_waiting x_t_saidMany x_t_clauses A_t_said A_t_waitsAt A_t_saidLetter A_t_saidFrom A_t_saidHalf A_t_saidTo A_t_codes A_t_clauseOf A_t_codeFrom A_t_codeHalf A_t_codeTo A_t_stack A_t_facts x_t_lines A_t_newWords A_t_roundFrom A_t_roundAt A_t_roundTimes x_t_newMany x_t_rounds x_t_itFrom x_t_itTimes x_t_writtenNow x_t_picturesNow x_t_usedNow x_t_chosen x_t_fearOfChosen A_t_leastFrom A_t_rowNow x_t_changesNow x_t_left0 A_t_bornOf A_t_trainsTo A_t_trainAt x_t_trainMany x_t_leastTries x_t_firstTrained x_t_isKept, iA cI 293 A_t_now v_t_now]) (rest := []) C hK hP hD hS hA hl mf_X12_137 (c_X12_nextLot hc4) [] rfl rfl rfl rfl rfl rfl rfl rfl (Nat.le_of_ble_eq_true rfl) ⟨Nat.le_of_ble_eq_true rfl, Nat.le_of_ble_eq_true rfl⟩ ⟨Nat.le_refl _, Nat.le_refl _⟩ dX12_pressed_38 ?_
        intro H locs hP hD hS
        refine lv_istore_n (lv' := [(3, .int r3), (0, .ref A_t), (1, .int a1), (4, .int l4)]) hx hb dX12_pressed_41 rfl hl (by decide) rfl (fun ls hl => ?_)
        refine lv_iload_n hx hb dX12_pressed_42 rfl (lv_at hl 0 rfl) ?_
        refine lv_bipush (v := 10) hx hb dX12_pressed_43 (by decide) ?_
        obtain ⟨hz, hf⟩ := rI_e hf
        refine lv_irem hx hb dX12_pressed_45 hz ?_
        refine lv_istore (lv' := [(5, .int (r3 - r3 / (10 : Int32) * (10 : Int32))), (3, .int r3), (0, .ref A_t), (1, .int a1), (4, .int l4)]) hx hb dX12_pressed_46 hl (by decide) rfl (fun ls hl => ?_)
        refine lv_iload_n hx hb dX12_pressed_48 rfl (lv_at hl 1 rfl) ?_
        obtain ⟨r5, hc6, hf⟩ := bd1_e hf
        refine x_callSI (ws' := [oX12 A_t A_t_now A_t_aside A_t_kept A_t_rhymeOf A_t_wasRhyme A_t_wordAt x_t_wordMany A_t_tape x_t_taped x_t_place0 x_t_length0 x_t_fault x_t_number0 x_t_open x_t_codeMany x_t_waiting x_t_saidMany x_t_clauses A_t_said A_t_waitsAt A_t_saidLetter A_t_saidFrom A_t_saidHalf A_t_saidTo A_t_codes A_t_clauseOf A_t_codeFrom A_t_codeHalf A_t_codeTo A_t_stack A_t_facts x_t_lines A_t_newWords A_t_roundFrom A_t_roundAt A_t_roundTimes x_t_newMany x_t_rounds x_t_itFrom x_t_itTimes x_t_writtenNow x_t_picturesNow x_t_usedNow x_t_chosen x_t_fearOfChosen A_t_leastFrom A_t_rowNow x_t_changesNow x_t_left0 A_t_bornOf A_t_trainsTo A_t_trainAt x_t_trainMany x_t_leastTries x_t_firstTrained x_t_isKept, iA cI 293 A_t_now v_t_now]) (rest := []) C hK hP hD hS hA hl mf_X12_137 (c_X12_nextLot hc6) [] rfl rfl rfl rfl rfl rfl rfl rfl (Nat.le_of_ble_eq_true rfl) ⟨Nat.le_of_ble_eq_true rfl, Nat.le_of_ble_eq_true rfl⟩ ⟨Nat.le_refl _, Nat.le_refl _⟩ dX12_pressed_49 ?_
        intro H locs hP hD hS
        refine lv_istore_n (lv' := [(3, .int r5), (5, .int (r3 - r3 / (10 : Int32) * (10 : Int32))), (0, .ref A_t), (1, .int a1), (4, .int l4)]) hx hb dX12_pressed_52 rfl hl (by decide) rfl (fun ls hl => ?_)
        refine lv_aload_n hx hb dX12_pressed_53 rfl (lv_at hl 2 rfl) ?_
        refine x_get C hK hP fd_X12_7 0 rfl rfl dX12_pressed_54 ?_
        refine lv_bipush (v := 32) hx hb dX12_pressed_57 (by decide) ?_
        refine lv_bipush (v := 16) hx hb dX12_pressed_59 (by decide) ?_
        refine lv_iload_n hx hb dX12_pressed_61 rfl (lv_at hl 3 rfl) ?_
        refine lv_imul hx hb dX12_pressed_62 ?_
        refine lv_iadd hx hb dX12_pressed_63 ?_
        refine lv_iload hx hb dX12_pressed_64 (lv_at hl 4 rfl) ?_
        refine lv_iadd hx hb dX12_pressed_66 ?_
        refine lv_bipush (v := 10) hx hb dX12_pressed_67 (by decide) ?_
        refine lv_iload hx hb dX12_pressed_69 (lv_at hl 1 rfl) ?_
        refine lv_imul hx hb dX12_pressed_71 ?_
        refine lv_iload_n hx hb dX12_pressed_72 rfl (lv_at hl 0 rfl) ?_
        refine lv_bipush (v := 10) hx hb dX12_pressed_73 (by decide) ?_
        obtain ⟨hz, hf⟩ := rI_e hf
        refine lv_irem hx hb dX12_pressed_75 hz ?_
        refine lv_iadd hx hb dX12_pressed_76 ?_
        obtain ⟨hi, hf⟩ := sI_e hf
        refine x_iast (ws' := [oX12 A_t A_t_now A_t_aside A_t_kept A_t_rhymeOf A_t_wasRhyme A_t_wordAt x_t_wordMany A_t_tape x_t_taped x_t_place0 x_t_length0 x_t_fault x_t_number0 x_t_open x_t_codeMany x_t_waiting x_t_saidMany x_t_clauses A_t_said A_t_waitsAt A_t_saidLetter A_t_saidFrom A_t_saidHalf A_t_saidTo A_t_codes A_t_clauseOf A_t_codeFrom A_t_codeHalf A_t_codeTo A_t_stack A_t_facts x_t_lines A_t_newWords A_t_roundFrom A_t_roundAt A_t_roundTimes x_t_newMany x_t_rounds x_t_itFrom x_t_itTimes x_t_writtenNow x_t_picturesNow x_t_usedNow x_t_chosen x_t_fearOfChosen A_t_leastFrom A_t_rowNow x_t_changesNow x_t_left0 A_t_bornOf A_t_trainsTo A_t_trainAt x_t_trainMany x_t_leastTries x_t_firstTrained x_t_isKept, iA cI 293 A_t_now (upd v_t_now (((32 : Int32) + ((16 : Int32) * a1)) + l4).toNatClampNeg (((10 : Int32) * (r3 - r3 / (10 : Int32) * (10 : Int32))) + (r5 - r5 / (10 : Int32) * (10 : Int32))))]) C hK hP hD hS 1 rfl hi rfl dX12_pressed_77 ?_
        intro H locs hP hD hS
        refine lv_iinc (v := (l4 + (1 : Int32))) (lv' := [(4, .int (l4 + (1 : Int32))), (3, .int r5), (5, .int (r3 - r3 / (10 : Int32) * (10 : Int32))), (0, .ref A_t), (1, .int a1)]) hx hb dX12_pressed_78 hl (k := 4) rfl rfl (by decide) rfl (fun ls hl => ?_)
        refine lv_goto (tgt := 30) hx hb dX12_pressed_81 (by decide) ?_
        exact ih_30 (upd v_t_now (((32 : Int32) + ((16 : Int32) * a1)) + l4).toNatClampNeg (((10 : Int32) * (r3 - r3 / (10 : Int32) * (10 : Int32))) + (r5 - r5 / (10 : Int32) * (10 : Int32)))) r5 (l4 + (1 : Int32)) _ _ ls (lv_sub hl [3, 4, 1, 0] rfl) hP hD hS hf
  refine lv_aload_n hx hb dX12_pressed_0 rfl (lv_at hl 0 rfl) ?_
  refine lv_iload_n hx hb dX12_pressed_1 rfl (lv_at hl 1 rfl) ?_
  obtain ⟨r7, hc8, hf⟩ := bd1_e hf
  refine x_callVI (ws' := [oX12 A_t A_t_now A_t_aside A_t_kept A_t_rhymeOf A_t_wasRhyme A_t_wordAt x_t_wordMany A_t_tape x_t_taped x_t_place0 x_t_length0 x_t_fault x_t_number0 x_t_open x_t_codeMany x_t_waiting x_t_saidMany x_t_clauses A_t_said A_t_waitsAt A_t_saidLetter A_t_saidFrom A_t_saidHalf A_t_saidTo A_t_codes A_t_clauseOf A_t_codeFrom A_t_codeHalf A_t_codeTo A_t_stack A_t_facts x_t_lines A_t_newWords A_t_roundFrom A_t_roundAt A_t_roundTimes x_t_newMany x_t_rounds x_t_itFrom x_t_itTimes x_t_writtenNow x_t_picturesNow x_t_usedNow x_t_chosen x_t_fearOfChosen A_t_leastFrom A_t_rowNow x_t_changesNow x_t_left0 A_t_bornOf A_t_trainsTo A_t_trainAt x_t_trainMany x_t_leastTries x_t_firstTrained x_t_isKept, iA cI 293 A_t_now v_t_now]) (rest := []) C hK hP hD hS hA hl mf_X12_109 (c_X12_isTold hc8) [0, 1] 0 12 rfl rfl rfl rfl rfl rfl rfl rfl rfl rfl (Nat.le_of_ble_eq_true rfl) ⟨Nat.le_of_ble_eq_true rfl, Nat.le_of_ble_eq_true rfl⟩ ⟨Nat.le_refl _, Nat.le_refl _⟩ dX12_pressed_2 ?_
  intro H locs hP hD hS
  refine lv_if_eq (tgt := 18) hx hb dX12_pressed_5 (by decide) (fun q => ?_) (fun q => ?_)
  · have hf := if_t q hf
    exact hb_18 v_t_now _ _ ls (lv_sub hl [] rfl) hP hD hS hf
  · have hf := if_f q hf
    refine lv_iload_n hx hb dX12_pressed_8 rfl (lv_at hl 2 rfl) ?_
    refine lv_iconst (v := 0) hx hb dX12_pressed_9 (by decide) ?_
    refine x_ldc C kc_X12_136 dX12_pressed_10 ?_
    obtain ⟨r9, hc10, hf⟩ := bd1_e hf
    refine x_callSI (ws' := [oX12 A_t A_t_now A_t_aside A_t_kept A_t_rhymeOf A_t_wasRhyme A_t_wordAt x_t_wordMany A_t_tape x_t_taped x_t_place0 x_t_length0 x_t_fault x_t_number0 x_t_open x_t_codeMany x_t_waiting x_t_saidMany x_t_clauses A_t_said A_t_waitsAt A_t_saidLetter A_t_saidFrom A_t_saidHalf A_t_saidTo A_t_codes A_t_clauseOf A_t_codeFrom A_t_codeHalf A_t_codeTo A_t_stack A_t_facts x_t_lines A_t_newWords A_t_roundFrom A_t_roundAt A_t_roundTimes x_t_newMany x_t_rounds x_t_itFrom x_t_itTimes x_t_writtenNow x_t_picturesNow x_t_usedNow x_t_chosen x_t_fearOfChosen A_t_leastFrom A_t_rowNow x_t_changesNow x_t_left0 A_t_bornOf A_t_trainsTo A_t_trainAt x_t_trainMany x_t_leastTries x_t_firstTrained x_t_isKept, iA cI 293 A_t_now v_t_now]) (rest := []) C hK hP hD hS hA hl mf_X12_105 (c_X12_in hc10) [] rfl rfl rfl rfl rfl rfl rfl rfl (Nat.le_of_ble_eq_true rfl) ⟨Nat.le_of_ble_eq_true rfl, Nat.le_of_ble_eq_true rfl⟩ ⟨Nat.le_refl _, Nat.le_refl _⟩ dX12_pressed_12 ?_
    intro H locs hP hD hS
    refine lv_if_ne (tgt := 20) hx hb dX12_pressed_15 (by decide) (fun q => ?_) (fun q => ?_)
    · have hf := if_f q hf
      refine lv_aload_n hx hb dX12_pressed_20 rfl (lv_at hl 0 rfl) ?_
      refine lv_iload_n hx hb dX12_pressed_21 rfl (lv_at hl 1 rfl) ?_
      obtain ⟨w11, hc12, hf⟩ := bd1_e hf
      refine x_callVV (ws' := [oX12 A_t A_t_now A_t_aside A_t_kept A_t_rhymeOf A_t_wasRhyme A_t_wordAt x_t_wordMany A_t_tape x_t_taped x_t_place0 x_t_length0 x_t_fault x_t_number0 x_t_open x_t_codeMany x_t_waiting x_t_saidMany x_t_clauses A_t_said A_t_waitsAt A_t_saidLetter A_t_saidFrom A_t_saidHalf A_t_saidTo A_t_codes A_t_clauseOf A_t_codeFrom A_t_codeHalf A_t_codeTo A_t_stack A_t_facts x_t_lines A_t_newWords A_t_roundFrom A_t_roundAt A_t_roundTimes x_t_newMany x_t_rounds x_t_itFrom x_t_itTimes x_t_writtenNow x_t_picturesNow x_t_usedNow x_t_chosen x_t_fearOfChosen A_t_leastFrom A_t_rowNow x_t_changesNow x_t_left0 A_t_bornOf A_t_trainsTo A_t_trainAt x_t_trainMany x_t_leastTries x_t_firstTrained x_t_isKept, iA cI 293 A_t_now w11]) (rest := []) C hK hP hD hS hA hl mf_X12_131 (c_X12_becomesNew hc12) [0, 1] 0 12 rfl rfl rfl rfl rfl rfl rfl rfl rfl rfl (Nat.le_of_ble_eq_true rfl) ⟨Nat.le_of_ble_eq_true rfl, Nat.le_of_ble_eq_true rfl⟩ ⟨Nat.le_refl _, Nat.le_refl _⟩ dX12_pressed_22 ?_
      intro H locs hP hD hS
      refine lv_iload_n hx hb dX12_pressed_25 rfl (lv_at hl 2 rfl) ?_
      refine lv_istore_n (lv' := [(3, .int a2), (0, .ref A_t), (1, .int a1), (2, .int a2)]) hx hb dX12_pressed_26 rfl hl (by decide) rfl (fun ls hl => ?_)
      refine lv_iconst (v := 0) hx hb dX12_pressed_27 (by decide) ?_
      refine lv_istore (lv' := [(4, .int (0 : Int32)), (3, .int a2), (0, .ref A_t), (1, .int a1), (2, .int a2)]) hx hb dX12_pressed_28 hl (by decide) rfl (fun ls hl => ?_)
      exact hb_30 FU w11 a2 (0 : Int32) _ _ ls (lv_sub hl [2, 3, 1, 0] rfl) hP hD hS hf
    · have hf := if_t q hf
      exact hb_18 v_t_now _ _ ls (lv_sub hl [] rfl) hP hD hS hf
