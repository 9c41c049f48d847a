def f_X9_hasRoomFor_b17 (s0 : Int32) : Option (Int32) :=
  zI s0 (some s0)
def f_X9_hasRoomFor (x_t_size : Int32) (a1 : Int32) : Option (Int32) :=
  if (260 : Int32) < (x_t_size + a1) then
    f_X9_hasRoomFor_b17 (0 : Int32)
  else
    f_X9_hasRoomFor_b17 (1 : Int32)
set_option maxHeartbeats 4000000 in
set_option maxRecDepth 100000 in
theorem c_X9_hasRoomFor {l : Launch} {D : va_G} {cI cB : ClassId} {A_t A_t_bytes : Nat} {x_t_size x_t_end x_t_place x_t_fault a1 : Int32} {o_r : Int32} (hf : f_X9_hasRoomFor x_t_size a1 = some o_r) : CtI l D cI cB yX9_hasRoomFor cX9_hasRoomFor 2 (some .boolean) 0 0 [.ref A_t, .int a1] [oX9 A_t A_t_bytes x_t_size x_t_end x_t_place x_t_fault] [oX9 A_t A_t_bytes x_t_size x_t_end x_t_place x_t_fault] o_r := by
  refine x_startI (by decide) (Nat.le_of_ble_eq_true rfl) ?_
  intro p e s m below meth c A C hr hlk hA hK hP hD hS ls hl
  have hl : lv_has ls 2 [(0, .ref A_t), (1, .int a1)] := hl
  have hx := C.1
  have hb := C.2.1
  unfold f_X9_hasRoomFor at hf
  have hb_17 : ∀ (s0 : Int32) (H : Heap) (locs : List Loc) (ls : Array Slot), lv_has ls 2 [] → va_P D vwCl [oX9 A_t A_t_bytes x_t_size x_t_end x_t_place x_t_fault] H → va_D A [oX9 A_t A_t_bytes x_t_size x_t_end x_t_place x_t_fault] → va_S A s.heap H locs → f_X9_hasRoomFor_b17 s0 = some o_r → W p l e { frames := 0, cells := 0, slots := 0, locals := 0 } s m ([.ref A_t, .int a1] : List Value).toArray below meth c H locs 0 0 (MQ below (PoI D A [oX9 A_t A_t_bytes x_t_size x_t_end x_t_place x_t_fault] o_r) ([.ref A_t, .int a1] : List Value).toArray s 0 0 A) (F0 m 17 ls [.int s0]) := by
    intro s0 H locs ls hl hP hD hS hf
    unfold f_X9_hasRoomFor_b17 at hf
    obtain ⟨hz, hf⟩ := zI_e hf
    obtain rfl := ev1 hf
    exact x_zret C hr hlk hz hP hD hS dX9_hasRoomFor_17
  refine lv_aload_n hx hb dX9_hasRoomFor_0 rfl (lv_at hl 0 rfl) ?_
  refine x_get C hK hP fd_X9_15 0 rfl rfl dX9_hasRoomFor_1 ?_
  refine lv_iload_n hx hb dX9_hasRoomFor_4 rfl (lv_at hl 1 rfl) ?_
  refine lv_iadd hx hb dX9_hasRoomFor_5 ?_
  refine lv_sipush (v := 260) hx hb dX9_hasRoomFor_6 (by decide) ?_
  refine lv_icmp_gt (tgt := 16) hx hb dX9_hasRoomFor_9 (by decide) (fun q => ?_) (fun q => ?_)
  · have hf := if_t q hf
    refine lv_iconst (v := 0) hx hb dX9_hasRoomFor_16 (by decide) ?_
    exact hb_17 (0 : Int32) _ _ ls (lv_sub hl [] rfl) hP hD hS hf
  · have hf := if_f q hf
    refine lv_iconst (v := 1) hx hb dX9_hasRoomFor_12 (by decide) ?_
    refine lv_goto (tgt := 17) hx hb dX9_hasRoomFor_13 (by decide) ?_
    exact hb_17 (1 : Int32) _ _ ls (lv_sub hl [] rfl) hP hD hS hf
def f_X9_has_b13 (s0 : Int32) : Option (Int32) :=
  zI s0 (some s0)
def f_X9_has (x_t_size : Int32) (a1 : Int32) : Option (Int32) :=
  if x_t_size < a1 then
    f_X9_has_b13 (0 : Int32)
  else
    f_X9_has_b13 (1 : Int32)
set_option maxHeartbeats 4000000 in
set_option maxRecDepth 100000 in
theorem c_X9_has {l : Launch} {D : va_G} {cI cB : ClassId} {A_t A_t_bytes : Nat} {x_t_size x_t_end x_t_place x_t_fault a1 : Int32} {o_r : Int32} (hf : f_X9_has x_t_size a1 = some o_r) : CtI l D cI cB yX9_has cX9_has 2 (some .boolean) 0 0 [.ref A_t, .int a1] [oX9 A_t A_t_bytes x_t_size x_t_end x_t_place x_t_fault] [oX9 A_t A_t_bytes x_t_size x_t_end x_t_place x_t_fault] o_r := by
  refine x_startI (by decide) (Nat.le_of_ble_eq_true rfl) ?_
  intro p e s m below meth c A C hr hlk hA hK hP hD hS ls hl
  have hl : lv_has ls 2 [(0, .ref A_t), (1, .int a1)] := hl
  have hx := C.1
  have hb := C.2.1
  unfold f_X9_has at hf
  have hb_13 : ∀ (s0 : Int32) (H : Heap) (locs : List Loc) (ls : Array Slot), lv_has ls 2 [] → va_P D vwCl [oX9 A_t A_t_bytes x_t_size x_t_end x_t_place x_t_fault] H → va_D A [oX9 A_t A_t_bytes x_t_size x_t_end x_t_place x_t_fault] → va_S A s.heap H locs → f_X9_has_b13 s0 = some o_r → W p l e { frames := 0, cells := 0, slots := 0, locals := 0 } s m ([.ref A_t, .int a1] : List Value).toArray below meth c H locs 0 0 (MQ below (PoI D A [oX9 A_t A_t_bytes x_t_size x_t_end x_t_place x_t_fault] o_r) ([.ref A_t, .int a1] : List Value).toArray s 0 0 A) (F0 m 13 ls [.int s0]) := by
    intro s0 H locs ls hl hP hD hS hf
    unfold f_X9_has_b13 at hf
    obtain ⟨hz, hf⟩ := zI_e hf
    obtain rfl := ev1 hf
    exact x_zret C hr hlk hz hP hD hS dX9_has_13
  refine lv_iload_n hx hb dX9_has_0 rfl (lv_at hl 1 rfl) ?_
  refine lv_aload_n hx hb dX9_has_1 rfl (lv_at hl 0 rfl) ?_
  refine x_get C hK hP fd_X9_15 0 rfl rfl dX9_has_2 ?_
  refine lv_icmp_gt (tgt := 12) hx hb dX9_has_5 (by decide) (fun q => ?_) (fun q => ?_)
  · have hf := if_t q hf
    refine lv_iconst (v := 0) hx hb dX9_has_12 (by decide) ?_
    exact hb_13 (0 : Int32) _ _ ls (lv_sub hl [] rfl) hP hD hS hf
  · have hf := if_f q hf
    refine lv_iconst (v := 1) hx hb dX9_has_8 (by decide) ?_
    refine lv_goto (tgt := 13) hx hb dX9_has_9 (by decide) ?_
    exact hb_13 (1 : Int32) _ _ ls (lv_sub hl [] rfl) hP hD hS hf
def f_X9_addFour_b49 (v_t_bytes : (Nat → Int32)) (x_t_size : Int32) : Option ((Nat → Int32) × Int32) :=
  some (v_t_bytes, x_t_size)
def f_X9_addFour_b3 (a1 : Int32) : Nat → (Nat → Int32) → Int32 → Int32 → Option ((Nat → Int32) × Int32)
  | 0, _, _, _ => none
  | n + 1, v_t_bytes, x_t_size, l2 =>
    if l2 < 0 then
      f_X9_addFour_b49 v_t_bytes x_t_size
    else
      if (260 : Int32) ≤ x_t_size then
        f_X9_addFour_b49 v_t_bytes x_t_size
      else
        sI 260 v_t_bytes x_t_size ((a1 >>> (l2 &&& 31)) &&& (255 : Int32)) (fun w1 =>
        f_X9_addFour_b3 a1 n w1 (x_t_size + (1 : Int32)) (l2 + (-8 : Int32)))
def f_X9_addFour (v_t_bytes : (Nat → Int32)) (x_t_size : Int32) (a1 : Int32) : Option ((Nat → Int32) × Int32) :=
  f_X9_addFour_b3 a1 FU v_t_bytes x_t_size (24 : Int32)
set_option maxHeartbeats 4000000 in
set_option maxRecDepth 100000 in
theorem c_X9_addFour {l : Launch} {D : va_G} {cI cB : ClassId} {A_t A_t_bytes : Nat} {x_t_size x_t_end x_t_place x_t_fault a1 : Int32} {v_t_bytes : Nat → Int32} {o_x_t_size : Int32} {o_v_t_bytes : Nat → Int32} (hf : f_X9_addFour v_t_bytes x_t_size a1 = some (o_v_t_bytes, o_x_t_size)) : CtV l D cI cB yX9_addFour cX9_addFour 3 0 0 [.ref A_t, .int a1] [oX9 A_t A_t_bytes x_t_size x_t_end x_t_place x_t_fault, iA cI 260 A_t_bytes v_t_bytes] [oX9 A_t A_t_bytes o_x_t_size x_t_end x_t_place x_t_fault, iA cI 260 A_t_bytes o_v_t_bytes] := by
  refine x_startV (by decide) (Nat.le_of_ble_eq_true rfl) ?_
  intro p e s m below meth c A C hr hlk hA hK hP hD hS ls hl
  have hl : lv_has ls 3 [(0, .ref A_t), (1, .int a1)] := hl
  have hx := C.1
  have hb := C.2.1
  unfold f_X9_addFour at hf
  have hb_49 : ∀ (v_t_bytes : (Nat → Int32)) (x_t_size : Int32) (H : Heap) (locs : List Loc) (ls : Array Slot), lv_has ls 3 [] → va_P D vwCl [oX9 A_t A_t_bytes x_t_size x_t_end x_t_place x_t_fault, iA cI 260 A_t_bytes v_t_bytes] H → va_D A [oX9 A_t A_t_bytes x_t_size x_t_end x_t_place x_t_fault, iA cI 260 A_t_bytes v_t_bytes] → va_S A s.heap H locs → f_X9_addFour_b49 v_t_bytes x_t_size = some (o_v_t_bytes, o_x_t_size) → W p l e { frames := 0, cells := 0, slots := 0, locals := 0 } s m ([.ref A_t, .int a1] : List Value).toArray below meth c H locs 0 0 (MQ below (PoV D A [oX9 A_t A_t_bytes o_x_t_size x_t_end x_t_place x_t_fault, iA cI 260 A_t_bytes o_v_t_bytes]) ([.ref A_t, .int a1] : List Value).toArray s 0 0 A) (F0 m 49 ls []) := by
    intro v_t_bytes x_t_size H locs ls hl hP hD hS hf
    unfold f_X9_addFour_b49 at hf
    obtain ⟨rfl, rfl⟩ := ev2 hf
    exact x_vret C hr hlk hP hD hS dX9_addFour_49
  have hb_3 : ∀ (n_3 : Nat) (v_t_bytes : (Nat → Int32)) (x_t_size : Int32) (l2 : Int32) (H : Heap) (locs : List Loc) (ls : Array Slot), lv_has ls 3 [(0, .ref A_t), (1, .int a1), (2, .int l2)] → va_P D vwCl [oX9 A_t A_t_bytes x_t_size x_t_end x_t_place x_t_fault, iA cI 260 A_t_bytes v_t_bytes] H → va_D A [oX9 A_t A_t_bytes x_t_size x_t_end x_t_place x_t_fault, iA cI 260 A_t_bytes v_t_bytes] → va_S A s.heap H locs → f_X9_addFour_b3 a1 n_3 v_t_bytes x_t_size l2 = some (o_v_t_bytes, o_x_t_size) → W p l e { frames := 0, cells := 0, slots := 0, locals := 0 } s m ([.ref A_t, .int a1] : List Value).toArray below meth c H locs 0 0 (MQ below (PoV D A [oX9 A_t A_t_bytes o_x_t_size x_t_end x_t_place x_t_fault, iA cI 260 A_t_bytes o_v_t_bytes]) ([.ref A_t, .int a1] : List Value).toArray s 0 0 A) (F0 m 3 ls []) := by
    intro n_3
    induction n_3 with
    | zero =>
      intro v_t_bytes x_t_size l2 H locs ls hl hP hD hS hf
      exact absurd hf (fun h => by rw [f_X9_addFour_b3] at h; cases h)
    | succ n_3 ih_3 =>
      intro v_t_bytes x_t_size l2 H locs ls hl hP hD hS hf
      rw [f_X9_addFour_b3] at hf
      refine lv_iload_n hx hb dX9_addFour_3 rfl (lv_at hl 2 rfl) ?_
      refine lv_if_lt (tgt := 49) hx hb dX9_addFour_4 (by decide) (fun q => ?_) (fun q => ?_)
      · have hf := if_t q hf
        exact hb_49 v_t_bytes x_t_size _ _ ls (lv_sub hl [] rfl) hP hD hS hf
      · have hf := if_f q hf
        refine lv_aload_n hx hb dX9_addFour_7 rfl (lv_at hl 0 rfl) ?_
        refine x_get C hK hP fd_X9_15 0 rfl rfl dX9_addFour_8 ?_
        refine lv_sipush (v := 260) hx hb dX9_addFour_11 (by decide) ?_
        refine lv_icmp_ge (tgt := 49) hx hb dX9_addFour_14 (by decide) (fun q => ?_) (fun q => ?_)
        · have hf := if_t q hf
          exact hb_49 v_t_bytes x_t_size _ _ ls (lv_sub hl [] rfl) hP hD hS hf
        · have hf := if_f q hf
          refine lv_aload_n hx hb dX9_addFour_17 rfl (lv_at hl 0 rfl) ?_
          refine x_get C hK hP fd_X9_11 0 rfl rfl dX9_addFour_18 ?_
          refine lv_aload_n hx hb dX9_addFour_21 rfl (lv_at hl 0 rfl) ?_
          refine x_get C hK hP fd_X9_15 0 rfl rfl dX9_addFour_22 ?_
          refine lv_iload_n hx hb dX9_addFour_25 rfl (lv_at hl 1 rfl) ?_
          refine lv_iload_n hx hb dX9_addFour_26 rfl (lv_at hl 2 rfl) ?_
          refine lv_ishr hx hb dX9_addFour_27 ?_
          refine lv_sipush (v := 255) hx hb dX9_addFour_28 (by decide) ?_
          refine lv_iand hx hb dX9_addFour_31 ?_
          obtain ⟨hi, hf⟩ := sI_e hf
          refine x_iast (ws' := [oX9 A_t A_t_bytes x_t_size x_t_end x_t_place x_t_fault, iA cI 260 A_t_bytes (upd v_t_bytes x_t_size.toNatClampNeg ((a1 >>> (l2 &&& 31)) &&& (255 : Int32)))]) C hK hP hD hS 1 rfl hi rfl dX9_addFour_32 ?_
          intro H locs hP hD hS
          refine lv_aload_n hx hb dX9_addFour_33 rfl (lv_at hl 0 rfl) ?_
          refine lv_dup hx hb dX9_addFour_34 rfl ?_
          refine x_get C hK hP fd_X9_15 0 rfl rfl dX9_addFour_35 ?_
          refine lv_iconst (v := 1) hx hb dX9_addFour_38 (by decide) ?_
          refine lv_iadd hx hb dX9_addFour_39 ?_
          refine x_put (ws' := [oX9 A_t A_t_bytes (x_t_size + (1 : Int32)) x_t_end x_t_place x_t_fault, iA cI 260 A_t_bytes (upd v_t_bytes x_t_size.toNatClampNeg ((a1 >>> (l2 &&& 31)) &&& (255 : Int32)))]) C hK hP hD hS fp_X9_15 0 rfl rfl rfl (Nat.le_of_ble_eq_true rfl) rfl dX9_addFour_40 ?_
          intro H locs hP hD hS
          refine lv_iinc (v := (l2 + (-8 : Int32))) (lv' := [(2, .int (l2 + (-8 : Int32))), (0, .ref A_t), (1, .int a1)]) hx hb dX9_addFour_43 hl (k := 2) rfl rfl (by decide) rfl (fun ls hl => ?_)
          refine lv_goto (tgt := 3) hx hb dX9_addFour_46 (by decide) ?_
          exact ih_3 (upd v_t_bytes x_t_size.toNatClampNeg ((a1 >>> (l2 &&& 31)) &&& (255 : Int32))) (x_t_size + (1 : Int32)) (l2 + (-8 : Int32)) _ _ ls (lv_sub hl [1, 2, 0] rfl) hP hD hS hf
  refine lv_bipush (v := 24) hx hb dX9_addFour_0 (by decide) ?_
  refine lv_istore_n (lv' := [(2, .int (24 : Int32)), (0, .ref A_t), (1, .int a1)]) hx hb dX9_addFour_2 rfl hl (by decide) rfl (fun ls hl => ?_)
  exact hb_3 FU v_t_bytes x_t_size (24 : Int32) _ _ ls (lv_sub hl [1, 2, 0] rfl) hP hD hS hf
def f_X9_empty (x_t_size : Int32) : Option (Int32) :=
  some (0 : Int32)
set_option maxHeartbeats 4000000 in
set_option maxRecDepth 100000 in
theorem c_X9_empty {l : Launch} {D : va_G} {cI cB : ClassId} {A_t A_t_bytes : Nat} {x_t_size x_t_end x_t_place x_t_fault : Int32} {o_x_t_size : Int32} (hf : f_X9_empty x_t_size = some o_x_t_size) : CtV l D cI cB yX9_empty cX9_empty 1 0 0 [.ref A_t] [oX9 A_t A_t_bytes x_t_size x_t_end x_t_place x_t_fault] [oX9 A_t A_t_bytes o_x_t_size x_t_end x_t_place x_t_fault] := by
  refine x_startV (by decide) (Nat.le_of_ble_eq_true rfl) ?_
  intro p e s m below meth c A C hr hlk hA hK hP hD hS ls hl
  have hl : lv_has ls 1 [(0, .ref A_t)] := hl
  have hx := C.1
  have hb := C.2.1
  unfold f_X9_empty at hf
  refine lv_aload_n hx hb dX9_empty_0 rfl (lv_at hl 0 rfl) ?_
  refine lv_iconst (v := 0) hx hb dX9_empty_1 (by decide) ?_
  refine x_put (ws' := [oX9 A_t A_t_bytes (0 : Int32) x_t_end x_t_place x_t_fault]) C hK hP hD hS fp_X9_15 0 rfl rfl rfl (Nat.le_of_ble_eq_true rfl) rfl dX9_empty_2 ?_
  intro H locs hP hD hS
  obtain rfl := ev1 hf
  exact x_vret C hr hlk hP hD hS dX9_empty_5
def f_X9_at_b22 (s0 : Int32) : Option (Int32) :=
  some s0
def f_X9_at_b21 : Option (Int32) :=
  f_X9_at_b22 (0 : Int32)
def f_X9_at (v_t_bytes : (Nat → Int32)) (x_t_size : Int32) (a1 : Int32) : Option (Int32) :=
  if a1 < 0 then
    f_X9_at_b21
  else
    if x_t_size ≤ a1 then
      f_X9_at_b21
    else
      gI 260 v_t_bytes a1 (fun g1 =>
      f_X9_at_b22 g1)
set_option maxHeartbeats 4000000 in
set_option maxRecDepth 100000 in
theorem c_X9_at {l : Launch} {D : va_G} {cI cB : ClassId} {A_t A_t_bytes : Nat} {x_t_size x_t_end x_t_place x_t_fault a1 : Int32} {v_t_bytes : Nat → Int32} {o_r : Int32} (hf : f_X9_at v_t_bytes x_t_size a1 = some o_r) : CtI l D cI cB yX9_at cX9_at 2 (some .int) 0 0 [.ref A_t, .int a1] [oX9 A_t A_t_bytes x_t_size x_t_end x_t_place x_t_fault, iA cI 260 A_t_bytes v_t_bytes] [oX9 A_t A_t_bytes x_t_size x_t_end x_t_place x_t_fault, iA cI 260 A_t_bytes v_t_bytes] o_r := by
  refine x_startI (by decide) (Nat.le_of_ble_eq_true rfl) ?_
  intro p e s m below meth c A C hr hlk hA hK hP hD hS ls hl
  have hl : lv_has ls 2 [(0, .ref A_t), (1, .int a1)] := hl
  have hx := C.1
  have hb := C.2.1
  unfold f_X9_at at hf
  have hb_22 : ∀ (s0 : Int32) (H : Heap) (locs : List Loc) (ls : Array Slot), lv_has ls 2 [] → va_P D vwCl [oX9 A_t A_t_bytes x_t_size x_t_end x_t_place x_t_fault, iA cI 260 A_t_bytes v_t_bytes] H → va_D A [oX9 A_t A_t_bytes x_t_size x_t_end x_t_place x_t_fault, iA cI 260 A_t_bytes v_t_bytes] → va_S A s.heap H locs → f_X9_at_b22 s0 = some o_r → W p l e { frames := 0, cells := 0, slots := 0, locals := 0 } s m ([.ref A_t, .int a1] : List Value).toArray below meth c H locs 0 0 (MQ below (PoI D A [oX9 A_t A_t_bytes x_t_size x_t_end x_t_place x_t_fault, iA cI 260 A_t_bytes v_t_bytes] o_r) ([.ref A_t, .int a1] : List Value).toArray s 0 0 A) (F0 m 22 ls [.int s0]) := by
    intro s0 H locs ls hl hP hD hS hf
    unfold f_X9_at_b22 at hf
    obtain rfl := ev1 hf
    exact x_iret C hr hlk hP hD hS dX9_at_22
  have hb_21 : ∀ (H : Heap) (locs : List Loc) (ls : Array Slot), lv_has ls 2 [] → va_P D vwCl [oX9 A_t A_t_bytes x_t_size x_t_end x_t_place x_t_fault, iA cI 260 A_t_bytes v_t_bytes] H → va_D A [oX9 A_t A_t_bytes x_t_size x_t_end x_t_place x_t_fault, iA cI 260 A_t_bytes v_t_bytes] → va_S A s.heap H locs → f_X9_at_b21 = some o_r → W p l e { frames := 0, cells := 0, slots := 0, locals := 0 } s m ([.ref A_t, .int a1] : List Value).toArray below meth c H locs 0 0 (MQ below (PoI D A [oX9 A_t A_t_bytes x_t_size x_t_end x_t_place x_t_fault, iA cI 260 A_t_bytes v_t_bytes] o_r) ([.ref A_t, .int a1] : List Value).toArray s 0 0 A) (F0 m 21 ls []) := by
    intro H locs ls hl hP hD hS hf
    unfold f_X9_at_b21 at hf
    refine lv_iconst (v := 0) hx hb dX9_at_21 (by decide) ?_
    exact hb_22 (0 : Int32) _ _ ls (lv_sub hl [] rfl) hP hD hS hf
  refine lv_iload_n hx hb dX9_at_0 rfl (lv_at hl 1 rfl) ?_
  refine lv_if_lt (tgt := 21) hx hb dX9_at_1 (by decide) (fun q => ?_) (fun q => ?_)
  · have hf := if_t q hf
    exact hb_21 _ _ ls (lv_sub hl [] rfl) hP hD hS hf
  · have hf := if_f q hf
    refine lv_iload_n hx hb dX9_at_4 rfl (lv_at hl 1 rfl) ?_
    refine lv_aload_n hx hb dX9_at_5 rfl (lv_at hl 0 rfl) ?_
    refine x_get C hK hP fd_X9_15 0 rfl rfl dX9_at_6 ?_
    refine lv_icmp_ge (tgt := 21) hx hb dX9_at_9 (by decide) (fun q => ?_) (fun q => ?_)
    · have hf := if_t q hf
      exact hb_21 _ _ ls (lv_sub hl [] rfl) hP hD hS hf
    · have hf := if_f q hf
      refine lv_aload_n hx hb dX9_at_12 rfl (lv_at hl 0 rfl) ?_
      refine x_get C hK hP fd_X9_11 0 rfl rfl dX9_at_13 ?_
      refine lv_iload_n hx hb dX9_at_16 rfl (lv_at hl 1 rfl) ?_
      obtain ⟨hi, hf⟩ := gI_e hf
      refine x_iald C hK hP 1 rfl hi dX9_at_17 ?_
      refine lv_goto (tgt := 22) hx hb dX9_at_18 (by decide) ?_
      exact hb_22 (v_t_bytes a1.toNatClampNeg) _ _ ls (lv_sub hl [] rfl) hP hD hS hf
def f_X9_isOrderOf_b31 : Option (Int32) :=
  some (0 : Int32)
def f_X9_isOrderOf_b4 (v_t_bytes : (Nat → Int32)) (x_t_size : Int32) (a1 : Int32) : Nat → Int32 → Int32 → Option (Int32)
  | 0, _, _ => none
  | n + 1, l2, l3 =>
    if a1 ≤ l3 then
      some (1 : Int32)
    else
      bd1 (f_X9_at v_t_bytes x_t_size l3) (fun r1 =>
      if a1 ≤ r1 then
        f_X9_isOrderOf_b31
      else
        if ((l2 >>> (r1 &&& 31)) &&& (1 : Int32)) = 0 then
          f_X9_isOrderOf_b4 v_t_bytes x_t_size a1 n (l2 ||| ((1 : Int32) <<< (r1 &&& 31))) (l3 + (1 : Int32))
        else
          f_X9_isOrderOf_b31)
def f_X9_isOrderOf (v_t_bytes : (Nat → Int32)) (x_t_size : Int32) (a1 : Int32) : Option (Int32) :=
  f_X9_isOrderOf_b4 v_t_bytes x_t_size a1 FU (0 : Int32) (0 : Int32)
set_option maxHeartbeats 4000000 in
set_option maxRecDepth 100000 in
theorem c_X9_isOrderOf {l : Launch} {D : va_G} {cI cB : ClassId} {A_t A_t_bytes : Nat} {x_t_size x_t_end x_t_place x_t_fault a1 : Int32} {v_t_bytes : Nat → Int32} {o_r : Int32} (hf : f_X9_isOrderOf v_t_bytes x_t_size a1 = some o_r) : CtI l D cI cB yX9_isOrderOf cX9_isOrderOf 5 (some .boolean) 1 21 [.ref A_t, .int a1] [oX9 A_t A_t_bytes x_t_size x_t_end x_t_place x_t_fault, iA cI 260 A_t_bytes v_t_bytes] [oX9 A_t A_t_bytes x_t_size x_t_end x_t_place x_t_fault, iA cI 260 A_t_bytes v_t_bytes] o_r := by
  refine x_startI (by decide) (Nat.le_of_ble_eq_true rfl) ?_
  intro p e s m below meth c A C hr hlk hA hK hP hD hS ls hl
  have hl : lv_has ls 5 [(0, .ref A_t), (1, .int a1)] := hl
  have hx := C.1
  have hb := C.2.1
  unfold f_X9_isOrderOf at hf
  have hb_31 : ∀ (H : Heap) (locs : List Loc) (ls : Array Slot), lv_has ls 5 [] → va_P D vwCl [oX9 A_t A_t_bytes x_t_size x_t_end x_t_place x_t_fault, iA cI 260 A_t_bytes v_t_bytes] H → va_D A [oX9 A_t A_t_bytes x_t_size x_t_end x_t_place x_t_fault, iA cI 260 A_t_bytes v_t_bytes] → va_S A s.heap H locs → f_X9_isOrderOf_b31 = some o_r → W p l e { frames := 1, cells := 0, slots := 0, locals := 21 } s m ([.ref A_t, .int a1] : List Value).toArray below meth c H locs 0 0 (MQ below (PoI D A [oX9 A_t A_t_bytes x_t_size x_t_end x_t_place x_t_fault, iA cI 260 A_t_bytes v_t_bytes] o_r) ([.ref A_t, .int a1] : List Value).toArray s 0 0 A) (F0 m 31 ls []) := by
    intro H locs ls hl hP hD hS hf
    unfold f_X9_isOrderOf_b31 at hf
    refine lv_iconst (v := 0) hx hb dX9_isOrderOf_31 (by decide) ?_
    obtain rfl := ev1 hf
    exact x_zret C hr hlk (Or.inl rfl) hP hD hS dX9_isOrderOf_32
  have hb_4 : ∀ (n_4 : Nat) (l2 : Int32) (l3 : Int32) (H : Heap) (locs : List Loc) (ls : Array Slot), lv_has ls 5 [(0, .ref A_t), (1, .int a1), (2, .int l2), (3, .int l3)] → va_P D vwCl [oX9 A_t A_t_bytes x_t_size x_t_end x_t_place x_t_fault, iA cI 260 A_t_bytes v_t_bytes] H → va_D A [oX9 A_t A_t_bytes x_t_size x_t_end x_t_place x_t_fault, iA cI 260 A_t_bytes v_t_bytes] → va_S A s.heap H locs → f_X9_isOrderOf_b4 v_t_bytes x_t_size a1 n_4 l2 l3 = some o_r → W p l e { frames := 1, cells := 0, slots := 0, locals := 21 } s m ([.ref A_t, .int a1] : List Value).toArray below meth c H locs 0 0 (MQ below (PoI D A [oX9 A_t A_t_bytes x_t_size x_t_end x_t_place x_t_fault, iA cI 260 A_t_bytes v_t_bytes] o_r) ([.ref A_t, .int a1] : List Value).toArray s 0 0 A) (F0 m 4 ls []) := by
    intro n_4
    induction n_4 with
    | zero =>
      intro l2 l3 H locs ls hl hP hD hS hf
      exact absurd hf (fun h => by rw [f_X9_isOrderOf_b4] at h; cases h)
    | succ n_4 ih_4 =>
      intro l2 l3 H locs ls hl hP hD hS hf
      rw [f_X9_isOrderOf_b4] at hf
      refine lv_iload_n hx hb dX9_isOrderOf_4 rfl (lv_at hl 3 rfl) ?_
      refine lv_iload_n hx hb dX9_isOrderOf_5 rfl (lv_at hl 1 rfl) ?_
      refine lv_icmp_ge (tgt := 46) hx hb dX9_isOrderOf_6 (by decide) (fun q => ?_) (fun q => ?_)
      · have hf := if_t q hf
        refine lv_iconst (v := 1) hx hb dX9_isOrderOf_46 (by decide) ?_
        obtain rfl := ev1 hf
        exact x_zret C hr hlk (Or.inr rfl) hP hD hS dX9_isOrderOf_47
      · have hf := if_f q hf
        refine lv_aload_n hx hb dX9_isOrderOf_9 rfl (lv_at hl 0 rfl) ?_
        refine lv_iload_n hx hb dX9_isOrderOf_10 rfl (lv_at hl 3 rfl) ?_
        obtain ⟨r1, hc2, hf⟩ := bd1_e hf
        refine x_callVI (ws' := [oX9 A_t A_t_bytes x_t_size x_t_end x_t_place x_t_fault, iA cI 260 A_t_bytes v_t_bytes]) (rest := []) C hK hP hD hS hA hl mf_X9_19 (c_X9_at hc2) [0, 1] 0 9 rfl rfl rfl rfl rfl rfl rfl rfl rfl rfl (Nat.le_of_ble_eq_true rfl) ⟨Nat.le_of_ble_eq_true rfl, Nat.le_of_ble_eq_true rfl⟩ ⟨Nat.le_refl _, Nat.le_refl _⟩ dX9_isOrderOf_11 ?_
        intro H locs hP hD hS
        refine lv_istore (lv' := [(4, .int r1), (0, .ref A_t), (1, .int a1), (2, .int l2), (3, .int l3)]) hx hb dX9_isOrderOf_14 hl (by decide) rfl (fun ls hl => ?_)
        refine lv_iload hx hb dX9_isOrderOf_16 (lv_at hl 0 rfl) ?_
        refine lv_iload_n hx hb dX9_isOrderOf_18 rfl (lv_at hl 2 rfl) ?_
        refine lv_icmp_ge (tgt := 31) hx hb dX9_isOrderOf_19 (by decide) (fun q => ?_) (fun q => ?_)
        · have hf := if_t q hf
          exact hb_31 _ _ ls (lv_sub hl [] rfl) hP hD hS hf
        · have hf := if_f q hf
          refine lv_iload_n hx hb dX9_isOrderOf_22 rfl (lv_at hl 3 rfl) ?_
          refine lv_iload hx hb dX9_isOrderOf_23 (lv_at hl 0 rfl) ?_
          refine lv_ishr hx hb dX9_isOrderOf_25 ?_
          refine lv_iconst (v := 1) hx hb dX9_isOrderOf_26 (by decide) ?_
          refine lv_iand hx hb dX9_isOrderOf_27 ?_
          refine lv_if_eq (tgt := 33) hx hb dX9_isOrderOf_28 (by decide) (fun q => ?_) (fun q => ?_)
          · have hf := if_t q hf
            refine lv_iload_n hx hb dX9_isOrderOf_33 rfl (lv_at hl 3 rfl) ?_
            refine lv_iconst (v := 1) hx hb dX9_isOrderOf_34 (by decide) ?_
            refine lv_iload hx hb dX9_isOrderOf_35 (lv_at hl 0 rfl) ?_
            refine lv_ishl hx hb dX9_isOrderOf_37 ?_
            refine lv_ior hx hb dX9_isOrderOf_38 ?_
            refine lv_istore_n (lv' := [(2, .int (l2 ||| ((1 : Int32) <<< (r1 &&& 31)))), (4, .int r1), (0, .ref A_t), (1, .int a1), (3, .int l3)]) hx hb dX9_isOrderOf_39 rfl hl (by decide) rfl (fun ls hl => ?_)
            refine lv_iinc (v := (l3 + (1 : Int32))) (lv' := [(3, .int (l3 + (1 : Int32))), (2, .int (l2 ||| ((1 : Int32) <<< (r1 &&& 31)))), (4, .int r1), (0, .ref A_t), (1, .int a1)]) hx hb dX9_isOrderOf_40 hl (k := 4) rfl rfl (by decide) rfl (fun ls hl => ?_)
            refine lv_goto (tgt := 4) hx hb dX9_isOrderOf_43 (by decide) ?_
            exact ih_4 (l2 ||| ((1 : Int32) <<< (r1 &&& 31))) (l3 + (1 : Int32)) _ _ ls (lv_sub hl [3, 4, 1, 0] rfl) hP hD hS hf
          · have hf := if_f q hf
            exact hb_31 _ _ ls (lv_sub hl [] rfl) hP hD hS hf
  refine lv_iconst (v := 0) hx hb dX9_isOrderOf_0 (by decide) ?_
  refine lv_istore_n (lv' := [(2, .int (0 : Int32)), (0, .ref A_t), (1, .int a1)]) hx hb dX9_isOrderOf_1 rfl hl (by decide) rfl (fun ls hl => ?_)
  refine lv_iconst (v := 0) hx hb dX9_isOrderOf_2 (by decide) ?_
  refine lv_istore_n (lv' := [(3, .int (0 : Int32)), (2, .int (0 : Int32)), (0, .ref A_t), (1, .int a1)]) hx hb dX9_isOrderOf_3 rfl hl (by decide) rfl (fun ls hl => ?_)
  exact hb_4 FU (0 : Int32) (0 : Int32) _ _ ls (lv_sub hl [2, 3, 1, 0] rfl) hP hD hS hf
def f_X9_begin (x_t_end : Int32) (x_t_fault : Int32) (x_t_place : Int32) (x_t_size : Int32) (a1 : Int32) : Option (Int32 × Int32 × Int32) :=
  some ((mnI a1 x_t_size), (0 : Int32), (0 : Int32))
set_option maxHeartbeats 4000000 in
set_option maxRecDepth 100000 in
theorem c_X9_begin {l : Launch} {D : va_G} {cI cB : ClassId} {A_t A_t_bytes : Nat} {x_t_size x_t_end x_t_place x_t_fault a1 : Int32} {o_x_t_end o_x_t_fault o_x_t_place : Int32} (hf : f_X9_begin x_t_end x_t_fault x_t_place x_t_size a1 = some (o_x_t_end, o_x_t_fault, o_x_t_place)) : CtV l D cI cB yX9_begin cX9_begin 2 1 21 [.ref A_t, .int a1] [oX9 A_t A_t_bytes x_t_size x_t_end x_t_place x_t_fault] [oX9 A_t A_t_bytes x_t_size o_x_t_end o_x_t_place o_x_t_fault] := by
  refine x_startV (by decide) (Nat.le_of_ble_eq_true rfl) ?_
  intro p e s m below meth c A C hr hlk hA hK hP hD hS ls hl
  have hl : lv_has ls 2 [(0, .ref A_t), (1, .int a1)] := hl
  have hx := C.1
  have hb := C.2.1
  unfold f_X9_begin at hf
  refine lv_aload_n hx hb dX9_begin_0 rfl (lv_at hl 0 rfl) ?_
  refine lv_iload_n hx hb dX9_begin_1 rfl (lv_at hl 1 rfl) ?_
  refine lv_aload_n hx hb dX9_begin_2 rfl (lv_at hl 0 rfl) ?_
  refine x_get C hK hP fd_X9_15 0 rfl rfl dX9_begin_3 ?_
  refine x_mmin C hl ml_X9_23 (Nat.le_of_ble_eq_true rfl) (Nat.le_of_ble_eq_true rfl) ⟨Nat.le_refl _, Nat.le_refl _⟩ dX9_begin_6 ?_
  refine x_put (ws' := [oX9 A_t A_t_bytes x_t_size (mnI a1 x_t_size) x_t_place x_t_fault]) C hK hP hD hS fp_X9_29 0 rfl rfl rfl (Nat.le_of_ble_eq_true rfl) rfl dX9_begin_9 ?_
  intro H locs hP hD hS
  refine lv_aload_n hx hb dX9_begin_12 rfl (lv_at hl 0 rfl) ?_
  refine lv_iconst (v := 0) hx hb dX9_begin_13 (by decide) ?_
  refine x_put (ws' := [oX9 A_t A_t_bytes x_t_size (mnI a1 x_t_size) (0 : Int32) x_t_fault]) C hK hP hD hS fp_X9_32 0 rfl rfl rfl (Nat.le_of_ble_eq_true rfl) rfl dX9_begin_14 ?_
  intro H locs hP hD hS
  refine lv_aload_n hx hb dX9_begin_17 rfl (lv_at hl 0 rfl) ?_
  refine lv_iconst (v := 0) hx hb dX9_begin_18 (by decide) ?_
  refine x_put (ws' := [oX9 A_t A_t_bytes x_t_size (mnI a1 x_t_size) (0 : Int32) (0 : Int32)]) C hK hP hD hS fp_X9_35 0 rfl rfl rfl (Nat.le_of_ble_eq_true rfl) rfl dX9_begin_19 ?_
  intro H locs hP hD hS
  obtain ⟨rfl, rfl, rfl⟩ := ev3 hf
  exact x_vret C hr hlk hP hD hS dX9_begin_22
def f_X9_sign_b30 (s0 : Int32) : Option (Int32) :=
  some s0
def f_X9_sign_b29 : Option (Int32) :=
  f_X9_sign_b30 (-1 : Int32)
def f_X9_sign (v_t_bytes : (Nat → Int32)) (x_t_end : Int32) (x_t_fault : Int32) (x_t_place : Int32) (x_t_size : Int32) : Option (Int32) :=
  if x_t_fault = 0 then
    if x_t_end ≤ x_t_place then
      f_X9_sign_b29
    else
      bd1 (f_X9_at v_t_bytes x_t_size x_t_place) (fun r1 =>
      f_X9_sign_b30 r1)
  else
    f_X9_sign_b29
set_option maxHeartbeats 4000000 in
set_option maxRecDepth 100000 in
theorem c_X9_sign {l : Launch} {D : va_G} {cI cB : ClassId} {A_t A_t_bytes : Nat} {x_t_size x_t_end x_t_place x_t_fault : Int32} {v_t_bytes : Nat → Int32} {o_r : Int32} (hf : f_X9_sign v_t_bytes x_t_end x_t_fault x_t_place x_t_size = some o_r) : CtI l D cI cB yX9_sign cX9_sign 1 (some .int) 1 21 [.ref A_t] [oX9 A_t A_t_bytes x_t_size x_t_end x_t_place x_t_fault, iA cI 260 A_t_bytes v_t_bytes] [oX9 A_t A_t_bytes x_t_size x_t_end x_t_place x_t_fault, iA cI 260 A_t_bytes v_t_bytes] o_r := by
  refine x_startI (by decide) (Nat.le_of_ble_eq_true rfl) ?_
  intro p e s m below meth c A C hr hlk hA hK hP hD hS ls hl
  have hl : lv_has ls 1 [(0, .ref A_t)] := hl
  have hx := C.1
  have hb := C.2.1
  unfold f_X9_sign at hf
  have hb_30 : ∀ (s0 : Int32) (H : Heap) (locs : List Loc) (ls : Array Slot), lv_has ls 1 [] → va_P D vwCl [oX9 A_t A_t_bytes x_t_size x_t_end x_t_place x_t_fault, iA cI 260 A_t_bytes v_t_bytes] H → va_D A [oX9 A_t A_t_bytes x_t_size x_t_end x_t_place x_t_fault, iA cI 260 A_t_bytes v_t_bytes] → va_S A s.heap H locs → f_X9_sign_b30 s0 = some o_r → W p l e { frames := 1, cells := 0, slots := 0, locals := 21 } s m ([.ref A_t] : List Value).toArray below meth c H locs 0 0 (MQ below (PoI D A [oX9 A_t A_t_bytes x_t_size x_t_end x_t_place x_t_fault, iA cI 260 A_t_bytes v_t_bytes] o_r) ([.ref A_t] : List Value).toArray s 0 0 A) (F0 m 30 ls [.int s0]) := by
    intro s0 H locs ls hl hP hD hS hf
    unfold f_X9_sign_b30 at hf
    obtain rfl := ev1 hf
    exact x_iret C hr hlk hP hD hS dX9_sign_30
  have hb_29 : ∀ (H : Heap) (locs : List Loc) (ls : Array Slot), lv_has ls 1 [] → va_P D vwCl [oX9 A_t A_t_bytes x_t_size x_t_end x_t_place x_t_fault, iA cI 260 A_t_bytes v_t_bytes] H → va_D A [oX9 A_t A_t_bytes x_t_size x_t_end x_t_place x_t_fault, iA cI 260 A_t_bytes v_t_bytes] → va_S A s.heap H locs → f_X9_sign_b29 = some o_r → W p l e { frames := 1, cells := 0, slots := 0, locals := 21 } s m ([.ref A_t] : List Value).toArray below meth c H locs 0 0 (MQ below (PoI D A [oX9 A_t A_t_bytes x_t_size x_t_end x_t_place x_t_fault, iA cI 260 A_t_bytes v_t_bytes] o_r) ([.ref A_t] : List Value).toArray s 0 0 A) (F0 m 29 ls []) := by
    intro H locs ls hl hP hD hS hf
    unfold f_X9_sign_b29 at hf
    refine lv_iconst (v := -1) hx hb dX9_sign_29 (by decide) ?_
    exact hb_30 (-1 : Int32) _ _ ls (lv_sub hl [] rfl) hP hD hS hf
  refine lv_aload_n hx hb dX9_sign_0 rfl (lv_at hl 0 rfl) ?_
  refine x_get C hK hP fd_X9_35 0 rfl rfl dX9_sign_1 ?_
  refine lv_if_ne (tgt := 29) hx hb dX9_sign_4 (by decide) (fun q => ?_) (fun q => ?_)
  · have hf := if_f q hf
    exact hb_29 _ _ ls (lv_sub hl [] rfl) hP hD hS hf
  · have hf := if_t q hf
    refine lv_aload_n hx hb dX9_sign_7 rfl (lv_at hl 0 rfl) ?_
    refine x_get C hK hP fd_X9_32 0 rfl rfl dX9_sign_8 ?_
    refine lv_aload_n hx hb dX9_sign_11 rfl (lv_at hl 0 rfl) ?_
    refine x_get C hK hP fd_X9_29 0 rfl rfl dX9_sign_12 ?_
    refine lv_icmp_ge (tgt := 29) hx hb dX9_sign_15 (by decide) (fun q => ?_) (fun q => ?_)
    · have hf := if_t q hf
      exact hb_29 _ _ ls (lv_sub hl [] rfl) hP hD hS hf
    · have hf := if_f q hf
      refine lv_aload_n hx hb dX9_sign_18 rfl (lv_at hl 0 rfl) ?_
      refine lv_aload_n hx hb dX9_sign_19 rfl (lv_at hl 0 rfl) ?_
      refine x_get C hK hP fd_X9_32 0 rfl rfl dX9_sign_20 ?_
      obtain ⟨r1, hc2, hf⟩ := bd1_e hf
      refine x_callVI (ws' := [oX9 A_t A_t_bytes x_t_size x_t_end x_t_place x_t_fault, iA cI 260 A_t_bytes v_t_bytes]) (rest := []) C hK hP hD hS hA hl mf_X9_19 (c_X9_at hc2) [0, 1] 0 9 rfl rfl rfl rfl rfl rfl rfl rfl rfl rfl (Nat.le_of_ble_eq_true rfl) ⟨Nat.le_of_ble_eq_true rfl, Nat.le_of_ble_eq_true rfl⟩ ⟨Nat.le_refl _, Nat.le_refl _⟩ dX9_sign_23 ?_
      intro H locs hP hD hS
      refine lv_goto (tgt := 30) hx hb dX9_sign_26 (by decide) ?_
      exact hb_30 r1 _ _ ls (lv_sub hl [] rfl) hP hD hS hf
def f_X9_isAtEnd_b16 (s0 : Int32) : Option (Int32) :=
  zI s0 (some s0)
def f_X9_isAtEnd (x_t_end : Int32) (x_t_place : Int32) : Option (Int32) :=
  if x_t_place < x_t_end then
    f_X9_isAtEnd_b16 (0 : Int32)
  else
    f_X9_isAtEnd_b16 (1 : Int32)
set_option maxHeartbeats 4000000 in
set_option maxRecDepth 100000 in
theorem c_X9_isAtEnd {l : Launch} {D : va_G} {cI cB : ClassId} {A_t A_t_bytes : Nat} {x_t_size x_t_end x_t_place x_t_fault : Int32} {o_r : Int32} (hf : f_X9_isAtEnd x_t_end x_t_place = some o_r) : CtI l D cI cB yX9_isAtEnd cX9_isAtEnd 1 (some .boolean) 0 0 [.ref A_t] [oX9 A_t A_t_bytes x_t_size x_t_end x_t_place x_t_fault] [oX9 A_t A_t_bytes x_t_size x_t_end x_t_place x_t_fault] o_r := by
  refine x_startI (by decide) (Nat.le_of_ble_eq_true rfl) ?_
  intro p e s m below meth c A C hr hlk hA hK hP hD hS ls hl
  have hl : lv_has ls 1 [(0, .ref A_t)] := hl
  have hx := C.1
  have hb := C.2.1
  unfold f_X9_isAtEnd at hf
  have hb_16 : ∀ (s0 : Int32) (H : Heap) (locs : List Loc) (ls : Array Slot), lv_has ls 1 [] → va_P D vwCl [oX9 A_t A_t_bytes x_t_size x_t_end x_t_place x_t_fault] H → va_D A [oX9 A_t A_t_bytes x_t_size x_t_end x_t_place x_t_fault] → va_S A s.heap H locs → f_X9_isAtEnd_b16 s0 = some o_r → W p l e { frames := 0, cells := 0, slots := 0, locals := 0 } s m ([.ref A_t] : List Value).toArray below meth c H locs 0 0 (MQ below (PoI D A [oX9 A_t A_t_bytes x_t_size x_t_end x_t_place x_t_fault] o_r) ([.ref A_t] : List Value).toArray s 0 0 A) (F0 m 16 ls [.int s0]) := by
    intro s0 H locs ls hl hP hD hS hf
    unfold f_X9_isAtEnd_b16 at hf
    obtain ⟨hz, hf⟩ := zI_e hf
    obtain rfl := ev1 hf
    exact x_zret C hr hlk hz hP hD hS dX9_isAtEnd_16
  refine lv_aload_n hx hb dX9_isAtEnd_0 rfl (lv_at hl 0 rfl) ?_
  refine x_get C hK hP fd_X9_32 0 rfl rfl dX9_isAtEnd_1 ?_
  refine lv_aload_n hx hb dX9_isAtEnd_4 rfl (lv_at hl 0 rfl) ?_
  refine x_get C hK hP fd_X9_29 0 rfl rfl dX9_isAtEnd_5 ?_
  refine lv_icmp_lt (tgt := 15) hx hb dX9_isAtEnd_8 (by decide) (fun q => ?_) (fun q => ?_)
  · have hf := if_t q hf
    refine lv_iconst (v := 0) hx hb dX9_isAtEnd_15 (by decide) ?_
    exact hb_16 (0 : Int32) _ _ ls (lv_sub hl [] rfl) hP hD hS hf
  · have hf := if_f q hf
    refine lv_iconst (v := 1) hx hb dX9_isAtEnd_11 (by decide) ?_
    refine lv_goto (tgt := 16) hx hb dX9_isAtEnd_12 (by decide) ?_
    exact hb_16 (1 : Int32) _ _ ls (lv_sub hl [] rfl) hP hD hS hf
def f_X9_hasFailed_b12 (s0 : Int32) : Option (Int32) :=
  zI s0 (some s0)
def f_X9_hasFailed (x_t_fault : Int32) : Option (Int32) :=
  if x_t_fault = 0 then
    f_X9_hasFailed_b12 (0 : Int32)
  else
    f_X9_hasFailed_b12 (1 : Int32)
set_option maxHeartbeats 4000000 in
set_option maxRecDepth 100000 in
theorem c_X9_hasFailed {l : Launch} {D : va_G} {cI cB : ClassId} {A_t A_t_bytes : Nat} {x_t_size x_t_end x_t_place x_t_fault : Int32} {o_r : Int32} (hf : f_X9_hasFailed x_t_fault = some o_r) : CtI l D cI cB yX9_hasFailed cX9_hasFailed 1 (some .boolean) 0 0 [.ref A_t] [oX9 A_t A_t_bytes x_t_size x_t_end x_t_place x_t_fault] [oX9 A_t A_t_bytes x_t_size x_t_end x_t_place x_t_fault] o_r := by
  refine x_startI (by decide) (Nat.le_of_ble_eq_true rfl) ?_
  intro p e s m below meth c A C hr hlk hA hK hP hD hS ls hl
  have hl : lv_has ls 1 [(0, .ref A_t)] := hl
  have hx := C.1
  have hb := C.2.1
  unfold f_X9_hasFailed at hf
  have hb_12 : ∀ (s0 : Int32) (H : Heap) (locs : List Loc) (ls : Array Slot), lv_has ls 1 [] → va_P D vwCl [oX9 A_t A_t_bytes x_t_size x_t_end x_t_place x_t_fault] H → va_D A [oX9 A_t A_t_bytes x_t_size x_t_end x_t_place x_t_fault] → va_S A s.heap H locs → f_X9_hasFailed_b12 s0 = some o_r → W p l e { frames := 0, cells := 0, slots := 0, locals := 0 } s m ([.ref A_t] : List Value).toArray below meth c H locs 0 0 (MQ below (PoI D A [oX9 A_t A_t_bytes x_t_size x_t_end x_t_place x_t_fault] o_r) ([.ref A_t] : List Value).toArray s 0 0 A) (F0 m 12 ls [.int s0]) := by
    intro s0 H locs ls hl hP hD hS hf
    unfold f_X9_hasFailed_b12 at hf
    obtain ⟨hz, hf⟩ := zI_e hf
    obtain rfl := ev1 hf
    exact x_zret C hr hlk hz hP hD hS dX9_hasFailed_12
  refine lv_aload_n hx hb dX9_hasFailed_0 rfl (lv_at hl 0 rfl) ?_
  refine x_get C hK hP fd_X9_35 0 rfl rfl dX9_hasFailed_1 ?_
  refine lv_if_eq (tgt := 11) hx hb dX9_hasFailed_4 (by decide) (fun q => ?_) (fun q => ?_)
  · have hf := if_t q hf
    refine lv_iconst (v := 0) hx hb dX9_hasFailed_11 (by decide) ?_
    exact hb_12 (0 : Int32) _ _ ls (lv_sub hl [] rfl) hP hD hS hf
  · have hf := if_f q hf
    refine lv_iconst (v := 1) hx hb dX9_hasFailed_7 (by decide) ?_
    refine lv_goto (tgt := 12) hx hb dX9_hasFailed_8 (by decide) ?_
    exact hb_12 (1 : Int32) _ _ ls (lv_sub hl [] rfl) hP hD hS hf
def f_X9_step_b21 (x_t_place : Int32) : Option (Int32) :=
  some x_t_place
def f_X9_step (x_t_end : Int32) (x_t_place : Int32) : Option (Int32) :=
  if x_t_end ≤ x_t_place then
    f_X9_step_b21 x_t_place
  else
    f_X9_step_b21 (x_t_place + (1 : Int32))
set_option maxHeartbeats 4000000 in
set_option maxRecDepth 100000 in
theorem c_X9_step {l : Launch} {D : va_G} {cI cB : ClassId} {A_t A_t_bytes : Nat} {x_t_size x_t_end x_t_place x_t_fault : Int32} {o_x_t_place : Int32} (hf : f_X9_step x_t_end x_t_place = some o_x_t_place) : CtV l D cI cB yX9_step cX9_step 1 0 0 [.ref A_t] [oX9 A_t A_t_bytes x_t_size x_t_end x_t_place x_t_fault] [oX9 A_t A_t_bytes x_t_size x_t_end o_x_t_place x_t_fault] := by
  refine x_startV (by decide) (Nat.le_of_ble_eq_true rfl) ?_
  intro p e s m below meth c A C hr hlk hA hK hP hD hS ls hl
  have hl : lv_has ls 1 [(0, .ref A_t)] := hl
  have hx := C.1
  have hb := C.2.1
  unfold f_X9_step at hf
  have hb_21 : ∀ (x_t_place : Int32) (H : Heap) (locs : List Loc) (ls : Array Slot), lv_has ls 1 [] → va_P D vwCl [oX9 A_t A_t_bytes x_t_size x_t_end x_t_place x_t_fault] H → va_D A [oX9 A_t A_t_bytes x_t_size x_t_end x_t_place x_t_fault] → va_S A s.heap H locs → f_X9_step_b21 x_t_place = some o_x_t_place → W p l e { frames := 0, cells := 0, slots := 0, locals := 0 } s m ([.ref A_t] : List Value).toArray below meth c H locs 0 0 (MQ below (PoV D A [oX9 A_t A_t_bytes x_t_size x_t_end o_x_t_place x_t_fault]) ([.ref A_t] : List Value).toArray s 0 0 A) (F0 m 21 ls []) := by
    intro x_t_place H locs ls hl hP hD hS hf
    unfold f_X9_step_b21 at hf
    obtain rfl := ev1 hf
    exact x_vret C hr hlk hP hD hS dX9_step_21
  refine lv_aload_n hx hb dX9_step_0 rfl (lv_at hl 0 rfl) ?_
  refine x_get C hK hP fd_X9_32 0 rfl rfl dX9_step_1 ?_
  refine lv_aload_n hx hb dX9_step_4 rfl (lv_at hl 0 rfl) ?_
  refine x_get C hK hP fd_X9_29 0 rfl rfl dX9_step_5 ?_
  refine lv_icmp_ge (tgt := 21) hx hb dX9_step_8 (by decide) (fun q => ?_) (fun q => ?_)
  · have hf := if_t q hf
    exact hb_21 x_t_place _ _ ls (lv_sub hl [] rfl) hP hD hS hf
  · have hf := if_f q hf
    refine lv_aload_n hx hb dX9_step_11 rfl (lv_at hl 0 rfl) ?_
    refine lv_dup hx hb dX9_step_12 rfl ?_
    refine x_get C hK hP fd_X9_32 0 rfl rfl dX9_step_13 ?_
    refine lv_iconst (v := 1) hx hb dX9_step_16 (by decide) ?_
    refine lv_iadd hx hb dX9_step_17 ?_
    refine x_put (ws' := [oX9 A_t A_t_bytes x_t_size x_t_end (x_t_place + (1 : Int32)) x_t_fault]) C hK hP hD hS fp_X9_32 0 rfl rfl rfl (Nat.le_of_ble_eq_true rfl) rfl dX9_step_18 ?_
    intro H locs hP hD hS
    exact hb_21 (x_t_place + (1 : Int32)) _ _ ls (lv_sub hl [] rfl) hP hD hS hf
def f_X9_failAt_b18 (x_t_fault : Int32) : Option (Int32) :=
  some x_t_fault
def f_X9_failAt (x_t_fault : Int32) (a1 : Int32) (a2 : Int32) : Option (Int32) :=
  if x_t_fault = 0 then
    f_X9_failAt_b18 (((-1000 : Int32) * a1) - a2)
  else
    f_X9_failAt_b18 x_t_fault
set_option maxHeartbeats 4000000 in
set_option maxRecDepth 100000 in
theorem c_X9_failAt {l : Launch} {D : va_G} {cI cB : ClassId} {A_t A_t_bytes : Nat} {x_t_size x_t_end x_t_place x_t_fault a1 a2 : Int32} {o_x_t_fault : Int32} (hf : f_X9_failAt x_t_fault a1 a2 = some o_x_t_fault) : CtV l D cI cB yX9_failAt cX9_failAt 3 0 0 [.ref A_t, .int a1, .int a2] [oX9 A_t A_t_bytes x_t_size x_t_end x_t_place x_t_fault] [oX9 A_t A_t_bytes x_t_size x_t_end x_t_place o_x_t_fault] := by
  refine x_startV (by decide) (Nat.le_of_ble_eq_true rfl) ?_
  intro p e s m below meth c A C hr hlk hA hK hP hD hS ls hl
  have hl : lv_has ls 3 [(0, .ref A_t), (1, .int a1), (2, .int a2)] := hl
  have hx := C.1
  have hb := C.2.1
  unfold f_X9_failAt at hf
  have hb_18 : ∀ (x_t_fault : Int32) (H : Heap) (locs : List Loc) (ls : Array Slot), lv_has ls 3 [] → va_P D vwCl [oX9 A_t A_t_bytes x_t_size x_t_end x_t_place x_t_fault] H → va_D A [oX9 A_t A_t_bytes x_t_size x_t_end x_t_place x_t_fault] → va_S A s.heap H locs → f_X9_failAt_b18 x_t_fault = some o_x_t_fault → W p l e { frames := 0, cells := 0, slots := 0, locals := 0 } s m ([.ref A_t, .int a1, .int a2] : List Value).toArray below meth c H locs 0 0 (MQ below (PoV D A [oX9 A_t A_t_bytes x_t_size x_t_end x_t_place o_x_t_fault]) ([.ref A_t, .int a1, .int a2] : List Value).toArray s 0 0 A) (F0 m 18 ls []) := by
    intro x_t_fault H locs ls hl hP hD hS hf
    unfold f_X9_failAt_b18 at hf
    obtain rfl := ev1 hf
    exact x_vret C hr hlk hP hD hS dX9_failAt_18
  refine lv_aload_n hx hb dX9_failAt_0 rfl (lv_at hl 0 rfl) ?_
  refine x_get C hK hP fd_X9_35 0 rfl rfl dX9_failAt_1 ?_
  refine lv_if_ne (tgt := 18) hx hb dX9_failAt_4 (by decide) (fun q => ?_) (fun q => ?_)
  · have hf := if_f q hf
    exact hb_18 x_t_fault _ _ ls (lv_sub hl [] rfl) hP hD hS hf
  · have hf := if_t q hf
    refine lv_aload_n hx hb dX9_failAt_7 rfl (lv_at hl 0 rfl) ?_
    refine lv_sipush (v := -1000) hx hb dX9_failAt_8 (by decide) ?_
    refine lv_iload_n hx hb dX9_failAt_11 rfl (lv_at hl 1 rfl) ?_
    refine lv_imul hx hb dX9_failAt_12 ?_
    refine lv_iload_n hx hb dX9_failAt_13 rfl (lv_at hl 2 rfl) ?_
    refine lv_isub hx hb dX9_failAt_14 ?_
    refine x_put (ws' := [oX9 A_t A_t_bytes x_t_size x_t_end x_t_place (((-1000 : Int32) * a1) - a2)]) C hK hP hD hS fp_X9_35 0 rfl rfl rfl (Nat.le_of_ble_eq_true rfl) rfl dX9_failAt_15 ?_
    intro H locs hP hD hS
    exact hb_18 (((-1000 : Int32) * a1) - a2) _ _ ls (lv_sub hl [] rfl) hP hD hS hf
def f_X9_fail (x_t_fault : Int32) (x_t_place : Int32) (a1 : Int32) : Option (Int32) :=
  bd1 (f_X9_failAt x_t_fault a1 x_t_place) (fun w1 =>
  some w1)
set_option maxHeartbeats 4000000 in
set_option maxRecDepth 100000 in
theorem c_X9_fail {l : Launch} {D : va_G} {cI cB : ClassId} {A_t A_t_bytes : Nat} {x_t_size x_t_end x_t_place x_t_fault a1 : Int32} {o_x_t_fault : Int32} (hf : f_X9_fail x_t_fault x_t_place a1 = some o_x_t_fault) : CtV l D cI cB yX9_fail cX9_fail 2 1 22 [.ref A_t, .int a1] [oX9 A_t A_t_bytes x_t_size x_t_end x_t_place x_t_fault] [oX9 A_t A_t_bytes x_t_size x_t_end x_t_place o_x_t_fault] := by
  refine x_startV (by decide) (Nat.le_of_ble_eq_true rfl) ?_
  intro p e s m below meth c A C hr hlk hA hK hP hD hS ls hl
  have hl : lv_has ls 2 [(0, .ref A_t), (1, .int a1)] := hl
  have hx := C.1
  have hb := C.2.1
  unfold f_X9_fail at hf
  refine lv_aload_n hx hb dX9_fail_0 rfl (lv_at hl 0 rfl) ?_
  refine lv_iload_n hx hb dX9_fail_1 rfl (lv_at hl 1 rfl) ?_
  refine lv_aload_n hx hb dX9_fail_2 rfl (lv_at hl 0 rfl) ?_
  refine x_get C hK hP fd_X9_32 0 rfl rfl dX9_fail_3 ?_
  obtain ⟨w1, hc2, hf⟩ := bd1_e hf
  refine x_callVV (ws' := [oX9 A_t A_t_bytes x_t_size x_t_end x_t_place w1]) (rest := []) C hK hP hD hS hA hl mf_X9_38 (c_X9_failAt hc2) [0] 0 9 rfl rfl rfl rfl rfl rfl rfl rfl rfl rfl (Nat.le_of_ble_eq_true rfl) ⟨Nat.le_of_ble_eq_true rfl, Nat.le_of_ble_eq_true rfl⟩ ⟨Nat.le_refl _, Nat.le_refl _⟩ dX9_fail_6 ?_
  intro H locs hP hD hS
  obtain rfl := ev1 hf
  exact x_vret C hr hlk hP hD hS dX9_fail_9
def f_X9_take_b20 (x_t_fault : Int32) (x_t_place : Int32) : Option (Int32 × Int32) :=
  some (x_t_fault, x_t_place)
def f_X9_take (v_t_bytes : (Nat → Int32)) (x_t_end : Int32) (x_t_fault : Int32) (x_t_place : Int32) (x_t_size : Int32) (a1 : Int32) : Option (Int32 × Int32) :=
  bd1 (f_X9_sign v_t_bytes x_t_end x_t_fault x_t_place x_t_size) (fun r1 =>
  if r1 = a1 then
    bd1 (f_X9_step x_t_end x_t_place) (fun w3 =>
    f_X9_take_b20 x_t_fault w3)
  else
    bd1 (f_X9_fail x_t_fault x_t_place (1 : Int32)) (fun w2 =>
    f_X9_take_b20 w2 x_t_place))
set_option maxHeartbeats 4000000 in
set_option maxRecDepth 100000 in
theorem c_X9_take {l : Launch} {D : va_G} {cI cB : ClassId} {A_t A_t_bytes : Nat} {x_t_size x_t_end x_t_place x_t_fault a1 : Int32} {v_t_bytes : Nat → Int32} {o_x_t_fault o_x_t_place : Int32} (hf : f_X9_take v_t_bytes x_t_end x_t_fault x_t_place x_t_size a1 = some (o_x_t_fault, o_x_t_place)) : CtV l D cI cB yX9_take cX9_take 2 2 43 [.ref A_t, .int a1] [oX9 A_t A_t_bytes x_t_size x_t_end x_t_place x_t_fault, iA cI 260 A_t_bytes v_t_bytes] [oX9 A_t A_t_bytes x_t_size x_t_end o_x_t_place o_x_t_fault, iA cI 260 A_t_bytes v_t_bytes] := by
  refine x_startV (by decide) (Nat.le_of_ble_eq_true rfl) ?_
  intro p e s m below meth c A C hr hlk hA hK hP hD hS ls hl
  have hl : lv_has ls 2 [(0, .ref A_t), (1, .int a1)] := hl
  have hx := C.1
  have hb := C.2.1
  unfold f_X9_take at hf
  have hb_20 : ∀ (x_t_fault : Int32) (x_t_place : Int32) (H : Heap) (locs : List Loc) (ls : Array Slot), lv_has ls 2 [] → va_P D vwCl [oX9 A_t A_t_bytes x_t_size x_t_end x_t_place x_t_fault, iA cI 260 A_t_bytes v_t_bytes] H → va_D A [oX9 A_t A_t_bytes x_t_size x_t_end x_t_place x_t_fault, iA cI 260 A_t_bytes v_t_bytes] → va_S A s.heap H locs → f_X9_take_b20 x_t_fault x_t_place = some (o_x_t_fault, o_x_t_place) → W p l e { frames := 2, cells := 0, slots := 0, locals := 43 } s m ([.ref A_t, .int a1] : List Value).toArray below meth c H locs 0 0 (MQ below (PoV D A [oX9 A_t A_t_bytes x_t_size x_t_end o_x_t_place o_x_t_fault, iA cI 260 A_t_bytes v_t_bytes]) ([.ref A_t, .int a1] : List Value).toArray s 0 0 A) (F0 m 20 ls []) := by
    intro x_t_fault x_t_place H locs ls hl hP hD hS hf
    unfold f_X9_take_b20 at hf
    obtain ⟨rfl, rfl⟩ := ev2 hf
    exact x_vret C hr hlk hP hD hS dX9_take_20
  refine lv_aload_n hx hb dX9_take_0 rfl (lv_at hl 0 rfl) ?_
  obtain ⟨r1, hc2, hf⟩ := bd1_e hf
  refine x_callVI (ws' := [oX9 A_t A_t_bytes x_t_size x_t_end x_t_place x_t_fault, iA cI 260 A_t_bytes v_t_bytes]) (rest := []) C hK hP hD hS hA hl mf_X9_42 (c_X9_sign hc2) [0, 1] 0 9 rfl rfl rfl rfl rfl rfl rfl rfl rfl rfl (Nat.le_of_ble_eq_true rfl) ⟨Nat.le_of_ble_eq_true rfl, Nat.le_of_ble_eq_true rfl⟩ ⟨Nat.le_refl _, Nat.le_refl _⟩ dX9_take_1 ?_
  intro H locs hP hD hS
  refine lv_iload_n hx hb dX9_take_4 rfl (lv_at hl 1 rfl) ?_
  refine lv_icmp_ne (tgt := 15) hx hb dX9_take_5 (by decide) (fun q => ?_) (fun q => ?_)
  · have hf := if_f q hf
    refine lv_aload_n hx hb dX9_take_15 rfl (lv_at hl 0 rfl) ?_
    refine lv_iconst (v := 1) hx hb dX9_take_16 (by decide) ?_
    obtain ⟨w3, hc4, hf⟩ := bd1_e hf
    refine x_callVV (ws' := [oX9 A_t A_t_bytes x_t_size x_t_end x_t_place w3, iA cI 260 A_t_bytes v_t_bytes]) (rest := []) C hK hP hD hS hA hl mf_X9_49 (c_X9_fail hc4) [0] 0 9 rfl rfl rfl rfl rfl rfl rfl rfl rfl rfl (Nat.le_of_ble_eq_true rfl) ⟨Nat.le_of_ble_eq_true rfl, Nat.le_of_ble_eq_true rfl⟩ ⟨Nat.le_refl _, Nat.le_refl _⟩ dX9_take_17 ?_
    intro H locs hP hD hS
    exact hb_20 w3 x_t_place _ _ ls (lv_sub hl [] rfl) hP hD hS hf
  · have hf := if_t q hf
    refine lv_aload_n hx hb dX9_take_8 rfl (lv_at hl 0 rfl) ?_
    obtain ⟨w5, hc6, hf⟩ := bd1_e hf
    refine x_callVV (ws' := [oX9 A_t A_t_bytes x_t_size x_t_end w5 x_t_fault, iA cI 260 A_t_bytes v_t_bytes]) (rest := []) C hK hP hD hS hA hl mf_X9_46 (c_X9_step hc6) [0] 0 9 rfl rfl rfl rfl rfl rfl rfl rfl rfl rfl (Nat.le_of_ble_eq_true rfl) ⟨Nat.le_of_ble_eq_true rfl, Nat.le_of_ble_eq_true rfl⟩ ⟨Nat.le_refl _, Nat.le_refl _⟩ dX9_take_9 ?_
    intro H locs hP hD hS
    refine lv_goto (tgt := 20) hx hb dX9_take_12 (by decide) ?_
    exact hb_20 x_t_fault w5 _ _ ls (lv_sub hl [] rfl) hP hD hS hf
def f_X9_readNumber_b49 (a1 : Int32) (k4 : Int32 → Int32 → Int32 → Int32 → Option (Int32 × Int32 × Int32)) (x_t_fault : Int32) (x_t_place : Int32) (l2 : Int32) (l3 : Int32) : Option (Int32 × Int32 × Int32) :=
  k4 x_t_fault x_t_place l2 (l3 + (1 : Int32))
def f_X9_readNumber_b64 (x_t_fault : Int32) (x_t_place : Int32) (l2 : Int32) : Option (Int32 × Int32 × Int32) :=
  some (l2, x_t_fault, x_t_place)
def f_X9_readNumber_b55 (x_t_fault : Int32) (x_t_place : Int32) (l2 : Int32) (l3 : Int32) : Option (Int32 × Int32 × Int32) :=
  if l3 = 0 then
    bd1 (f_X9_fail x_t_fault x_t_place (1 : Int32)) (fun w1 =>
    f_X9_readNumber_b64 w1 x_t_place l2)
  else
    f_X9_readNumber_b64 x_t_fault x_t_place l2
def f_X9_readNumber_b4 (v_t_bytes : (Nat → Int32)) (x_t_end : Int32) (x_t_size : Int32) (a1 : Int32) : Nat → Int32 → Int32 → Int32 → Int32 → Option (Int32 × Int32 × Int32)
  | 0, _, _, _, _ => none
  | n + 1, x_t_fault, x_t_place, l2, l3 =>
    if a1 < l3 then
      f_X9_readNumber_b55 x_t_fault x_t_place l2 l3
    else
      bd1 (f_X9_sign v_t_bytes x_t_end x_t_fault x_t_place x_t_size) (fun r1 =>
      bd1 (f_X11_isDigit r1) (fun r2 =>
      if r2 = 0 then
        f_X9_readNumber_b55 x_t_fault x_t_place l2 l3
      else
        if l3 = a1 then
          bd1 (f_X9_fail x_t_fault x_t_place (2 : Int32)) (fun w5 =>
          f_X9_readNumber_b49 a1 (f_X9_readNumber_b4 v_t_bytes x_t_end x_t_size a1 n) w5 x_t_place l2 l3)
        else
          bd1 (f_X9_sign v_t_bytes x_t_end x_t_fault x_t_place x_t_size) (fun r3 =>
          bd1 (f_X9_step x_t_end x_t_place) (fun w4 =>
          f_X9_readNumber_b49 a1 (f_X9_readNumber_b4 v_t_bytes x_t_end x_t_size a1 n) x_t_fault w4 ((((10 : Int32) * l2) + r3) - (48 : Int32)) l3))))
def f_X9_readNumber (v_t_bytes : (Nat → Int32)) (x_t_end : Int32) (x_t_fault : Int32) (x_t_place : Int32) (x_t_size : Int32) (a1 : Int32) : Option (Int32 × Int32 × Int32) :=
  f_X9_readNumber_b4 v_t_bytes x_t_end x_t_size a1 FU x_t_fault x_t_place (0 : Int32) (0 : Int32)
set_option maxHeartbeats 4000000 in
set_option maxRecDepth 100000 in
theorem c_X9_readNumber {l : Launch} {D : va_G} {cI cB : ClassId} {A_t A_t_bytes : Nat} {x_t_size x_t_end x_t_place x_t_fault a1 : Int32} {v_t_bytes : Nat → Int32} {o_r o_x_t_fault o_x_t_place : Int32} (hf : f_X9_readNumber v_t_bytes x_t_end x_t_fault x_t_place x_t_size a1 = some (o_r, o_x_t_fault, o_x_t_place)) : CtI l D cI cB yX9_readNumber cX9_readNumber 4 (some .int) 2 43 [.ref A_t, .int a1] [oX9 A_t A_t_bytes x_t_size x_t_end x_t_place x_t_fault, iA cI 260 A_t_bytes v_t_bytes] [oX9 A_t A_t_bytes x_t_size x_t_end o_x_t_place o_x_t_fault, iA cI 260 A_t_bytes v_t_bytes] o_r := by
  refine x_startI (by decide) (Nat.le_of_ble_eq_true rfl) ?_
  intro p e s m below meth c A C hr hlk hA hK hP hD hS ls hl
  have hl : lv_has ls 4 [(0, .ref A_t), (1, .int a1)] := hl
  have hx := C.1
  have hb := C.2.1
  unfold f_X9_readNumber at hf
  have hb_64 : ∀ (x_t_fault : Int32) (x_t_place : Int32) (l2 : Int32) (H : Heap) (locs : List Loc) (ls : Array Slot), lv_has ls 4 [(2, .int l2)] → va_P D vwCl [oX9 A_t A_t_bytes x_t_size x_t_end x_t_place x_t_fault, iA cI 260 A_t_bytes v_t_bytes] H → va_D A [oX9 A_t A_t_bytes x_t_size x_t_end x_t_place x_t_fault, iA cI 260 A_t_bytes v_t_bytes] → va_S A s.heap H locs → f_X9_readNumber_b64 x_t_fault x_t_place l2 = some (o_r, o_x_t_fault, o_x_t_place) → W p l e { frames := 2, cells := 0, slots := 0, locals := 43 } s m ([.ref A_t, .int a1] : List Value).toArray below meth c H locs 0 0 (MQ below (PoI D A [oX9 A_t A_t_bytes x_t_size x_t_end o_x_t_place o_x_t_fault, iA cI 260 A_t_bytes v_t_bytes] o_r) ([.ref A_t, .int a1] : List Value).toArray s 0 0 A) (F0 m 64 ls []) := by
    intro x_t_fault x_t_place l2 H locs ls hl hP hD hS hf
    unfold f_X9_readNumber_b64 at hf
    refine lv_iload_n hx hb dX9_readNumber_64 rfl (lv_at hl 0 rfl) ?_
    obtain ⟨rfl, rfl, rfl⟩ := ev3 hf
    exact x_iret C hr hlk hP hD hS dX9_readNumber_65
  have hb_55 : ∀ (x_t_fault : Int32) (x_t_place : Int32) (l2 : Int32) (l3 : Int32) (H : Heap) (locs : List Loc) (ls : Array Slot), lv_has ls 4 [(0, .ref A_t), (2, .int l2), (3, .int l3)] → va_P D vwCl [oX9 A_t A_t_bytes x_t_size x_t_end x_t_place x_t_fault, iA cI 260 A_t_bytes v_t_bytes] H → va_D A [oX9 A_t A_t_bytes x_t_size x_t_end x_t_place x_t_fault, iA cI 260 A_t_bytes v_t_bytes] → va_S A s.heap H locs → f_X9_readNumber_b55 x_t_fault x_t_place l2 l3 = some (o_r, o_x_t_fault, o_x_t_place) → W p l e { frames := 2, cells := 0, slots := 0, locals := 43 } s m ([.ref A_t, .int a1] : List Value).toArray below meth c H locs 0 0 (MQ below (PoI D A [oX9 A_t A_t_bytes x_t_size x_t_end o_x_t_place o_x_t_fault, iA cI 260 A_t_bytes v_t_bytes] o_r) ([.ref A_t, .int a1] : List Value).toArray s 0 0 A) (F0 m 55 ls []) := by
    intro x_t_fault x_t_place l2 l3 H locs ls hl hP hD hS hf
    unfold f_X9_readNumber_b55 at hf
    refine lv_iload_n hx hb dX9_readNumber_55 rfl (lv_at hl 2 rfl) ?_
    refine lv_if_ne (tgt := 64) hx hb dX9_readNumber_56 (by decide) (fun q => ?_) (fun q => ?_)
    · have hf := if_f q hf
      exact hb_64 x_t_fault x_t_place l2 _ _ ls (lv_sub hl [1] rfl) hP hD hS hf
    · have hf := if_t q hf
      refine lv_aload_n hx hb dX9_readNumber_59 rfl (lv_at hl 0 rfl) ?_
      refine lv_iconst (v := 1) hx hb dX9_readNumber_60 (by decide) ?_
      obtain ⟨w1, hc2, hf⟩ := bd1_e hf
      refine x_callVV (ws' := [oX9 A_t A_t_bytes x_t_size x_t_end x_t_place w1, iA cI 260 A_t_bytes v_t_bytes]) (rest := []) C hK hP hD hS hA hl mf_X9_49 (c_X9_fail hc2) [0] 0 9 rfl rfl rfl rfl rfl rfl rfl rfl rfl rfl (Nat.le_of_ble_eq_true rfl) ⟨Nat.le_of_ble_eq_true rfl, Nat.le_of_ble_eq_true rfl⟩ ⟨Nat.le_refl _, Nat.le_refl _⟩ dX9_readNumber_61 ?_
      intro H locs hP hD hS
      exact hb_64 w1 x_t_place l2 _ _ ls (lv_sub hl [1] rfl) hP hD hS hf
  have hb_4 : ∀ (n_4 : Nat) (x_t_fault : Int32) (x_t_place : Int32) (l2 : Int32) (l3 : Int32) (H : Heap) (locs : List Loc) (ls : Array Slot), lv_has ls 4 [(0, .ref A_t), (1, .int a1), (2, .int l2), (3, .int l3)] → va_P D vwCl [oX9 A_t A_t_bytes x_t_size x_t_end x_t_place x_t_fault, iA cI 260 A_t_bytes v_t_bytes] H → va_D A [oX9 A_t A_t_bytes x_t_size x_t_end x_t_place x_t_fault, iA cI 260 A_t_bytes v_t_bytes] → va_S A s.heap H locs → f_X9_readNumber_b4 v_t_bytes x_t_end x_t_size a1 n_4 x_t_fault x_t_place l2 l3 = some (o_r, o_x_t_fault, o_x_t_place) → W p l e { frames := 2, cells := 0, slots := 0, locals := 43 } s m ([.ref A_t, .int a1] : List Value).toArray below meth c H locs 0 0 (MQ below (PoI D A [oX9 A_t A_t_bytes x_t_size x_t_end o_x_t_place o_x_t_fault, iA cI 260 A_t_bytes v_t_bytes] o_r) ([.ref A_t, .int a1] : List Value).toArray s 0 0 A) (F0 m 4 ls []) := by
    intro n_4
    induction n_4 with
    | zero =>
      intro x_t_fault x_t_place l2 l3 H locs ls hl hP hD hS hf
      exact absurd hf (fun h => by rw [f_X9_readNumber_b4] at h; cases h)
    | succ n_4 ih_4 =>
      have hb_49 : ∀ (x_t_fault : Int32) (x_t_place : Int32) (l2 : Int32) (l3 : Int32) (H : Heap) (locs : List Loc) (ls : Array Slot), lv_has ls 4 [(0, .ref A_t), (1, .int a1), (2, .int l2), (3, .int l3)] → va_P D vwCl [oX9 A_t A_t_bytes x_t_size x_t_end x_t_place x_t_fault, iA cI 260 A_t_bytes v_t_bytes] H → va_D A [oX9 A_t A_t_bytes x_t_size x_t_end x_t_place x_t_fault, iA cI 260 A_t_bytes v_t_bytes] → va_S A s.heap H locs → f_X9_readNumber_b49 a1 (f_X9_readNumber_b4 v_t_bytes x_t_end x_t_size a1 n_4) x_t_fault x_t_place l2 l3 = some (o_r, o_x_t_fault, o_x_t_place) → W p l e { frames := 2, cells := 0, slots := 0, locals := 43 } s m ([.ref A_t, .int a1] : List Value).toArray below meth c H locs 0 0 (MQ below (PoI D A [oX9 A_t A_t_bytes x_t_size x_t_end o_x_t_place o_x_t_fault, iA cI 260 A_t_bytes v_t_bytes] o_r) ([.ref A_t, .int a1] : List Value).toArray s 0 0 A) (F0 m 49 ls []) := by
        intro x_t_fault x_t_place l2 l3 H locs ls hl hP hD hS hf
        unfold f_X9_readNumber_b49 at hf
        refine lv_iinc (v := (l3 + (1 : Int32))) (lv' := [(3, .int (l3 + (1 : Int32))), (0, .ref A_t), (1, .int a1), (2, .int l2)]) hx hb dX9_readNumber_49 hl (k := 3) rfl rfl (by decide) rfl (fun ls hl => ?_)
        refine lv_goto (tgt := 4) hx hb dX9_readNumber_52 (by decide) ?_
        exact ih_4 x_t_fault x_t_place l2 (l3 + (1 : Int32)) _ _ ls (lv_sub hl [1, 2, 3, 0] rfl) hP hD hS hf
      intro x_t_fault x_t_place l2 l3 H locs ls hl hP hD hS hf
      rw [f_X9_readNumber_b4] at hf
      refine lv_iload_n hx hb dX9_readNumber_4 rfl (lv_at hl 3 rfl) ?_
      refine lv_iload_n hx hb dX9_readNumber_5 rfl (lv_at hl 1 rfl) ?_
      refine lv_icmp_gt (tgt := 55) hx hb dX9_readNumber_6 (by decide) (fun q => ?_) (fun q => ?_)
      · have hf := if_t q hf
        exact hb_55 x_t_fault x_t_place l2 l3 _ _ ls (lv_sub hl [0, 2, 3] rfl) hP hD hS hf
      · have hf := if_f q hf
        refine lv_aload_n hx hb dX9_readNumber_9 rfl (lv_at hl 0 rfl) ?_
        obtain ⟨r3, hc4, hf⟩ := bd1_e hf
        refine x_callVI (ws' := [oX9 A_t A_t_bytes x_t_size x_t_end x_t_place x_t_fault, iA cI 260 A_t_bytes v_t_bytes]) (rest := []) C hK hP hD hS hA hl mf_X9_42 (c_X9_sign hc4) [0, 1] 0 9 rfl rfl rfl rfl rfl rfl rfl rfl rfl rfl (Nat.le_of_ble_eq_true rfl) ⟨Nat.le_of_ble_eq_true rfl, Nat.le_of_ble_eq_true rfl⟩ ⟨Nat.le_refl _, Nat.le_refl _⟩ dX9_readNumber_10 ?_
        intro H locs hP hD hS
        obtain ⟨r5, hc6, hf⟩ := bd1_e hf
        refine x_callSI (ws' := [oX9 A_t A_t_bytes x_t_size x_t_end x_t_place x_t_fault, iA cI 260 A_t_bytes v_t_bytes]) (rest := []) C hK hP hD hS hA hl mf_X9_53 (c_X11_isDigit hc6) [] rfl rfl rfl rfl rfl rfl rfl rfl (Nat.le_of_ble_eq_true rfl) ⟨Nat.le_of_ble_eq_true rfl, Nat.le_of_ble_eq_true rfl⟩ ⟨Nat.le_refl _, Nat.le_refl _⟩ dX9_readNumber_13 ?_
        intro H locs hP hD hS
        refine lv_if_eq (tgt := 55) hx hb dX9_readNumber_16 (by decide) (fun q => ?_) (fun q => ?_)
        · have hf := if_t q hf
          exact hb_55 x_t_fault x_t_place l2 l3 _ _ ls (lv_sub hl [0, 2, 3] rfl) hP hD hS hf
        · have hf := if_f q hf
          refine lv_iload_n hx hb dX9_readNumber_19 rfl (lv_at hl 3 rfl) ?_
          refine lv_iload_n hx hb dX9_readNumber_20 rfl (lv_at hl 1 rfl) ?_
          refine lv_icmp_ne (tgt := 32) hx hb dX9_readNumber_21 (by decide) (fun q => ?_) (fun q => ?_)
          · have hf := if_f q hf
            refine lv_bipush (v := 10) hx hb dX9_readNumber_32 (by decide) ?_
            refine lv_iload_n hx hb dX9_readNumber_34 rfl (lv_at hl 2 rfl) ?_
            refine lv_imul hx hb dX9_readNumber_35 ?_
            refine lv_aload_n hx hb dX9_readNumber_36 rfl (lv_at hl 0 rfl) ?_
            obtain ⟨r7, hc8, hf⟩ := bd1_e hf
            refine x_callVI (ws' := [oX9 A_t A_t_bytes x_t_size x_t_end x_t_place x_t_fault, iA cI 260 A_t_bytes v_t_bytes]) (rest := [.int ((10 : Int32) * l2)]) C hK hP hD hS hA hl mf_X9_42 (c_X9_sign hc8) [0, 1] 0 9 rfl rfl rfl rfl rfl rfl rfl rfl rfl rfl (Nat.le_of_ble_eq_true rfl) ⟨Nat.le_of_ble_eq_true rfl, Nat.le_of_ble_eq_true rfl⟩ ⟨Nat.le_refl _, Nat.le_refl _⟩ dX9_readNumber_37 ?_
            intro H locs hP hD hS
            refine lv_iadd hx hb dX9_readNumber_40 ?_
            refine lv_bipush (v := 48) hx hb dX9_readNumber_41 (by decide) ?_
            refine lv_isub hx hb dX9_readNumber_43 ?_
            refine lv_istore_n (lv' := [(2, .int ((((10 : Int32) * l2) + r7) - (48 : Int32))), (0, .ref A_t), (1, .int a1), (3, .int l3)]) hx hb dX9_readNumber_44 rfl hl (by decide) rfl (fun ls hl => ?_)
            refine lv_aload_n hx hb dX9_readNumber_45 rfl (lv_at hl 1 rfl) ?_
            obtain ⟨w9, hc10, hf⟩ := bd1_e hf
            refine x_callVV (ws' := [oX9 A_t A_t_bytes x_t_size x_t_end w9 x_t_fault, iA cI 260 A_t_bytes v_t_bytes]) (rest := []) C hK hP hD hS hA hl mf_X9_46 (c_X9_step hc10) [0] 0 9 rfl rfl rfl rfl rfl rfl rfl rfl rfl rfl (Nat.le_of_ble_eq_true rfl) ⟨Nat.le_of_ble_eq_true rfl, Nat.le_of_ble_eq_true rfl⟩ ⟨Nat.le_refl _, Nat.le_refl _⟩ dX9_readNumber_46 ?_
            intro H locs hP hD hS
            exact hb_49 x_t_fault w9 ((((10 : Int32) * l2) + r7) - (48 : Int32)) l3 _ _ ls (lv_sub hl [1, 2, 0, 3] rfl) hP hD hS hf
          · have hf := if_t q hf
            refine lv_aload_n hx hb dX9_readNumber_24 rfl (lv_at hl 0 rfl) ?_
            refine lv_iconst (v := 2) hx hb dX9_readNumber_25 (by decide) ?_
            obtain ⟨w11, hc12, hf⟩ := bd1_e hf
            refine x_callVV (ws' := [oX9 A_t A_t_bytes x_t_size x_t_end x_t_place w11, iA cI 260 A_t_bytes v_t_bytes]) (rest := []) C hK hP hD hS hA hl mf_X9_49 (c_X9_fail hc12) [0] 0 9 rfl rfl rfl rfl rfl rfl rfl rfl rfl rfl (Nat.le_of_ble_eq_true rfl) ⟨Nat.le_of_ble_eq_true rfl, Nat.le_of_ble_eq_true rfl⟩ ⟨Nat.le_refl _, Nat.le_refl _⟩ dX9_readNumber_26 ?_
            intro H locs hP hD hS
            refine lv_goto (tgt := 49) hx hb dX9_readNumber_29 (by decide) ?_
            exact hb_49 w11 x_t_place l2 l3 _ _ ls (lv_sub hl [0, 1, 2, 3] rfl) hP hD hS hf
  refine lv_iconst (v := 0) hx hb dX9_readNumber_0 (by decide) ?_
  refine lv_istore_n (lv' := [(2, .int (0 : Int32)), (0, .ref A_t), (1, .int a1)]) hx hb dX9_readNumber_1 rfl hl (by decide) rfl (fun ls hl => ?_)
  refine lv_iconst (v := 0) hx hb dX9_readNumber_2 (by decide) ?_
  refine lv_istore_n (lv' := [(3, .int (0 : Int32)), (2, .int (0 : Int32)), (0, .ref A_t), (1, .int a1)]) hx hb dX9_readNumber_3 rfl hl (by decide) rfl (fun ls hl => ?_)
  exact hb_4 FU x_t_fault x_t_place (0 : Int32) (0 : Int32) _ _ ls (lv_sub hl [2, 3, 1, 0] rfl) hP hD hS hf
