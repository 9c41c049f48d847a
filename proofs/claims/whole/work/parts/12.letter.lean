def f_X3_wordAt_b20 (s0 : Int32) : Option (Int32) :=
  some s0
def f_X3_wordAt_b19 : Option (Int32) :=
  f_X3_wordAt_b20 (0 : Int32)
def f_X3_wordAt (v_t_words : (Nat → Int32)) (a1 : Int32) : Option (Int32) :=
  if a1 < 0 then
    f_X3_wordAt_b19
  else
    if (48 : Int32) ≤ a1 then
      f_X3_wordAt_b19
    else
      gI 48 v_t_words a1 (fun g1 =>
      f_X3_wordAt_b20 g1)
set_option maxHeartbeats 4000000 in
set_option maxRecDepth 100000 in
theorem c_X3_wordAt {l : Launch} {D : va_G} {cI cB : ClassId} {A_t A_t_text A_t_words A_t_draft : Nat} {x_t_size x_t_drafted a1 : Int32} {v_t_words : Nat → Int32} {o_r : Int32} (hf : f_X3_wordAt v_t_words a1 = some o_r) : CtI l D cI cB yX3_wordAt cX3_wordAt 2 (some .int) 0 0 [.ref A_t, .int a1] [oX3 A_t A_t_text A_t_words A_t_draft x_t_size x_t_drafted, iA cI 48 A_t_words v_t_words] [oX3 A_t A_t_text A_t_words A_t_draft x_t_size x_t_drafted, iA cI 48 A_t_words v_t_words] o_r := by
  refine x_startI (by decide) (Nat.le_of_ble_eq_true rfl) ?_
  intro p e s m below meth c A C hr hlk hA hK hP hD hS ls hl
  have hl : lv_has ls 2 [(0, .ref A_t), (1, .int a1)] := hl
  have hx := C.1
  have hb := C.2.1
  unfold f_X3_wordAt at hf
  have hb_20 : ∀ (s0 : Int32) (H : Heap) (locs : List Loc) (ls : Array Slot), lv_has ls 2 [] → va_P D vwCl [oX3 A_t A_t_text A_t_words A_t_draft x_t_size x_t_drafted, iA cI 48 A_t_words v_t_words] H → va_D A [oX3 A_t A_t_text A_t_words A_t_draft x_t_size x_t_drafted, iA cI 48 A_t_words v_t_words] → va_S A s.heap H locs → f_X3_wordAt_b20 s0 = some o_r → W p l e { frames := 0, cells := 0, slots := 0, locals := 0 } s m ([.ref A_t, .int a1] : List Value).toArray below meth c H locs 0 0 (MQ below (PoI D A [oX3 A_t A_t_text A_t_words A_t_draft x_t_size x_t_drafted, iA cI 48 A_t_words v_t_words] o_r) ([.ref A_t, .int a1] : List Value).toArray s 0 0 A) (F0 m 20 ls [.int s0]) := by
    intro s0 H locs ls hl hP hD hS hf
    unfold f_X3_wordAt_b20 at hf
    obtain rfl := ev1 hf
    exact x_iret C hr hlk hP hD hS dX3_wordAt_20
  have hb_19 : ∀ (H : Heap) (locs : List Loc) (ls : Array Slot), lv_has ls 2 [] → va_P D vwCl [oX3 A_t A_t_text A_t_words A_t_draft x_t_size x_t_drafted, iA cI 48 A_t_words v_t_words] H → va_D A [oX3 A_t A_t_text A_t_words A_t_draft x_t_size x_t_drafted, iA cI 48 A_t_words v_t_words] → va_S A s.heap H locs → f_X3_wordAt_b19 = some o_r → W p l e { frames := 0, cells := 0, slots := 0, locals := 0 } s m ([.ref A_t, .int a1] : List Value).toArray below meth c H locs 0 0 (MQ below (PoI D A [oX3 A_t A_t_text A_t_words A_t_draft x_t_size x_t_drafted, iA cI 48 A_t_words v_t_words] o_r) ([.ref A_t, .int a1] : List Value).toArray s 0 0 A) (F0 m 19 ls []) := by
    intro H locs ls hl hP hD hS hf
    unfold f_X3_wordAt_b19 at hf
    refine lv_iconst (v := 0) hx hb dX3_wordAt_19 (by decide) ?_
    exact hb_20 (0 : Int32) _ _ ls (lv_sub hl [] rfl) hP hD hS hf
  refine lv_iload_n hx hb dX3_wordAt_0 rfl (lv_at hl 1 rfl) ?_
  refine lv_if_lt (tgt := 19) hx hb dX3_wordAt_1 (by decide) (fun q => ?_) (fun q => ?_)
  · have hf := if_t q hf
    exact hb_19 _ _ ls (lv_sub hl [] rfl) hP hD hS hf
  · have hf := if_f q hf
    refine lv_iload_n hx hb dX3_wordAt_4 rfl (lv_at hl 1 rfl) ?_
    refine lv_bipush (v := 48) hx hb dX3_wordAt_5 (by decide) ?_
    refine lv_icmp_ge (tgt := 19) hx hb dX3_wordAt_7 (by decide) (fun q => ?_) (fun q => ?_)
    · have hf := if_t q hf
      exact hb_19 _ _ ls (lv_sub hl [] rfl) hP hD hS hf
    · have hf := if_f q hf
      refine lv_aload_n hx hb dX3_wordAt_10 rfl (lv_at hl 0 rfl) ?_
      refine x_get C hK hP fd_X3_11 0 rfl rfl dX3_wordAt_11 ?_
      refine lv_iload_n hx hb dX3_wordAt_14 rfl (lv_at hl 1 rfl) ?_
      obtain ⟨hi, hf⟩ := gI_e hf
      refine x_iald C hK hP 1 rfl hi dX3_wordAt_15 ?_
      refine lv_goto (tgt := 20) hx hb dX3_wordAt_16 (by decide) ?_
      exact hb_20 (v_t_words a1.toNatClampNeg) _ _ ls (lv_sub hl [] rfl) hP hD hS hf
def f_X3_bits_b4 (v_t_words : (Nat → Int32)) (x_t_size : Int32) : Nat → Int32 → Int32 → Option (Int32)
  | 0, _, _ => none
  | n + 1, l1, l2 =>
    if x_t_size ≤ l2 then
      some l1
    else
      bd1 (f_X3_wordAt v_t_words l2) (fun r1 =>
      f_X3_bits_b4 v_t_words x_t_size n (l1 ||| ((1 : Int32) <<< (r1 &&& 31))) (l2 + (1 : Int32)))
def f_X3_bits (v_t_words : (Nat → Int32)) (x_t_size : Int32) : Option (Int32) :=
  f_X3_bits_b4 v_t_words x_t_size FU (0 : Int32) (0 : Int32)
set_option maxHeartbeats 4000000 in
set_option maxRecDepth 100000 in
theorem c_X3_bits {l : Launch} {D : va_G} {cI cB : ClassId} {A_t A_t_text A_t_words A_t_draft : Nat} {x_t_size x_t_drafted : Int32} {v_t_words : Nat → Int32} {o_r : Int32} (hf : f_X3_bits v_t_words x_t_size = some o_r) : CtI l D cI cB yX3_bits cX3_bits 3 (some .int) 1 21 [.ref A_t] [oX3 A_t A_t_text A_t_words A_t_draft x_t_size x_t_drafted, iA cI 48 A_t_words v_t_words] [oX3 A_t A_t_text A_t_words A_t_draft x_t_size x_t_drafted, iA cI 48 A_t_words v_t_words] o_r := by
  refine x_startI (by decide) (Nat.le_of_ble_eq_true rfl) ?_
  intro p e s m below meth c A C hr hlk hA hK hP hD hS ls hl
  have hl : lv_has ls 3 [(0, .ref A_t)] := hl
  have hx := C.1
  have hb := C.2.1
  unfold f_X3_bits at hf
  have hb_4 : ∀ (n_4 : Nat) (l1 : Int32) (l2 : Int32) (H : Heap) (locs : List Loc) (ls : Array Slot), lv_has ls 3 [(0, .ref A_t), (1, .int l1), (2, .int l2)] → va_P D vwCl [oX3 A_t A_t_text A_t_words A_t_draft x_t_size x_t_drafted, iA cI 48 A_t_words v_t_words] H → va_D A [oX3 A_t A_t_text A_t_words A_t_draft x_t_size x_t_drafted, iA cI 48 A_t_words v_t_words] → va_S A s.heap H locs → f_X3_bits_b4 v_t_words x_t_size n_4 l1 l2 = some o_r → W p l e { frames := 1, cells := 0, slots := 0, locals := 21 } s m ([.ref A_t] : List Value).toArray below meth c H locs 0 0 (MQ below (PoI D A [oX3 A_t A_t_text A_t_words A_t_draft x_t_size x_t_drafted, iA cI 48 A_t_words v_t_words] o_r) ([.ref A_t] : List Value).toArray s 0 0 A) (F0 m 4 ls []) := by
    intro n_4
    induction n_4 with
    | zero =>
      intro l1 l2 H locs ls hl hP hD hS hf
      exact absurd hf (fun h => by rw [f_X3_bits_b4] at h; cases h)
    | succ n_4 ih_4 =>
      intro l1 l2 H locs ls hl hP hD hS hf
      rw [f_X3_bits_b4] at hf
      refine lv_iload_n hx hb dX3_bits_4 rfl (lv_at hl 2 rfl) ?_
      refine lv_aload_n hx hb dX3_bits_5 rfl (lv_at hl 0 rfl) ?_
      refine x_get C hK hP fd_X3_22 0 rfl rfl dX3_bits_6 ?_
      refine lv_icmp_ge (tgt := 28) hx hb dX3_bits_9 (by decide) (fun q => ?_) (fun q => ?_)
      · have hf := if_t q hf
        refine lv_iload_n hx hb dX3_bits_28 rfl (lv_at hl 1 rfl) ?_
        obtain rfl := ev1 hf
        exact x_iret C hr hlk hP hD hS dX3_bits_29
      · have hf := if_f q hf
        refine lv_iload_n hx hb dX3_bits_12 rfl (lv_at hl 1 rfl) ?_
        refine lv_iconst (v := 1) hx hb dX3_bits_13 (by decide) ?_
        refine lv_aload_n hx hb dX3_bits_14 rfl (lv_at hl 0 rfl) ?_
        refine lv_iload_n hx hb dX3_bits_15 rfl (lv_at hl 2 rfl) ?_
        obtain ⟨r1, hc2, hf⟩ := bd1_e hf
        refine x_callVI (ws' := [oX3 A_t A_t_text A_t_words A_t_draft x_t_size x_t_drafted, iA cI 48 A_t_words v_t_words]) (rest := [.int (1 : Int32), .int l1]) C hK hP hD hS hA hl mf_X3_26 (c_X3_wordAt hc2) [0, 1] 0 3 rfl rfl rfl rfl rfl rfl rfl rfl rfl rfl (Nat.le_of_ble_eq_true rfl) ⟨Nat.le_of_ble_eq_true rfl, Nat.le_of_ble_eq_true rfl⟩ ⟨Nat.le_refl _, Nat.le_refl _⟩ dX3_bits_16 ?_
        intro H locs hP hD hS
        refine lv_ishl hx hb dX3_bits_19 ?_
        refine lv_ior hx hb dX3_bits_20 ?_
        refine lv_istore_n (lv' := [(1, .int (l1 ||| ((1 : Int32) <<< (r1 &&& 31)))), (0, .ref A_t), (2, .int l2)]) hx hb dX3_bits_21 rfl hl (by decide) rfl (fun ls hl => ?_)
        refine lv_iinc (v := (l2 + (1 : Int32))) (lv' := [(2, .int (l2 + (1 : Int32))), (1, .int (l1 ||| ((1 : Int32) <<< (r1 &&& 31)))), (0, .ref A_t)]) hx hb dX3_bits_22 hl (k := 2) rfl rfl (by decide) rfl (fun ls hl => ?_)
        refine lv_goto (tgt := 4) hx hb dX3_bits_25 (by decide) ?_
        exact ih_4 (l1 ||| ((1 : Int32) <<< (r1 &&& 31))) (l2 + (1 : Int32)) _ _ ls (lv_sub hl [2, 1, 0] rfl) hP hD hS hf
  refine lv_iconst (v := 0) hx hb dX3_bits_0 (by decide) ?_
  refine lv_istore_n (lv' := [(1, .int (0 : Int32)), (0, .ref A_t)]) hx hb dX3_bits_1 rfl hl (by decide) rfl (fun ls hl => ?_)
  refine lv_iconst (v := 0) hx hb dX3_bits_2 (by decide) ?_
  refine lv_istore_n (lv' := [(2, .int (0 : Int32)), (1, .int (0 : Int32)), (0, .ref A_t)]) hx hb dX3_bits_3 rfl hl (by decide) rfl (fun ls hl => ?_)
  exact hb_4 FU (0 : Int32) (0 : Int32) _ _ ls (lv_sub hl [2, 1, 0] rfl) hP hD hS hf
def f_X3_put_b36 (v_t_draft : (Nat → Int32)) (x_t_drafted : Int32) : Option ((Nat → Int32) × Int32) :=
  some (v_t_draft, x_t_drafted)
def f_X3_put (v_t_draft : (Nat → Int32)) (x_t_drafted : Int32) (a1 : Int32) : Option ((Nat → Int32) × Int32) :=
  if x_t_drafted < 0 then
    f_X3_put_b36 v_t_draft x_t_drafted
  else
    if (48 : Int32) < x_t_drafted then
      f_X3_put_b36 v_t_draft x_t_drafted
    else
      sI 49 v_t_draft x_t_drafted a1 (fun w1 =>
      f_X3_put_b36 w1 (x_t_drafted + (1 : Int32)))
set_option maxHeartbeats 4000000 in
set_option maxRecDepth 100000 in
theorem c_X3_put {l : Launch} {D : va_G} {cI cB : ClassId} {A_t A_t_text A_t_words A_t_draft : Nat} {x_t_size x_t_drafted a1 : Int32} {v_t_draft : Nat → Int32} {o_x_t_drafted : Int32} {o_v_t_draft : Nat → Int32} (hf : f_X3_put v_t_draft x_t_drafted a1 = some (o_v_t_draft, o_x_t_drafted)) : CtV l D cI cB yX3_put cX3_put 2 0 0 [.ref A_t, .int a1] [oX3 A_t A_t_text A_t_words A_t_draft x_t_size x_t_drafted, iA cI 49 A_t_draft v_t_draft] [oX3 A_t A_t_text A_t_words A_t_draft x_t_size o_x_t_drafted, iA cI 49 A_t_draft o_v_t_draft] := by
  refine x_startV (by decide) (Nat.le_of_ble_eq_true rfl) ?_
  intro p e s m below meth c A C hr hlk hA hK hP hD hS ls hl
  have hl : lv_has ls 2 [(0, .ref A_t), (1, .int a1)] := hl
  have hx := C.1
  have hb := C.2.1
  unfold f_X3_put at hf
  have hb_36 : ∀ (v_t_draft : (Nat → Int32)) (x_t_drafted : Int32) (H : Heap) (locs : List Loc) (ls : Array Slot), lv_has ls 2 [] → va_P D vwCl [oX3 A_t A_t_text A_t_words A_t_draft x_t_size x_t_drafted, iA cI 49 A_t_draft v_t_draft] H → va_D A [oX3 A_t A_t_text A_t_words A_t_draft x_t_size x_t_drafted, iA cI 49 A_t_draft v_t_draft] → va_S A s.heap H locs → f_X3_put_b36 v_t_draft x_t_drafted = some (o_v_t_draft, o_x_t_drafted) → W p l e { frames := 0, cells := 0, slots := 0, locals := 0 } s m ([.ref A_t, .int a1] : List Value).toArray below meth c H locs 0 0 (MQ below (PoV D A [oX3 A_t A_t_text A_t_words A_t_draft x_t_size o_x_t_drafted, iA cI 49 A_t_draft o_v_t_draft]) ([.ref A_t, .int a1] : List Value).toArray s 0 0 A) (F0 m 36 ls []) := by
    intro v_t_draft x_t_drafted H locs ls hl hP hD hS hf
    unfold f_X3_put_b36 at hf
    obtain ⟨rfl, rfl⟩ := ev2 hf
    exact x_vret C hr hlk hP hD hS dX3_put_36
  refine lv_aload_n hx hb dX3_put_0 rfl (lv_at hl 0 rfl) ?_
  refine x_get C hK hP fd_X3_30 0 rfl rfl dX3_put_1 ?_
  refine lv_if_lt (tgt := 36) hx hb dX3_put_4 (by decide) (fun q => ?_) (fun q => ?_)
  · have hf := if_t q hf
    exact hb_36 v_t_draft x_t_drafted _ _ ls (lv_sub hl [] rfl) hP hD hS hf
  · have hf := if_f q hf
    refine lv_aload_n hx hb dX3_put_7 rfl (lv_at hl 0 rfl) ?_
    refine x_get C hK hP fd_X3_30 0 rfl rfl dX3_put_8 ?_
    refine lv_bipush (v := 48) hx hb dX3_put_11 (by decide) ?_
    refine lv_icmp_gt (tgt := 36) hx hb dX3_put_13 (by decide) (fun q => ?_) (fun q => ?_)
    · have hf := if_t q hf
      exact hb_36 v_t_draft x_t_drafted _ _ ls (lv_sub hl [] rfl) hP hD hS hf
    · have hf := if_f q hf
      refine lv_aload_n hx hb dX3_put_16 rfl (lv_at hl 0 rfl) ?_
      refine x_get C hK hP fd_X3_15 0 rfl rfl dX3_put_17 ?_
      refine lv_aload_n hx hb dX3_put_20 rfl (lv_at hl 0 rfl) ?_
      refine x_get C hK hP fd_X3_30 0 rfl rfl dX3_put_21 ?_
      refine lv_iload_n hx hb dX3_put_24 rfl (lv_at hl 1 rfl) ?_
      obtain ⟨hi, hf⟩ := sI_e hf
      refine x_iast (ws' := [oX3 A_t A_t_text A_t_words A_t_draft x_t_size x_t_drafted, iA cI 49 A_t_draft (upd v_t_draft x_t_drafted.toNatClampNeg a1)]) C hK hP hD hS 1 rfl hi rfl dX3_put_25 ?_
      intro H locs hP hD hS
      refine lv_aload_n hx hb dX3_put_26 rfl (lv_at hl 0 rfl) ?_
      refine lv_dup hx hb dX3_put_27 rfl ?_
      refine x_get C hK hP fd_X3_30 0 rfl rfl dX3_put_28 ?_
      refine lv_iconst (v := 1) hx hb dX3_put_31 (by decide) ?_
      refine lv_iadd hx hb dX3_put_32 ?_
      refine x_put (ws' := [oX3 A_t A_t_text A_t_words A_t_draft x_t_size (x_t_drafted + (1 : Int32)), iA cI 49 A_t_draft (upd v_t_draft x_t_drafted.toNatClampNeg a1)]) C hK hP hD hS fp_X3_30 0 rfl rfl rfl (Nat.le_of_ble_eq_true rfl) rfl dX3_put_33 ?_
      intro H locs hP hD hS
      exact hb_36 (upd v_t_draft x_t_drafted.toNatClampNeg a1) (x_t_drafted + (1 : Int32)) _ _ ls (lv_sub hl [] rfl) hP hD hS hf
def f_X3_draftedAt_b20 (s0 : Int32) : Option (Int32) :=
  some s0
def f_X3_draftedAt_b19 : Option (Int32) :=
  f_X3_draftedAt_b20 (0 : Int32)
def f_X3_draftedAt (v_t_draft : (Nat → Int32)) (a1 : Int32) : Option (Int32) :=
  if a1 < 0 then
    f_X3_draftedAt_b19
  else
    if (48 : Int32) < a1 then
      f_X3_draftedAt_b19
    else
      gI 49 v_t_draft a1 (fun g1 =>
      f_X3_draftedAt_b20 g1)
set_option maxHeartbeats 4000000 in
set_option maxRecDepth 100000 in
theorem c_X3_draftedAt {l : Launch} {D : va_G} {cI cB : ClassId} {A_t A_t_text A_t_words A_t_draft : Nat} {x_t_size x_t_drafted a1 : Int32} {v_t_draft : Nat → Int32} {o_r : Int32} (hf : f_X3_draftedAt v_t_draft a1 = some o_r) : CtI l D cI cB yX3_draftedAt cX3_draftedAt 2 (some .int) 0 0 [.ref A_t, .int a1] [oX3 A_t A_t_text A_t_words A_t_draft x_t_size x_t_drafted, iA cI 49 A_t_draft v_t_draft] [oX3 A_t A_t_text A_t_words A_t_draft x_t_size x_t_drafted, iA cI 49 A_t_draft v_t_draft] o_r := by
  refine x_startI (by decide) (Nat.le_of_ble_eq_true rfl) ?_
  intro p e s m below meth c A C hr hlk hA hK hP hD hS ls hl
  have hl : lv_has ls 2 [(0, .ref A_t), (1, .int a1)] := hl
  have hx := C.1
  have hb := C.2.1
  unfold f_X3_draftedAt at hf
  have hb_20 : ∀ (s0 : Int32) (H : Heap) (locs : List Loc) (ls : Array Slot), lv_has ls 2 [] → va_P D vwCl [oX3 A_t A_t_text A_t_words A_t_draft x_t_size x_t_drafted, iA cI 49 A_t_draft v_t_draft] H → va_D A [oX3 A_t A_t_text A_t_words A_t_draft x_t_size x_t_drafted, iA cI 49 A_t_draft v_t_draft] → va_S A s.heap H locs → f_X3_draftedAt_b20 s0 = some o_r → W p l e { frames := 0, cells := 0, slots := 0, locals := 0 } s m ([.ref A_t, .int a1] : List Value).toArray below meth c H locs 0 0 (MQ below (PoI D A [oX3 A_t A_t_text A_t_words A_t_draft x_t_size x_t_drafted, iA cI 49 A_t_draft v_t_draft] o_r) ([.ref A_t, .int a1] : List Value).toArray s 0 0 A) (F0 m 20 ls [.int s0]) := by
    intro s0 H locs ls hl hP hD hS hf
    unfold f_X3_draftedAt_b20 at hf
    obtain rfl := ev1 hf
    exact x_iret C hr hlk hP hD hS dX3_draftedAt_20
  have hb_19 : ∀ (H : Heap) (locs : List Loc) (ls : Array Slot), lv_has ls 2 [] → va_P D vwCl [oX3 A_t A_t_text A_t_words A_t_draft x_t_size x_t_drafted, iA cI 49 A_t_draft v_t_draft] H → va_D A [oX3 A_t A_t_text A_t_words A_t_draft x_t_size x_t_drafted, iA cI 49 A_t_draft v_t_draft] → va_S A s.heap H locs → f_X3_draftedAt_b19 = some o_r → W p l e { frames := 0, cells := 0, slots := 0, locals := 0 } s m ([.ref A_t, .int a1] : List Value).toArray below meth c H locs 0 0 (MQ below (PoI D A [oX3 A_t A_t_text A_t_words A_t_draft x_t_size x_t_drafted, iA cI 49 A_t_draft v_t_draft] o_r) ([.ref A_t, .int a1] : List Value).toArray s 0 0 A) (F0 m 19 ls []) := by
    intro H locs ls hl hP hD hS hf
    unfold f_X3_draftedAt_b19 at hf
    refine lv_iconst (v := 0) hx hb dX3_draftedAt_19 (by decide) ?_
    exact hb_20 (0 : Int32) _ _ ls (lv_sub hl [] rfl) hP hD hS hf
  refine lv_iload_n hx hb dX3_draftedAt_0 rfl (lv_at hl 1 rfl) ?_
  refine lv_if_lt (tgt := 19) hx hb dX3_draftedAt_1 (by decide) (fun q => ?_) (fun q => ?_)
  · have hf := if_t q hf
    exact hb_19 _ _ ls (lv_sub hl [] rfl) hP hD hS hf
  · have hf := if_f q hf
    refine lv_iload_n hx hb dX3_draftedAt_4 rfl (lv_at hl 1 rfl) ?_
    refine lv_bipush (v := 48) hx hb dX3_draftedAt_5 (by decide) ?_
    refine lv_icmp_gt (tgt := 19) hx hb dX3_draftedAt_7 (by decide) (fun q => ?_) (fun q => ?_)
    · have hf := if_t q hf
      exact hb_19 _ _ ls (lv_sub hl [] rfl) hP hD hS hf
    · have hf := if_f q hf
      refine lv_aload_n hx hb dX3_draftedAt_10 rfl (lv_at hl 0 rfl) ?_
      refine x_get C hK hP fd_X3_15 0 rfl rfl dX3_draftedAt_11 ?_
      refine lv_iload_n hx hb dX3_draftedAt_14 rfl (lv_at hl 1 rfl) ?_
      obtain ⟨hi, hf⟩ := gI_e hf
      refine x_iald C hK hP 1 rfl hi dX3_draftedAt_15 ?_
      refine lv_goto (tgt := 20) hx hb dX3_draftedAt_16 (by decide) ?_
      exact hb_20 (v_t_draft a1.toNatClampNeg) _ _ ls (lv_sub hl [] rfl) hP hD hS hf
def f_X3_repeat_b41 : Nat → (Nat → Int32) → Int32 → Int32 → Int32 → Int32 → Int32 → Option ((Nat → Int32) × Int32 × Int32)
  | 0, _, _, _, _, _, _ => none
  | n + 1, v_t_draft, x_t_drafted, x_t_text_fault, l4, l5, l6 =>
    if l5 ≤ l6 then
      some (v_t_draft, x_t_drafted, x_t_text_fault)
    else
      bd1 (f_X3_draftedAt v_t_draft (x_t_drafted - l4)) (fun r1 =>
      bd2 (f_X3_put v_t_draft x_t_drafted r1) (fun w2 w3 =>
      f_X3_repeat_b41 n w2 w3 x_t_text_fault l4 l5 (l6 + (1 : Int32))))
def f_X3_repeat (v_t_draft : (Nat → Int32)) (x_t_drafted : Int32) (x_t_text_fault : Int32) (a1 : Int32) (a2 : Int32) (a3 : Int32) : Option ((Nat → Int32) × Int32 × Int32) :=
  if (a1 + ((x_t_drafted - a1) * a2)) ≤ (48 : Int32) then
    f_X3_repeat_b41 FU v_t_draft x_t_drafted x_t_text_fault (x_t_drafted - a1) ((x_t_drafted - a1) * (a2 - (1 : Int32))) (0 : Int32)
  else
    bd1 (f_X9_failAt x_t_text_fault (6 : Int32) a3) (fun w4 =>
    some (v_t_draft, x_t_drafted, w4))
set_option maxHeartbeats 4000000 in
set_option maxRecDepth 100000 in
theorem c_X3_repeat {l : Launch} {D : va_G} {cI cB : ClassId} {A_t A_t_text A_t_words A_t_draft A_t_text_bytes : Nat} {x_t_size x_t_drafted x_t_text_size x_t_text_end x_t_text_place x_t_text_fault a1 a2 a3 : Int32} {v_t_draft : Nat → Int32} {o_x_t_drafted o_x_t_text_fault : Int32} {o_v_t_draft : Nat → Int32} (hf : f_X3_repeat v_t_draft x_t_drafted x_t_text_fault a1 a2 a3 = some (o_v_t_draft, o_x_t_drafted, o_x_t_text_fault)) : CtV l D cI cB yX3_repeat cX3_repeat 7 1 22 [.ref A_t, .int a1, .int a2, .int a3] [oX3 A_t A_t_text A_t_words A_t_draft x_t_size x_t_drafted, iA cI 49 A_t_draft v_t_draft, oX9 A_t_text A_t_text_bytes x_t_text_size x_t_text_end x_t_text_place x_t_text_fault] [oX3 A_t A_t_text A_t_words A_t_draft x_t_size o_x_t_drafted, iA cI 49 A_t_draft o_v_t_draft, oX9 A_t_text A_t_text_bytes x_t_text_size x_t_text_end x_t_text_place o_x_t_text_fault] := by
  refine x_startV (by decide) (Nat.le_of_ble_eq_true rfl) ?_
  intro p e s m below meth c A C hr hlk hA hK hP hD hS ls hl
  have hl : lv_has ls 7 [(0, .ref A_t), (1, .int a1), (2, .int a2), (3, .int a3)] := hl
  have hx := C.1
  have hb := C.2.1
  unfold f_X3_repeat at hf
  have hb_41 : ∀ (n_41 : Nat) (v_t_draft : (Nat → Int32)) (x_t_drafted : Int32) (x_t_text_fault : Int32) (l4 : Int32) (l5 : Int32) (l6 : Int32) (H : Heap) (locs : List Loc) (ls : Array Slot), lv_has ls 7 [(0, .ref A_t), (4, .int l4), (5, .int l5), (6, .int l6)] → va_P D vwCl [oX3 A_t A_t_text A_t_words A_t_draft x_t_size x_t_drafted, iA cI 49 A_t_draft v_t_draft, oX9 A_t_text A_t_text_bytes x_t_text_size x_t_text_end x_t_text_place x_t_text_fault] H → va_D A [oX3 A_t A_t_text A_t_words A_t_draft x_t_size x_t_drafted, iA cI 49 A_t_draft v_t_draft, oX9 A_t_text A_t_text_bytes x_t_text_size x_t_text_end x_t_text_place x_t_text_fault] → va_S A s.heap H locs → f_X3_repeat_b41 n_41 v_t_draft x_t_drafted x_t_text_fault l4 l5 l6 = some (o_v_t_draft, o_x_t_drafted, o_x_t_text_fault) → W p l e { frames := 1, cells := 0, slots := 0, locals := 22 } s m ([.ref A_t, .int a1, .int a2, .int a3] : List Value).toArray below meth c H locs 0 0 (MQ below (PoV D A [oX3 A_t A_t_text A_t_words A_t_draft x_t_size o_x_t_drafted, iA cI 49 A_t_draft o_v_t_draft, oX9 A_t_text A_t_text_bytes x_t_text_size x_t_text_end x_t_text_place o_x_t_text_fault]) ([.ref A_t, .int a1, .int a2, .int a3] : List Value).toArray s 0 0 A) (F0 m 41 ls []) := by
    intro n_41
    induction n_41 with
    | zero =>
      intro v_t_draft x_t_drafted x_t_text_fault l4 l5 l6 H locs ls hl hP hD hS hf
      exact absurd hf (fun h => by rw [f_X3_repeat_b41] at h; cases h)
    | succ n_41 ih_41 =>
      intro v_t_draft x_t_drafted x_t_text_fault l4 l5 l6 H locs ls hl hP hD hS hf
      rw [f_X3_repeat_b41] at hf
      refine lv_iload hx hb dX3_repeat_41 (lv_at hl 3 rfl) ?_
      refine lv_iload hx hb dX3_repeat_43 (lv_at hl 2 rfl) ?_
      refine lv_icmp_ge (tgt := 69) hx hb dX3_repeat_45 (by decide) (fun q => ?_) (fun q => ?_)
      · have hf := if_t q hf
        obtain ⟨rfl, rfl, rfl⟩ := ev3 hf
        exact x_vret C hr hlk hP hD hS dX3_repeat_69
      · have hf := if_f q hf
        refine lv_aload_n hx hb dX3_repeat_48 rfl (lv_at hl 0 rfl) ?_
        refine lv_aload_n hx hb dX3_repeat_49 rfl (lv_at hl 0 rfl) ?_
        refine lv_aload_n hx hb dX3_repeat_50 rfl (lv_at hl 0 rfl) ?_
        refine x_get C hK hP fd_X3_30 0 rfl rfl dX3_repeat_51 ?_
        refine lv_iload hx hb dX3_repeat_54 (lv_at hl 1 rfl) ?_
        refine lv_isub hx hb dX3_repeat_56 ?_
        obtain ⟨r1, hc2, hf⟩ := bd1_e hf
        refine x_callVI (ws' := [oX3 A_t A_t_text A_t_words A_t_draft x_t_size x_t_drafted, iA cI 49 A_t_draft v_t_draft, oX9 A_t_text A_t_text_bytes x_t_text_size x_t_text_end x_t_text_place x_t_text_fault]) (rest := [.ref A_t]) C hK hP hD hS hA hl mf_X3_102 (c_X3_draftedAt hc2) [0, 1] 0 3 rfl rfl rfl rfl rfl rfl rfl rfl rfl rfl (Nat.le_of_ble_eq_true rfl) ⟨Nat.le_of_ble_eq_true rfl, Nat.le_of_ble_eq_true rfl⟩ ⟨Nat.le_refl _, Nat.le_refl _⟩ dX3_repeat_57 ?_
        intro H locs hP hD hS
        obtain ⟨w3, w4, hc5, hf⟩ := bd2_e hf
        refine x_callVV (ws' := [oX3 A_t A_t_text A_t_words A_t_draft x_t_size w4, iA cI 49 A_t_draft w3, oX9 A_t_text A_t_text_bytes x_t_text_size x_t_text_end x_t_text_place x_t_text_fault]) (rest := []) C hK hP hD hS hA hl mf_X3_88 (c_X3_put hc5) [0, 1] 0 3 rfl rfl rfl rfl rfl rfl rfl rfl rfl rfl (Nat.le_of_ble_eq_true rfl) ⟨Nat.le_of_ble_eq_true rfl, Nat.le_of_ble_eq_true rfl⟩ ⟨Nat.le_refl _, Nat.le_refl _⟩ dX3_repeat_60 ?_
        intro H locs hP hD hS
        refine lv_iinc (v := (l6 + (1 : Int32))) (lv' := [(6, .int (l6 + (1 : Int32))), (0, .ref A_t), (4, .int l4), (5, .int l5)]) hx hb dX3_repeat_63 hl (k := 3) rfl rfl (by decide) rfl (fun ls hl => ?_)
        refine lv_goto (tgt := 41) hx hb dX3_repeat_66 (by decide) ?_
        exact ih_41 w3 w4 x_t_text_fault l4 l5 (l6 + (1 : Int32)) _ _ ls (lv_sub hl [1, 2, 3, 0] rfl) hP hD hS hf
  refine lv_aload_n hx hb dX3_repeat_0 rfl (lv_at hl 0 rfl) ?_
  refine x_get C hK hP fd_X3_30 0 rfl rfl dX3_repeat_1 ?_
  refine lv_iload_n hx hb dX3_repeat_4 rfl (lv_at hl 1 rfl) ?_
  refine lv_isub hx hb dX3_repeat_5 ?_
  refine lv_istore (lv' := [(4, .int (x_t_drafted - a1)), (0, .ref A_t), (1, .int a1), (2, .int a2), (3, .int a3)]) hx hb dX3_repeat_6 hl (by decide) rfl (fun ls hl => ?_)
  refine lv_iload_n hx hb dX3_repeat_8 rfl (lv_at hl 2 rfl) ?_
  refine lv_iload hx hb dX3_repeat_9 (lv_at hl 0 rfl) ?_
  refine lv_iload_n hx hb dX3_repeat_11 rfl (lv_at hl 3 rfl) ?_
  refine lv_imul hx hb dX3_repeat_12 ?_
  refine lv_iadd hx hb dX3_repeat_13 ?_
  refine lv_bipush (v := 48) hx hb dX3_repeat_14 (by decide) ?_
  refine lv_icmp_le (tgt := 30) hx hb dX3_repeat_16 (by decide) (fun q => ?_) (fun q => ?_)
  · have hf := if_t q hf
    refine lv_iload hx hb dX3_repeat_30 (lv_at hl 0 rfl) ?_
    refine lv_iload_n hx hb dX3_repeat_32 rfl (lv_at hl 3 rfl) ?_
    refine lv_iconst (v := 1) hx hb dX3_repeat_33 (by decide) ?_
    refine lv_isub hx hb dX3_repeat_34 ?_
    refine lv_imul hx hb dX3_repeat_35 ?_
    refine lv_istore (lv' := [(5, .int ((x_t_drafted - a1) * (a2 - (1 : Int32)))), (4, .int (x_t_drafted - a1)), (0, .ref A_t), (1, .int a1), (2, .int a2), (3, .int a3)]) hx hb dX3_repeat_36 hl (by decide) rfl (fun ls hl => ?_)
    refine lv_iconst (v := 0) hx hb dX3_repeat_38 (by decide) ?_
    refine lv_istore (lv' := [(6, .int (0 : Int32)), (5, .int ((x_t_drafted - a1) * (a2 - (1 : Int32)))), (4, .int (x_t_drafted - a1)), (0, .ref A_t), (1, .int a1), (2, .int a2), (3, .int a3)]) hx hb dX3_repeat_39 hl (by decide) rfl (fun ls hl => ?_)
    exact hb_41 FU v_t_draft x_t_drafted x_t_text_fault (x_t_drafted - a1) ((x_t_drafted - a1) * (a2 - (1 : Int32))) (0 : Int32) _ _ ls (lv_sub hl [3, 2, 1, 0] rfl) hP hD hS hf
  · have hf := if_f q hf
    refine lv_aload_n hx hb dX3_repeat_19 rfl (lv_at hl 1 rfl) ?_
    refine x_get C hK hP fd_X3_18 0 rfl rfl dX3_repeat_20 ?_
    refine lv_bipush (v := 6) hx hb dX3_repeat_23 (by decide) ?_
    refine lv_iload_n hx hb dX3_repeat_25 rfl (lv_at hl 4 rfl) ?_
    obtain ⟨w6, hc7, hf⟩ := bd1_e hf
    refine x_callVV (ws' := [oX3 A_t A_t_text A_t_words A_t_draft x_t_size x_t_drafted, iA cI 49 A_t_draft v_t_draft, oX9 A_t_text A_t_text_bytes x_t_text_size x_t_text_end x_t_text_place w6]) (rest := []) C hK hP hD hS hA hl mf_X3_98 (c_X9_failAt hc7) [2] 0 9 rfl rfl rfl rfl rfl rfl rfl rfl rfl rfl (Nat.le_of_ble_eq_true rfl) ⟨Nat.le_of_ble_eq_true rfl, Nat.le_of_ble_eq_true rfl⟩ ⟨Nat.le_refl _, Nat.le_refl _⟩ dX3_repeat_26 ?_
    intro H locs hP hD hS
    obtain ⟨rfl, rfl, rfl⟩ := ev3 hf
    exact x_vret C hr hlk hP hD hS dX3_repeat_29
def f_X3_readWords_b45 (G_X3_readWords : (Nat → Int32) → (Nat → Int32) → Int32 → Int32 → Int32 → Int32 → Int32 → Int32 → Option ((Nat → Int32) × Int32 × Int32 × Int32)) (G_X3_readItem : (Nat → Int32) → (Nat → Int32) → Int32 → Int32 → Int32 → Int32 → Int32 → Int32 → Option ((Nat → Int32) × Int32 × Int32 × Int32)) (v_t_draft : (Nat → Int32)) (x_t_drafted : Int32) (x_t_text_fault : Int32) (x_t_text_place : Int32) : Option ((Nat → Int32) × Int32 × Int32 × Int32) :=
  some (v_t_draft, x_t_drafted, x_t_text_fault, x_t_text_place)
def f_X3_readWords_b2 (G_X3_readWords : (Nat → Int32) → (Nat → Int32) → Int32 → Int32 → Int32 → Int32 → Int32 → Int32 → Option ((Nat → Int32) × Int32 × Int32 × Int32)) (G_X3_readItem : (Nat → Int32) → (Nat → Int32) → Int32 → Int32 → Int32 → Int32 → Int32 → Int32 → Option ((Nat → Int32) × Int32 × Int32 × Int32)) (v_t_text_bytes : (Nat → Int32)) (x_t_text_end : Int32) (x_t_text_size : Int32) (a1 : Int32) : Nat → (Nat → Int32) → Int32 → Int32 → Int32 → Int32 → Option ((Nat → Int32) × Int32 × Int32 × Int32)
  | 0, _, _, _, _, _ => none
  | n + 1, v_t_draft, x_t_drafted, x_t_text_fault, x_t_text_place, l2 =>
    if (60 : Int32) ≤ l2 then
      some (v_t_draft, x_t_drafted, x_t_text_fault, x_t_text_place)
    else
      bd4 (G_X3_readItem v_t_draft v_t_text_bytes x_t_drafted x_t_text_end x_t_text_fault x_t_text_place x_t_text_size a1) (fun w1 w2 w3 w4 =>
      bd1 (f_X9_isAtEnd x_t_text_end w4) (fun r5 =>
      if r5 = 0 then
        bd1 (f_X9_hasFailed w3) (fun r6 =>
        if r6 = 0 then
          bd1 (f_X9_sign v_t_text_bytes x_t_text_end w3 w4 x_t_text_size) (fun r7 =>
          if r7 = (41 : Int32) then
            f_X3_readWords_b45 G_X3_readWords G_X3_readItem w1 w2 w3 w4
          else
            f_X3_readWords_b2 G_X3_readWords G_X3_readItem v_t_text_bytes x_t_text_end x_t_text_size a1 n w1 w2 w3 w4 (l2 + (1 : Int32)))
        else
          f_X3_readWords_b45 G_X3_readWords G_X3_readItem w1 w2 w3 w4)
      else
        f_X3_readWords_b45 G_X3_readWords G_X3_readItem w1 w2 w3 w4))
def fo_X3_readWords (G_X3_readWords : (Nat → Int32) → (Nat → Int32) → Int32 → Int32 → Int32 → Int32 → Int32 → Int32 → Option ((Nat → Int32) × Int32 × Int32 × Int32)) (G_X3_readItem : (Nat → Int32) → (Nat → Int32) → Int32 → Int32 → Int32 → Int32 → Int32 → Int32 → Option ((Nat → Int32) × Int32 × Int32 × Int32)) (v_t_draft : (Nat → Int32)) (v_t_text_bytes : (Nat → Int32)) (x_t_drafted : Int32) (x_t_text_end : Int32) (x_t_text_fault : Int32) (x_t_text_place : Int32) (x_t_text_size : Int32) (a1 : Int32) : Option ((Nat → Int32) × Int32 × Int32 × Int32) :=
  f_X3_readWords_b2 G_X3_readWords G_X3_readItem v_t_text_bytes x_t_text_end x_t_text_size a1 FU v_t_draft x_t_drafted x_t_text_fault x_t_text_place (0 : Int32)
def f_X3_readItem_b163 (G_X3_readWords : (Nat → Int32) → (Nat → Int32) → Int32 → Int32 → Int32 → Int32 → Int32 → Int32 → Option ((Nat → Int32) × Int32 × Int32 × Int32)) (G_X3_readItem : (Nat → Int32) → (Nat → Int32) → Int32 → Int32 → Int32 → Int32 → Int32 → Int32 → Option ((Nat → Int32) × Int32 × Int32 × Int32)) (v_t_draft : (Nat → Int32)) (x_t_drafted : Int32) (x_t_text_fault : Int32) (x_t_text_place : Int32) : Option ((Nat → Int32) × Int32 × Int32 × Int32) :=
  some (v_t_draft, x_t_drafted, x_t_text_fault, x_t_text_place)
def f_X3_readItem_b145 (G_X3_readWords : (Nat → Int32) → (Nat → Int32) → Int32 → Int32 → Int32 → Int32 → Int32 → Int32 → Option ((Nat → Int32) × Int32 × Int32 × Int32)) (G_X3_readItem : (Nat → Int32) → (Nat → Int32) → Int32 → Int32 → Int32 → Int32 → Int32 → Int32 → Option ((Nat → Int32) × Int32 × Int32 × Int32)) (v_t_draft : (Nat → Int32)) (x_t_drafted : Int32) (x_t_text_fault : Int32) (x_t_text_place : Int32) (l2 : Int32) (l3 : Int32) (l4 : Int32) : Option ((Nat → Int32) × Int32 × Int32 × Int32) :=
  bd1 (f_X9_hasFailed x_t_text_fault) (fun r1 =>
  if r1 = 0 then
    bd3 (f_X3_repeat v_t_draft x_t_drafted x_t_text_fault l3 l4 l2) (fun w2 w3 w4 =>
    f_X3_readItem_b163 G_X3_readWords G_X3_readItem w2 w3 w4 x_t_text_place)
  else
    f_X3_readItem_b163 G_X3_readWords G_X3_readItem v_t_draft x_t_drafted x_t_text_fault x_t_text_place)
def f_X3_readItem_b52 (G_X3_readWords : (Nat → Int32) → (Nat → Int32) → Int32 → Int32 → Int32 → Int32 → Int32 → Int32 → Option ((Nat → Int32) × Int32 × Int32 × Int32)) (G_X3_readItem : (Nat → Int32) → (Nat → Int32) → Int32 → Int32 → Int32 → Int32 → Int32 → Int32 → Option ((Nat → Int32) × Int32 × Int32 × Int32)) (v_t_text_bytes : (Nat → Int32)) (x_t_text_end : Int32) (x_t_text_size : Int32) (a1 : Int32) (v_t_draft : (Nat → Int32)) (x_t_drafted : Int32) (x_t_text_fault : Int32) (x_t_text_place : Int32) (l2 : Int32) (l3 : Int32) (l4 : Int32) : Option ((Nat → Int32) × Int32 × Int32 × Int32) :=
  bd1 (f_X9_sign v_t_text_bytes x_t_text_end x_t_text_fault x_t_text_place x_t_text_size) (fun r1 =>
  bd1 (f_X11_isWordSign r1) (fun r2 =>
  if r2 = 0 then
    if r1 = (40 : Int32) then
      if a1 < (2 : Int32) then
        bd1 (f_X9_step x_t_text_end x_t_text_place) (fun w3 =>
        bd4 (G_X3_readWords v_t_draft v_t_text_bytes x_t_drafted x_t_text_end x_t_text_fault w3 x_t_text_size (a1 + (1 : Int32))) (fun w4 w5 w6 w7 =>
        bd2 (f_X9_take v_t_text_bytes x_t_text_end w6 w7 x_t_text_size (41 : Int32)) (fun w8 w9 =>
        f_X3_readItem_b145 G_X3_readWords G_X3_readItem w4 w5 w8 w9 l2 l3 l4)))
      else
        bd1 (f_X9_fail x_t_text_fault x_t_text_place (5 : Int32)) (fun w10 =>
        f_X3_readItem_b145 G_X3_readWords G_X3_readItem v_t_draft x_t_drafted w10 x_t_text_place l2 l3 l4)
    else
      bd1 (f_X9_fail x_t_text_fault x_t_text_place (1 : Int32)) (fun w11 =>
      f_X3_readItem_b145 G_X3_readWords G_X3_readItem v_t_draft x_t_drafted w11 x_t_text_place l2 l3 l4)
  else
    bd2 (f_X3_put v_t_draft x_t_drafted (r1 - (97 : Int32))) (fun w12 w13 =>
    bd1 (f_X9_step x_t_text_end x_t_text_place) (fun w14 =>
    f_X3_readItem_b145 G_X3_readWords G_X3_readItem w12 w13 x_t_text_fault w14 l2 l3 l4))))
def fo_X3_readItem (G_X3_readWords : (Nat → Int32) → (Nat → Int32) → Int32 → Int32 → Int32 → Int32 → Int32 → Int32 → Option ((Nat → Int32) × Int32 × Int32 × Int32)) (G_X3_readItem : (Nat → Int32) → (Nat → Int32) → Int32 → Int32 → Int32 → Int32 → Int32 → Int32 → Option ((Nat → Int32) × Int32 × Int32 × Int32)) (v_t_draft : (Nat → Int32)) (v_t_text_bytes : (Nat → Int32)) (x_t_drafted : Int32) (x_t_text_end : Int32) (x_t_text_fault : Int32) (x_t_text_place : Int32) (x_t_text_size : Int32) (a1 : Int32) : Option ((Nat → Int32) × Int32 × Int32 × Int32) :=
  bd1 (f_X9_sign v_t_text_bytes x_t_text_end x_t_text_fault x_t_text_place x_t_text_size) (fun r15 =>
  bd1 (f_X11_within r15 (50 : Int32) (57 : Int32)) (fun r16 =>
  if r16 = 0 then
    f_X3_readItem_b52 G_X3_readWords G_X3_readItem v_t_text_bytes x_t_text_end x_t_text_size a1 v_t_draft x_t_drafted x_t_text_fault x_t_text_place x_t_text_place x_t_drafted (1 : Int32)
  else
    bd1 (f_X9_sign v_t_text_bytes x_t_text_end x_t_text_fault x_t_text_place x_t_text_size) (fun r17 =>
    bd1 (f_X9_step x_t_text_end x_t_text_place) (fun w18 =>
    f_X3_readItem_b52 G_X3_readWords G_X3_readItem v_t_text_bytes x_t_text_end x_t_text_size a1 v_t_draft x_t_drafted x_t_text_fault w18 x_t_text_place x_t_drafted (r17 - (48 : Int32))))))
def frec_X3_readWords : Nat → (((Nat → Int32) → (Nat → Int32) → Int32 → Int32 → Int32 → Int32 → Int32 → Int32 → Option ((Nat → Int32) × Int32 × Int32 × Int32)) × ((Nat → Int32) → (Nat → Int32) → Int32 → Int32 → Int32 → Int32 → Int32 → Int32 → Option ((Nat → Int32) × Int32 × Int32 × Int32)))
  | 0 => (fun _ _ _ _ _ _ _ _ => none, fun _ _ _ _ _ _ _ _ => none)
  | d + 1 => (fo_X3_readWords (frec_X3_readWords d).1 (frec_X3_readWords d).2, fo_X3_readItem (frec_X3_readWords d).1 (frec_X3_readWords d).2)
def f_X3_readWords (d : Nat) : (Nat → Int32) → (Nat → Int32) → Int32 → Int32 → Int32 → Int32 → Int32 → Int32 → Option ((Nat → Int32) × Int32 × Int32 × Int32) := (frec_X3_readWords d).1
def f_X3_readItem (d : Nat) : (Nat → Int32) → (Nat → Int32) → Int32 → Int32 → Int32 → Int32 → Int32 → Int32 → Option ((Nat → Int32) × Int32 × Int32 × Int32) := (frec_X3_readWords d).2
set_option maxHeartbeats 8000000 in
set_option maxRecDepth 100000 in
theorem cc_X3_readWords (l : Launch) (D : va_G) (cI cB : ClassId) : ∀ dp : Nat, (∀ {A_t A_t_text A_t_words A_t_draft A_t_text_bytes : Nat} {x_t_size x_t_drafted x_t_text_size x_t_text_end x_t_text_place x_t_text_fault a1 : Int32} {v_t_draft v_t_text_bytes : Nat → Int32} {o_x_t_drafted o_x_t_text_fault o_x_t_text_place : Int32} {o_v_t_draft : Nat → Int32}, f_X3_readWords dp v_t_draft v_t_text_bytes x_t_drafted x_t_text_end x_t_text_fault x_t_text_place x_t_text_size a1 = some (o_v_t_draft, o_x_t_drafted, o_x_t_text_fault, o_x_t_text_place) → CtV l D cI cB yX3_readWords cX3_readWords 3 (dp + 3) (dp * 25 + 64) [.ref A_t, .int a1] [oX3 A_t A_t_text A_t_words A_t_draft x_t_size x_t_drafted, iA cI 49 A_t_draft v_t_draft, oX9 A_t_text A_t_text_bytes x_t_text_size x_t_text_end x_t_text_place x_t_text_fault, iA cI 260 A_t_text_bytes v_t_text_bytes] [oX3 A_t A_t_text A_t_words A_t_draft x_t_size o_x_t_drafted, iA cI 49 A_t_draft o_v_t_draft, oX9 A_t_text A_t_text_bytes x_t_text_size x_t_text_end o_x_t_text_place o_x_t_text_fault, iA cI 260 A_t_text_bytes v_t_text_bytes]) ∧ (∀ {A_t A_t_text A_t_words A_t_draft A_t_text_bytes : Nat} {x_t_size x_t_drafted x_t_text_size x_t_text_end x_t_text_place x_t_text_fault a1 : Int32} {v_t_draft v_t_text_bytes : Nat → Int32} {o_x_t_drafted o_x_t_text_fault o_x_t_text_place : Int32} {o_v_t_draft : Nat → Int32}, f_X3_readItem dp v_t_draft v_t_text_bytes x_t_drafted x_t_text_end x_t_text_fault x_t_text_place x_t_text_size a1 = some (o_v_t_draft, o_x_t_drafted, o_x_t_text_fault, o_x_t_text_place) → CtV l D cI cB yX3_readItem cX3_readItem 6 (dp + 3) (dp * 25 + 64) [.ref A_t, .int a1] [oX3 A_t A_t_text A_t_words A_t_draft x_t_size x_t_drafted, iA cI 49 A_t_draft v_t_draft, oX9 A_t_text A_t_text_bytes x_t_text_size x_t_text_end x_t_text_place x_t_text_fault, iA cI 260 A_t_text_bytes v_t_text_bytes] [oX3 A_t A_t_text A_t_words A_t_draft x_t_size o_x_t_drafted, iA cI 49 A_t_draft o_v_t_draft, oX9 A_t_text A_t_text_bytes x_t_text_size x_t_text_end o_x_t_text_place o_x_t_text_fault, iA cI 260 A_t_text_bytes v_t_text_bytes]) := by
  intro dp
  induction dp with
  | zero =>
    refine ⟨?_, ?_⟩
    · intro A_t A_t_text A_t_words A_t_draft A_t_text_bytes x_t_size x_t_drafted x_t_text_size x_t_text_end x_t_text_place x_t_text_fault a1 v_t_draft v_t_text_bytes o_x_t_drafted o_x_t_text_fault o_x_t_text_place o_v_t_draft hf
      exact absurd (show none = some _ from hf) (fun h => by cases h)
    · intro A_t A_t_text A_t_words A_t_draft A_t_text_bytes x_t_size x_t_drafted x_t_text_size x_t_text_end x_t_text_place x_t_text_fault a1 v_t_draft v_t_text_bytes o_x_t_drafted o_x_t_text_fault o_x_t_text_place o_v_t_draft hf
      exact absurd (show none = some _ from hf) (fun h => by cases h)
  | succ dp ih =>
    obtain ⟨ih_X3_readWords, ih_X3_readItem⟩ := ih
    refine ⟨?_, ?_⟩
    · intro A_t A_t_text A_t_words A_t_draft A_t_text_bytes x_t_size x_t_drafted x_t_text_size x_t_text_end x_t_text_place x_t_text_fault a1 v_t_draft v_t_text_bytes o_x_t_drafted o_x_t_text_fault o_x_t_text_place o_v_t_draft hf
      have hf : fo_X3_readWords (f_X3_readWords dp) (f_X3_readItem dp) v_t_draft v_t_text_bytes x_t_drafted x_t_text_end x_t_text_fault x_t_text_place x_t_text_size a1 = some (o_v_t_draft, o_x_t_drafted, o_x_t_text_fault, o_x_t_text_place) := hf
      refine x_startV (by decide) (Nat.le_of_ble_eq_true rfl) ?_
      intro p e s m below meth c A C hr hlk hA hK hP hD hS ls hl
      have hl : lv_has ls 3 [(0, .ref A_t), (1, .int a1)] := hl
      have hx := C.1
      have hb := C.2.1
      unfold fo_X3_readWords at hf
      have hb_45 : ∀ (v_t_draft : (Nat → Int32)) (x_t_drafted : Int32) (x_t_text_fault : Int32) (x_t_text_place : Int32) (H : Heap) (locs : List Loc) (ls : Array Slot), lv_has ls 3 [] → va_P D vwCl [oX3 A_t A_t_text A_t_words A_t_draft x_t_size x_t_drafted, iA cI 49 A_t_draft v_t_draft, oX9 A_t_text A_t_text_bytes x_t_text_size x_t_text_end x_t_text_place x_t_text_fault, iA cI 260 A_t_text_bytes v_t_text_bytes] H → va_D A [oX3 A_t A_t_text A_t_words A_t_draft x_t_size x_t_drafted, iA cI 49 A_t_draft v_t_draft, oX9 A_t_text A_t_text_bytes x_t_text_size x_t_text_end x_t_text_place x_t_text_fault, iA cI 260 A_t_text_bytes v_t_text_bytes] → va_S A s.heap H locs → f_X3_readWords_b45 (f_X3_readWords dp) (f_X3_readItem dp) v_t_draft x_t_drafted x_t_text_fault x_t_text_place = some (o_v_t_draft, o_x_t_drafted, o_x_t_text_fault, o_x_t_text_place) → W p l e { frames := dp + 1 + 3, cells := 0, slots := 0, locals := (dp + 1) * 25 + 64 } s m ([.ref A_t, .int a1] : List Value).toArray below meth c H locs 0 0 (MQ below (PoV D A [oX3 A_t A_t_text A_t_words A_t_draft x_t_size o_x_t_drafted, iA cI 49 A_t_draft o_v_t_draft, oX9 A_t_text A_t_text_bytes x_t_text_size x_t_text_end o_x_t_text_place o_x_t_text_fault, iA cI 260 A_t_text_bytes v_t_text_bytes]) ([.ref A_t, .int a1] : List Value).toArray s 0 0 A) (F0 m 45 ls []) := by
        intro v_t_draft x_t_drafted x_t_text_fault x_t_text_place H locs ls hl hP hD hS hf
        unfold f_X3_readWords_b45 at hf
        obtain ⟨rfl, rfl, rfl, rfl⟩ := ev4 hf
        exact x_vret C hr hlk hP hD hS dX3_readWords_45
      have hb_2 : ∀ (n_2 : Nat) (v_t_draft : (Nat → Int32)) (x_t_drafted : Int32) (x_t_text_fault : Int32) (x_t_text_place : Int32) (l2 : Int32) (H : Heap) (locs : List Loc) (ls : Array Slot), lv_has ls 3 [(0, .ref A_t), (1, .int a1), (2, .int l2)] → va_P D vwCl [oX3 A_t A_t_text A_t_words A_t_draft x_t_size x_t_drafted, iA cI 49 A_t_draft v_t_draft, oX9 A_t_text A_t_text_bytes x_t_text_size x_t_text_end x_t_text_place x_t_text_fault, iA cI 260 A_t_text_bytes v_t_text_bytes] H → va_D A [oX3 A_t A_t_text A_t_words A_t_draft x_t_size x_t_drafted, iA cI 49 A_t_draft v_t_draft, oX9 A_t_text A_t_text_bytes x_t_text_size x_t_text_end x_t_text_place x_t_text_fault, iA cI 260 A_t_text_bytes v_t_text_bytes] → va_S A s.heap H locs → f_X3_readWords_b2 (f_X3_readWords dp) (f_X3_readItem dp) v_t_text_bytes x_t_text_end x_t_text_size a1 n_2 v_t_draft x_t_drafted x_t_text_fault x_t_text_place l2 = some (o_v_t_draft, o_x_t_drafted, o_x_t_text_fault, o_x_t_text_place) → W p l e { frames := dp + 1 + 3, cells := 0, slots := 0, locals := (dp + 1) * 25 + 64 } s m ([.ref A_t, .int a1] : List Value).toArray below meth c H locs 0 0 (MQ below (PoV D A [oX3 A_t A_t_text A_t_words A_t_draft x_t_size o_x_t_drafted, iA cI 49 A_t_draft o_v_t_draft, oX9 A_t_text A_t_text_bytes x_t_text_size x_t_text_end o_x_t_text_place o_x_t_text_fault, iA cI 260 A_t_text_bytes v_t_text_bytes]) ([.ref A_t, .int a1] : List Value).toArray s 0 0 A) (F0 m 2 ls []) := by
        intro n_2
        induction n_2 with
        | zero =>
          intro v_t_draft x_t_drafted x_t_text_fault x_t_text_place l2 H locs ls hl hP hD hS hf
          exact absurd hf (fun h => by rw [f_X3_readWords_b2] at h; cases h)
        | succ n_2 ih_2 =>
          intro v_t_draft x_t_drafted x_t_text_fault x_t_text_place l2 H locs ls hl hP hD hS hf
          rw [f_X3_readWords_b2] at hf
          refine lv_iload_n hx hb dX3_readWords_2 rfl (lv_at hl 2 rfl) ?_
          refine lv_bipush (v := 60) hx hb dX3_readWords_3 (by decide) ?_
          refine lv_icmp_ge (tgt := 52) hx hb dX3_readWords_5 (by decide) (fun q => ?_) (fun q => ?_)
          · have hf := if_t q hf
            obtain ⟨rfl, rfl, rfl, rfl⟩ := ev4 hf
            exact x_vret C hr hlk hP hD hS dX3_readWords_52
          · have hf := if_f q hf
            refine lv_aload_n hx hb dX3_readWords_8 rfl (lv_at hl 0 rfl) ?_
            refine lv_iload_n hx hb dX3_readWords_9 rfl (lv_at hl 1 rfl) ?_
            obtain ⟨w1, w2, w3, w4, hc5, hf⟩ := bd4_e hf
            refine x_callVV (ws' := [oX3 A_t A_t_text A_t_words A_t_draft x_t_size w2, iA cI 49 A_t_draft w1, oX9 A_t_text A_t_text_bytes x_t_text_size x_t_text_end w4 w3, iA cI 260 A_t_text_bytes v_t_text_bytes]) (rest := []) C hK hP hD hS hA hl mf_X3_67 (ih_X3_readItem hc5) [0, 1, 2, 3] 0 3 rfl rfl rfl rfl rfl rfl rfl rfl rfl rfl (Nat.le_of_ble_eq_true rfl) ⟨(show dp + 3 + 1 ≤ dp + 1 + 3 by omega), (show 8 + (6 + 11) + (dp * 25 + 64) ≤ (dp + 1) * 25 + 64 by omega)⟩ ⟨Nat.le_refl _, Nat.le_refl _⟩ dX3_readWords_10 ?_
            intro H locs hP hD hS
            refine lv_aload_n hx hb dX3_readWords_13 rfl (lv_at hl 0 rfl) ?_
            refine x_get C hK hP fd_X3_18 0 rfl rfl dX3_readWords_14 ?_
            obtain ⟨r6, hc7, hf⟩ := bd1_e hf
            refine x_callVI (ws' := [oX3 A_t A_t_text A_t_words A_t_draft x_t_size w2, iA cI 49 A_t_draft w1, oX9 A_t_text A_t_text_bytes x_t_text_size x_t_text_end w4 w3, iA cI 260 A_t_text_bytes v_t_text_bytes]) (rest := []) C hK hP hD hS hA hl mf_X3_42 (c_X9_isAtEnd hc7) [2] 0 9 rfl rfl rfl rfl rfl rfl rfl rfl rfl rfl (Nat.le_of_ble_eq_true rfl) ⟨(show 0 + 1 ≤ dp + 1 + 3 by omega), (show 8 + (1 + 11) + 0 ≤ (dp + 1) * 25 + 64 by omega)⟩ ⟨Nat.le_refl _, Nat.le_refl _⟩ dX3_readWords_17 ?_
            intro H locs hP hD hS
            refine lv_if_ne (tgt := 45) hx hb dX3_readWords_20 (by decide) (fun q => ?_) (fun q => ?_)
            · have hf := if_f q hf
              exact hb_45 w1 w2 w3 w4 _ _ ls (lv_sub hl [] rfl) hP hD hS hf
            · have hf := if_t q hf
              refine lv_aload_n hx hb dX3_readWords_23 rfl (lv_at hl 0 rfl) ?_
              refine x_get C hK hP fd_X3_18 0 rfl rfl dX3_readWords_24 ?_
              obtain ⟨r8, hc9, hf⟩ := bd1_e hf
              refine x_callVI (ws' := [oX3 A_t A_t_text A_t_words A_t_draft x_t_size w2, iA cI 49 A_t_draft w1, oX9 A_t_text A_t_text_bytes x_t_text_size x_t_text_end w4 w3, iA cI 260 A_t_text_bytes v_t_text_bytes]) (rest := []) C hK hP hD hS hA hl mf_X3_49 (c_X9_hasFailed hc9) [2] 0 9 rfl rfl rfl rfl rfl rfl rfl rfl rfl rfl (Nat.le_of_ble_eq_true rfl) ⟨(show 0 + 1 ≤ dp + 1 + 3 by omega), (show 8 + (1 + 11) + 0 ≤ (dp + 1) * 25 + 64 by omega)⟩ ⟨Nat.le_refl _, Nat.le_refl _⟩ dX3_readWords_27 ?_
              intro H locs hP hD hS
              refine lv_if_ne (tgt := 45) hx hb dX3_readWords_30 (by decide) (fun q => ?_) (fun q => ?_)
              · have hf := if_f q hf
                exact hb_45 w1 w2 w3 w4 _ _ ls (lv_sub hl [] rfl) hP hD hS hf
              · have hf := if_t q hf
                refine lv_aload_n hx hb dX3_readWords_33 rfl (lv_at hl 0 rfl) ?_
                refine x_get C hK hP fd_X3_18 0 rfl rfl dX3_readWords_34 ?_
                obtain ⟨r10, hc11, hf⟩ := bd1_e hf
                refine x_callVI (ws' := [oX3 A_t A_t_text A_t_words A_t_draft x_t_size w2, iA cI 49 A_t_draft w1, oX9 A_t_text A_t_text_bytes x_t_text_size x_t_text_end w4 w3, iA cI 260 A_t_text_bytes v_t_text_bytes]) (rest := []) C hK hP hD hS hA hl mf_X3_70 (c_X9_sign hc11) [2, 3] 0 9 rfl rfl rfl rfl rfl rfl rfl rfl rfl rfl (Nat.le_of_ble_eq_true rfl) ⟨(show 1 + 1 ≤ dp + 1 + 3 by omega), (show 8 + (1 + 11) + 21 ≤ (dp + 1) * 25 + 64 by omega)⟩ ⟨Nat.le_refl _, Nat.le_refl _⟩ dX3_readWords_37 ?_
                intro H locs hP hD hS
                refine lv_bipush (v := 41) hx hb dX3_readWords_40 (by decide) ?_
                refine lv_icmp_ne (tgt := 46) hx hb dX3_readWords_42 (by decide) (fun q => ?_) (fun q => ?_)
                · have hf := if_f q hf
                  refine lv_iinc (v := (l2 + (1 : Int32))) (lv' := [(2, .int (l2 + (1 : Int32))), (0, .ref A_t), (1, .int a1)]) hx hb dX3_readWords_46 hl (k := 2) rfl rfl (by decide) rfl (fun ls hl => ?_)
                  refine lv_goto (tgt := 2) hx hb dX3_readWords_49 (by decide) ?_
                  exact ih_2 w1 w2 w3 w4 (l2 + (1 : Int32)) _ _ ls (lv_sub hl [1, 2, 0] rfl) hP hD hS hf
                · have hf := if_t q hf
                  exact hb_45 w1 w2 w3 w4 _ _ ls (lv_sub hl [] rfl) hP hD hS hf
      refine lv_iconst (v := 0) hx hb dX3_readWords_0 (by decide) ?_
      refine lv_istore_n (lv' := [(2, .int (0 : Int32)), (0, .ref A_t), (1, .int a1)]) hx hb dX3_readWords_1 rfl hl (by decide) rfl (fun ls hl => ?_)
      exact hb_2 FU v_t_draft x_t_drafted x_t_text_fault x_t_text_place (0 : Int32) _ _ ls (lv_sub hl [1, 2, 0] rfl) hP hD hS hf
    · intro A_t A_t_text A_t_words A_t_draft A_t_text_bytes x_t_size x_t_drafted x_t_text_size x_t_text_end x_t_text_place x_t_text_fault a1 v_t_draft v_t_text_bytes o_x_t_drafted o_x_t_text_fault o_x_t_text_place o_v_t_draft hf
      have hf : fo_X3_readItem (f_X3_readWords dp) (f_X3_readItem dp) v_t_draft v_t_text_bytes x_t_drafted x_t_text_end x_t_text_fault x_t_text_place x_t_text_size a1 = some (o_v_t_draft, o_x_t_drafted, o_x_t_text_fault, o_x_t_text_place) := hf
      refine x_startV (by decide) (Nat.le_of_ble_eq_true rfl) ?_
      intro p e s m below meth c A C hr hlk hA hK hP hD hS ls hl
      have hl : lv_has ls 6 [(0, .ref A_t), (1, .int a1)] := hl
      have hx := C.1
      have hb := C.2.1
      unfold fo_X3_readItem at hf
      have hb_163 : ∀ (v_t_draft : (Nat → Int32)) (x_t_drafted : Int32) (x_t_text_fault : Int32) (x_t_text_place : Int32) (H : Heap) (locs : List Loc) (ls : Array Slot), lv_has ls 6 [] → va_P D vwCl [oX3 A_t A_t_text A_t_words A_t_draft x_t_size x_t_drafted, iA cI 49 A_t_draft v_t_draft, oX9 A_t_text A_t_text_bytes x_t_text_size x_t_text_end x_t_text_place x_t_text_fault, iA cI 260 A_t_text_bytes v_t_text_bytes] H → va_D A [oX3 A_t A_t_text A_t_words A_t_draft x_t_size x_t_drafted, iA cI 49 A_t_draft v_t_draft, oX9 A_t_text A_t_text_bytes x_t_text_size x_t_text_end x_t_text_place x_t_text_fault, iA cI 260 A_t_text_bytes v_t_text_bytes] → va_S A s.heap H locs → f_X3_readItem_b163 (f_X3_readWords dp) (f_X3_readItem dp) v_t_draft x_t_drafted x_t_text_fault x_t_text_place = some (o_v_t_draft, o_x_t_drafted, o_x_t_text_fault, o_x_t_text_place) → W p l e { frames := dp + 1 + 3, cells := 0, slots := 0, locals := (dp + 1) * 25 + 64 } s m ([.ref A_t, .int a1] : List Value).toArray below meth c H locs 0 0 (MQ below (PoV D A [oX3 A_t A_t_text A_t_words A_t_draft x_t_size o_x_t_drafted, iA cI 49 A_t_draft o_v_t_draft, oX9 A_t_text A_t_text_bytes x_t_text_size x_t_text_end o_x_t_text_place o_x_t_text_fault, iA cI 260 A_t_text_bytes v_t_text_bytes]) ([.ref A_t, .int a1] : List Value).toArray s 0 0 A) (F0 m 163 ls []) := by
        intro v_t_draft x_t_drafted x_t_text_fault x_t_text_place H locs ls hl hP hD hS hf
        unfold f_X3_readItem_b163 at hf
        obtain ⟨rfl, rfl, rfl, rfl⟩ := ev4 hf
        exact x_vret C hr hlk hP hD hS dX3_readItem_163
      have hb_145 : ∀ (v_t_draft : (Nat → Int32)) (x_t_drafted : Int32) (x_t_text_fault : Int32) (x_t_text_place : Int32) (l2 : Int32) (l3 : Int32) (l4 : Int32) (H : Heap) (locs : List Loc) (ls : Array Slot), lv_has ls 6 [(0, .ref A_t), (2, .int l2), (3, .int l3), (4, .int l4)] → va_P D vwCl [oX3 A_t A_t_text A_t_words A_t_draft x_t_size x_t_drafted, iA cI 49 A_t_draft v_t_draft, oX9 A_t_text A_t_text_bytes x_t_text_size x_t_text_end x_t_text_place x_t_text_fault, iA cI 260 A_t_text_bytes v_t_text_bytes] H → va_D A [oX3 A_t A_t_text A_t_words A_t_draft x_t_size x_t_drafted, iA cI 49 A_t_draft v_t_draft, oX9 A_t_text A_t_text_bytes x_t_text_size x_t_text_end x_t_text_place x_t_text_fault, iA cI 260 A_t_text_bytes v_t_text_bytes] → va_S A s.heap H locs → f_X3_readItem_b145 (f_X3_readWords dp) (f_X3_readItem dp) v_t_draft x_t_drafted x_t_text_fault x_t_text_place l2 l3 l4 = some (o_v_t_draft, o_x_t_drafted, o_x_t_text_fault, o_x_t_text_place) → W p l e { frames := dp + 1 + 3, cells := 0, slots := 0, locals := (dp + 1) * 25 + 64 } s m ([.ref A_t, .int a1] : List Value).toArray below meth c H locs 0 0 (MQ below (PoV D A [oX3 A_t A_t_text A_t_words A_t_draft x_t_size o_x_t_drafted, iA cI 49 A_t_draft o_v_t_draft, oX9 A_t_text A_t_text_bytes x_t_text_size x_t_text_end o_x_t_text_place o_x_t_text_fault, iA cI 260 A_t_text_bytes v_t_text_bytes]) ([.ref A_t, .int a1] : List Value).toArray s 0 0 A) (F0 m 145 ls []) := by
        intro v_t_draft x_t_drafted x_t_text_fault x_t_text_place l2 l3 l4 H locs ls hl hP hD hS hf
        unfold f_X3_readItem_b145 at hf
        refine lv_aload_n hx hb dX3_readItem_145 rfl (lv_at hl 0 rfl) ?_
        refine x_get C hK hP fd_X3_18 0 rfl rfl dX3_readItem_146 ?_
        obtain ⟨r1, hc2, hf⟩ := bd1_e hf
        refine x_callVI (ws' := [oX3 A_t A_t_text A_t_words A_t_draft x_t_size x_t_drafted, iA cI 49 A_t_draft v_t_draft, oX9 A_t_text A_t_text_bytes x_t_text_size x_t_text_end x_t_text_place x_t_text_fault, iA cI 260 A_t_text_bytes v_t_text_bytes]) (rest := []) C hK hP hD hS hA hl mf_X3_49 (c_X9_hasFailed hc2) [2] 0 9 rfl rfl rfl rfl rfl rfl rfl rfl rfl rfl (Nat.le_of_ble_eq_true rfl) ⟨(show 0 + 1 ≤ dp + 1 + 3 by omega), (show 8 + (1 + 11) + 0 ≤ (dp + 1) * 25 + 64 by omega)⟩ ⟨Nat.le_refl _, Nat.le_refl _⟩ dX3_readItem_149 ?_
        intro H locs hP hD hS
        refine lv_if_ne (tgt := 163) hx hb dX3_readItem_152 (by decide) (fun q => ?_) (fun q => ?_)
        · have hf := if_f q hf
          exact hb_163 v_t_draft x_t_drafted x_t_text_fault x_t_text_place _ _ ls (lv_sub hl [] rfl) hP hD hS hf
        · have hf := if_t q hf
          refine lv_aload_n hx hb dX3_readItem_155 rfl (lv_at hl 0 rfl) ?_
          refine lv_iload_n hx hb dX3_readItem_156 rfl (lv_at hl 2 rfl) ?_
          refine lv_iload hx hb dX3_readItem_157 (lv_at hl 3 rfl) ?_
          refine lv_iload_n hx hb dX3_readItem_159 rfl (lv_at hl 1 rfl) ?_
          obtain ⟨w3, w4, w5, hc6, hf⟩ := bd3_e hf
          refine x_callVV (ws' := [oX3 A_t A_t_text A_t_words A_t_draft x_t_size w4, iA cI 49 A_t_draft w3, oX9 A_t_text A_t_text_bytes x_t_text_size x_t_text_end x_t_text_place w5, iA cI 260 A_t_text_bytes v_t_text_bytes]) (rest := []) C hK hP hD hS hA hl mf_X3_94 (c_X3_repeat hc6) [0, 1, 2] 0 3 rfl rfl rfl rfl rfl rfl rfl rfl rfl rfl (Nat.le_of_ble_eq_true rfl) ⟨(show 1 + 1 ≤ dp + 1 + 3 by omega), (show 8 + (7 + 11) + 22 ≤ (dp + 1) * 25 + 64 by omega)⟩ ⟨Nat.le_refl _, Nat.le_refl _⟩ dX3_readItem_160 ?_
          intro H locs hP hD hS
          exact hb_163 w3 w4 w5 x_t_text_place _ _ ls (lv_sub hl [] rfl) hP hD hS hf
      have hb_52 : ∀ (v_t_draft : (Nat → Int32)) (x_t_drafted : Int32) (x_t_text_fault : Int32) (x_t_text_place : Int32) (l2 : Int32) (l3 : Int32) (l4 : Int32) (H : Heap) (locs : List Loc) (ls : Array Slot), lv_has ls 6 [(0, .ref A_t), (1, .int a1), (2, .int l2), (3, .int l3), (4, .int l4)] → va_P D vwCl [oX3 A_t A_t_text A_t_words A_t_draft x_t_size x_t_drafted, iA cI 49 A_t_draft v_t_draft, oX9 A_t_text A_t_text_bytes x_t_text_size x_t_text_end x_t_text_place x_t_text_fault, iA cI 260 A_t_text_bytes v_t_text_bytes] H → va_D A [oX3 A_t A_t_text A_t_words A_t_draft x_t_size x_t_drafted, iA cI 49 A_t_draft v_t_draft, oX9 A_t_text A_t_text_bytes x_t_text_size x_t_text_end x_t_text_place x_t_text_fault, iA cI 260 A_t_text_bytes v_t_text_bytes] → va_S A s.heap H locs → f_X3_readItem_b52 (f_X3_readWords dp) (f_X3_readItem dp) v_t_text_bytes x_t_text_end x_t_text_size a1 v_t_draft x_t_drafted x_t_text_fault x_t_text_place l2 l3 l4 = some (o_v_t_draft, o_x_t_drafted, o_x_t_text_fault, o_x_t_text_place) → W p l e { frames := dp + 1 + 3, cells := 0, slots := 0, locals := (dp + 1) * 25 + 64 } s m ([.ref A_t, .int a1] : List Value).toArray below meth c H locs 0 0 (MQ below (PoV D A [oX3 A_t A_t_text A_t_words A_t_draft x_t_size o_x_t_drafted, iA cI 49 A_t_draft o_v_t_draft, oX9 A_t_text A_t_text_bytes x_t_text_size x_t_text_end o_x_t_text_place o_x_t_text_fault, iA cI 260 A_t_text_bytes v_t_text_bytes]) ([.ref A_t, .int a1] : List Value).toArray s 0 0 A) (F0 m 52 ls []) := by
        intro v_t_draft x_t_drafted x_t_text_fault x_t_text_place l2 l3 l4 H locs ls hl hP hD hS hf
        unfold f_X3_readItem_b52 at hf
        refine lv_aload_n hx hb dX3_readItem_52 rfl (lv_at hl 0 rfl) ?_
        refine x_get C hK hP fd_X3_18 0 rfl rfl dX3_readItem_53 ?_
        obtain ⟨r7, hc8, hf⟩ := bd1_e hf
        refine x_callVI (ws' := [oX3 A_t A_t_text A_t_words A_t_draft x_t_size x_t_drafted, iA cI 49 A_t_draft v_t_draft, oX9 A_t_text A_t_text_bytes x_t_text_size x_t_text_end x_t_text_place x_t_text_fault, iA cI 260 A_t_text_bytes v_t_text_bytes]) (rest := []) C hK hP hD hS hA hl mf_X3_70 (c_X9_sign hc8) [2, 3] 0 9 rfl rfl rfl rfl rfl rfl rfl rfl rfl rfl (Nat.le_of_ble_eq_true rfl) ⟨(show 1 + 1 ≤ dp + 1 + 3 by omega), (show 8 + (1 + 11) + 21 ≤ (dp + 1) * 25 + 64 by omega)⟩ ⟨Nat.le_refl _, Nat.le_refl _⟩ dX3_readItem_56 ?_
        intro H locs hP hD hS
        refine lv_istore (lv' := [(5, .int r7), (0, .ref A_t), (1, .int a1), (2, .int l2), (3, .int l3), (4, .int l4)]) hx hb dX3_readItem_59 hl (by decide) rfl (fun ls hl => ?_)
        refine lv_iload hx hb dX3_readItem_61 (lv_at hl 0 rfl) ?_
        obtain ⟨r9, hc10, hf⟩ := bd1_e hf
        refine x_callSI (ws' := [oX3 A_t A_t_text A_t_words A_t_draft x_t_size x_t_drafted, iA cI 49 A_t_draft v_t_draft, oX9 A_t_text A_t_text_bytes x_t_text_size x_t_text_end x_t_text_place x_t_text_fault, iA cI 260 A_t_text_bytes v_t_text_bytes]) (rest := []) C hK hP hD hS hA hl mf_X3_84 (c_X11_isWordSign hc10) [] rfl rfl rfl rfl rfl rfl rfl rfl (Nat.le_of_ble_eq_true rfl) ⟨(show 0 + 1 ≤ dp + 1 + 3 by omega), (show 8 + (1 + 11) + 0 ≤ (dp + 1) * 25 + 64 by omega)⟩ ⟨Nat.le_refl _, Nat.le_refl _⟩ dX3_readItem_63 ?_
        intro H locs hP hD hS
        refine lv_if_eq (tgt := 88) hx hb dX3_readItem_66 (by decide) (fun q => ?_) (fun q => ?_)
        · have hf := if_t q hf
          refine lv_iload hx hb dX3_readItem_88 (lv_at hl 0 rfl) ?_
          refine lv_bipush (v := 40) hx hb dX3_readItem_90 (by decide) ?_
          refine lv_icmp_eq (tgt := 106) hx hb dX3_readItem_92 (by decide) (fun q => ?_) (fun q => ?_)
          · have hf := if_t q hf
            refine lv_iload_n hx hb dX3_readItem_106 rfl (lv_at hl 2 rfl) ?_
            refine lv_iconst (v := 2) hx hb dX3_readItem_107 (by decide) ?_
            refine lv_icmp_lt (tgt := 122) hx hb dX3_readItem_108 (by decide) (fun q => ?_) (fun q => ?_)
            · have hf := if_t q hf
              refine lv_aload_n hx hb dX3_readItem_122 rfl (lv_at hl 1 rfl) ?_
              refine x_get C hK hP fd_X3_18 0 rfl rfl dX3_readItem_123 ?_
              obtain ⟨w11, hc12, hf⟩ := bd1_e hf
              refine x_callVV (ws' := [oX3 A_t A_t_text A_t_words A_t_draft x_t_size x_t_drafted, iA cI 49 A_t_draft v_t_draft, oX9 A_t_text A_t_text_bytes x_t_text_size x_t_text_end w11 x_t_text_fault, iA cI 260 A_t_text_bytes v_t_text_bytes]) (rest := []) C hK hP hD hS hA hl mf_X3_81 (c_X9_step hc12) [2] 0 9 rfl rfl rfl rfl rfl rfl rfl rfl rfl rfl (Nat.le_of_ble_eq_true rfl) ⟨(show 0 + 1 ≤ dp + 1 + 3 by omega), (show 8 + (1 + 11) + 0 ≤ (dp + 1) * 25 + 64 by omega)⟩ ⟨Nat.le_refl _, Nat.le_refl _⟩ dX3_readItem_126 ?_
              intro H locs hP hD hS
              refine lv_aload_n hx hb dX3_readItem_129 rfl (lv_at hl 1 rfl) ?_
              refine lv_iload_n hx hb dX3_readItem_130 rfl (lv_at hl 2 rfl) ?_
              refine lv_iconst (v := 1) hx hb dX3_readItem_131 (by decide) ?_
              refine lv_iadd hx hb dX3_readItem_132 ?_
              obtain ⟨w13, w14, w15, w16, hc17, hf⟩ := bd4_e hf
              refine x_callVV (ws' := [oX3 A_t A_t_text A_t_words A_t_draft x_t_size w14, iA cI 49 A_t_draft w13, oX9 A_t_text A_t_text_bytes x_t_text_size x_t_text_end w16 w15, iA cI 260 A_t_text_bytes v_t_text_bytes]) (rest := []) C hK hP hD hS hA hl mf_X3_39 (ih_X3_readWords hc17) [0, 1, 2, 3] 0 3 rfl rfl rfl rfl rfl rfl rfl rfl rfl rfl (Nat.le_of_ble_eq_true rfl) ⟨(show dp + 3 + 1 ≤ dp + 1 + 3 by omega), (show 8 + (3 + 11) + (dp * 25 + 64) ≤ (dp + 1) * 25 + 64 by omega)⟩ ⟨Nat.le_refl _, Nat.le_refl _⟩ dX3_readItem_133 ?_
              intro H locs hP hD hS
              refine lv_aload_n hx hb dX3_readItem_136 rfl (lv_at hl 1 rfl) ?_
              refine x_get C hK hP fd_X3_18 0 rfl rfl dX3_readItem_137 ?_
              refine lv_bipush (v := 41) hx hb dX3_readItem_140 (by decide) ?_
              obtain ⟨w18, w19, hc20, hf⟩ := bd2_e hf
              refine x_callVV (ws' := [oX3 A_t A_t_text A_t_words A_t_draft x_t_size w14, iA cI 49 A_t_draft w13, oX9 A_t_text A_t_text_bytes x_t_text_size x_t_text_end w19 w18, iA cI 260 A_t_text_bytes v_t_text_bytes]) (rest := []) C hK hP hD hS hA hl mf_X3_91 (c_X9_take hc20) [2, 3] 0 9 rfl rfl rfl rfl rfl rfl rfl rfl rfl rfl (Nat.le_of_ble_eq_true rfl) ⟨(show 2 + 1 ≤ dp + 1 + 3 by omega), (show 8 + (2 + 11) + 43 ≤ (dp + 1) * 25 + 64 by omega)⟩ ⟨Nat.le_refl _, Nat.le_refl _⟩ dX3_readItem_142 ?_
              intro H locs hP hD hS
              exact hb_145 w13 w14 w18 w19 l2 l3 l4 _ _ ls (lv_sub hl [1, 3, 4, 5] rfl) hP hD hS hf
            · have hf := if_f q hf
              refine lv_aload_n hx hb dX3_readItem_111 rfl (lv_at hl 1 rfl) ?_
              refine x_get C hK hP fd_X3_18 0 rfl rfl dX3_readItem_112 ?_
              refine lv_iconst (v := 5) hx hb dX3_readItem_115 (by decide) ?_
              obtain ⟨w21, hc22, hf⟩ := bd1_e hf
              refine x_callVV (ws' := [oX3 A_t A_t_text A_t_words A_t_draft x_t_size x_t_drafted, iA cI 49 A_t_draft v_t_draft, oX9 A_t_text A_t_text_bytes x_t_text_size x_t_text_end x_t_text_place w21, iA cI 260 A_t_text_bytes v_t_text_bytes]) (rest := []) C hK hP hD hS hA hl mf_X3_46 (c_X9_fail hc22) [2] 0 9 rfl rfl rfl rfl rfl rfl rfl rfl rfl rfl (Nat.le_of_ble_eq_true rfl) ⟨(show 1 + 1 ≤ dp + 1 + 3 by omega), (show 8 + (2 + 11) + 22 ≤ (dp + 1) * 25 + 64 by omega)⟩ ⟨Nat.le_refl _, Nat.le_refl _⟩ dX3_readItem_116 ?_
              intro H locs hP hD hS
              refine lv_goto (tgt := 145) hx hb dX3_readItem_119 (by decide) ?_
              exact hb_145 v_t_draft x_t_drafted w21 x_t_text_place l2 l3 l4 _ _ ls (lv_sub hl [1, 3, 4, 5] rfl) hP hD hS hf
          · have hf := if_f q hf
            refine lv_aload_n hx hb dX3_readItem_95 rfl (lv_at hl 1 rfl) ?_
            refine x_get C hK hP fd_X3_18 0 rfl rfl dX3_readItem_96 ?_
            refine lv_iconst (v := 1) hx hb dX3_readItem_99 (by decide) ?_
            obtain ⟨w23, hc24, hf⟩ := bd1_e hf
            refine x_callVV (ws' := [oX3 A_t A_t_text A_t_words A_t_draft x_t_size x_t_drafted, iA cI 49 A_t_draft v_t_draft, oX9 A_t_text A_t_text_bytes x_t_text_size x_t_text_end x_t_text_place w23, iA cI 260 A_t_text_bytes v_t_text_bytes]) (rest := []) C hK hP hD hS hA hl mf_X3_46 (c_X9_fail hc24) [2] 0 9 rfl rfl rfl rfl rfl rfl rfl rfl rfl rfl (Nat.le_of_ble_eq_true rfl) ⟨(show 1 + 1 ≤ dp + 1 + 3 by omega), (show 8 + (2 + 11) + 22 ≤ (dp + 1) * 25 + 64 by omega)⟩ ⟨Nat.le_refl _, Nat.le_refl _⟩ dX3_readItem_100 ?_
            intro H locs hP hD hS
            refine lv_goto (tgt := 145) hx hb dX3_readItem_103 (by decide) ?_
            exact hb_145 v_t_draft x_t_drafted w23 x_t_text_place l2 l3 l4 _ _ ls (lv_sub hl [1, 3, 4, 5] rfl) hP hD hS hf
        · have hf := if_f q hf
          refine lv_aload_n hx hb dX3_readItem_69 rfl (lv_at hl 1 rfl) ?_
          refine lv_iload hx hb dX3_readItem_70 (lv_at hl 0 rfl) ?_
          refine lv_bipush (v := 97) hx hb dX3_readItem_72 (by decide) ?_
          refine lv_isub hx hb dX3_readItem_74 ?_
          obtain ⟨w25, w26, hc27, hf⟩ := bd2_e hf
          refine x_callVV (ws' := [oX3 A_t A_t_text A_t_words A_t_draft x_t_size w26, iA cI 49 A_t_draft w25, oX9 A_t_text A_t_text_bytes x_t_text_size x_t_text_end x_t_text_place x_t_text_fault, iA cI 260 A_t_text_bytes v_t_text_bytes]) (rest := []) C hK hP hD hS hA hl mf_X3_88 (c_X3_put hc27) [0, 1] 0 3 rfl rfl rfl rfl rfl rfl rfl rfl rfl rfl (Nat.le_of_ble_eq_true rfl) ⟨(show 0 + 1 ≤ dp + 1 + 3 by omega), (show 8 + (2 + 11) + 0 ≤ (dp + 1) * 25 + 64 by omega)⟩ ⟨Nat.le_refl _, Nat.le_refl _⟩ dX3_readItem_75 ?_
          intro H locs hP hD hS
          refine lv_aload_n hx hb dX3_readItem_78 rfl (lv_at hl 1 rfl) ?_
          refine x_get C hK hP fd_X3_18 0 rfl rfl dX3_readItem_79 ?_
          obtain ⟨w28, hc29, hf⟩ := bd1_e hf
          refine x_callVV (ws' := [oX3 A_t A_t_text A_t_words A_t_draft x_t_size w26, iA cI 49 A_t_draft w25, oX9 A_t_text A_t_text_bytes x_t_text_size x_t_text_end w28 x_t_text_fault, iA cI 260 A_t_text_bytes v_t_text_bytes]) (rest := []) C hK hP hD hS hA hl mf_X3_81 (c_X9_step hc29) [2] 0 9 rfl rfl rfl rfl rfl rfl rfl rfl rfl rfl (Nat.le_of_ble_eq_true rfl) ⟨(show 0 + 1 ≤ dp + 1 + 3 by omega), (show 8 + (1 + 11) + 0 ≤ (dp + 1) * 25 + 64 by omega)⟩ ⟨Nat.le_refl _, Nat.le_refl _⟩ dX3_readItem_82 ?_
          intro H locs hP hD hS
          refine lv_goto (tgt := 145) hx hb dX3_readItem_85 (by decide) ?_
          exact hb_145 w25 w26 x_t_text_fault w28 l2 l3 l4 _ _ ls (lv_sub hl [1, 3, 4, 5] rfl) hP hD hS hf
      refine lv_aload_n hx hb dX3_readItem_0 rfl (lv_at hl 0 rfl) ?_
      refine x_get C hK hP fd_X3_18 0 rfl rfl dX3_readItem_1 ?_
      refine x_get C hK hP fd_X3_74 2 rfl rfl dX3_readItem_4 ?_
      refine lv_istore_n (lv' := [(2, .int x_t_text_place), (0, .ref A_t), (1, .int a1)]) hx hb dX3_readItem_7 rfl hl (by decide) rfl (fun ls hl => ?_)
      refine lv_aload_n hx hb dX3_readItem_8 rfl (lv_at hl 1 rfl) ?_
      refine x_get C hK hP fd_X3_30 0 rfl rfl dX3_readItem_9 ?_
      refine lv_istore_n (lv' := [(3, .int x_t_drafted), (2, .int x_t_text_place), (0, .ref A_t), (1, .int a1)]) hx hb dX3_readItem_12 rfl hl (by decide) rfl (fun ls hl => ?_)
      refine lv_iconst (v := 1) hx hb dX3_readItem_13 (by decide) ?_
      refine lv_istore (lv' := [(4, .int (1 : Int32)), (3, .int x_t_drafted), (2, .int x_t_text_place), (0, .ref A_t), (1, .int a1)]) hx hb dX3_readItem_14 hl (by decide) rfl (fun ls hl => ?_)
      refine lv_aload_n hx hb dX3_readItem_16 rfl (lv_at hl 3 rfl) ?_
      refine x_get C hK hP fd_X3_18 0 rfl rfl dX3_readItem_17 ?_
      obtain ⟨r30, hc31, hf⟩ := bd1_e hf
      refine x_callVI (ws' := [oX3 A_t A_t_text A_t_words A_t_draft x_t_size x_t_drafted, iA cI 49 A_t_draft v_t_draft, oX9 A_t_text A_t_text_bytes x_t_text_size x_t_text_end x_t_text_place x_t_text_fault, iA cI 260 A_t_text_bytes v_t_text_bytes]) (rest := []) C hK hP hD hS hA hl mf_X3_70 (c_X9_sign hc31) [2, 3] 0 9 rfl rfl rfl rfl rfl rfl rfl rfl rfl rfl (Nat.le_of_ble_eq_true rfl) ⟨(show 1 + 1 ≤ dp + 1 + 3 by omega), (show 8 + (1 + 11) + 21 ≤ (dp + 1) * 25 + 64 by omega)⟩ ⟨Nat.le_refl _, Nat.le_refl _⟩ dX3_readItem_20 ?_
      intro H locs hP hD hS
      refine lv_bipush (v := 50) hx hb dX3_readItem_23 (by decide) ?_
      refine lv_bipush (v := 57) hx hb dX3_readItem_25 (by decide) ?_
      obtain ⟨r32, hc33, hf⟩ := bd1_e hf
      refine x_callSI (ws' := [oX3 A_t A_t_text A_t_words A_t_draft x_t_size x_t_drafted, iA cI 49 A_t_draft v_t_draft, oX9 A_t_text A_t_text_bytes x_t_text_size x_t_text_end x_t_text_place x_t_text_fault, iA cI 260 A_t_text_bytes v_t_text_bytes]) (rest := []) C hK hP hD hS hA hl mf_X3_77 (c_X11_within hc33) [] rfl rfl rfl rfl rfl rfl rfl rfl (Nat.le_of_ble_eq_true rfl) ⟨(show 0 + 1 ≤ dp + 1 + 3 by omega), (show 8 + (3 + 11) + 0 ≤ (dp + 1) * 25 + 64 by omega)⟩ ⟨Nat.le_refl _, Nat.le_refl _⟩ dX3_readItem_27 ?_
      intro H locs hP hD hS
      refine lv_if_eq (tgt := 52) hx hb dX3_readItem_30 (by decide) (fun q => ?_) (fun q => ?_)
      · have hf := if_t q hf
        exact hb_52 v_t_draft x_t_drafted x_t_text_fault x_t_text_place x_t_text_place x_t_drafted (1 : Int32) _ _ ls (lv_sub hl [3, 4, 2, 1, 0] rfl) hP hD hS hf
      · have hf := if_f q hf
        refine lv_aload_n hx hb dX3_readItem_33 rfl (lv_at hl 3 rfl) ?_
        refine x_get C hK hP fd_X3_18 0 rfl rfl dX3_readItem_34 ?_
        obtain ⟨r34, hc35, hf⟩ := bd1_e hf
        refine x_callVI (ws' := [oX3 A_t A_t_text A_t_words A_t_draft x_t_size x_t_drafted, iA cI 49 A_t_draft v_t_draft, oX9 A_t_text A_t_text_bytes x_t_text_size x_t_text_end x_t_text_place x_t_text_fault, iA cI 260 A_t_text_bytes v_t_text_bytes]) (rest := []) C hK hP hD hS hA hl mf_X3_70 (c_X9_sign hc35) [2, 3] 0 9 rfl rfl rfl rfl rfl rfl rfl rfl rfl rfl (Nat.le_of_ble_eq_true rfl) ⟨(show 1 + 1 ≤ dp + 1 + 3 by omega), (show 8 + (1 + 11) + 21 ≤ (dp + 1) * 25 + 64 by omega)⟩ ⟨Nat.le_refl _, Nat.le_refl _⟩ dX3_readItem_37 ?_
        intro H locs hP hD hS
        refine lv_bipush (v := 48) hx hb dX3_readItem_40 (by decide) ?_
        refine lv_isub hx hb dX3_readItem_42 ?_
        refine lv_istore (lv' := [(4, .int (r34 - (48 : Int32))), (3, .int x_t_drafted), (2, .int x_t_text_place), (0, .ref A_t), (1, .int a1)]) hx hb dX3_readItem_43 hl (by decide) rfl (fun ls hl => ?_)
        refine lv_aload_n hx hb dX3_readItem_45 rfl (lv_at hl 3 rfl) ?_
        refine x_get C hK hP fd_X3_18 0 rfl rfl dX3_readItem_46 ?_
        obtain ⟨w36, hc37, hf⟩ := bd1_e hf
        refine x_callVV (ws' := [oX3 A_t A_t_text A_t_words A_t_draft x_t_size x_t_drafted, iA cI 49 A_t_draft v_t_draft, oX9 A_t_text A_t_text_bytes x_t_text_size x_t_text_end w36 x_t_text_fault, iA cI 260 A_t_text_bytes v_t_text_bytes]) (rest := []) C hK hP hD hS hA hl mf_X3_81 (c_X9_step hc37) [2] 0 9 rfl rfl rfl rfl rfl rfl rfl rfl rfl rfl (Nat.le_of_ble_eq_true rfl) ⟨(show 0 + 1 ≤ dp + 1 + 3 by omega), (show 8 + (1 + 11) + 0 ≤ (dp + 1) * 25 + 64 by omega)⟩ ⟨Nat.le_refl _, Nat.le_refl _⟩ dX3_readItem_49 ?_
        intro H locs hP hD hS
        exact hb_52 v_t_draft x_t_drafted x_t_text_fault w36 x_t_text_place x_t_drafted (r34 - (48 : Int32)) _ _ ls (lv_sub hl [3, 4, 2, 1, 0] rfl) hP hD hS hf
theorem c_X3_readWords {l : Launch} {D : va_G} {cI cB : ClassId} {A_t A_t_text A_t_words A_t_draft A_t_text_bytes : Nat} {x_t_size x_t_drafted x_t_text_size x_t_text_end x_t_text_place x_t_text_fault a1 : Int32} {v_t_draft v_t_text_bytes : Nat → Int32} {o_x_t_drafted o_x_t_text_fault o_x_t_text_place : Int32} {o_v_t_draft : Nat → Int32} (hf : f_X3_readWords DP v_t_draft v_t_text_bytes x_t_drafted x_t_text_end x_t_text_fault x_t_text_place x_t_text_size a1 = some (o_v_t_draft, o_x_t_drafted, o_x_t_text_fault, o_x_t_text_place)) : CtV l D cI cB yX3_readWords cX3_readWords 3 43 1064 [.ref A_t, .int a1] [oX3 A_t A_t_text A_t_words A_t_draft x_t_size x_t_drafted, iA cI 49 A_t_draft v_t_draft, oX9 A_t_text A_t_text_bytes x_t_text_size x_t_text_end x_t_text_place x_t_text_fault, iA cI 260 A_t_text_bytes v_t_text_bytes] [oX3 A_t A_t_text A_t_words A_t_draft x_t_size o_x_t_drafted, iA cI 49 A_t_draft o_v_t_draft, oX9 A_t_text A_t_text_bytes x_t_text_size x_t_text_end o_x_t_text_place o_x_t_text_fault, iA cI 260 A_t_text_bytes v_t_text_bytes] := (cc_X3_readWords l D cI cB DP).1 hf
theorem c_X3_readItem {l : Launch} {D : va_G} {cI cB : ClassId} {A_t A_t_text A_t_words A_t_draft A_t_text_bytes : Nat} {x_t_size x_t_drafted x_t_text_size x_t_text_end x_t_text_place x_t_text_fault a1 : Int32} {v_t_draft v_t_text_bytes : Nat → Int32} {o_x_t_drafted o_x_t_text_fault o_x_t_text_place : Int32} {o_v_t_draft : Nat → Int32} (hf : f_X3_readItem DP v_t_draft v_t_text_bytes x_t_drafted x_t_text_end x_t_text_fault x_t_text_place x_t_text_size a1 = some (o_v_t_draft, o_x_t_drafted, o_x_t_text_fault, o_x_t_text_place)) : CtV l D cI cB yX3_readItem cX3_readItem 6 43 1064 [.ref A_t, .int a1] [oX3 A_t A_t_text A_t_words A_t_draft x_t_size x_t_drafted, iA cI 49 A_t_draft v_t_draft, oX9 A_t_text A_t_text_bytes x_t_text_size x_t_text_end x_t_text_place x_t_text_fault, iA cI 260 A_t_text_bytes v_t_text_bytes] [oX3 A_t A_t_text A_t_words A_t_draft x_t_size o_x_t_drafted, iA cI 49 A_t_draft o_v_t_draft, oX9 A_t_text A_t_text_bytes x_t_text_size x_t_text_end o_x_t_text_place o_x_t_text_fault, iA cI 260 A_t_text_bytes v_t_text_bytes] := (cc_X3_readWords l D cI cB DP).2 hf
def f_X3_read_b36 (v_t_draft : (Nat → Int32)) (v_t_words : (Nat → Int32)) (x_t_drafted : Int32) (x_t_size : Int32) (x_t_text_end : Int32) (x_t_text_fault : Int32) (x_t_text_place : Int32) : Option (Int32 × (Nat → Int32) × (Nat → Int32) × Int32 × Int32 × Int32 × Int32 × Int32) :=
  bd1 (f_X9_hasFailed x_t_text_fault) (fun r1 =>
  if r1 = 0 then
    cI 49 48 v_t_draft v_t_words (0 : Int32) (0 : Int32) (mnI x_t_drafted (48 : Int32)) (fun w2 =>
    some ((mnI x_t_drafted (48 : Int32)), v_t_draft, w2, x_t_drafted, (mnI x_t_drafted (48 : Int32)), x_t_text_end, x_t_text_fault, x_t_text_place))
  else
    some (x_t_text_fault, v_t_draft, v_t_words, x_t_drafted, x_t_size, x_t_text_end, x_t_text_fault, x_t_text_place))
def f_X3_read (v_t_draft : (Nat → Int32)) (v_t_text_bytes : (Nat → Int32)) (v_t_words : (Nat → Int32)) (x_t_drafted : Int32) (x_t_size : Int32) (x_t_text_end : Int32) (x_t_text_fault : Int32) (x_t_text_place : Int32) (x_t_text_size : Int32) (a1 : Int32) : Option (Int32 × (Nat → Int32) × (Nat → Int32) × Int32 × Int32 × Int32 × Int32 × Int32) :=
  bd3 (f_X9_begin x_t_text_end x_t_text_fault x_t_text_place x_t_text_size a1) (fun w3 w4 w5 =>
  bd4 (f_X3_readWords DP v_t_draft v_t_text_bytes (0 : Int32) w3 w4 w5 x_t_text_size (0 : Int32)) (fun w6 w7 w8 w9 =>
  bd1 (f_X9_isAtEnd w3 w9) (fun r10 =>
  if r10 = 0 then
    bd1 (f_X9_fail w8 w9 (1 : Int32)) (fun w11 =>
    f_X3_read_b36 w6 v_t_words w7 x_t_size w3 w11 w9)
  else
    f_X3_read_b36 w6 v_t_words w7 x_t_size w3 w8 w9)))
set_option maxHeartbeats 4000000 in
set_option maxRecDepth 100000 in
theorem c_X3_read {l : Launch} {D : va_G} {cI cB : ClassId} {A_t A_t_text A_t_words A_t_draft A_t_text_bytes : Nat} {x_t_size x_t_drafted x_t_text_size x_t_text_end x_t_text_place x_t_text_fault a1 : Int32} {v_t_draft v_t_text_bytes v_t_words : Nat → Int32} {o_r o_x_t_drafted o_x_t_size o_x_t_text_end o_x_t_text_fault o_x_t_text_place : Int32} {o_v_t_draft o_v_t_words : Nat → Int32} (hf : f_X3_read v_t_draft v_t_text_bytes v_t_words x_t_drafted x_t_size x_t_text_end x_t_text_fault x_t_text_place x_t_text_size a1 = some (o_r, o_v_t_draft, o_v_t_words, o_x_t_drafted, o_x_t_size, o_x_t_text_end, o_x_t_text_fault, o_x_t_text_place)) : CtI l D cI cB yX3_read cX3_read 2 (some .int) 44 1086 [.ref A_t, .int a1] [oX3 A_t A_t_text A_t_words A_t_draft x_t_size x_t_drafted, iA cI 49 A_t_draft v_t_draft, oX9 A_t_text A_t_text_bytes x_t_text_size x_t_text_end x_t_text_place x_t_text_fault, iA cI 260 A_t_text_bytes v_t_text_bytes, iA cI 48 A_t_words v_t_words] [oX3 A_t A_t_text A_t_words A_t_draft o_x_t_size o_x_t_drafted, iA cI 49 A_t_draft o_v_t_draft, oX9 A_t_text A_t_text_bytes x_t_text_size o_x_t_text_end o_x_t_text_place o_x_t_text_fault, iA cI 260 A_t_text_bytes v_t_text_bytes, iA cI 48 A_t_words o_v_t_words] o_r := by
  refine x_startI (by decide) (Nat.le_of_ble_eq_true rfl) ?_
  intro p e s m below meth c A C hr hlk hA hK hP hD hS ls hl
  have hl : lv_has ls 2 [(0, .ref A_t), (1, .int a1)] := hl
  have hx := C.1
  have hb := C.2.1
  unfold f_X3_read at hf
  have hb_36 : ∀ (v_t_draft : (Nat → Int32)) (v_t_words : (Nat → Int32)) (x_t_drafted : Int32) (x_t_size : Int32) (x_t_text_end : Int32) (x_t_text_fault : Int32) (x_t_text_place : Int32) (H : Heap) (locs : List Loc) (ls : Array Slot), lv_has ls 2 [(0, .ref A_t)] → va_P D vwCl [oX3 A_t A_t_text A_t_words A_t_draft x_t_size x_t_drafted, iA cI 49 A_t_draft v_t_draft, oX9 A_t_text A_t_text_bytes x_t_text_size x_t_text_end x_t_text_place x_t_text_fault, iA cI 260 A_t_text_bytes v_t_text_bytes, iA cI 48 A_t_words v_t_words] H → va_D A [oX3 A_t A_t_text A_t_words A_t_draft x_t_size x_t_drafted, iA cI 49 A_t_draft v_t_draft, oX9 A_t_text A_t_text_bytes x_t_text_size x_t_text_end x_t_text_place x_t_text_fault, iA cI 260 A_t_text_bytes v_t_text_bytes, iA cI 48 A_t_words v_t_words] → va_S A s.heap H locs → f_X3_read_b36 v_t_draft v_t_words x_t_drafted x_t_size x_t_text_end x_t_text_fault x_t_text_place = some (o_r, o_v_t_draft, o_v_t_words, o_x_t_drafted, o_x_t_size, o_x_t_text_end, o_x_t_text_fault, o_x_t_text_place) → W p l e { frames := 44, cells := 0, slots := 0, locals := 1086 } s m ([.ref A_t, .int a1] : List Value).toArray below meth c H locs 0 0 (MQ below (PoI D A [oX3 A_t A_t_text A_t_words A_t_draft o_x_t_size o_x_t_drafted, iA cI 49 A_t_draft o_v_t_draft, oX9 A_t_text A_t_text_bytes x_t_text_size o_x_t_text_end o_x_t_text_place o_x_t_text_fault, iA cI 260 A_t_text_bytes v_t_text_bytes, iA cI 48 A_t_words o_v_t_words] o_r) ([.ref A_t, .int a1] : List Value).toArray s 0 0 A) (F0 m 36 ls []) := by
    intro v_t_draft v_t_words x_t_drafted x_t_size x_t_text_end x_t_text_fault x_t_text_place H locs ls hl hP hD hS hf
    unfold f_X3_read_b36 at hf
    refine lv_aload_n hx hb dX3_read_36 rfl (lv_at hl 0 rfl) ?_
    refine x_get C hK hP fd_X3_18 0 rfl rfl dX3_read_37 ?_
    obtain ⟨r1, hc2, hf⟩ := bd1_e hf
    refine x_callVI (ws' := [oX3 A_t A_t_text A_t_words A_t_draft x_t_size x_t_drafted, iA cI 49 A_t_draft v_t_draft, oX9 A_t_text A_t_text_bytes x_t_text_size x_t_text_end x_t_text_place x_t_text_fault, iA cI 260 A_t_text_bytes v_t_text_bytes, iA cI 48 A_t_words v_t_words]) (rest := []) C hK hP hD hS hA hl mf_X3_49 (c_X9_hasFailed hc2) [2] 0 9 rfl rfl rfl rfl rfl rfl rfl rfl rfl rfl (Nat.le_of_ble_eq_true rfl) ⟨Nat.le_of_ble_eq_true rfl, Nat.le_of_ble_eq_true rfl⟩ ⟨Nat.le_refl _, Nat.le_refl _⟩ dX3_read_40 ?_
    intro H locs hP hD hS
    refine lv_if_eq (tgt := 54) hx hb dX3_read_43 (by decide) (fun q => ?_) (fun q => ?_)
    · have hf := if_t q hf
      refine lv_aload_n hx hb dX3_read_54 rfl (lv_at hl 0 rfl) ?_
      refine lv_aload_n hx hb dX3_read_55 rfl (lv_at hl 0 rfl) ?_
      refine x_get C hK hP fd_X3_30 0 rfl rfl dX3_read_56 ?_
      refine lv_bipush (v := 48) hx hb dX3_read_59 (by decide) ?_
      refine x_mmin C hl ml_X3_55 (Nat.le_of_ble_eq_true rfl) (Nat.le_of_ble_eq_true rfl) ⟨Nat.le_refl _, Nat.le_refl _⟩ dX3_read_61 ?_
      refine x_put (ws' := [oX3 A_t A_t_text A_t_words A_t_draft (mnI x_t_drafted (48 : Int32)) x_t_drafted, iA cI 49 A_t_draft v_t_draft, oX9 A_t_text A_t_text_bytes x_t_text_size x_t_text_end x_t_text_place x_t_text_fault, iA cI 260 A_t_text_bytes v_t_text_bytes, iA cI 48 A_t_words v_t_words]) C hK hP hD hS fp_X3_22 0 rfl rfl rfl (Nat.le_of_ble_eq_true rfl) rfl dX3_read_64 ?_
      intro H locs hP hD hS
      refine lv_aload_n hx hb dX3_read_67 rfl (lv_at hl 0 rfl) ?_
      refine x_get C hK hP fd_X3_15 0 rfl rfl dX3_read_68 ?_
      refine lv_iconst (v := 0) hx hb dX3_read_71 (by decide) ?_
      refine lv_aload_n hx hb dX3_read_72 rfl (lv_at hl 0 rfl) ?_
      refine x_get C hK hP fd_X3_11 0 rfl rfl dX3_read_73 ?_
      refine lv_iconst (v := 0) hx hb dX3_read_76 (by decide) ?_
      refine lv_aload_n hx hb dX3_read_77 rfl (lv_at hl 0 rfl) ?_
      refine x_get C hK hP fd_X3_22 0 rfl rfl dX3_read_78 ?_
      obtain ⟨hc, hf⟩ := cI_e hf
      refine x_copy (ws' := [oX3 A_t A_t_text A_t_words A_t_draft (mnI x_t_drafted (48 : Int32)) x_t_drafted, iA cI 49 A_t_draft v_t_draft, oX9 A_t_text A_t_text_bytes x_t_text_size x_t_text_end x_t_text_place x_t_text_fault, iA cI 260 A_t_text_bytes v_t_text_bytes, iA cI 48 A_t_words (va_cpy v_t_draft v_t_words (0 : Int32).toNatClampNeg (0 : Int32).toNatClampNeg (mnI x_t_drafted (48 : Int32)).toNatClampNeg)]) C hK hP hD hS hl ml_X3_61 1 4 rfl rfl hc rfl (Nat.le_of_ble_eq_true rfl) (Nat.le_of_ble_eq_true rfl) dX3_read_81 ?_
      intro H locs hP hD hS
      refine lv_aload_n hx hb dX3_read_84 rfl (lv_at hl 0 rfl) ?_
      refine x_get C hK hP fd_X3_22 0 rfl rfl dX3_read_85 ?_
      obtain ⟨rfl, rfl, rfl, rfl, rfl, rfl, rfl, rfl⟩ := ev8 hf
      exact x_iret C hr hlk hP hD hS dX3_read_88
    · have hf := if_f q hf
      refine lv_aload_n hx hb dX3_read_46 rfl (lv_at hl 0 rfl) ?_
      refine x_get C hK hP fd_X3_18 0 rfl rfl dX3_read_47 ?_
      refine x_get C hK hP fd_X3_52 2 rfl rfl dX3_read_50 ?_
      obtain ⟨rfl, rfl, rfl, rfl, rfl, rfl, rfl, rfl⟩ := ev8 hf
      exact x_iret C hr hlk hP hD hS dX3_read_53
  refine lv_aload_n hx hb dX3_read_0 rfl (lv_at hl 0 rfl) ?_
  refine lv_iconst (v := 0) hx hb dX3_read_1 (by decide) ?_
  refine x_put (ws' := [oX3 A_t A_t_text A_t_words A_t_draft x_t_size (0 : Int32), iA cI 49 A_t_draft v_t_draft, oX9 A_t_text A_t_text_bytes x_t_text_size x_t_text_end x_t_text_place x_t_text_fault, iA cI 260 A_t_text_bytes v_t_text_bytes, iA cI 48 A_t_words v_t_words]) C hK hP hD hS fp_X3_30 0 rfl rfl rfl (Nat.le_of_ble_eq_true rfl) rfl dX3_read_2 ?_
  intro H locs hP hD hS
  refine lv_aload_n hx hb dX3_read_5 rfl (lv_at hl 0 rfl) ?_
  refine x_get C hK hP fd_X3_18 0 rfl rfl dX3_read_6 ?_
  refine lv_iload_n hx hb dX3_read_9 rfl (lv_at hl 1 rfl) ?_
  obtain ⟨w3, w4, w5, hc6, hf⟩ := bd3_e hf
  refine x_callVV (ws' := [oX3 A_t A_t_text A_t_words A_t_draft x_t_size (0 : Int32), iA cI 49 A_t_draft v_t_draft, oX9 A_t_text A_t_text_bytes x_t_text_size w3 w5 w4, iA cI 260 A_t_text_bytes v_t_text_bytes, iA cI 48 A_t_words v_t_words]) (rest := []) C hK hP hD hS hA hl mf_X3_33 (c_X9_begin hc6) [2] 0 9 rfl rfl rfl rfl rfl rfl rfl rfl rfl rfl (Nat.le_of_ble_eq_true rfl) ⟨Nat.le_of_ble_eq_true rfl, Nat.le_of_ble_eq_true rfl⟩ ⟨Nat.le_refl _, Nat.le_refl _⟩ dX3_read_10 ?_
  intro H locs hP hD hS
  refine lv_aload_n hx hb dX3_read_13 rfl (lv_at hl 0 rfl) ?_
  refine lv_iconst (v := 0) hx hb dX3_read_14 (by decide) ?_
  obtain ⟨w7, w8, w9, w10, hc11, hf⟩ := bd4_e hf
  refine x_callVV (ws' := [oX3 A_t A_t_text A_t_words A_t_draft x_t_size w8, iA cI 49 A_t_draft w7, oX9 A_t_text A_t_text_bytes x_t_text_size w3 w10 w9, iA cI 260 A_t_text_bytes v_t_text_bytes, iA cI 48 A_t_words v_t_words]) (rest := []) C hK hP hD hS hA hl mf_X3_39 (c_X3_readWords hc11) [0, 1, 2, 3] 0 3 rfl rfl rfl rfl rfl rfl rfl rfl rfl rfl (Nat.le_of_ble_eq_true rfl) ⟨Nat.le_of_ble_eq_true rfl, Nat.le_of_ble_eq_true rfl⟩ ⟨Nat.le_refl _, Nat.le_refl _⟩ dX3_read_15 ?_
  intro H locs hP hD hS
  refine lv_aload_n hx hb dX3_read_18 rfl (lv_at hl 0 rfl) ?_
  refine x_get C hK hP fd_X3_18 0 rfl rfl dX3_read_19 ?_
  obtain ⟨r12, hc13, hf⟩ := bd1_e hf
  refine x_callVI (ws' := [oX3 A_t A_t_text A_t_words A_t_draft x_t_size w8, iA cI 49 A_t_draft w7, oX9 A_t_text A_t_text_bytes x_t_text_size w3 w10 w9, iA cI 260 A_t_text_bytes v_t_text_bytes, iA cI 48 A_t_words v_t_words]) (rest := []) C hK hP hD hS hA hl mf_X3_42 (c_X9_isAtEnd hc13) [2] 0 9 rfl rfl rfl rfl rfl rfl rfl rfl rfl rfl (Nat.le_of_ble_eq_true rfl) ⟨Nat.le_of_ble_eq_true rfl, Nat.le_of_ble_eq_true rfl⟩ ⟨Nat.le_refl _, Nat.le_refl _⟩ dX3_read_22 ?_
  intro H locs hP hD hS
  refine lv_if_ne (tgt := 36) hx hb dX3_read_25 (by decide) (fun q => ?_) (fun q => ?_)
  · have hf := if_f q hf
    exact hb_36 w7 v_t_words w8 x_t_size w3 w9 w10 _ _ ls (lv_sub hl [0] rfl) hP hD hS hf
  · have hf := if_t q hf
    refine lv_aload_n hx hb dX3_read_28 rfl (lv_at hl 0 rfl) ?_
    refine x_get C hK hP fd_X3_18 0 rfl rfl dX3_read_29 ?_
    refine lv_iconst (v := 1) hx hb dX3_read_32 (by decide) ?_
    obtain ⟨w14, hc15, hf⟩ := bd1_e hf
    refine x_callVV (ws' := [oX3 A_t A_t_text A_t_words A_t_draft x_t_size w8, iA cI 49 A_t_draft w7, oX9 A_t_text A_t_text_bytes x_t_text_size w3 w10 w14, iA cI 260 A_t_text_bytes v_t_text_bytes, iA cI 48 A_t_words v_t_words]) (rest := []) C hK hP hD hS hA hl mf_X3_46 (c_X9_fail hc15) [2] 0 9 rfl rfl rfl rfl rfl rfl rfl rfl rfl rfl (Nat.le_of_ble_eq_true rfl) ⟨Nat.le_of_ble_eq_true rfl, Nat.le_of_ble_eq_true rfl⟩ ⟨Nat.le_refl _, Nat.le_refl _⟩ dX3_read_33 ?_
    intro H locs hP hD hS
    exact hb_36 w7 v_t_words w8 x_t_size w3 w14 w10 _ _ ls (lv_sub hl [0] rfl) hP hD hS hf
