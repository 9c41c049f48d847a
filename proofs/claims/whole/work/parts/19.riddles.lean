def f_X5_tellApart_b18 (v_t_borne : (Nat → Int32)) (a1 : Int32) (k2 : Int32 → Option (Int32)) : Nat → Int32 → Int32 → Option (Int32)
  | 0, _, _ => none
  | n + 1, l2, l3 =>
    if l2 ≤ l3 then
      k2 (l2 + (1 : Int32))
    else
      gI 8 v_t_borne l2 (fun g1 =>
      gI 8 v_t_borne l3 (fun g2 =>
      if ((g1 ^^^ g2) &&& a1) = 0 then
        some (0 : Int32)
      else
        f_X5_tellApart_b18 v_t_borne a1 k2 n l2 (l3 + (1 : Int32))))
def f_X5_tellApart_b55 : Option (Int32) :=
  some (1 : Int32)
def f_X5_tellApart_b2 (v_t_borne : (Nat → Int32)) (x_t_bottles : Int32) (a1 : Int32) : Nat → Int32 → Option (Int32)
  | 0, _ => none
  | n + 1, l2 =>
    if x_t_bottles ≤ l2 then
      f_X5_tellApart_b55
    else
      if (8 : Int32) ≤ l2 then
        f_X5_tellApart_b55
      else
        f_X5_tellApart_b18 v_t_borne a1 (f_X5_tellApart_b2 v_t_borne x_t_bottles a1 n) FU l2 (0 : Int32)
def f_X5_tellApart (v_t_borne : (Nat → Int32)) (x_t_bottles : Int32) (a1 : Int32) : Option (Int32) :=
  f_X5_tellApart_b2 v_t_borne x_t_bottles a1 FU (0 : Int32)
set_option maxHeartbeats 4000000 in
set_option maxRecDepth 100000 in
theorem c_X5_tellApart {l : Launch} {D : va_G} {cI cB : ClassId} {A_t A_t_tape A_t_borne : Nat} {x_t_bottles a1 : Int32} {v_t_borne : Nat → Int32} {o_r : Int32} (hf : f_X5_tellApart v_t_borne x_t_bottles a1 = some o_r) : CtI l D cI cB yX5_tellApart cX5_tellApart 4 (some .boolean) 0 0 [.ref A_t, .int a1] [oX5 A_t A_t_tape A_t_borne x_t_bottles, iA cI 8 A_t_borne v_t_borne] [oX5 A_t A_t_tape A_t_borne x_t_bottles, iA cI 8 A_t_borne v_t_borne] o_r := by
  refine x_startI (by decide) (Nat.le_of_ble_eq_true rfl) ?_
  intro p e s m below meth c A C hr hlk hA hK hP hD hS ls hl
  have hl : lv_has ls 4 [(0, .ref A_t), (1, .int a1)] := hl
  have hx := C.1
  have hb := C.2.1
  unfold f_X5_tellApart at hf
  have hb_55 : ∀ (H : Heap) (locs : List Loc) (ls : Array Slot), lv_has ls 4 [] → va_P D vwCl [oX5 A_t A_t_tape A_t_borne x_t_bottles, iA cI 8 A_t_borne v_t_borne] H → va_D A [oX5 A_t A_t_tape A_t_borne x_t_bottles, iA cI 8 A_t_borne v_t_borne] → va_S A s.heap H locs → f_X5_tellApart_b55 = some o_r → W p l e { frames := 0, cells := 0, slots := 0, locals := 0 } s m ([.ref A_t, .int a1] : List Value).toArray below meth c H locs 0 0 (MQ below (PoI D A [oX5 A_t A_t_tape A_t_borne x_t_bottles, iA cI 8 A_t_borne v_t_borne] o_r) ([.ref A_t, .int a1] : List Value).toArray s 0 0 A) (F0 m 55 ls []) := by
    intro H locs ls hl hP hD hS hf
    unfold f_X5_tellApart_b55 at hf
    refine lv_iconst (v := 1) hx hb dX5_tellApart_55 (by decide) ?_
    obtain rfl := ev1 hf
    exact x_zret C hr hlk (Or.inr rfl) hP hD hS dX5_tellApart_56
  have hb_2 : ∀ (n_2 : Nat) (l2 : Int32) (H : Heap) (locs : List Loc) (ls : Array Slot), lv_has ls 4 [(0, .ref A_t), (1, .int a1), (2, .int l2)] → va_P D vwCl [oX5 A_t A_t_tape A_t_borne x_t_bottles, iA cI 8 A_t_borne v_t_borne] H → va_D A [oX5 A_t A_t_tape A_t_borne x_t_bottles, iA cI 8 A_t_borne v_t_borne] → va_S A s.heap H locs → f_X5_tellApart_b2 v_t_borne x_t_bottles a1 n_2 l2 = some o_r → W p l e { frames := 0, cells := 0, slots := 0, locals := 0 } s m ([.ref A_t, .int a1] : List Value).toArray below meth c H locs 0 0 (MQ below (PoI D A [oX5 A_t A_t_tape A_t_borne x_t_bottles, iA cI 8 A_t_borne v_t_borne] o_r) ([.ref A_t, .int a1] : List Value).toArray s 0 0 A) (F0 m 2 ls []) := by
    intro n_2
    induction n_2 with
    | zero =>
      intro l2 H locs ls hl hP hD hS hf
      exact absurd hf (fun h => by rw [f_X5_tellApart_b2] at h; cases h)
    | succ n_2 ih_2 =>
      have hb_18 : ∀ (n_18 : Nat) (l2 : Int32) (l3 : Int32) (H : Heap) (locs : List Loc) (ls : Array Slot), lv_has ls 4 [(0, .ref A_t), (1, .int a1), (2, .int l2), (3, .int l3)] → va_P D vwCl [oX5 A_t A_t_tape A_t_borne x_t_bottles, iA cI 8 A_t_borne v_t_borne] H → va_D A [oX5 A_t A_t_tape A_t_borne x_t_bottles, iA cI 8 A_t_borne v_t_borne] → va_S A s.heap H locs → f_X5_tellApart_b18 v_t_borne a1 (f_X5_tellApart_b2 v_t_borne x_t_bottles a1 n_2) n_18 l2 l3 = some o_r → W p l e { frames := 0, cells := 0, slots := 0, locals := 0 } s m ([.ref A_t, .int a1] : List Value).toArray below meth c H locs 0 0 (MQ below (PoI D A [oX5 A_t A_t_tape A_t_borne x_t_bottles, iA cI 8 A_t_borne v_t_borne] o_r) ([.ref A_t, .int a1] : List Value).toArray s 0 0 A) (F0 m 18 ls []) := by
        intro n_18
        induction n_18 with
        | zero =>
          intro l2 l3 H locs ls hl hP hD hS hf
          exact absurd hf (fun h => by rw [f_X5_tellApart_b18] at h; cases h)
        | succ n_18 ih_18 =>
          intro l2 l3 H locs ls hl hP hD hS hf
          rw [f_X5_tellApart_b18] at hf
          refine lv_iload_n hx hb dX5_tellApart_18 rfl (lv_at hl 3 rfl) ?_
          refine lv_iload_n hx hb dX5_tellApart_19 rfl (lv_at hl 2 rfl) ?_
          refine lv_icmp_ge (tgt := 49) hx hb dX5_tellApart_20 (by decide) (fun q => ?_) (fun q => ?_)
          · have hf := if_t q hf
            refine lv_iinc (v := (l2 + (1 : Int32))) (lv' := [(2, .int (l2 + (1 : Int32))), (0, .ref A_t), (1, .int a1), (3, .int l3)]) hx hb dX5_tellApart_49 hl (k := 2) rfl rfl (by decide) rfl (fun ls hl => ?_)
            refine lv_goto (tgt := 2) hx hb dX5_tellApart_52 (by decide) ?_
            exact ih_2 (l2 + (1 : Int32)) _ _ ls (lv_sub hl [1, 2, 0] rfl) hP hD hS hf
          · have hf := if_f q hf
            refine lv_aload_n hx hb dX5_tellApart_23 rfl (lv_at hl 0 rfl) ?_
            refine x_get C hK hP fd_X5_9 0 rfl rfl dX5_tellApart_24 ?_
            refine lv_iload_n hx hb dX5_tellApart_27 rfl (lv_at hl 2 rfl) ?_
            obtain ⟨hi, hf⟩ := gI_e hf
            refine x_iald C hK hP 1 rfl hi dX5_tellApart_28 ?_
            refine lv_aload_n hx hb dX5_tellApart_29 rfl (lv_at hl 0 rfl) ?_
            refine x_get C hK hP fd_X5_9 0 rfl rfl dX5_tellApart_30 ?_
            refine lv_iload_n hx hb dX5_tellApart_33 rfl (lv_at hl 3 rfl) ?_
            obtain ⟨hi, hf⟩ := gI_e hf
            refine x_iald C hK hP 1 rfl hi dX5_tellApart_34 ?_
            refine lv_ixor hx hb dX5_tellApart_35 ?_
            refine lv_iload_n hx hb dX5_tellApart_36 rfl (lv_at hl 1 rfl) ?_
            refine lv_iand hx hb dX5_tellApart_37 ?_
            refine lv_if_ne (tgt := 43) hx hb dX5_tellApart_38 (by decide) (fun q => ?_) (fun q => ?_)
            · have hf := if_f q hf
              refine lv_iinc (v := (l3 + (1 : Int32))) (lv' := [(3, .int (l3 + (1 : Int32))), (0, .ref A_t), (1, .int a1), (2, .int l2)]) hx hb dX5_tellApart_43 hl (k := 3) rfl rfl (by decide) rfl (fun ls hl => ?_)
              refine lv_goto (tgt := 18) hx hb dX5_tellApart_46 (by decide) ?_
              exact ih_18 l2 (l3 + (1 : Int32)) _ _ ls (lv_sub hl [1, 2, 3, 0] rfl) hP hD hS hf
            · have hf := if_t q hf
              refine lv_iconst (v := 0) hx hb dX5_tellApart_41 (by decide) ?_
              obtain rfl := ev1 hf
              exact x_zret C hr hlk (Or.inl rfl) hP hD hS dX5_tellApart_42
      intro l2 H locs ls hl hP hD hS hf
      rw [f_X5_tellApart_b2] at hf
      refine lv_iload_n hx hb dX5_tellApart_2 rfl (lv_at hl 2 rfl) ?_
      refine lv_aload_n hx hb dX5_tellApart_3 rfl (lv_at hl 0 rfl) ?_
      refine x_get C hK hP fd_X5_19 0 rfl rfl dX5_tellApart_4 ?_
      refine lv_icmp_ge (tgt := 55) hx hb dX5_tellApart_7 (by decide) (fun q => ?_) (fun q => ?_)
      · have hf := if_t q hf
        exact hb_55 _ _ ls (lv_sub hl [] rfl) hP hD hS hf
      · have hf := if_f q hf
        refine lv_iload_n hx hb dX5_tellApart_10 rfl (lv_at hl 2 rfl) ?_
        refine lv_bipush (v := 8) hx hb dX5_tellApart_11 (by decide) ?_
        refine lv_icmp_ge (tgt := 55) hx hb dX5_tellApart_13 (by decide) (fun q => ?_) (fun q => ?_)
        · have hf := if_t q hf
          exact hb_55 _ _ ls (lv_sub hl [] rfl) hP hD hS hf
        · have hf := if_f q hf
          refine lv_iconst (v := 0) hx hb dX5_tellApart_16 (by decide) ?_
          refine lv_istore_n (lv' := [(3, .int (0 : Int32)), (0, .ref A_t), (1, .int a1), (2, .int l2)]) hx hb dX5_tellApart_17 rfl hl (by decide) rfl (fun ls hl => ?_)
          exact hb_18 FU l2 (0 : Int32) _ _ ls (lv_sub hl [1, 2, 3, 0] rfl) hP hD hS hf
  refine lv_iconst (v := 0) hx hb dX5_tellApart_0 (by decide) ?_
  refine lv_istore_n (lv' := [(2, .int (0 : Int32)), (0, .ref A_t), (1, .int a1)]) hx hb dX5_tellApart_1 rfl hl (by decide) rfl (fun ls hl => ?_)
  exact hb_2 FU (0 : Int32) _ _ ls (lv_sub hl [1, 2, 0] rfl) hP hD hS hf
def f_X5_firstGuards_b69 : Option (Int32) :=
  some (-2 : Int32)
def f_X5_firstGuards_b8 (v_t_borne : (Nat → Int32)) (x_t_bottles : Int32) : Nat → Int32 → Int32 → Option (Int32)
  | 0, _, _ => none
  | n + 1, l2, l3 =>
    if (65535 : Int32) < l3 then
      f_X5_firstGuards_b69
    else
      if (65535 : Int32) < l2 then
        f_X5_firstGuards_b69
      else
        bd1 (f_X5_tellApart v_t_borne x_t_bottles l2) (fun r1 =>
        if r1 = 0 then
          if (l2 &&& (-l2)) = 0 then
            some (-2 : Int32)
          else
            dI ((l2 + (l2 &&& (-l2))) ^^^ l2) (l2 &&& (-l2)) (fun g2 =>
            f_X5_firstGuards_b8 v_t_borne x_t_bottles n ((g2 >>> ((2 : Int32) &&& 31)) ||| (l2 + (l2 &&& (-l2)))) (l3 + (1 : Int32)))
        else
          some l2)
def f_X5_firstGuards (v_t_borne : (Nat → Int32)) (x_t_bottles : Int32) (a1 : Int32) : Option (Int32) :=
  f_X5_firstGuards_b8 v_t_borne x_t_bottles FU (((1 : Int32) <<< (a1 &&& 31)) - (1 : Int32)) (0 : Int32)
set_option maxHeartbeats 4000000 in
set_option maxRecDepth 100000 in
theorem c_X5_firstGuards {l : Launch} {D : va_G} {cI cB : ClassId} {A_t A_t_tape A_t_borne : Nat} {x_t_bottles a1 : Int32} {v_t_borne : Nat → Int32} {o_r : Int32} (hf : f_X5_firstGuards v_t_borne x_t_bottles a1 = some o_r) : CtI l D cI cB yX5_firstGuards cX5_firstGuards 6 (some .int) 1 23 [.ref A_t, .int a1] [oX5 A_t A_t_tape A_t_borne x_t_bottles, iA cI 8 A_t_borne v_t_borne] [oX5 A_t A_t_tape A_t_borne x_t_bottles, iA cI 8 A_t_borne v_t_borne] o_r := by
  refine x_startI (by decide) (Nat.le_of_ble_eq_true rfl) ?_
  intro p e s m below meth c A C hr hlk hA hK hP hD hS ls hl
  have hl : lv_has ls 6 [(0, .ref A_t), (1, .int a1)] := hl
  have hx := C.1
  have hb := C.2.1
  unfold f_X5_firstGuards at hf
  have hb_69 : ∀ (H : Heap) (locs : List Loc) (ls : Array Slot), lv_has ls 6 [] → va_P D vwCl [oX5 A_t A_t_tape A_t_borne x_t_bottles, iA cI 8 A_t_borne v_t_borne] H → va_D A [oX5 A_t A_t_tape A_t_borne x_t_bottles, iA cI 8 A_t_borne v_t_borne] → va_S A s.heap H locs → f_X5_firstGuards_b69 = some o_r → W p l e { frames := 1, cells := 0, slots := 0, locals := 23 } s m ([.ref A_t, .int a1] : List Value).toArray below meth c H locs 0 0 (MQ below (PoI D A [oX5 A_t A_t_tape A_t_borne x_t_bottles, iA cI 8 A_t_borne v_t_borne] o_r) ([.ref A_t, .int a1] : List Value).toArray s 0 0 A) (F0 m 69 ls []) := by
    intro H locs ls hl hP hD hS hf
    unfold f_X5_firstGuards_b69 at hf
    refine lv_bipush (v := -2) hx hb dX5_firstGuards_69 (by decide) ?_
    obtain rfl := ev1 hf
    exact x_iret C hr hlk hP hD hS dX5_firstGuards_71
  have hb_8 : ∀ (n_8 : Nat) (l2 : Int32) (l3 : Int32) (H : Heap) (locs : List Loc) (ls : Array Slot), lv_has ls 6 [(0, .ref A_t), (2, .int l2), (3, .int l3)] → va_P D vwCl [oX5 A_t A_t_tape A_t_borne x_t_bottles, iA cI 8 A_t_borne v_t_borne] H → va_D A [oX5 A_t A_t_tape A_t_borne x_t_bottles, iA cI 8 A_t_borne v_t_borne] → va_S A s.heap H locs → f_X5_firstGuards_b8 v_t_borne x_t_bottles n_8 l2 l3 = some o_r → W p l e { frames := 1, cells := 0, slots := 0, locals := 23 } s m ([.ref A_t, .int a1] : List Value).toArray below meth c H locs 0 0 (MQ below (PoI D A [oX5 A_t A_t_tape A_t_borne x_t_bottles, iA cI 8 A_t_borne v_t_borne] o_r) ([.ref A_t, .int a1] : List Value).toArray s 0 0 A) (F0 m 8 ls []) := by
    intro n_8
    induction n_8 with
    | zero =>
      intro l2 l3 H locs ls hl hP hD hS hf
      exact absurd hf (fun h => by rw [f_X5_firstGuards_b8] at h; cases h)
    | succ n_8 ih_8 =>
      intro l2 l3 H locs ls hl hP hD hS hf
      rw [f_X5_firstGuards_b8] at hf
      refine lv_iload_n hx hb dX5_firstGuards_8 rfl (lv_at hl 2 rfl) ?_
      refine x_ldc C kc_X5_33 dX5_firstGuards_9 ?_
      refine lv_icmp_gt (tgt := 69) hx hb dX5_firstGuards_11 (by decide) (fun q => ?_) (fun q => ?_)
      · have hf := if_t q hf
        exact hb_69 _ _ ls (lv_sub hl [] rfl) hP hD hS hf
      · have hf := if_f q hf
        refine lv_iload_n hx hb dX5_firstGuards_14 rfl (lv_at hl 1 rfl) ?_
        refine x_ldc C kc_X5_33 dX5_firstGuards_15 ?_
        refine lv_icmp_gt (tgt := 69) hx hb dX5_firstGuards_17 (by decide) (fun q => ?_) (fun q => ?_)
        · have hf := if_t q hf
          exact hb_69 _ _ ls (lv_sub hl [] rfl) hP hD hS hf
        · have hf := if_f q hf
          refine lv_aload_n hx hb dX5_firstGuards_20 rfl (lv_at hl 0 rfl) ?_
          refine lv_iload_n hx hb dX5_firstGuards_21 rfl (lv_at hl 1 rfl) ?_
          obtain ⟨r1, hc2, hf⟩ := bd1_e hf
          refine x_callVI (ws' := [oX5 A_t A_t_tape A_t_borne x_t_bottles, iA cI 8 A_t_borne v_t_borne]) (rest := []) C hK hP hD hS hA hl mf_X5_34 (c_X5_tellApart hc2) [0, 1] 0 5 rfl rfl rfl rfl rfl rfl rfl rfl rfl rfl (Nat.le_of_ble_eq_true rfl) ⟨Nat.le_of_ble_eq_true rfl, Nat.le_of_ble_eq_true rfl⟩ ⟨Nat.le_refl _, Nat.le_refl _⟩ dX5_firstGuards_22 ?_
          intro H locs hP hD hS
          refine lv_if_eq (tgt := 30) hx hb dX5_firstGuards_25 (by decide) (fun q => ?_) (fun q => ?_)
          · have hf := if_t q hf
            refine lv_iload_n hx hb dX5_firstGuards_30 rfl (lv_at hl 1 rfl) ?_
            refine lv_iload_n hx hb dX5_firstGuards_31 rfl (lv_at hl 1 rfl) ?_
            refine lv_ineg hx hb dX5_firstGuards_32 ?_
            refine lv_iand hx hb dX5_firstGuards_33 ?_
            refine lv_istore (lv' := [(4, .int (l2 &&& (-l2))), (0, .ref A_t), (2, .int l2), (3, .int l3)]) hx hb dX5_firstGuards_34 hl (by decide) rfl (fun ls hl => ?_)
            refine lv_iload hx hb dX5_firstGuards_36 (lv_at hl 0 rfl) ?_
            refine lv_if_ne (tgt := 44) hx hb dX5_firstGuards_38 (by decide) (fun q => ?_) (fun q => ?_)
            · have hf := if_f q hf
              refine lv_iload_n hx hb dX5_firstGuards_44 rfl (lv_at hl 2 rfl) ?_
              refine lv_iload hx hb dX5_firstGuards_45 (lv_at hl 0 rfl) ?_
              refine lv_iadd hx hb dX5_firstGuards_47 ?_
              refine lv_istore (lv' := [(5, .int (l2 + (l2 &&& (-l2)))), (4, .int (l2 &&& (-l2))), (0, .ref A_t), (2, .int l2), (3, .int l3)]) hx hb dX5_firstGuards_48 hl (by decide) rfl (fun ls hl => ?_)
              refine lv_iload hx hb dX5_firstGuards_50 (lv_at hl 0 rfl) ?_
              refine lv_iload_n hx hb dX5_firstGuards_52 rfl (lv_at hl 3 rfl) ?_
              refine lv_ixor hx hb dX5_firstGuards_53 ?_
              refine lv_iload hx hb dX5_firstGuards_54 (lv_at hl 1 rfl) ?_
              obtain ⟨hz, hf⟩ := dI_e hf
              refine lv_idiv hx hb dX5_firstGuards_56 hz ?_
              refine lv_iconst (v := 2) hx hb dX5_firstGuards_57 (by decide) ?_
              refine lv_ishr hx hb dX5_firstGuards_58 ?_
              refine lv_iload hx hb dX5_firstGuards_59 (lv_at hl 0 rfl) ?_
              refine lv_ior hx hb dX5_firstGuards_61 ?_
              refine lv_istore_n (lv' := [(2, .int (((((l2 + (l2 &&& (-l2))) ^^^ l2) / (l2 &&& (-l2))) >>> ((2 : Int32) &&& 31)) ||| (l2 + (l2 &&& (-l2))))), (5, .int (l2 + (l2 &&& (-l2)))), (4, .int (l2 &&& (-l2))), (0, .ref A_t), (3, .int l3)]) hx hb dX5_firstGuards_62 rfl hl (by decide) rfl (fun ls hl => ?_)
              refine lv_iinc (v := (l3 + (1 : Int32))) (lv' := [(3, .int (l3 + (1 : Int32))), (2, .int (((((l2 + (l2 &&& (-l2))) ^^^ l2) / (l2 &&& (-l2))) >>> ((2 : Int32) &&& 31)) ||| (l2 + (l2 &&& (-l2))))), (5, .int (l2 + (l2 &&& (-l2)))), (4, .int (l2 &&& (-l2))), (0, .ref A_t)]) hx hb dX5_firstGuards_63 hl (k := 4) rfl rfl (by decide) rfl (fun ls hl => ?_)
              refine lv_goto (tgt := 8) hx hb dX5_firstGuards_66 (by decide) ?_
              exact ih_8 (((((l2 + (l2 &&& (-l2))) ^^^ l2) / (l2 &&& (-l2))) >>> ((2 : Int32) &&& 31)) ||| (l2 + (l2 &&& (-l2)))) (l3 + (1 : Int32)) _ _ ls (lv_sub hl [4, 1, 0] rfl) hP hD hS hf
            · have hf := if_t q hf
              refine lv_bipush (v := -2) hx hb dX5_firstGuards_41 (by decide) ?_
              obtain rfl := ev1 hf
              exact x_iret C hr hlk hP hD hS dX5_firstGuards_43
          · have hf := if_f q hf
            refine lv_iload_n hx hb dX5_firstGuards_28 rfl (lv_at hl 1 rfl) ?_
            obtain rfl := ev1 hf
            exact x_iret C hr hlk hP hD hS dX5_firstGuards_29
  refine lv_iconst (v := 1) hx hb dX5_firstGuards_0 (by decide) ?_
  refine lv_iload_n hx hb dX5_firstGuards_1 rfl (lv_at hl 1 rfl) ?_
  refine lv_ishl hx hb dX5_firstGuards_2 ?_
  refine lv_iconst (v := 1) hx hb dX5_firstGuards_3 (by decide) ?_
  refine lv_isub hx hb dX5_firstGuards_4 ?_
  refine lv_istore_n (lv' := [(2, .int (((1 : Int32) <<< (a1 &&& 31)) - (1 : Int32))), (0, .ref A_t), (1, .int a1)]) hx hb dX5_firstGuards_5 rfl hl (by decide) rfl (fun ls hl => ?_)
  refine lv_iconst (v := 0) hx hb dX5_firstGuards_6 (by decide) ?_
  refine lv_istore_n (lv' := [(3, .int (0 : Int32)), (2, .int (((1 : Int32) <<< (a1 &&& 31)) - (1 : Int32))), (0, .ref A_t), (1, .int a1)]) hx hb dX5_firstGuards_7 rfl hl (by decide) rfl (fun ls hl => ?_)
  exact hb_8 FU (((1 : Int32) <<< (a1 &&& 31)) - (1 : Int32)) (0 : Int32) _ _ ls (lv_sub hl [2, 1, 0] rfl) hP hD hS hf
def f_X5_fewestGuards_b48 (k7 : (Nat → Int32) → Int32 → Int32 → Option (Int32 × (Nat → Int32) × Int32)) (v_t_borne : (Nat → Int32)) (x_t_bottles : Int32) (l2 : Int32) : Option (Int32 × (Nat → Int32) × Int32) :=
  k7 v_t_borne x_t_bottles (l2 + (1 : Int32))
def f_X5_fewestGuards_b68 : Nat → (Nat → Int32) → Int32 → Int32 → Option (Int32 × (Nat → Int32) × Int32)
  | 0, _, _, _ => none
  | n + 1, v_t_borne, x_t_bottles, l2 =>
    if (8 : Int32) ≤ l2 then
      some ((-2 : Int32), v_t_borne, x_t_bottles)
    else
      bd1 (f_X5_firstGuards v_t_borne x_t_bottles l2) (fun r1 =>
      if r1 = (-2 : Int32) then
        f_X5_fewestGuards_b68 n v_t_borne x_t_bottles (l2 + (1 : Int32))
      else
        some (r1, v_t_borne, x_t_bottles))
def f_X5_fewestGuards_b7 (v_o1_dread : (Nat → Int32)) (v_o1_kind : (Nat → Int32)) (v_o1_rhymes_other : (Nat → Int32)) (v_o1_salt : (Nat → Int32)) (x_o1_nerve : Int32) (x_o1_told : Int32) : Nat → (Nat → Int32) → Int32 → Int32 → Option (Int32 × (Nat → Int32) × Int32)
  | 0, _, _, _ => none
  | n + 1, v_t_borne, x_t_bottles, l2 =>
    if (8 : Int32) ≤ l2 then
      bd1 (f_X5_tellApart v_t_borne x_t_bottles (65535 : Int32)) (fun r1 =>
      if r1 = 0 then
        some ((-2 : Int32), v_t_borne, x_t_bottles)
      else
        f_X5_fewestGuards_b68 FU v_t_borne x_t_bottles (0 : Int32))
    else
      bd1 (f_X8_isTold x_o1_told l2) (fun r2 =>
      if r2 = 0 then
        f_X5_fewestGuards_b48 (f_X5_fewestGuards_b7 v_o1_dread v_o1_kind v_o1_rhymes_other v_o1_salt x_o1_nerve x_o1_told n) v_t_borne x_t_bottles l2
      else
        bd1 (f_X8_wordsBorneBy v_o1_dread v_o1_kind v_o1_rhymes_other v_o1_salt x_o1_nerve l2) (fun r3 =>
        sI 8 v_t_borne (x_t_bottles &&& (7 : Int32)) r3 (fun w4 =>
        f_X5_fewestGuards_b48 (f_X5_fewestGuards_b7 v_o1_dread v_o1_kind v_o1_rhymes_other v_o1_salt x_o1_nerve x_o1_told n) w4 (x_t_bottles + (1 : Int32)) l2)))
def f_X5_fewestGuards (v_o1_dread : (Nat → Int32)) (v_o1_kind : (Nat → Int32)) (v_o1_rhymes_other : (Nat → Int32)) (v_o1_salt : (Nat → Int32)) (v_t_borne : (Nat → Int32)) (x_o1_nerve : Int32) (x_o1_told : Int32) (x_t_bottles : Int32) : Option (Int32 × (Nat → Int32) × Int32) :=
  f_X5_fewestGuards_b7 v_o1_dread v_o1_kind v_o1_rhymes_other v_o1_salt x_o1_nerve x_o1_told FU v_t_borne (0 : Int32) (0 : Int32)
set_option maxHeartbeats 4000000 in
set_option maxRecDepth 100000 in
theorem c_X5_fewestGuards {l : Launch} {D : va_G} {cI cB : ClassId} {A_o1 A_o1_rhymes A_o1_kind A_o1_salt A_o1_ink A_o1_dread A_o1_tries A_t A_t_tape A_t_borne A_o1_rhymes_other : Nat} {x_o1_told x_o1_nerve x_o1_pictures x_o1_written x_o1_day x_o1_x x_t_bottles : Int32} {v_o1_dread v_o1_kind v_o1_rhymes_other v_o1_salt v_t_borne : Nat → Int32} {o_r o_x_t_bottles : Int32} {o_v_t_borne : Nat → Int32} (hf : f_X5_fewestGuards v_o1_dread v_o1_kind v_o1_rhymes_other v_o1_salt v_t_borne x_o1_nerve x_o1_told x_t_bottles = some (o_r, o_v_t_borne, o_x_t_bottles)) : CtI l D cI cB yX5_fewestGuards cX5_fewestGuards 4 (some .int) 5 111 [.ref A_t, .ref A_o1] [oX8 A_o1 A_o1_rhymes A_o1_kind A_o1_salt A_o1_ink A_o1_dread A_o1_tries x_o1_told x_o1_nerve x_o1_pictures x_o1_written x_o1_day x_o1_x, oX5 A_t A_t_tape A_t_borne x_t_bottles, iA cI 128 A_o1_dread v_o1_dread, iA cI 8 A_o1_kind v_o1_kind, oX4 A_o1_rhymes A_o1_rhymes_other, iA cI 16 A_o1_rhymes_other v_o1_rhymes_other, iA cI 8 A_o1_salt v_o1_salt, iA cI 8 A_t_borne v_t_borne] [oX8 A_o1 A_o1_rhymes A_o1_kind A_o1_salt A_o1_ink A_o1_dread A_o1_tries x_o1_told x_o1_nerve x_o1_pictures x_o1_written x_o1_day x_o1_x, oX5 A_t A_t_tape A_t_borne o_x_t_bottles, iA cI 128 A_o1_dread v_o1_dread, iA cI 8 A_o1_kind v_o1_kind, oX4 A_o1_rhymes A_o1_rhymes_other, iA cI 16 A_o1_rhymes_other v_o1_rhymes_other, iA cI 8 A_o1_salt v_o1_salt, iA cI 8 A_t_borne o_v_t_borne] o_r := by
  refine x_startI (by decide) (Nat.le_of_ble_eq_true rfl) ?_
  intro p e s m below meth c A C hr hlk hA hK hP hD hS ls hl
  have hl : lv_has ls 4 [(0, .ref A_t), (1, .ref A_o1)] := hl
  have hx := C.1
  have hb := C.2.1
  unfold f_X5_fewestGuards at hf
  have hb_68 : ∀ (n_68 : Nat) (v_t_borne : (Nat → Int32)) (x_t_bottles : Int32) (l2 : Int32) (H : Heap) (locs : List Loc) (ls : Array Slot), lv_has ls 4 [(0, .ref A_t), (2, .int l2)] → va_P D vwCl [oX8 A_o1 A_o1_rhymes A_o1_kind A_o1_salt A_o1_ink A_o1_dread A_o1_tries x_o1_told x_o1_nerve x_o1_pictures x_o1_written x_o1_day x_o1_x, oX5 A_t A_t_tape A_t_borne x_t_bottles, iA cI 128 A_o1_dread v_o1_dread, iA cI 8 A_o1_kind v_o1_kind, oX4 A_o1_rhymes A_o1_rhymes_other, iA cI 16 A_o1_rhymes_other v_o1_rhymes_other, iA cI 8 A_o1_salt v_o1_salt, iA cI 8 A_t_borne v_t_borne] H → va_D A [oX8 A_o1 A_o1_rhymes A_o1_kind A_o1_salt A_o1_ink A_o1_dread A_o1_tries x_o1_told x_o1_nerve x_o1_pictures x_o1_written x_o1_day x_o1_x, oX5 A_t A_t_tape A_t_borne x_t_bottles, iA cI 128 A_o1_dread v_o1_dread, iA cI 8 A_o1_kind v_o1_kind, oX4 A_o1_rhymes A_o1_rhymes_other, iA cI 16 A_o1_rhymes_other v_o1_rhymes_other, iA cI 8 A_o1_salt v_o1_salt, iA cI 8 A_t_borne v_t_borne] → va_S A s.heap H locs → f_X5_fewestGuards_b68 n_68 v_t_borne x_t_bottles l2 = some (o_r, o_v_t_borne, o_x_t_bottles) → W p l e { frames := 5, cells := 0, slots := 0, locals := 111 } s m ([.ref A_t, .ref A_o1] : List Value).toArray below meth c H locs 0 0 (MQ below (PoI D A [oX8 A_o1 A_o1_rhymes A_o1_kind A_o1_salt A_o1_ink A_o1_dread A_o1_tries x_o1_told x_o1_nerve x_o1_pictures x_o1_written x_o1_day x_o1_x, oX5 A_t A_t_tape A_t_borne o_x_t_bottles, iA cI 128 A_o1_dread v_o1_dread, iA cI 8 A_o1_kind v_o1_kind, oX4 A_o1_rhymes A_o1_rhymes_other, iA cI 16 A_o1_rhymes_other v_o1_rhymes_other, iA cI 8 A_o1_salt v_o1_salt, iA cI 8 A_t_borne o_v_t_borne] o_r) ([.ref A_t, .ref A_o1] : List Value).toArray s 0 0 A) (F0 m 68 ls []) := by
    intro n_68
    induction n_68 with
    | zero =>
      intro v_t_borne x_t_bottles l2 H locs ls hl hP hD hS hf
      exact absurd hf (fun h => by rw [f_X5_fewestGuards_b68] at h; cases h)
    | succ n_68 ih_68 =>
      intro v_t_borne x_t_bottles l2 H locs ls hl hP hD hS hf
      rw [f_X5_fewestGuards_b68] at hf
      refine lv_iload_n hx hb dX5_fewestGuards_68 rfl (lv_at hl 1 rfl) ?_
      refine lv_bipush (v := 8) hx hb dX5_fewestGuards_69 (by decide) ?_
      refine lv_icmp_ge (tgt := 94) hx hb dX5_fewestGuards_71 (by decide) (fun q => ?_) (fun q => ?_)
      · have hf := if_t q hf
        refine lv_bipush (v := -2) hx hb dX5_fewestGuards_94 (by decide) ?_
        obtain ⟨rfl, rfl, rfl⟩ := ev3 hf
        exact x_iret C hr hlk hP hD hS dX5_fewestGuards_96
      · have hf := if_f q hf
        refine lv_aload_n hx hb dX5_fewestGuards_74 rfl (lv_at hl 0 rfl) ?_
        refine lv_iload_n hx hb dX5_fewestGuards_75 rfl (lv_at hl 1 rfl) ?_
        obtain ⟨r1, hc2, hf⟩ := bd1_e hf
        refine x_callVI (ws' := [oX8 A_o1 A_o1_rhymes A_o1_kind A_o1_salt A_o1_ink A_o1_dread A_o1_tries x_o1_told x_o1_nerve x_o1_pictures x_o1_written x_o1_day x_o1_x, oX5 A_t A_t_tape A_t_borne x_t_bottles, iA cI 128 A_o1_dread v_o1_dread, iA cI 8 A_o1_kind v_o1_kind, oX4 A_o1_rhymes A_o1_rhymes_other, iA cI 16 A_o1_rhymes_other v_o1_rhymes_other, iA cI 8 A_o1_salt v_o1_salt, iA cI 8 A_t_borne v_t_borne]) (rest := []) C hK hP hD hS hA hl mf_X5_37 (c_X5_firstGuards hc2) [1, 7] 0 5 rfl rfl rfl rfl rfl rfl rfl rfl rfl rfl (Nat.le_of_ble_eq_true rfl) ⟨Nat.le_of_ble_eq_true rfl, Nat.le_of_ble_eq_true rfl⟩ ⟨Nat.le_refl _, Nat.le_refl _⟩ dX5_fewestGuards_76 ?_
        intro H locs hP hD hS
        refine lv_istore_n (lv' := [(3, .int r1), (0, .ref A_t), (2, .int l2)]) hx hb dX5_fewestGuards_79 rfl hl (by decide) rfl (fun ls hl => ?_)
        refine lv_iload_n hx hb dX5_fewestGuards_80 rfl (lv_at hl 0 rfl) ?_
        refine lv_bipush (v := -2) hx hb dX5_fewestGuards_81 (by decide) ?_
        refine lv_icmp_eq (tgt := 88) hx hb dX5_fewestGuards_83 (by decide) (fun q => ?_) (fun q => ?_)
        · have hf := if_t q hf
          refine lv_iinc (v := (l2 + (1 : Int32))) (lv' := [(2, .int (l2 + (1 : Int32))), (3, .int r1), (0, .ref A_t)]) hx hb dX5_fewestGuards_88 hl (k := 2) rfl rfl (by decide) rfl (fun ls hl => ?_)
          refine lv_goto (tgt := 68) hx hb dX5_fewestGuards_91 (by decide) ?_
          exact ih_68 v_t_borne x_t_bottles (l2 + (1 : Int32)) _ _ ls (lv_sub hl [2, 0] rfl) hP hD hS hf
        · have hf := if_f q hf
          refine lv_iload_n hx hb dX5_fewestGuards_86 rfl (lv_at hl 0 rfl) ?_
          obtain ⟨rfl, rfl, rfl⟩ := ev3 hf
          exact x_iret C hr hlk hP hD hS dX5_fewestGuards_87
  have hb_7 : ∀ (n_7 : Nat) (v_t_borne : (Nat → Int32)) (x_t_bottles : Int32) (l2 : Int32) (H : Heap) (locs : List Loc) (ls : Array Slot), lv_has ls 4 [(0, .ref A_t), (1, .ref A_o1), (2, .int l2)] → va_P D vwCl [oX8 A_o1 A_o1_rhymes A_o1_kind A_o1_salt A_o1_ink A_o1_dread A_o1_tries x_o1_told x_o1_nerve x_o1_pictures x_o1_written x_o1_day x_o1_x, oX5 A_t A_t_tape A_t_borne x_t_bottles, iA cI 128 A_o1_dread v_o1_dread, iA cI 8 A_o1_kind v_o1_kind, oX4 A_o1_rhymes A_o1_rhymes_other, iA cI 16 A_o1_rhymes_other v_o1_rhymes_other, iA cI 8 A_o1_salt v_o1_salt, iA cI 8 A_t_borne v_t_borne] H → va_D A [oX8 A_o1 A_o1_rhymes A_o1_kind A_o1_salt A_o1_ink A_o1_dread A_o1_tries x_o1_told x_o1_nerve x_o1_pictures x_o1_written x_o1_day x_o1_x, oX5 A_t A_t_tape A_t_borne x_t_bottles, iA cI 128 A_o1_dread v_o1_dread, iA cI 8 A_o1_kind v_o1_kind, oX4 A_o1_rhymes A_o1_rhymes_other, iA cI 16 A_o1_rhymes_other v_o1_rhymes_other, iA cI 8 A_o1_salt v_o1_salt, iA cI 8 A_t_borne v_t_borne] → va_S A s.heap H locs → f_X5_fewestGuards_b7 v_o1_dread v_o1_kind v_o1_rhymes_other v_o1_salt x_o1_nerve x_o1_told n_7 v_t_borne x_t_bottles l2 = some (o_r, o_v_t_borne, o_x_t_bottles) → W p l e { frames := 5, cells := 0, slots := 0, locals := 111 } s m ([.ref A_t, .ref A_o1] : List Value).toArray below meth c H locs 0 0 (MQ below (PoI D A [oX8 A_o1 A_o1_rhymes A_o1_kind A_o1_salt A_o1_ink A_o1_dread A_o1_tries x_o1_told x_o1_nerve x_o1_pictures x_o1_written x_o1_day x_o1_x, oX5 A_t A_t_tape A_t_borne o_x_t_bottles, iA cI 128 A_o1_dread v_o1_dread, iA cI 8 A_o1_kind v_o1_kind, oX4 A_o1_rhymes A_o1_rhymes_other, iA cI 16 A_o1_rhymes_other v_o1_rhymes_other, iA cI 8 A_o1_salt v_o1_salt, iA cI 8 A_t_borne o_v_t_borne] o_r) ([.ref A_t, .ref A_o1] : List Value).toArray s 0 0 A) (F0 m 7 ls []) := by
    intro n_7
    induction n_7 with
    | zero =>
      intro v_t_borne x_t_bottles l2 H locs ls hl hP hD hS hf
      exact absurd hf (fun h => by rw [f_X5_fewestGuards_b7] at h; cases h)
    | succ n_7 ih_7 =>
      have hb_48 : ∀ (v_t_borne : (Nat → Int32)) (x_t_bottles : Int32) (l2 : Int32) (H : Heap) (locs : List Loc) (ls : Array Slot), lv_has ls 4 [(0, .ref A_t), (1, .ref A_o1), (2, .int l2)] → va_P D vwCl [oX8 A_o1 A_o1_rhymes A_o1_kind A_o1_salt A_o1_ink A_o1_dread A_o1_tries x_o1_told x_o1_nerve x_o1_pictures x_o1_written x_o1_day x_o1_x, oX5 A_t A_t_tape A_t_borne x_t_bottles, iA cI 128 A_o1_dread v_o1_dread, iA cI 8 A_o1_kind v_o1_kind, oX4 A_o1_rhymes A_o1_rhymes_other, iA cI 16 A_o1_rhymes_other v_o1_rhymes_other, iA cI 8 A_o1_salt v_o1_salt, iA cI 8 A_t_borne v_t_borne] H → va_D A [oX8 A_o1 A_o1_rhymes A_o1_kind A_o1_salt A_o1_ink A_o1_dread A_o1_tries x_o1_told x_o1_nerve x_o1_pictures x_o1_written x_o1_day x_o1_x, oX5 A_t A_t_tape A_t_borne x_t_bottles, iA cI 128 A_o1_dread v_o1_dread, iA cI 8 A_o1_kind v_o1_kind, oX4 A_o1_rhymes A_o1_rhymes_other, iA cI 16 A_o1_rhymes_other v_o1_rhymes_other, iA cI 8 A_o1_salt v_o1_salt, iA cI 8 A_t_borne v_t_borne] → va_S A s.heap H locs → f_X5_fewestGuards_b48 (f_X5_fewestGuards_b7 v_o1_dread v_o1_kind v_o1_rhymes_other v_o1_salt x_o1_nerve x_o1_told n_7) v_t_borne x_t_bottles l2 = some (o_r, o_v_t_borne, o_x_t_bottles) → W p l e { frames := 5, cells := 0, slots := 0, locals := 111 } s m ([.ref A_t, .ref A_o1] : List Value).toArray below meth c H locs 0 0 (MQ below (PoI D A [oX8 A_o1 A_o1_rhymes A_o1_kind A_o1_salt A_o1_ink A_o1_dread A_o1_tries x_o1_told x_o1_nerve x_o1_pictures x_o1_written x_o1_day x_o1_x, oX5 A_t A_t_tape A_t_borne o_x_t_bottles, iA cI 128 A_o1_dread v_o1_dread, iA cI 8 A_o1_kind v_o1_kind, oX4 A_o1_rhymes A_o1_rhymes_other, iA cI 16 A_o1_rhymes_other v_o1_rhymes_other, iA cI 8 A_o1_salt v_o1_salt, iA cI 8 A_t_borne o_v_t_borne] o_r) ([.ref A_t, .ref A_o1] : List Value).toArray s 0 0 A) (F0 m 48 ls []) := by
        intro v_t_borne x_t_bottles l2 H locs ls hl hP hD hS hf
        unfold f_X5_fewestGuards_b48 at hf
        refine lv_iinc (v := (l2 + (1 : Int32))) (lv' := [(2, .int (l2 + (1 : Int32))), (0, .ref A_t), (1, .ref A_o1)]) hx hb dX5_fewestGuards_48 hl (k := 2) rfl rfl (by decide) rfl (fun ls hl => ?_)
        refine lv_goto (tgt := 7) hx hb dX5_fewestGuards_51 (by decide) ?_
        exact ih_7 v_t_borne x_t_bottles (l2 + (1 : Int32)) _ _ ls (lv_sub hl [1, 2, 0] rfl) hP hD hS hf
      intro v_t_borne x_t_bottles l2 H locs ls hl hP hD hS hf
      rw [f_X5_fewestGuards_b7] at hf
      refine lv_iload_n hx hb dX5_fewestGuards_7 rfl (lv_at hl 2 rfl) ?_
      refine lv_bipush (v := 8) hx hb dX5_fewestGuards_8 (by decide) ?_
      refine lv_icmp_ge (tgt := 54) hx hb dX5_fewestGuards_10 (by decide) (fun q => ?_) (fun q => ?_)
      · have hf := if_t q hf
        refine lv_aload_n hx hb dX5_fewestGuards_54 rfl (lv_at hl 0 rfl) ?_
        refine x_ldc C kc_X5_33 dX5_fewestGuards_55 ?_
        obtain ⟨r3, hc4, hf⟩ := bd1_e hf
        refine x_callVI (ws' := [oX8 A_o1 A_o1_rhymes A_o1_kind A_o1_salt A_o1_ink A_o1_dread A_o1_tries x_o1_told x_o1_nerve x_o1_pictures x_o1_written x_o1_day x_o1_x, oX5 A_t A_t_tape A_t_borne x_t_bottles, iA cI 128 A_o1_dread v_o1_dread, iA cI 8 A_o1_kind v_o1_kind, oX4 A_o1_rhymes A_o1_rhymes_other, iA cI 16 A_o1_rhymes_other v_o1_rhymes_other, iA cI 8 A_o1_salt v_o1_salt, iA cI 8 A_t_borne v_t_borne]) (rest := []) C hK hP hD hS hA hl mf_X5_34 (c_X5_tellApart hc4) [1, 7] 0 5 rfl rfl rfl rfl rfl rfl rfl rfl rfl rfl (Nat.le_of_ble_eq_true rfl) ⟨Nat.le_of_ble_eq_true rfl, Nat.le_of_ble_eq_true rfl⟩ ⟨Nat.le_refl _, Nat.le_refl _⟩ dX5_fewestGuards_57 ?_
        intro H locs hP hD hS
        refine lv_if_ne (tgt := 66) hx hb dX5_fewestGuards_60 (by decide) (fun q => ?_) (fun q => ?_)
        · have hf := if_f q hf
          refine lv_iconst (v := 0) hx hb dX5_fewestGuards_66 (by decide) ?_
          refine lv_istore_n (lv' := [(2, .int (0 : Int32)), (0, .ref A_t), (1, .ref A_o1)]) hx hb dX5_fewestGuards_67 rfl hl (by decide) rfl (fun ls hl => ?_)
          exact hb_68 FU v_t_borne x_t_bottles (0 : Int32) _ _ ls (lv_sub hl [1, 0] rfl) hP hD hS hf
        · have hf := if_t q hf
          refine lv_bipush (v := -2) hx hb dX5_fewestGuards_63 (by decide) ?_
          obtain ⟨rfl, rfl, rfl⟩ := ev3 hf
          exact x_iret C hr hlk hP hD hS dX5_fewestGuards_65
      · have hf := if_f q hf
        refine lv_aload_n hx hb dX5_fewestGuards_13 rfl (lv_at hl 1 rfl) ?_
        refine lv_iload_n hx hb dX5_fewestGuards_14 rfl (lv_at hl 2 rfl) ?_
        obtain ⟨r5, hc6, hf⟩ := bd1_e hf
        refine x_callVI (ws' := [oX8 A_o1 A_o1_rhymes A_o1_kind A_o1_salt A_o1_ink A_o1_dread A_o1_tries x_o1_told x_o1_nerve x_o1_pictures x_o1_written x_o1_day x_o1_x, oX5 A_t A_t_tape A_t_borne x_t_bottles, iA cI 128 A_o1_dread v_o1_dread, iA cI 8 A_o1_kind v_o1_kind, oX4 A_o1_rhymes A_o1_rhymes_other, iA cI 16 A_o1_rhymes_other v_o1_rhymes_other, iA cI 8 A_o1_salt v_o1_salt, iA cI 8 A_t_borne v_t_borne]) (rest := []) C hK hP hD hS hA hl mf_X5_23 (c_X8_isTold hc6) [0] 0 8 rfl rfl rfl rfl rfl rfl rfl rfl rfl rfl (Nat.le_of_ble_eq_true rfl) ⟨Nat.le_of_ble_eq_true rfl, Nat.le_of_ble_eq_true rfl⟩ ⟨Nat.le_refl _, Nat.le_refl _⟩ dX5_fewestGuards_15 ?_
        intro H locs hP hD hS
        refine lv_if_eq (tgt := 48) hx hb dX5_fewestGuards_18 (by decide) (fun q => ?_) (fun q => ?_)
        · have hf := if_t q hf
          exact hb_48 v_t_borne x_t_bottles l2 _ _ ls (lv_sub hl [0, 1, 2] rfl) hP hD hS hf
        · have hf := if_f q hf
          refine lv_aload_n hx hb dX5_fewestGuards_21 rfl (lv_at hl 0 rfl) ?_
          refine x_get C hK hP fd_X5_9 1 rfl rfl dX5_fewestGuards_22 ?_
          refine lv_aload_n hx hb dX5_fewestGuards_25 rfl (lv_at hl 0 rfl) ?_
          refine x_get C hK hP fd_X5_19 1 rfl rfl dX5_fewestGuards_26 ?_
          refine lv_bipush (v := 7) hx hb dX5_fewestGuards_29 (by decide) ?_
          refine lv_iand hx hb dX5_fewestGuards_31 ?_
          refine lv_aload_n hx hb dX5_fewestGuards_32 rfl (lv_at hl 1 rfl) ?_
          refine lv_iload_n hx hb dX5_fewestGuards_33 rfl (lv_at hl 2 rfl) ?_
          obtain ⟨r7, hc8, hf⟩ := bd1_e hf
          refine x_callVI (ws' := [oX8 A_o1 A_o1_rhymes A_o1_kind A_o1_salt A_o1_ink A_o1_dread A_o1_tries x_o1_told x_o1_nerve x_o1_pictures x_o1_written x_o1_day x_o1_x, oX5 A_t A_t_tape A_t_borne x_t_bottles, iA cI 128 A_o1_dread v_o1_dread, iA cI 8 A_o1_kind v_o1_kind, oX4 A_o1_rhymes A_o1_rhymes_other, iA cI 16 A_o1_rhymes_other v_o1_rhymes_other, iA cI 8 A_o1_salt v_o1_salt, iA cI 8 A_t_borne v_t_borne]) (rest := [.int (x_t_bottles &&& (7 : Int32)), .ref A_t_borne]) C hK hP hD hS hA hl mf_X5_29 (c_X8_wordsBorneBy hc8) [0, 2, 3, 4, 5, 6] 0 8 rfl rfl rfl rfl rfl rfl rfl rfl rfl rfl (Nat.le_of_ble_eq_true rfl) ⟨Nat.le_of_ble_eq_true rfl, Nat.le_of_ble_eq_true rfl⟩ ⟨Nat.le_refl _, Nat.le_refl _⟩ dX5_fewestGuards_34 ?_
          intro H locs hP hD hS
          obtain ⟨hi, hf⟩ := sI_e hf
          refine x_iast (ws' := [oX8 A_o1 A_o1_rhymes A_o1_kind A_o1_salt A_o1_ink A_o1_dread A_o1_tries x_o1_told x_o1_nerve x_o1_pictures x_o1_written x_o1_day x_o1_x, oX5 A_t A_t_tape A_t_borne x_t_bottles, iA cI 128 A_o1_dread v_o1_dread, iA cI 8 A_o1_kind v_o1_kind, oX4 A_o1_rhymes A_o1_rhymes_other, iA cI 16 A_o1_rhymes_other v_o1_rhymes_other, iA cI 8 A_o1_salt v_o1_salt, iA cI 8 A_t_borne (upd v_t_borne (x_t_bottles &&& (7 : Int32)).toNatClampNeg r7)]) C hK hP hD hS 7 rfl hi rfl dX5_fewestGuards_37 ?_
          intro H locs hP hD hS
          refine lv_aload_n hx hb dX5_fewestGuards_38 rfl (lv_at hl 0 rfl) ?_
          refine lv_dup hx hb dX5_fewestGuards_39 rfl ?_
          refine x_get C hK hP fd_X5_19 1 rfl rfl dX5_fewestGuards_40 ?_
          refine lv_iconst (v := 1) hx hb dX5_fewestGuards_43 (by decide) ?_
          refine lv_iadd hx hb dX5_fewestGuards_44 ?_
          refine x_put (ws' := [oX8 A_o1 A_o1_rhymes A_o1_kind A_o1_salt A_o1_ink A_o1_dread A_o1_tries x_o1_told x_o1_nerve x_o1_pictures x_o1_written x_o1_day x_o1_x, oX5 A_t A_t_tape A_t_borne (x_t_bottles + (1 : Int32)), iA cI 128 A_o1_dread v_o1_dread, iA cI 8 A_o1_kind v_o1_kind, oX4 A_o1_rhymes A_o1_rhymes_other, iA cI 16 A_o1_rhymes_other v_o1_rhymes_other, iA cI 8 A_o1_salt v_o1_salt, iA cI 8 A_t_borne (upd v_t_borne (x_t_bottles &&& (7 : Int32)).toNatClampNeg r7)]) C hK hP hD hS fp_X5_19 1 rfl rfl rfl (Nat.le_of_ble_eq_true rfl) rfl dX5_fewestGuards_45 ?_
          intro H locs hP hD hS
          exact hb_48 (upd v_t_borne (x_t_bottles &&& (7 : Int32)).toNatClampNeg r7) (x_t_bottles + (1 : Int32)) l2 _ _ ls (lv_sub hl [0, 1, 2] rfl) hP hD hS hf
  refine lv_aload_n hx hb dX5_fewestGuards_0 rfl (lv_at hl 0 rfl) ?_
  refine lv_iconst (v := 0) hx hb dX5_fewestGuards_1 (by decide) ?_
  refine x_put (ws' := [oX8 A_o1 A_o1_rhymes A_o1_kind A_o1_salt A_o1_ink A_o1_dread A_o1_tries x_o1_told x_o1_nerve x_o1_pictures x_o1_written x_o1_day x_o1_x, oX5 A_t A_t_tape A_t_borne (0 : Int32), iA cI 128 A_o1_dread v_o1_dread, iA cI 8 A_o1_kind v_o1_kind, oX4 A_o1_rhymes A_o1_rhymes_other, iA cI 16 A_o1_rhymes_other v_o1_rhymes_other, iA cI 8 A_o1_salt v_o1_salt, iA cI 8 A_t_borne v_t_borne]) C hK hP hD hS fp_X5_19 1 rfl rfl rfl (Nat.le_of_ble_eq_true rfl) rfl dX5_fewestGuards_2 ?_
  intro H locs hP hD hS
  refine lv_iconst (v := 0) hx hb dX5_fewestGuards_5 (by decide) ?_
  refine lv_istore_n (lv' := [(2, .int (0 : Int32)), (0, .ref A_t), (1, .ref A_o1)]) hx hb dX5_fewestGuards_6 rfl hl (by decide) rfl (fun ls hl => ?_)
  exact hb_7 FU v_t_borne (0 : Int32) (0 : Int32) _ _ ls (lv_sub hl [1, 2, 0] rfl) hP hD hS hf
def f_X5_forOne (v_t_tape_bytes : (Nat → Int32)) (x_t_tape_size : Int32) (a1 : Int32) : Option (Int32) :=
  bd1 (f_X9_at v_t_tape_bytes x_t_tape_size ((2 : Int32) * a1)) (fun r1 =>
  some r1)
set_option maxHeartbeats 4000000 in
set_option maxRecDepth 100000 in
theorem c_X5_forOne {l : Launch} {D : va_G} {cI cB : ClassId} {A_t A_t_tape A_t_borne A_t_tape_bytes : Nat} {x_t_bottles x_t_tape_size x_t_tape_end x_t_tape_place x_t_tape_fault a1 : Int32} {v_t_tape_bytes : Nat → Int32} {o_r : Int32} (hf : f_X5_forOne v_t_tape_bytes x_t_tape_size a1 = some o_r) : CtI l D cI cB yX5_forOne cX5_forOne 2 (some .int) 1 21 [.ref A_t, .int a1] [oX5 A_t A_t_tape A_t_borne x_t_bottles, oX9 A_t_tape A_t_tape_bytes x_t_tape_size x_t_tape_end x_t_tape_place x_t_tape_fault, iA cI 260 A_t_tape_bytes v_t_tape_bytes] [oX5 A_t A_t_tape A_t_borne x_t_bottles, oX9 A_t_tape A_t_tape_bytes x_t_tape_size x_t_tape_end x_t_tape_place x_t_tape_fault, iA cI 260 A_t_tape_bytes v_t_tape_bytes] o_r := by
  refine x_startI (by decide) (Nat.le_of_ble_eq_true rfl) ?_
  intro p e s m below meth c A C hr hlk hA hK hP hD hS ls hl
  have hl : lv_has ls 2 [(0, .ref A_t), (1, .int a1)] := hl
  have hx := C.1
  have hb := C.2.1
  unfold f_X5_forOne at hf
  refine lv_aload_n hx hb dX5_forOne_0 rfl (lv_at hl 0 rfl) ?_
  refine x_get C hK hP fd_X5_15 0 rfl rfl dX5_forOne_1 ?_
  refine lv_iconst (v := 2) hx hb dX5_forOne_4 (by decide) ?_
  refine lv_iload_n hx hb dX5_forOne_5 rfl (lv_at hl 1 rfl) ?_
  refine lv_imul hx hb dX5_forOne_6 ?_
  obtain ⟨r1, hc2, hf⟩ := bd1_e hf
  refine x_callVI (ws' := [oX5 A_t A_t_tape A_t_borne x_t_bottles, oX9 A_t_tape A_t_tape_bytes x_t_tape_size x_t_tape_end x_t_tape_place x_t_tape_fault, iA cI 260 A_t_tape_bytes v_t_tape_bytes]) (rest := []) C hK hP hD hS hA hl mf_X5_54 (c_X9_at hc2) [1, 2] 0 9 rfl rfl rfl rfl rfl rfl rfl rfl rfl rfl (Nat.le_of_ble_eq_true rfl) ⟨Nat.le_of_ble_eq_true rfl, Nat.le_of_ble_eq_true rfl⟩ ⟨Nat.le_refl _, Nat.le_refl _⟩ dX5_forOne_7 ?_
  intro H locs hP hD hS
  obtain rfl := ev1 hf
  exact x_iret C hr hlk hP hD hS dX5_forOne_10
def f_X5_forOther (v_t_tape_bytes : (Nat → Int32)) (x_t_tape_size : Int32) (a1 : Int32) : Option (Int32) :=
  bd1 (f_X9_at v_t_tape_bytes x_t_tape_size (((2 : Int32) * a1) + (1 : Int32))) (fun r1 =>
  some r1)
set_option maxHeartbeats 4000000 in
set_option maxRecDepth 100000 in
theorem c_X5_forOther {l : Launch} {D : va_G} {cI cB : ClassId} {A_t A_t_tape A_t_borne A_t_tape_bytes : Nat} {x_t_bottles x_t_tape_size x_t_tape_end x_t_tape_place x_t_tape_fault a1 : Int32} {v_t_tape_bytes : Nat → Int32} {o_r : Int32} (hf : f_X5_forOther v_t_tape_bytes x_t_tape_size a1 = some o_r) : CtI l D cI cB yX5_forOther cX5_forOther 2 (some .int) 1 21 [.ref A_t, .int a1] [oX5 A_t A_t_tape A_t_borne x_t_bottles, oX9 A_t_tape A_t_tape_bytes x_t_tape_size x_t_tape_end x_t_tape_place x_t_tape_fault, iA cI 260 A_t_tape_bytes v_t_tape_bytes] [oX5 A_t A_t_tape A_t_borne x_t_bottles, oX9 A_t_tape A_t_tape_bytes x_t_tape_size x_t_tape_end x_t_tape_place x_t_tape_fault, iA cI 260 A_t_tape_bytes v_t_tape_bytes] o_r := by
  refine x_startI (by decide) (Nat.le_of_ble_eq_true rfl) ?_
  intro p e s m below meth c A C hr hlk hA hK hP hD hS ls hl
  have hl : lv_has ls 2 [(0, .ref A_t), (1, .int a1)] := hl
  have hx := C.1
  have hb := C.2.1
  unfold f_X5_forOther at hf
  refine lv_aload_n hx hb dX5_forOther_0 rfl (lv_at hl 0 rfl) ?_
  refine x_get C hK hP fd_X5_15 0 rfl rfl dX5_forOther_1 ?_
  refine lv_iconst (v := 2) hx hb dX5_forOther_4 (by decide) ?_
  refine lv_iload_n hx hb dX5_forOther_5 rfl (lv_at hl 1 rfl) ?_
  refine lv_imul hx hb dX5_forOther_6 ?_
  refine lv_iconst (v := 1) hx hb dX5_forOther_7 (by decide) ?_
  refine lv_iadd hx hb dX5_forOther_8 ?_
  obtain ⟨r1, hc2, hf⟩ := bd1_e hf
  refine x_callVI (ws' := [oX5 A_t A_t_tape A_t_borne x_t_bottles, oX9 A_t_tape A_t_tape_bytes x_t_tape_size x_t_tape_end x_t_tape_place x_t_tape_fault, iA cI 260 A_t_tape_bytes v_t_tape_bytes]) (rest := []) C hK hP hD hS hA hl mf_X5_54 (c_X9_at hc2) [1, 2] 0 9 rfl rfl rfl rfl rfl rfl rfl rfl rfl rfl (Nat.le_of_ble_eq_true rfl) ⟨Nat.le_of_ble_eq_true rfl, Nat.le_of_ble_eq_true rfl⟩ ⟨Nat.le_refl _, Nat.le_refl _⟩ dX5_forOther_9 ?_
  intro H locs hP hD hS
  obtain rfl := ev1 hf
  exact x_iret C hr hlk hP hD hS dX5_forOther_12
def f_X5_isRest_b48 (v_t_tape_bytes : (Nat → Int32)) (x_t_tape_size : Int32) (a2 : Int32) (a3 : Int32) : Nat → Int32 → Int32 → Option (Int32)
  | 0, _, _ => none
  | n + 1, l5, l6 =>
    if a2 ≤ l6 then
      some (1 : Int32)
    else
      bd1 (f_X5_forOther v_t_tape_bytes x_t_tape_size ((a3 * a2) + l6)) (fun r1 =>
      bd1 (f_X5_forOther v_t_tape_bytes x_t_tape_size l5) (fun r2 =>
      if r1 ≤ r2 then
        f_X5_isRest_b48 v_t_tape_bytes x_t_tape_size a2 a3 n l5 (l6 + (1 : Int32))
      else
        some (0 : Int32)))
def f_X5_isRest_b11 (v_t_tape_bytes : (Nat → Int32)) (x_t_tape_size : Int32) (a1 : Int32) (a2 : Int32) (a3 : Int32) (a4 : Int32) : Nat → Int32 → Int32 → Option (Int32)
  | 0, _, _ => none
  | n + 1, l5, l6 =>
    if a1 ≤ l6 then
      f_X5_isRest_b48 v_t_tape_bytes x_t_tape_size a2 a3 FU l5 (0 : Int32)
    else
      bd1 (f_X5_forOne v_t_tape_bytes x_t_tape_size ((l6 * a2) + a4)) (fun r1 =>
      bd1 (f_X5_forOne v_t_tape_bytes x_t_tape_size l5) (fun r2 =>
      if r1 ≤ r2 then
        f_X5_isRest_b11 v_t_tape_bytes x_t_tape_size a1 a2 a3 a4 n l5 (l6 + (1 : Int32))
      else
        some (0 : Int32)))
def f_X5_isRest (v_t_tape_bytes : (Nat → Int32)) (x_t_tape_size : Int32) (a1 : Int32) (a2 : Int32) (a3 : Int32) (a4 : Int32) : Option (Int32) :=
  f_X5_isRest_b11 v_t_tape_bytes x_t_tape_size a1 a2 a3 a4 FU ((a3 * a2) + a4) (0 : Int32)
set_option maxHeartbeats 4000000 in
set_option maxRecDepth 100000 in
theorem c_X5_isRest {l : Launch} {D : va_G} {cI cB : ClassId} {A_t A_t_tape A_t_borne A_t_tape_bytes : Nat} {x_t_bottles x_t_tape_size x_t_tape_end x_t_tape_place x_t_tape_fault a1 a2 a3 a4 : Int32} {v_t_tape_bytes : Nat → Int32} {o_r : Int32} (hf : f_X5_isRest v_t_tape_bytes x_t_tape_size a1 a2 a3 a4 = some o_r) : CtI l D cI cB yX5_isRest cX5_isRest 7 (some .boolean) 2 42 [.ref A_t, .int a1, .int a2, .int a3, .int a4] [oX5 A_t A_t_tape A_t_borne x_t_bottles, oX9 A_t_tape A_t_tape_bytes x_t_tape_size x_t_tape_end x_t_tape_place x_t_tape_fault, iA cI 260 A_t_tape_bytes v_t_tape_bytes] [oX5 A_t A_t_tape A_t_borne x_t_bottles, oX9 A_t_tape A_t_tape_bytes x_t_tape_size x_t_tape_end x_t_tape_place x_t_tape_fault, iA cI 260 A_t_tape_bytes v_t_tape_bytes] o_r := by
  refine x_startI (by decide) (Nat.le_of_ble_eq_true rfl) ?_
  intro p e s m below meth c A C hr hlk hA hK hP hD hS ls hl
  have hl : lv_has ls 7 [(0, .ref A_t), (1, .int a1), (2, .int a2), (3, .int a3), (4, .int a4)] := hl
  have hx := C.1
  have hb := C.2.1
  unfold f_X5_isRest at hf
  have hb_48 : ∀ (n_48 : Nat) (l5 : Int32) (l6 : Int32) (H : Heap) (locs : List Loc) (ls : Array Slot), lv_has ls 7 [(0, .ref A_t), (2, .int a2), (3, .int a3), (5, .int l5), (6, .int l6)] → va_P D vwCl [oX5 A_t A_t_tape A_t_borne x_t_bottles, oX9 A_t_tape A_t_tape_bytes x_t_tape_size x_t_tape_end x_t_tape_place x_t_tape_fault, iA cI 260 A_t_tape_bytes v_t_tape_bytes] H → va_D A [oX5 A_t A_t_tape A_t_borne x_t_bottles, oX9 A_t_tape A_t_tape_bytes x_t_tape_size x_t_tape_end x_t_tape_place x_t_tape_fault, iA cI 260 A_t_tape_bytes v_t_tape_bytes] → va_S A s.heap H locs → f_X5_isRest_b48 v_t_tape_bytes x_t_tape_size a2 a3 n_48 l5 l6 = some o_r → W p l e { frames := 2, cells := 0, slots := 0, locals := 42 } s m ([.ref A_t, .int a1, .int a2, .int a3, .int a4] : List Value).toArray below meth c H locs 0 0 (MQ below (PoI D A [oX5 A_t A_t_tape A_t_borne x_t_bottles, oX9 A_t_tape A_t_tape_bytes x_t_tape_size x_t_tape_end x_t_tape_place x_t_tape_fault, iA cI 260 A_t_tape_bytes v_t_tape_bytes] o_r) ([.ref A_t, .int a1, .int a2, .int a3, .int a4] : List Value).toArray s 0 0 A) (F0 m 48 ls []) := by
    intro n_48
    induction n_48 with
    | zero =>
      intro l5 l6 H locs ls hl hP hD hS hf
      exact absurd hf (fun h => by rw [f_X5_isRest_b48] at h; cases h)
    | succ n_48 ih_48 =>
      intro l5 l6 H locs ls hl hP hD hS hf
      rw [f_X5_isRest_b48] at hf
      refine lv_iload hx hb dX5_isRest_48 (lv_at hl 4 rfl) ?_
      refine lv_iload_n hx hb dX5_isRest_50 rfl (lv_at hl 1 rfl) ?_
      refine lv_icmp_ge (tgt := 81) hx hb dX5_isRest_51 (by decide) (fun q => ?_) (fun q => ?_)
      · have hf := if_t q hf
        refine lv_iconst (v := 1) hx hb dX5_isRest_81 (by decide) ?_
        obtain rfl := ev1 hf
        exact x_zret C hr hlk (Or.inr rfl) hP hD hS dX5_isRest_82
      · have hf := if_f q hf
        refine lv_aload_n hx hb dX5_isRest_54 rfl (lv_at hl 0 rfl) ?_
        refine lv_iload_n hx hb dX5_isRest_55 rfl (lv_at hl 2 rfl) ?_
        refine lv_iload_n hx hb dX5_isRest_56 rfl (lv_at hl 1 rfl) ?_
        refine lv_imul hx hb dX5_isRest_57 ?_
        refine lv_iload hx hb dX5_isRest_58 (lv_at hl 4 rfl) ?_
        refine lv_iadd hx hb dX5_isRest_60 ?_
        obtain ⟨r1, hc2, hf⟩ := bd1_e hf
        refine x_callVI (ws' := [oX5 A_t A_t_tape A_t_borne x_t_bottles, oX9 A_t_tape A_t_tape_bytes x_t_tape_size x_t_tape_end x_t_tape_place x_t_tape_fault, iA cI 260 A_t_tape_bytes v_t_tape_bytes]) (rest := []) C hK hP hD hS hA hl mf_X5_47 (c_X5_forOther hc2) [0, 1, 2] 0 5 rfl rfl rfl rfl rfl rfl rfl rfl rfl rfl (Nat.le_of_ble_eq_true rfl) ⟨Nat.le_of_ble_eq_true rfl, Nat.le_of_ble_eq_true rfl⟩ ⟨Nat.le_refl _, Nat.le_refl _⟩ dX5_isRest_61 ?_
        intro H locs hP hD hS
        refine lv_aload_n hx hb dX5_isRest_64 rfl (lv_at hl 0 rfl) ?_
        refine lv_iload hx hb dX5_isRest_65 (lv_at hl 3 rfl) ?_
        obtain ⟨r3, hc4, hf⟩ := bd1_e hf
        refine x_callVI (ws' := [oX5 A_t A_t_tape A_t_borne x_t_bottles, oX9 A_t_tape A_t_tape_bytes x_t_tape_size x_t_tape_end x_t_tape_place x_t_tape_fault, iA cI 260 A_t_tape_bytes v_t_tape_bytes]) (rest := [.int r1]) C hK hP hD hS hA hl mf_X5_47 (c_X5_forOther hc4) [0, 1, 2] 0 5 rfl rfl rfl rfl rfl rfl rfl rfl rfl rfl (Nat.le_of_ble_eq_true rfl) ⟨Nat.le_of_ble_eq_true rfl, Nat.le_of_ble_eq_true rfl⟩ ⟨Nat.le_refl _, Nat.le_refl _⟩ dX5_isRest_67 ?_
        intro H locs hP hD hS
        refine lv_icmp_le (tgt := 75) hx hb dX5_isRest_70 (by decide) (fun q => ?_) (fun q => ?_)
        · have hf := if_t q hf
          refine lv_iinc (v := (l6 + (1 : Int32))) (lv' := [(6, .int (l6 + (1 : Int32))), (0, .ref A_t), (2, .int a2), (3, .int a3), (5, .int l5)]) hx hb dX5_isRest_75 hl (k := 4) rfl rfl (by decide) rfl (fun ls hl => ?_)
          refine lv_goto (tgt := 48) hx hb dX5_isRest_78 (by decide) ?_
          exact ih_48 l5 (l6 + (1 : Int32)) _ _ ls (lv_sub hl [1, 2, 3, 4, 0] rfl) hP hD hS hf
        · have hf := if_f q hf
          refine lv_iconst (v := 0) hx hb dX5_isRest_73 (by decide) ?_
          obtain rfl := ev1 hf
          exact x_zret C hr hlk (Or.inl rfl) hP hD hS dX5_isRest_74
  have hb_11 : ∀ (n_11 : Nat) (l5 : Int32) (l6 : Int32) (H : Heap) (locs : List Loc) (ls : Array Slot), lv_has ls 7 [(0, .ref A_t), (1, .int a1), (2, .int a2), (3, .int a3), (4, .int a4), (5, .int l5), (6, .int l6)] → va_P D vwCl [oX5 A_t A_t_tape A_t_borne x_t_bottles, oX9 A_t_tape A_t_tape_bytes x_t_tape_size x_t_tape_end x_t_tape_place x_t_tape_fault, iA cI 260 A_t_tape_bytes v_t_tape_bytes] H → va_D A [oX5 A_t A_t_tape A_t_borne x_t_bottles, oX9 A_t_tape A_t_tape_bytes x_t_tape_size x_t_tape_end x_t_tape_place x_t_tape_fault, iA cI 260 A_t_tape_bytes v_t_tape_bytes] → va_S A s.heap H locs → f_X5_isRest_b11 v_t_tape_bytes x_t_tape_size a1 a2 a3 a4 n_11 l5 l6 = some o_r → W p l e { frames := 2, cells := 0, slots := 0, locals := 42 } s m ([.ref A_t, .int a1, .int a2, .int a3, .int a4] : List Value).toArray below meth c H locs 0 0 (MQ below (PoI D A [oX5 A_t A_t_tape A_t_borne x_t_bottles, oX9 A_t_tape A_t_tape_bytes x_t_tape_size x_t_tape_end x_t_tape_place x_t_tape_fault, iA cI 260 A_t_tape_bytes v_t_tape_bytes] o_r) ([.ref A_t, .int a1, .int a2, .int a3, .int a4] : List Value).toArray s 0 0 A) (F0 m 11 ls []) := by
    intro n_11
    induction n_11 with
    | zero =>
      intro l5 l6 H locs ls hl hP hD hS hf
      exact absurd hf (fun h => by rw [f_X5_isRest_b11] at h; cases h)
    | succ n_11 ih_11 =>
      intro l5 l6 H locs ls hl hP hD hS hf
      rw [f_X5_isRest_b11] at hf
      refine lv_iload hx hb dX5_isRest_11 (lv_at hl 6 rfl) ?_
      refine lv_iload_n hx hb dX5_isRest_13 rfl (lv_at hl 1 rfl) ?_
      refine lv_icmp_ge (tgt := 45) hx hb dX5_isRest_14 (by decide) (fun q => ?_) (fun q => ?_)
      · have hf := if_t q hf
        refine lv_iconst (v := 0) hx hb dX5_isRest_45 (by decide) ?_
        refine lv_istore (lv' := [(6, .int (0 : Int32)), (0, .ref A_t), (1, .int a1), (2, .int a2), (3, .int a3), (4, .int a4), (5, .int l5)]) hx hb dX5_isRest_46 hl (by decide) rfl (fun ls hl => ?_)
        exact hb_48 FU l5 (0 : Int32) _ _ ls (lv_sub hl [1, 3, 4, 6, 0] rfl) hP hD hS hf
      · have hf := if_f q hf
        refine lv_aload_n hx hb dX5_isRest_17 rfl (lv_at hl 0 rfl) ?_
        refine lv_iload hx hb dX5_isRest_18 (lv_at hl 6 rfl) ?_
        refine lv_iload_n hx hb dX5_isRest_20 rfl (lv_at hl 2 rfl) ?_
        refine lv_imul hx hb dX5_isRest_21 ?_
        refine lv_iload hx hb dX5_isRest_22 (lv_at hl 4 rfl) ?_
        refine lv_iadd hx hb dX5_isRest_24 ?_
        obtain ⟨r5, hc6, hf⟩ := bd1_e hf
        refine x_callVI (ws' := [oX5 A_t A_t_tape A_t_borne x_t_bottles, oX9 A_t_tape A_t_tape_bytes x_t_tape_size x_t_tape_end x_t_tape_place x_t_tape_fault, iA cI 260 A_t_tape_bytes v_t_tape_bytes]) (rest := []) C hK hP hD hS hA hl mf_X5_44 (c_X5_forOne hc6) [0, 1, 2] 0 5 rfl rfl rfl rfl rfl rfl rfl rfl rfl rfl (Nat.le_of_ble_eq_true rfl) ⟨Nat.le_of_ble_eq_true rfl, Nat.le_of_ble_eq_true rfl⟩ ⟨Nat.le_refl _, Nat.le_refl _⟩ dX5_isRest_25 ?_
        intro H locs hP hD hS
        refine lv_aload_n hx hb dX5_isRest_28 rfl (lv_at hl 0 rfl) ?_
        refine lv_iload hx hb dX5_isRest_29 (lv_at hl 5 rfl) ?_
        obtain ⟨r7, hc8, hf⟩ := bd1_e hf
        refine x_callVI (ws' := [oX5 A_t A_t_tape A_t_borne x_t_bottles, oX9 A_t_tape A_t_tape_bytes x_t_tape_size x_t_tape_end x_t_tape_place x_t_tape_fault, iA cI 260 A_t_tape_bytes v_t_tape_bytes]) (rest := [.int r5]) C hK hP hD hS hA hl mf_X5_44 (c_X5_forOne hc8) [0, 1, 2] 0 5 rfl rfl rfl rfl rfl rfl rfl rfl rfl rfl (Nat.le_of_ble_eq_true rfl) ⟨Nat.le_of_ble_eq_true rfl, Nat.le_of_ble_eq_true rfl⟩ ⟨Nat.le_refl _, Nat.le_refl _⟩ dX5_isRest_31 ?_
        intro H locs hP hD hS
        refine lv_icmp_le (tgt := 39) hx hb dX5_isRest_34 (by decide) (fun q => ?_) (fun q => ?_)
        · have hf := if_t q hf
          refine lv_iinc (v := (l6 + (1 : Int32))) (lv' := [(6, .int (l6 + (1 : Int32))), (0, .ref A_t), (1, .int a1), (2, .int a2), (3, .int a3), (4, .int a4), (5, .int l5)]) hx hb dX5_isRest_39 hl (k := 6) rfl rfl (by decide) rfl (fun ls hl => ?_)
          refine lv_goto (tgt := 11) hx hb dX5_isRest_42 (by decide) ?_
          exact ih_11 l5 (l6 + (1 : Int32)) _ _ ls (lv_sub hl [1, 2, 3, 4, 5, 6, 0] rfl) hP hD hS hf
        · have hf := if_f q hf
          refine lv_iconst (v := 0) hx hb dX5_isRest_37 (by decide) ?_
          obtain rfl := ev1 hf
          exact x_zret C hr hlk (Or.inl rfl) hP hD hS dX5_isRest_38
  refine lv_iload_n hx hb dX5_isRest_0 rfl (lv_at hl 3 rfl) ?_
  refine lv_iload_n hx hb dX5_isRest_1 rfl (lv_at hl 2 rfl) ?_
  refine lv_imul hx hb dX5_isRest_2 ?_
  refine lv_iload hx hb dX5_isRest_3 (lv_at hl 4 rfl) ?_
  refine lv_iadd hx hb dX5_isRest_5 ?_
  refine lv_istore (lv' := [(5, .int ((a3 * a2) + a4)), (0, .ref A_t), (1, .int a1), (2, .int a2), (3, .int a3), (4, .int a4)]) hx hb dX5_isRest_6 hl (by decide) rfl (fun ls hl => ?_)
  refine lv_iconst (v := 0) hx hb dX5_isRest_8 (by decide) ?_
  refine lv_istore (lv' := [(6, .int (0 : Int32)), (5, .int ((a3 * a2) + a4)), (0, .ref A_t), (1, .int a1), (2, .int a2), (3, .int a3), (4, .int a4)]) hx hb dX5_isRest_9 hl (by decide) rfl (fun ls hl => ?_)
  exact hb_11 FU ((a3 * a2) + a4) (0 : Int32) _ _ ls (lv_sub hl [2, 3, 4, 5, 6, 1, 0] rfl) hP hD hS hf
def f_X5_rests_b39 (a1 : Int32) (a2 : Int32) (k5 : Int32 → Int32 → Option (Int32)) (k14 : Int32 → Int32 → Int32 → Option (Int32)) (s0 : Int32) (s1 : Int32) (l4 : Int32) (l5 : Int32) : Option (Int32) :=
  k14 (s0 + s1) l4 (l5 + (1 : Int32))
def f_X5_rests_b14 (v_t_tape_bytes : (Nat → Int32)) (x_t_tape_size : Int32) (a1 : Int32) (a2 : Int32) (k5 : Int32 → Int32 → Option (Int32)) : Nat → Int32 → Int32 → Int32 → Option (Int32)
  | 0, _, _, _ => none
  | n + 1, l3, l4, l5 =>
    if a2 ≤ l5 then
      k5 l3 (l4 + (1 : Int32))
    else
      bd1 (f_X5_isRest v_t_tape_bytes x_t_tape_size a1 a2 l4 l5) (fun r1 =>
      if r1 = 0 then
        f_X5_rests_b39 a1 a2 k5 (f_X5_rests_b14 v_t_tape_bytes x_t_tape_size a1 a2 k5 n) l3 (0 : Int32) l4 l5
      else
        f_X5_rests_b39 a1 a2 k5 (f_X5_rests_b14 v_t_tape_bytes x_t_tape_size a1 a2 k5 n) l3 (1 : Int32) l4 l5)
def f_X5_rests_b5 (v_t_tape_bytes : (Nat → Int32)) (x_t_tape_size : Int32) (a1 : Int32) (a2 : Int32) : Nat → Int32 → Int32 → Option (Int32)
  | 0, _, _ => none
  | n + 1, l3, l4 =>
    if a1 ≤ l4 then
      some l3
    else
      f_X5_rests_b14 v_t_tape_bytes x_t_tape_size a1 a2 (f_X5_rests_b5 v_t_tape_bytes x_t_tape_size a1 a2 n) FU l3 l4 (0 : Int32)
def f_X5_rests (v_t_tape_bytes : (Nat → Int32)) (x_t_tape_size : Int32) (a1 : Int32) (a2 : Int32) : Option (Int32) :=
  f_X5_rests_b5 v_t_tape_bytes x_t_tape_size a1 a2 FU (0 : Int32) (0 : Int32)
set_option maxHeartbeats 4000000 in
set_option maxRecDepth 100000 in
theorem c_X5_rests {l : Launch} {D : va_G} {cI cB : ClassId} {A_t A_t_tape A_t_borne A_t_tape_bytes : Nat} {x_t_bottles x_t_tape_size x_t_tape_end x_t_tape_place x_t_tape_fault a1 a2 : Int32} {v_t_tape_bytes : Nat → Int32} {o_r : Int32} (hf : f_X5_rests v_t_tape_bytes x_t_tape_size a1 a2 = some o_r) : CtI l D cI cB yX5_rests cX5_rests 6 (some .int) 3 68 [.ref A_t, .int a1, .int a2] [oX5 A_t A_t_tape A_t_borne x_t_bottles, oX9 A_t_tape A_t_tape_bytes x_t_tape_size x_t_tape_end x_t_tape_place x_t_tape_fault, iA cI 260 A_t_tape_bytes v_t_tape_bytes] [oX5 A_t A_t_tape A_t_borne x_t_bottles, oX9 A_t_tape A_t_tape_bytes x_t_tape_size x_t_tape_end x_t_tape_place x_t_tape_fault, iA cI 260 A_t_tape_bytes v_t_tape_bytes] o_r := by
  refine x_startI (by decide) (Nat.le_of_ble_eq_true rfl) ?_
  intro p e s m below meth c A C hr hlk hA hK hP hD hS ls hl
  have hl : lv_has ls 6 [(0, .ref A_t), (1, .int a1), (2, .int a2)] := hl
  have hx := C.1
  have hb := C.2.1
  unfold f_X5_rests at hf
  have hb_5 : ∀ (n_5 : Nat) (l3 : Int32) (l4 : Int32) (H : Heap) (locs : List Loc) (ls : Array Slot), lv_has ls 6 [(0, .ref A_t), (1, .int a1), (2, .int a2), (3, .int l3), (4, .int l4)] → va_P D vwCl [oX5 A_t A_t_tape A_t_borne x_t_bottles, oX9 A_t_tape A_t_tape_bytes x_t_tape_size x_t_tape_end x_t_tape_place x_t_tape_fault, iA cI 260 A_t_tape_bytes v_t_tape_bytes] H → va_D A [oX5 A_t A_t_tape A_t_borne x_t_bottles, oX9 A_t_tape A_t_tape_bytes x_t_tape_size x_t_tape_end x_t_tape_place x_t_tape_fault, iA cI 260 A_t_tape_bytes v_t_tape_bytes] → va_S A s.heap H locs → f_X5_rests_b5 v_t_tape_bytes x_t_tape_size a1 a2 n_5 l3 l4 = some o_r → W p l e { frames := 3, cells := 0, slots := 0, locals := 68 } s m ([.ref A_t, .int a1, .int a2] : List Value).toArray below meth c H locs 0 0 (MQ below (PoI D A [oX5 A_t A_t_tape A_t_borne x_t_bottles, oX9 A_t_tape A_t_tape_bytes x_t_tape_size x_t_tape_end x_t_tape_place x_t_tape_fault, iA cI 260 A_t_tape_bytes v_t_tape_bytes] o_r) ([.ref A_t, .int a1, .int a2] : List Value).toArray s 0 0 A) (F0 m 5 ls []) := by
    intro n_5
    induction n_5 with
    | zero =>
      intro l3 l4 H locs ls hl hP hD hS hf
      exact absurd hf (fun h => by rw [f_X5_rests_b5] at h; cases h)
    | succ n_5 ih_5 =>
      have hb_14 : ∀ (n_14 : Nat) (l3 : Int32) (l4 : Int32) (l5 : Int32) (H : Heap) (locs : List Loc) (ls : Array Slot), lv_has ls 6 [(0, .ref A_t), (1, .int a1), (2, .int a2), (3, .int l3), (4, .int l4), (5, .int l5)] → va_P D vwCl [oX5 A_t A_t_tape A_t_borne x_t_bottles, oX9 A_t_tape A_t_tape_bytes x_t_tape_size x_t_tape_end x_t_tape_place x_t_tape_fault, iA cI 260 A_t_tape_bytes v_t_tape_bytes] H → va_D A [oX5 A_t A_t_tape A_t_borne x_t_bottles, oX9 A_t_tape A_t_tape_bytes x_t_tape_size x_t_tape_end x_t_tape_place x_t_tape_fault, iA cI 260 A_t_tape_bytes v_t_tape_bytes] → va_S A s.heap H locs → f_X5_rests_b14 v_t_tape_bytes x_t_tape_size a1 a2 (f_X5_rests_b5 v_t_tape_bytes x_t_tape_size a1 a2 n_5) n_14 l3 l4 l5 = some o_r → W p l e { frames := 3, cells := 0, slots := 0, locals := 68 } s m ([.ref A_t, .int a1, .int a2] : List Value).toArray below meth c H locs 0 0 (MQ below (PoI D A [oX5 A_t A_t_tape A_t_borne x_t_bottles, oX9 A_t_tape A_t_tape_bytes x_t_tape_size x_t_tape_end x_t_tape_place x_t_tape_fault, iA cI 260 A_t_tape_bytes v_t_tape_bytes] o_r) ([.ref A_t, .int a1, .int a2] : List Value).toArray s 0 0 A) (F0 m 14 ls []) := by
        intro n_14
        induction n_14 with
        | zero =>
          intro l3 l4 l5 H locs ls hl hP hD hS hf
          exact absurd hf (fun h => by rw [f_X5_rests_b14] at h; cases h)
        | succ n_14 ih_14 =>
          have hb_39 : ∀ (s0 : Int32) (s1 : Int32) (l4 : Int32) (l5 : Int32) (H : Heap) (locs : List Loc) (ls : Array Slot), lv_has ls 6 [(0, .ref A_t), (1, .int a1), (2, .int a2), (4, .int l4), (5, .int l5)] → va_P D vwCl [oX5 A_t A_t_tape A_t_borne x_t_bottles, oX9 A_t_tape A_t_tape_bytes x_t_tape_size x_t_tape_end x_t_tape_place x_t_tape_fault, iA cI 260 A_t_tape_bytes v_t_tape_bytes] H → va_D A [oX5 A_t A_t_tape A_t_borne x_t_bottles, oX9 A_t_tape A_t_tape_bytes x_t_tape_size x_t_tape_end x_t_tape_place x_t_tape_fault, iA cI 260 A_t_tape_bytes v_t_tape_bytes] → va_S A s.heap H locs → f_X5_rests_b39 a1 a2 (f_X5_rests_b5 v_t_tape_bytes x_t_tape_size a1 a2 n_5) (f_X5_rests_b14 v_t_tape_bytes x_t_tape_size a1 a2 (f_X5_rests_b5 v_t_tape_bytes x_t_tape_size a1 a2 n_5) n_14) s0 s1 l4 l5 = some o_r → W p l e { frames := 3, cells := 0, slots := 0, locals := 68 } s m ([.ref A_t, .int a1, .int a2] : List Value).toArray below meth c H locs 0 0 (MQ below (PoI D A [oX5 A_t A_t_tape A_t_borne x_t_bottles, oX9 A_t_tape A_t_tape_bytes x_t_tape_size x_t_tape_end x_t_tape_place x_t_tape_fault, iA cI 260 A_t_tape_bytes v_t_tape_bytes] o_r) ([.ref A_t, .int a1, .int a2] : List Value).toArray s 0 0 A) (F0 m 39 ls [.int s1, .int s0]) := by
            intro s0 s1 l4 l5 H locs ls hl hP hD hS hf
            unfold f_X5_rests_b39 at hf
            refine lv_iadd hx hb dX5_rests_39 ?_
            refine lv_istore_n (lv' := [(3, .int (s0 + s1)), (0, .ref A_t), (1, .int a1), (2, .int a2), (4, .int l4), (5, .int l5)]) hx hb dX5_rests_40 rfl hl (by decide) rfl (fun ls hl => ?_)
            refine lv_iinc (v := (l5 + (1 : Int32))) (lv' := [(5, .int (l5 + (1 : Int32))), (3, .int (s0 + s1)), (0, .ref A_t), (1, .int a1), (2, .int a2), (4, .int l4)]) hx hb dX5_rests_41 hl (k := 5) rfl rfl (by decide) rfl (fun ls hl => ?_)
            refine lv_goto (tgt := 14) hx hb dX5_rests_44 (by decide) ?_
            exact ih_14 (s0 + s1) l4 (l5 + (1 : Int32)) _ _ ls (lv_sub hl [2, 3, 4, 1, 5, 0] rfl) hP hD hS hf
          intro l3 l4 l5 H locs ls hl hP hD hS hf
          rw [f_X5_rests_b14] at hf
          refine lv_iload hx hb dX5_rests_14 (lv_at hl 5 rfl) ?_
          refine lv_iload_n hx hb dX5_rests_16 rfl (lv_at hl 2 rfl) ?_
          refine lv_icmp_ge (tgt := 47) hx hb dX5_rests_17 (by decide) (fun q => ?_) (fun q => ?_)
          · have hf := if_t q hf
            refine lv_iinc (v := (l4 + (1 : Int32))) (lv' := [(4, .int (l4 + (1 : Int32))), (0, .ref A_t), (1, .int a1), (2, .int a2), (3, .int l3), (5, .int l5)]) hx hb dX5_rests_47 hl (k := 4) rfl rfl (by decide) rfl (fun ls hl => ?_)
            refine lv_goto (tgt := 5) hx hb dX5_rests_50 (by decide) ?_
            exact ih_5 l3 (l4 + (1 : Int32)) _ _ ls (lv_sub hl [1, 2, 3, 4, 0] rfl) hP hD hS hf
          · have hf := if_f q hf
            refine lv_iload_n hx hb dX5_rests_20 rfl (lv_at hl 3 rfl) ?_
            refine lv_aload_n hx hb dX5_rests_21 rfl (lv_at hl 0 rfl) ?_
            refine lv_iload_n hx hb dX5_rests_22 rfl (lv_at hl 1 rfl) ?_
            refine lv_iload_n hx hb dX5_rests_23 rfl (lv_at hl 2 rfl) ?_
            refine lv_iload hx hb dX5_rests_24 (lv_at hl 4 rfl) ?_
            refine lv_iload hx hb dX5_rests_26 (lv_at hl 5 rfl) ?_
            obtain ⟨r1, hc2, hf⟩ := bd1_e hf
            refine x_callVI (ws' := [oX5 A_t A_t_tape A_t_borne x_t_bottles, oX9 A_t_tape A_t_tape_bytes x_t_tape_size x_t_tape_end x_t_tape_place x_t_tape_fault, iA cI 260 A_t_tape_bytes v_t_tape_bytes]) (rest := [.int l3]) C hK hP hD hS hA hl mf_X5_40 (c_X5_isRest hc2) [0, 1, 2] 0 5 rfl rfl rfl rfl rfl rfl rfl rfl rfl rfl (Nat.le_of_ble_eq_true rfl) ⟨Nat.le_of_ble_eq_true rfl, Nat.le_of_ble_eq_true rfl⟩ ⟨Nat.le_refl _, Nat.le_refl _⟩ dX5_rests_28 ?_
            intro H locs hP hD hS
            refine lv_if_eq (tgt := 38) hx hb dX5_rests_31 (by decide) (fun q => ?_) (fun q => ?_)
            · have hf := if_t q hf
              refine lv_iconst (v := 0) hx hb dX5_rests_38 (by decide) ?_
              exact hb_39 l3 (0 : Int32) l4 l5 _ _ ls (lv_sub hl [0, 1, 2, 4, 5] rfl) hP hD hS hf
            · have hf := if_f q hf
              refine lv_iconst (v := 1) hx hb dX5_rests_34 (by decide) ?_
              refine lv_goto (tgt := 39) hx hb dX5_rests_35 (by decide) ?_
              exact hb_39 l3 (1 : Int32) l4 l5 _ _ ls (lv_sub hl [0, 1, 2, 4, 5] rfl) hP hD hS hf
      intro l3 l4 H locs ls hl hP hD hS hf
      rw [f_X5_rests_b5] at hf
      refine lv_iload hx hb dX5_rests_5 (lv_at hl 4 rfl) ?_
      refine lv_iload_n hx hb dX5_rests_7 rfl (lv_at hl 1 rfl) ?_
      refine lv_icmp_ge (tgt := 53) hx hb dX5_rests_8 (by decide) (fun q => ?_) (fun q => ?_)
      · have hf := if_t q hf
        refine lv_iload_n hx hb dX5_rests_53 rfl (lv_at hl 3 rfl) ?_
        obtain rfl := ev1 hf
        exact x_iret C hr hlk hP hD hS dX5_rests_54
      · have hf := if_f q hf
        refine lv_iconst (v := 0) hx hb dX5_rests_11 (by decide) ?_
        refine lv_istore (lv' := [(5, .int (0 : Int32)), (0, .ref A_t), (1, .int a1), (2, .int a2), (3, .int l3), (4, .int l4)]) hx hb dX5_rests_12 hl (by decide) rfl (fun ls hl => ?_)
        exact hb_14 FU l3 l4 (0 : Int32) _ _ ls (lv_sub hl [1, 2, 3, 4, 5, 0] rfl) hP hD hS hf
  refine lv_iconst (v := 0) hx hb dX5_rests_0 (by decide) ?_
  refine lv_istore_n (lv' := [(3, .int (0 : Int32)), (0, .ref A_t), (1, .int a1), (2, .int a2)]) hx hb dX5_rests_1 rfl hl (by decide) rfl (fun ls hl => ?_)
  refine lv_iconst (v := 0) hx hb dX5_rests_2 (by decide) ?_
  refine lv_istore (lv' := [(4, .int (0 : Int32)), (3, .int (0 : Int32)), (0, .ref A_t), (1, .int a1), (2, .int a2)]) hx hb dX5_rests_3 hl (by decide) rfl (fun ls hl => ?_)
  exact hb_5 FU (0 : Int32) (0 : Int32) _ _ ls (lv_sub hl [2, 3, 4, 1, 0] rfl) hP hD hS hf
def f_X5_firstRest_b10 (v_t_tape_bytes : (Nat → Int32)) (x_t_tape_size : Int32) (a1 : Int32) (a2 : Int32) (k2 : Int32 → Option (Int32)) : Nat → Int32 → Int32 → Option (Int32)
  | 0, _, _ => none
  | n + 1, l3, l4 =>
    if a2 ≤ l4 then
      k2 (l3 + (1 : Int32))
    else
      bd1 (f_X5_isRest v_t_tape_bytes x_t_tape_size a1 a2 l3 l4) (fun r1 =>
      if r1 = 0 then
        f_X5_firstRest_b10 v_t_tape_bytes x_t_tape_size a1 a2 k2 n l3 (l4 + (1 : Int32))
      else
        some (((6 : Int32) * l3) + l4))
def f_X5_firstRest_b2 (v_t_tape_bytes : (Nat → Int32)) (x_t_tape_size : Int32) (a1 : Int32) (a2 : Int32) : Nat → Int32 → Option (Int32)
  | 0, _ => none
  | n + 1, l3 =>
    if a1 ≤ l3 then
      some (-2 : Int32)
    else
      f_X5_firstRest_b10 v_t_tape_bytes x_t_tape_size a1 a2 (f_X5_firstRest_b2 v_t_tape_bytes x_t_tape_size a1 a2 n) FU l3 (0 : Int32)
def f_X5_firstRest (v_t_tape_bytes : (Nat → Int32)) (x_t_tape_size : Int32) (a1 : Int32) (a2 : Int32) : Option (Int32) :=
  f_X5_firstRest_b2 v_t_tape_bytes x_t_tape_size a1 a2 FU (0 : Int32)
set_option maxHeartbeats 4000000 in
set_option maxRecDepth 100000 in
theorem c_X5_firstRest {l : Launch} {D : va_G} {cI cB : ClassId} {A_t A_t_tape A_t_borne A_t_tape_bytes : Nat} {x_t_bottles x_t_tape_size x_t_tape_end x_t_tape_place x_t_tape_fault a1 a2 : Int32} {v_t_tape_bytes : Nat → Int32} {o_r : Int32} (hf : f_X5_firstRest v_t_tape_bytes x_t_tape_size a1 a2 = some o_r) : CtI l D cI cB yX5_firstRest cX5_firstRest 5 (some .int) 3 68 [.ref A_t, .int a1, .int a2] [oX5 A_t A_t_tape A_t_borne x_t_bottles, oX9 A_t_tape A_t_tape_bytes x_t_tape_size x_t_tape_end x_t_tape_place x_t_tape_fault, iA cI 260 A_t_tape_bytes v_t_tape_bytes] [oX5 A_t A_t_tape A_t_borne x_t_bottles, oX9 A_t_tape A_t_tape_bytes x_t_tape_size x_t_tape_end x_t_tape_place x_t_tape_fault, iA cI 260 A_t_tape_bytes v_t_tape_bytes] o_r := by
  refine x_startI (by decide) (Nat.le_of_ble_eq_true rfl) ?_
  intro p e s m below meth c A C hr hlk hA hK hP hD hS ls hl
  have hl : lv_has ls 5 [(0, .ref A_t), (1, .int a1), (2, .int a2)] := hl
  have hx := C.1
  have hb := C.2.1
  unfold f_X5_firstRest at hf
  have hb_2 : ∀ (n_2 : Nat) (l3 : Int32) (H : Heap) (locs : List Loc) (ls : Array Slot), lv_has ls 5 [(0, .ref A_t), (1, .int a1), (2, .int a2), (3, .int l3)] → va_P D vwCl [oX5 A_t A_t_tape A_t_borne x_t_bottles, oX9 A_t_tape A_t_tape_bytes x_t_tape_size x_t_tape_end x_t_tape_place x_t_tape_fault, iA cI 260 A_t_tape_bytes v_t_tape_bytes] H → va_D A [oX5 A_t A_t_tape A_t_borne x_t_bottles, oX9 A_t_tape A_t_tape_bytes x_t_tape_size x_t_tape_end x_t_tape_place x_t_tape_fault, iA cI 260 A_t_tape_bytes v_t_tape_bytes] → va_S A s.heap H locs → f_X5_firstRest_b2 v_t_tape_bytes x_t_tape_size a1 a2 n_2 l3 = some o_r → W p l e { frames := 3, cells := 0, slots := 0, locals := 68 } s m ([.ref A_t, .int a1, .int a2] : List Value).toArray below meth c H locs 0 0 (MQ below (PoI D A [oX5 A_t A_t_tape A_t_borne x_t_bottles, oX9 A_t_tape A_t_tape_bytes x_t_tape_size x_t_tape_end x_t_tape_place x_t_tape_fault, iA cI 260 A_t_tape_bytes v_t_tape_bytes] o_r) ([.ref A_t, .int a1, .int a2] : List Value).toArray s 0 0 A) (F0 m 2 ls []) := by
    intro n_2
    induction n_2 with
    | zero =>
      intro l3 H locs ls hl hP hD hS hf
      exact absurd hf (fun h => by rw [f_X5_firstRest_b2] at h; cases h)
    | succ n_2 ih_2 =>
      have hb_10 : ∀ (n_10 : Nat) (l3 : Int32) (l4 : Int32) (H : Heap) (locs : List Loc) (ls : Array Slot), lv_has ls 5 [(0, .ref A_t), (1, .int a1), (2, .int a2), (3, .int l3), (4, .int l4)] → va_P D vwCl [oX5 A_t A_t_tape A_t_borne x_t_bottles, oX9 A_t_tape A_t_tape_bytes x_t_tape_size x_t_tape_end x_t_tape_place x_t_tape_fault, iA cI 260 A_t_tape_bytes v_t_tape_bytes] H → va_D A [oX5 A_t A_t_tape A_t_borne x_t_bottles, oX9 A_t_tape A_t_tape_bytes x_t_tape_size x_t_tape_end x_t_tape_place x_t_tape_fault, iA cI 260 A_t_tape_bytes v_t_tape_bytes] → va_S A s.heap H locs → f_X5_firstRest_b10 v_t_tape_bytes x_t_tape_size a1 a2 (f_X5_firstRest_b2 v_t_tape_bytes x_t_tape_size a1 a2 n_2) n_10 l3 l4 = some o_r → W p l e { frames := 3, cells := 0, slots := 0, locals := 68 } s m ([.ref A_t, .int a1, .int a2] : List Value).toArray below meth c H locs 0 0 (MQ below (PoI D A [oX5 A_t A_t_tape A_t_borne x_t_bottles, oX9 A_t_tape A_t_tape_bytes x_t_tape_size x_t_tape_end x_t_tape_place x_t_tape_fault, iA cI 260 A_t_tape_bytes v_t_tape_bytes] o_r) ([.ref A_t, .int a1, .int a2] : List Value).toArray s 0 0 A) (F0 m 10 ls []) := by
        intro n_10
        induction n_10 with
        | zero =>
          intro l3 l4 H locs ls hl hP hD hS hf
          exact absurd hf (fun h => by rw [f_X5_firstRest_b10] at h; cases h)
        | succ n_10 ih_10 =>
          intro l3 l4 H locs ls hl hP hD hS hf
          rw [f_X5_firstRest_b10] at hf
          refine lv_iload hx hb dX5_firstRest_10 (lv_at hl 4 rfl) ?_
          refine lv_iload_n hx hb dX5_firstRest_12 rfl (lv_at hl 2 rfl) ?_
          refine lv_icmp_ge (tgt := 42) hx hb dX5_firstRest_13 (by decide) (fun q => ?_) (fun q => ?_)
          · have hf := if_t q hf
            refine lv_iinc (v := (l3 + (1 : Int32))) (lv' := [(3, .int (l3 + (1 : Int32))), (0, .ref A_t), (1, .int a1), (2, .int a2), (4, .int l4)]) hx hb dX5_firstRest_42 hl (k := 3) rfl rfl (by decide) rfl (fun ls hl => ?_)
            refine lv_goto (tgt := 2) hx hb dX5_firstRest_45 (by decide) ?_
            exact ih_2 (l3 + (1 : Int32)) _ _ ls (lv_sub hl [1, 2, 3, 0] rfl) hP hD hS hf
          · have hf := if_f q hf
            refine lv_aload_n hx hb dX5_firstRest_16 rfl (lv_at hl 0 rfl) ?_
            refine lv_iload_n hx hb dX5_firstRest_17 rfl (lv_at hl 1 rfl) ?_
            refine lv_iload_n hx hb dX5_firstRest_18 rfl (lv_at hl 2 rfl) ?_
            refine lv_iload_n hx hb dX5_firstRest_19 rfl (lv_at hl 3 rfl) ?_
            refine lv_iload hx hb dX5_firstRest_20 (lv_at hl 4 rfl) ?_
            obtain ⟨r1, hc2, hf⟩ := bd1_e hf
            refine x_callVI (ws' := [oX5 A_t A_t_tape A_t_borne x_t_bottles, oX9 A_t_tape A_t_tape_bytes x_t_tape_size x_t_tape_end x_t_tape_place x_t_tape_fault, iA cI 260 A_t_tape_bytes v_t_tape_bytes]) (rest := []) C hK hP hD hS hA hl mf_X5_40 (c_X5_isRest hc2) [0, 1, 2] 0 5 rfl rfl rfl rfl rfl rfl rfl rfl rfl rfl (Nat.le_of_ble_eq_true rfl) ⟨Nat.le_of_ble_eq_true rfl, Nat.le_of_ble_eq_true rfl⟩ ⟨Nat.le_refl _, Nat.le_refl _⟩ dX5_firstRest_22 ?_
            intro H locs hP hD hS
            refine lv_if_eq (tgt := 36) hx hb dX5_firstRest_25 (by decide) (fun q => ?_) (fun q => ?_)
            · have hf := if_t q hf
              refine lv_iinc (v := (l4 + (1 : Int32))) (lv' := [(4, .int (l4 + (1 : Int32))), (0, .ref A_t), (1, .int a1), (2, .int a2), (3, .int l3)]) hx hb dX5_firstRest_36 hl (k := 4) rfl rfl (by decide) rfl (fun ls hl => ?_)
              refine lv_goto (tgt := 10) hx hb dX5_firstRest_39 (by decide) ?_
              exact ih_10 l3 (l4 + (1 : Int32)) _ _ ls (lv_sub hl [1, 2, 3, 4, 0] rfl) hP hD hS hf
            · have hf := if_f q hf
              refine lv_bipush (v := 6) hx hb dX5_firstRest_28 (by decide) ?_
              refine lv_iload_n hx hb dX5_firstRest_30 rfl (lv_at hl 3 rfl) ?_
              refine lv_imul hx hb dX5_firstRest_31 ?_
              refine lv_iload hx hb dX5_firstRest_32 (lv_at hl 4 rfl) ?_
              refine lv_iadd hx hb dX5_firstRest_34 ?_
              obtain rfl := ev1 hf
              exact x_iret C hr hlk hP hD hS dX5_firstRest_35
      intro l3 H locs ls hl hP hD hS hf
      rw [f_X5_firstRest_b2] at hf
      refine lv_iload_n hx hb dX5_firstRest_2 rfl (lv_at hl 3 rfl) ?_
      refine lv_iload_n hx hb dX5_firstRest_3 rfl (lv_at hl 1 rfl) ?_
      refine lv_icmp_ge (tgt := 48) hx hb dX5_firstRest_4 (by decide) (fun q => ?_) (fun q => ?_)
      · have hf := if_t q hf
        refine lv_bipush (v := -2) hx hb dX5_firstRest_48 (by decide) ?_
        obtain rfl := ev1 hf
        exact x_iret C hr hlk hP hD hS dX5_firstRest_50
      · have hf := if_f q hf
        refine lv_iconst (v := 0) hx hb dX5_firstRest_7 (by decide) ?_
        refine lv_istore (lv' := [(4, .int (0 : Int32)), (0, .ref A_t), (1, .int a1), (2, .int a2), (3, .int l3)]) hx hb dX5_firstRest_8 hl (by decide) rfl (fun ls hl => ?_)
        exact hb_10 FU l3 (0 : Int32) _ _ ls (lv_sub hl [1, 2, 3, 4, 0] rfl) hP hD hS hf
  refine lv_iconst (v := 0) hx hb dX5_firstRest_0 (by decide) ?_
  refine lv_istore_n (lv' := [(3, .int (0 : Int32)), (0, .ref A_t), (1, .int a1), (2, .int a2)]) hx hb dX5_firstRest_1 rfl hl (by decide) rfl (fun ls hl => ?_)
  exact hb_2 FU (0 : Int32) _ _ ls (lv_sub hl [1, 2, 3, 0] rfl) hP hD hS hf
def f_X5_isLeftFor_b46 (s0 : Int32) : Option (Int32) :=
  zI s0 (some s0)
def f_X5_isLeftFor_b45 : Option (Int32) :=
  f_X5_isLeftFor_b46 (0 : Int32)
def f_X5_isLeftFor (v_t_tape_bytes : (Nat → Int32)) (x_t_tape_size : Int32) (a1 : Int32) (a2 : Int32) : Option (Int32) :=
  bd1 (f_X5_forOne v_t_tape_bytes x_t_tape_size a2) (fun r1 =>
  bd1 (f_X5_forOne v_t_tape_bytes x_t_tape_size a1) (fun r2 =>
  bd1 (f_X5_forOther v_t_tape_bytes x_t_tape_size a2) (fun r3 =>
  bd1 (f_X5_forOther v_t_tape_bytes x_t_tape_size a1) (fun r4 =>
  if (r1 - r2) < 0 then
    f_X5_isLeftFor_b45
  else
    if (r3 - r4) < 0 then
      f_X5_isLeftFor_b45
    else
      if ((r1 - r2) + (r3 - r4)) ≤ 0 then
        f_X5_isLeftFor_b45
      else
        f_X5_isLeftFor_b46 (1 : Int32)))))
set_option maxHeartbeats 4000000 in
set_option maxRecDepth 100000 in
theorem c_X5_isLeftFor {l : Launch} {D : va_G} {cI cB : ClassId} {A_t A_t_tape A_t_borne A_t_tape_bytes : Nat} {x_t_bottles x_t_tape_size x_t_tape_end x_t_tape_place x_t_tape_fault a1 a2 : Int32} {v_t_tape_bytes : Nat → Int32} {o_r : Int32} (hf : f_X5_isLeftFor v_t_tape_bytes x_t_tape_size a1 a2 = some o_r) : CtI l D cI cB yX5_isLeftFor cX5_isLeftFor 5 (some .boolean) 2 42 [.ref A_t, .int a1, .int a2] [oX5 A_t A_t_tape A_t_borne x_t_bottles, oX9 A_t_tape A_t_tape_bytes x_t_tape_size x_t_tape_end x_t_tape_place x_t_tape_fault, iA cI 260 A_t_tape_bytes v_t_tape_bytes] [oX5 A_t A_t_tape A_t_borne x_t_bottles, oX9 A_t_tape A_t_tape_bytes x_t_tape_size x_t_tape_end x_t_tape_place x_t_tape_fault, iA cI 260 A_t_tape_bytes v_t_tape_bytes] o_r := by
  refine x_startI (by decide) (Nat.le_of_ble_eq_true rfl) ?_
  intro p e s m below meth c A C hr hlk hA hK hP hD hS ls hl
  have hl : lv_has ls 5 [(0, .ref A_t), (1, .int a1), (2, .int a2)] := hl
  have hx := C.1
  have hb := C.2.1
  unfold f_X5_isLeftFor at hf
  have hb_46 : ∀ (s0 : Int32) (H : Heap) (locs : List Loc) (ls : Array Slot), lv_has ls 5 [] → va_P D vwCl [oX5 A_t A_t_tape A_t_borne x_t_bottles, oX9 A_t_tape A_t_tape_bytes x_t_tape_size x_t_tape_end x_t_tape_place x_t_tape_fault, iA cI 260 A_t_tape_bytes v_t_tape_bytes] H → va_D A [oX5 A_t A_t_tape A_t_borne x_t_bottles, oX9 A_t_tape A_t_tape_bytes x_t_tape_size x_t_tape_end x_t_tape_place x_t_tape_fault, iA cI 260 A_t_tape_bytes v_t_tape_bytes] → va_S A s.heap H locs → f_X5_isLeftFor_b46 s0 = some o_r → W p l e { frames := 2, cells := 0, slots := 0, locals := 42 } s m ([.ref A_t, .int a1, .int a2] : List Value).toArray below meth c H locs 0 0 (MQ below (PoI D A [oX5 A_t A_t_tape A_t_borne x_t_bottles, oX9 A_t_tape A_t_tape_bytes x_t_tape_size x_t_tape_end x_t_tape_place x_t_tape_fault, iA cI 260 A_t_tape_bytes v_t_tape_bytes] o_r) ([.ref A_t, .int a1, .int a2] : List Value).toArray s 0 0 A) (F0 m 46 ls [.int s0]) := by
    intro s0 H locs ls hl hP hD hS hf
    unfold f_X5_isLeftFor_b46 at hf
    obtain ⟨hz, hf⟩ := zI_e hf
    obtain rfl := ev1 hf
    exact x_zret C hr hlk hz hP hD hS dX5_isLeftFor_46
  have hb_45 : ∀ (H : Heap) (locs : List Loc) (ls : Array Slot), lv_has ls 5 [] → va_P D vwCl [oX5 A_t A_t_tape A_t_borne x_t_bottles, oX9 A_t_tape A_t_tape_bytes x_t_tape_size x_t_tape_end x_t_tape_place x_t_tape_fault, iA cI 260 A_t_tape_bytes v_t_tape_bytes] H → va_D A [oX5 A_t A_t_tape A_t_borne x_t_bottles, oX9 A_t_tape A_t_tape_bytes x_t_tape_size x_t_tape_end x_t_tape_place x_t_tape_fault, iA cI 260 A_t_tape_bytes v_t_tape_bytes] → va_S A s.heap H locs → f_X5_isLeftFor_b45 = some o_r → W p l e { frames := 2, cells := 0, slots := 0, locals := 42 } s m ([.ref A_t, .int a1, .int a2] : List Value).toArray below meth c H locs 0 0 (MQ below (PoI D A [oX5 A_t A_t_tape A_t_borne x_t_bottles, oX9 A_t_tape A_t_tape_bytes x_t_tape_size x_t_tape_end x_t_tape_place x_t_tape_fault, iA cI 260 A_t_tape_bytes v_t_tape_bytes] o_r) ([.ref A_t, .int a1, .int a2] : List Value).toArray s 0 0 A) (F0 m 45 ls []) := by
    intro H locs ls hl hP hD hS hf
    unfold f_X5_isLeftFor_b45 at hf
    refine lv_iconst (v := 0) hx hb dX5_isLeftFor_45 (by decide) ?_
    exact hb_46 (0 : Int32) _ _ ls (lv_sub hl [] rfl) hP hD hS hf
  refine lv_aload_n hx hb dX5_isLeftFor_0 rfl (lv_at hl 0 rfl) ?_
  refine lv_iload_n hx hb dX5_isLeftFor_1 rfl (lv_at hl 2 rfl) ?_
  obtain ⟨r1, hc2, hf⟩ := bd1_e hf
  refine x_callVI (ws' := [oX5 A_t A_t_tape A_t_borne x_t_bottles, oX9 A_t_tape A_t_tape_bytes x_t_tape_size x_t_tape_end x_t_tape_place x_t_tape_fault, iA cI 260 A_t_tape_bytes v_t_tape_bytes]) (rest := []) C hK hP hD hS hA hl mf_X5_44 (c_X5_forOne hc2) [0, 1, 2] 0 5 rfl rfl rfl rfl rfl rfl rfl rfl rfl rfl (Nat.le_of_ble_eq_true rfl) ⟨Nat.le_of_ble_eq_true rfl, Nat.le_of_ble_eq_true rfl⟩ ⟨Nat.le_refl _, Nat.le_refl _⟩ dX5_isLeftFor_2 ?_
  intro H locs hP hD hS
  refine lv_aload_n hx hb dX5_isLeftFor_5 rfl (lv_at hl 0 rfl) ?_
  refine lv_iload_n hx hb dX5_isLeftFor_6 rfl (lv_at hl 1 rfl) ?_
  obtain ⟨r3, hc4, hf⟩ := bd1_e hf
  refine x_callVI (ws' := [oX5 A_t A_t_tape A_t_borne x_t_bottles, oX9 A_t_tape A_t_tape_bytes x_t_tape_size x_t_tape_end x_t_tape_place x_t_tape_fault, iA cI 260 A_t_tape_bytes v_t_tape_bytes]) (rest := [.int r1]) C hK hP hD hS hA hl mf_X5_44 (c_X5_forOne hc4) [0, 1, 2] 0 5 rfl rfl rfl rfl rfl rfl rfl rfl rfl rfl (Nat.le_of_ble_eq_true rfl) ⟨Nat.le_of_ble_eq_true rfl, Nat.le_of_ble_eq_true rfl⟩ ⟨Nat.le_refl _, Nat.le_refl _⟩ dX5_isLeftFor_7 ?_
  intro H locs hP hD hS
  refine lv_isub hx hb dX5_isLeftFor_10 ?_
  refine lv_istore_n (lv' := [(3, .int (r1 - r3)), (0, .ref A_t), (1, .int a1), (2, .int a2)]) hx hb dX5_isLeftFor_11 rfl hl (by decide) rfl (fun ls hl => ?_)
  refine lv_aload_n hx hb dX5_isLeftFor_12 rfl (lv_at hl 1 rfl) ?_
  refine lv_iload_n hx hb dX5_isLeftFor_13 rfl (lv_at hl 3 rfl) ?_
  obtain ⟨r5, hc6, hf⟩ := bd1_e hf
  refine x_callVI (ws' := [oX5 A_t A_t_tape A_t_borne x_t_bottles, oX9 A_t_tape A_t_tape_bytes x_t_tape_size x_t_tape_end x_t_tape_place x_t_tape_fault, iA cI 260 A_t_tape_bytes v_t_tape_bytes]) (rest := []) C hK hP hD hS hA hl mf_X5_47 (c_X5_forOther hc6) [0, 1, 2] 0 5 rfl rfl rfl rfl rfl rfl rfl rfl rfl rfl (Nat.le_of_ble_eq_true rfl) ⟨Nat.le_of_ble_eq_true rfl, Nat.le_of_ble_eq_true rfl⟩ ⟨Nat.le_refl _, Nat.le_refl _⟩ dX5_isLeftFor_14 ?_
  intro H locs hP hD hS
  refine lv_aload_n hx hb dX5_isLeftFor_17 rfl (lv_at hl 1 rfl) ?_
  refine lv_iload_n hx hb dX5_isLeftFor_18 rfl (lv_at hl 2 rfl) ?_
  obtain ⟨r7, hc8, hf⟩ := bd1_e hf
  refine x_callVI (ws' := [oX5 A_t A_t_tape A_t_borne x_t_bottles, oX9 A_t_tape A_t_tape_bytes x_t_tape_size x_t_tape_end x_t_tape_place x_t_tape_fault, iA cI 260 A_t_tape_bytes v_t_tape_bytes]) (rest := [.int r5]) C hK hP hD hS hA hl mf_X5_47 (c_X5_forOther hc8) [0, 1, 2] 0 5 rfl rfl rfl rfl rfl rfl rfl rfl rfl rfl (Nat.le_of_ble_eq_true rfl) ⟨Nat.le_of_ble_eq_true rfl, Nat.le_of_ble_eq_true rfl⟩ ⟨Nat.le_refl _, Nat.le_refl _⟩ dX5_isLeftFor_19 ?_
  intro H locs hP hD hS
  refine lv_isub hx hb dX5_isLeftFor_22 ?_
  refine lv_istore (lv' := [(4, .int (r5 - r7)), (3, .int (r1 - r3)), (0, .ref A_t), (1, .int a1), (2, .int a2)]) hx hb dX5_isLeftFor_23 hl (by decide) rfl (fun ls hl => ?_)
  refine lv_iload_n hx hb dX5_isLeftFor_25 rfl (lv_at hl 1 rfl) ?_
  refine lv_if_lt (tgt := 45) hx hb dX5_isLeftFor_26 (by decide) (fun q => ?_) (fun q => ?_)
  · have hf := if_t q hf
    exact hb_45 _ _ ls (lv_sub hl [] rfl) hP hD hS hf
  · have hf := if_f q hf
    refine lv_iload hx hb dX5_isLeftFor_29 (lv_at hl 0 rfl) ?_
    refine lv_if_lt (tgt := 45) hx hb dX5_isLeftFor_31 (by decide) (fun q => ?_) (fun q => ?_)
    · have hf := if_t q hf
      exact hb_45 _ _ ls (lv_sub hl [] rfl) hP hD hS hf
    · have hf := if_f q hf
      refine lv_iload_n hx hb dX5_isLeftFor_34 rfl (lv_at hl 1 rfl) ?_
      refine lv_iload hx hb dX5_isLeftFor_35 (lv_at hl 0 rfl) ?_
      refine lv_iadd hx hb dX5_isLeftFor_37 ?_
      refine lv_if_le (tgt := 45) hx hb dX5_isLeftFor_38 (by decide) (fun q => ?_) (fun q => ?_)
      · have hf := if_t q hf
        exact hb_45 _ _ ls (lv_sub hl [] rfl) hP hD hS hf
      · have hf := if_f q hf
        refine lv_iconst (v := 1) hx hb dX5_isLeftFor_41 (by decide) ?_
        refine lv_goto (tgt := 46) hx hb dX5_isLeftFor_42 (by decide) ?_
        exact hb_46 (1 : Int32) _ _ ls (lv_sub hl [] rfl) hP hD hS hf
def f_X5_bargains_b41 (a1 : Int32) (k4 : Int32 → Int32 → Option (Int32)) (k15 : Int32 → Int32 → Int32 → Int32 → Option (Int32)) (s0 : Int32) (l2 : Int32) (l3 : Int32) (l5 : Int32) : Option (Int32) :=
  k15 l2 l3 s0 (l5 + (1 : Int32))
def f_X5_bargains_b36 (a1 : Int32) (k4 : Int32 → Int32 → Option (Int32)) (k15 : Int32 → Int32 → Int32 → Int32 → Option (Int32)) (l2 : Int32) (l3 : Int32) (l5 : Int32) : Option (Int32) :=
  f_X5_bargains_b41 a1 k4 k15 (1 : Int32) l2 l3 l5
def f_X5_bargains_b60 (a1 : Int32) (k4 : Int32 → Int32 → Option (Int32)) (s0 : Int32) (s1 : Int32) (l3 : Int32) : Option (Int32) :=
  k4 (s0 + s1) (l3 + (1 : Int32))
def f_X5_bargains_b15 (v_t_tape_bytes : (Nat → Int32)) (x_t_tape_size : Int32) (a1 : Int32) (k4 : Int32 → Int32 → Option (Int32)) : Nat → Int32 → Int32 → Int32 → Int32 → Option (Int32)
  | 0, _, _, _, _ => none
  | n + 1, l2, l3, l4, l5 =>
    if a1 ≤ l5 then
      if l4 = 0 then
        f_X5_bargains_b60 a1 k4 l2 (1 : Int32) l3
      else
        f_X5_bargains_b60 a1 k4 l2 (0 : Int32) l3
    else
      if l4 = 0 then
        bd1 (f_X5_isLeftFor v_t_tape_bytes x_t_tape_size l3 l5) (fun r1 =>
        if r1 = 0 then
          f_X5_bargains_b41 a1 k4 (f_X5_bargains_b15 v_t_tape_bytes x_t_tape_size a1 k4 n) (0 : Int32) l2 l3 l5
        else
          f_X5_bargains_b36 a1 k4 (f_X5_bargains_b15 v_t_tape_bytes x_t_tape_size a1 k4 n) l2 l3 l5)
      else
        f_X5_bargains_b36 a1 k4 (f_X5_bargains_b15 v_t_tape_bytes x_t_tape_size a1 k4 n) l2 l3 l5
def f_X5_bargains_b4 (v_t_tape_bytes : (Nat → Int32)) (x_t_tape_size : Int32) (a1 : Int32) : Nat → Int32 → Int32 → Option (Int32)
  | 0, _, _ => none
  | n + 1, l2, l3 =>
    if a1 ≤ l3 then
      some l2
    else
      f_X5_bargains_b15 v_t_tape_bytes x_t_tape_size a1 (f_X5_bargains_b4 v_t_tape_bytes x_t_tape_size a1 n) FU l2 l3 (0 : Int32) (0 : Int32)
def f_X5_bargains (v_t_tape_bytes : (Nat → Int32)) (x_t_tape_size : Int32) (a1 : Int32) : Option (Int32) :=
  f_X5_bargains_b4 v_t_tape_bytes x_t_tape_size a1 FU (0 : Int32) (0 : Int32)
set_option maxHeartbeats 4000000 in
set_option maxRecDepth 100000 in
theorem c_X5_bargains {l : Launch} {D : va_G} {cI cB : ClassId} {A_t A_t_tape A_t_borne A_t_tape_bytes : Nat} {x_t_bottles x_t_tape_size x_t_tape_end x_t_tape_place x_t_tape_fault a1 : Int32} {v_t_tape_bytes : Nat → Int32} {o_r : Int32} (hf : f_X5_bargains v_t_tape_bytes x_t_tape_size a1 = some o_r) : CtI l D cI cB yX5_bargains cX5_bargains 6 (some .int) 3 66 [.ref A_t, .int a1] [oX5 A_t A_t_tape A_t_borne x_t_bottles, oX9 A_t_tape A_t_tape_bytes x_t_tape_size x_t_tape_end x_t_tape_place x_t_tape_fault, iA cI 260 A_t_tape_bytes v_t_tape_bytes] [oX5 A_t A_t_tape A_t_borne x_t_bottles, oX9 A_t_tape A_t_tape_bytes x_t_tape_size x_t_tape_end x_t_tape_place x_t_tape_fault, iA cI 260 A_t_tape_bytes v_t_tape_bytes] o_r := by
  refine x_startI (by decide) (Nat.le_of_ble_eq_true rfl) ?_
  intro p e s m below meth c A C hr hlk hA hK hP hD hS ls hl
  have hl : lv_has ls 6 [(0, .ref A_t), (1, .int a1)] := hl
  have hx := C.1
  have hb := C.2.1
  unfold f_X5_bargains at hf
  have hb_4 : ∀ (n_4 : Nat) (l2 : Int32) (l3 : Int32) (H : Heap) (locs : List Loc) (ls : Array Slot), lv_has ls 6 [(0, .ref A_t), (1, .int a1), (2, .int l2), (3, .int l3)] → va_P D vwCl [oX5 A_t A_t_tape A_t_borne x_t_bottles, oX9 A_t_tape A_t_tape_bytes x_t_tape_size x_t_tape_end x_t_tape_place x_t_tape_fault, iA cI 260 A_t_tape_bytes v_t_tape_bytes] H → va_D A [oX5 A_t A_t_tape A_t_borne x_t_bottles, oX9 A_t_tape A_t_tape_bytes x_t_tape_size x_t_tape_end x_t_tape_place x_t_tape_fault, iA cI 260 A_t_tape_bytes v_t_tape_bytes] → va_S A s.heap H locs → f_X5_bargains_b4 v_t_tape_bytes x_t_tape_size a1 n_4 l2 l3 = some o_r → W p l e { frames := 3, cells := 0, slots := 0, locals := 66 } s m ([.ref A_t, .int a1] : List Value).toArray below meth c H locs 0 0 (MQ below (PoI D A [oX5 A_t A_t_tape A_t_borne x_t_bottles, oX9 A_t_tape A_t_tape_bytes x_t_tape_size x_t_tape_end x_t_tape_place x_t_tape_fault, iA cI 260 A_t_tape_bytes v_t_tape_bytes] o_r) ([.ref A_t, .int a1] : List Value).toArray s 0 0 A) (F0 m 4 ls []) := by
    intro n_4
    induction n_4 with
    | zero =>
      intro l2 l3 H locs ls hl hP hD hS hf
      exact absurd hf (fun h => by rw [f_X5_bargains_b4] at h; cases h)
    | succ n_4 ih_4 =>
      have hb_60 : ∀ (s0 : Int32) (s1 : Int32) (l3 : Int32) (H : Heap) (locs : List Loc) (ls : Array Slot), lv_has ls 6 [(0, .ref A_t), (1, .int a1), (3, .int l3)] → va_P D vwCl [oX5 A_t A_t_tape A_t_borne x_t_bottles, oX9 A_t_tape A_t_tape_bytes x_t_tape_size x_t_tape_end x_t_tape_place x_t_tape_fault, iA cI 260 A_t_tape_bytes v_t_tape_bytes] H → va_D A [oX5 A_t A_t_tape A_t_borne x_t_bottles, oX9 A_t_tape A_t_tape_bytes x_t_tape_size x_t_tape_end x_t_tape_place x_t_tape_fault, iA cI 260 A_t_tape_bytes v_t_tape_bytes] → va_S A s.heap H locs → f_X5_bargains_b60 a1 (f_X5_bargains_b4 v_t_tape_bytes x_t_tape_size a1 n_4) s0 s1 l3 = some o_r → W p l e { frames := 3, cells := 0, slots := 0, locals := 66 } s m ([.ref A_t, .int a1] : List Value).toArray below meth c H locs 0 0 (MQ below (PoI D A [oX5 A_t A_t_tape A_t_borne x_t_bottles, oX9 A_t_tape A_t_tape_bytes x_t_tape_size x_t_tape_end x_t_tape_place x_t_tape_fault, iA cI 260 A_t_tape_bytes v_t_tape_bytes] o_r) ([.ref A_t, .int a1] : List Value).toArray s 0 0 A) (F0 m 60 ls [.int s1, .int s0]) := by
        intro s0 s1 l3 H locs ls hl hP hD hS hf
        unfold f_X5_bargains_b60 at hf
        refine lv_iadd hx hb dX5_bargains_60 ?_
        refine lv_istore_n (lv' := [(2, .int (s0 + s1)), (0, .ref A_t), (1, .int a1), (3, .int l3)]) hx hb dX5_bargains_61 rfl hl (by decide) rfl (fun ls hl => ?_)
        refine lv_iinc (v := (l3 + (1 : Int32))) (lv' := [(3, .int (l3 + (1 : Int32))), (2, .int (s0 + s1)), (0, .ref A_t), (1, .int a1)]) hx hb dX5_bargains_62 hl (k := 3) rfl rfl (by decide) rfl (fun ls hl => ?_)
        refine lv_goto (tgt := 4) hx hb dX5_bargains_65 (by decide) ?_
        exact ih_4 (s0 + s1) (l3 + (1 : Int32)) _ _ ls (lv_sub hl [2, 3, 1, 0] rfl) hP hD hS hf
      have hb_15 : ∀ (n_15 : Nat) (l2 : Int32) (l3 : Int32) (l4 : Int32) (l5 : Int32) (H : Heap) (locs : List Loc) (ls : Array Slot), lv_has ls 6 [(0, .ref A_t), (1, .int a1), (2, .int l2), (3, .int l3), (4, .int l4), (5, .int l5)] → va_P D vwCl [oX5 A_t A_t_tape A_t_borne x_t_bottles, oX9 A_t_tape A_t_tape_bytes x_t_tape_size x_t_tape_end x_t_tape_place x_t_tape_fault, iA cI 260 A_t_tape_bytes v_t_tape_bytes] H → va_D A [oX5 A_t A_t_tape A_t_borne x_t_bottles, oX9 A_t_tape A_t_tape_bytes x_t_tape_size x_t_tape_end x_t_tape_place x_t_tape_fault, iA cI 260 A_t_tape_bytes v_t_tape_bytes] → va_S A s.heap H locs → f_X5_bargains_b15 v_t_tape_bytes x_t_tape_size a1 (f_X5_bargains_b4 v_t_tape_bytes x_t_tape_size a1 n_4) n_15 l2 l3 l4 l5 = some o_r → W p l e { frames := 3, cells := 0, slots := 0, locals := 66 } s m ([.ref A_t, .int a1] : List Value).toArray below meth c H locs 0 0 (MQ below (PoI D A [oX5 A_t A_t_tape A_t_borne x_t_bottles, oX9 A_t_tape A_t_tape_bytes x_t_tape_size x_t_tape_end x_t_tape_place x_t_tape_fault, iA cI 260 A_t_tape_bytes v_t_tape_bytes] o_r) ([.ref A_t, .int a1] : List Value).toArray s 0 0 A) (F0 m 15 ls []) := by
        intro n_15
        induction n_15 with
        | zero =>
          intro l2 l3 l4 l5 H locs ls hl hP hD hS hf
          exact absurd hf (fun h => by rw [f_X5_bargains_b15] at h; cases h)
        | succ n_15 ih_15 =>
          have hb_41 : ∀ (s0 : Int32) (l2 : Int32) (l3 : Int32) (l5 : Int32) (H : Heap) (locs : List Loc) (ls : Array Slot), lv_has ls 6 [(0, .ref A_t), (1, .int a1), (2, .int l2), (3, .int l3), (5, .int l5)] → va_P D vwCl [oX5 A_t A_t_tape A_t_borne x_t_bottles, oX9 A_t_tape A_t_tape_bytes x_t_tape_size x_t_tape_end x_t_tape_place x_t_tape_fault, iA cI 260 A_t_tape_bytes v_t_tape_bytes] H → va_D A [oX5 A_t A_t_tape A_t_borne x_t_bottles, oX9 A_t_tape A_t_tape_bytes x_t_tape_size x_t_tape_end x_t_tape_place x_t_tape_fault, iA cI 260 A_t_tape_bytes v_t_tape_bytes] → va_S A s.heap H locs → f_X5_bargains_b41 a1 (f_X5_bargains_b4 v_t_tape_bytes x_t_tape_size a1 n_4) (f_X5_bargains_b15 v_t_tape_bytes x_t_tape_size a1 (f_X5_bargains_b4 v_t_tape_bytes x_t_tape_size a1 n_4) n_15) s0 l2 l3 l5 = some o_r → W p l e { frames := 3, cells := 0, slots := 0, locals := 66 } s m ([.ref A_t, .int a1] : List Value).toArray below meth c H locs 0 0 (MQ below (PoI D A [oX5 A_t A_t_tape A_t_borne x_t_bottles, oX9 A_t_tape A_t_tape_bytes x_t_tape_size x_t_tape_end x_t_tape_place x_t_tape_fault, iA cI 260 A_t_tape_bytes v_t_tape_bytes] o_r) ([.ref A_t, .int a1] : List Value).toArray s 0 0 A) (F0 m 41 ls [.int s0]) := by
            intro s0 l2 l3 l5 H locs ls hl hP hD hS hf
            unfold f_X5_bargains_b41 at hf
            refine lv_istore (lv' := [(4, .int s0), (0, .ref A_t), (1, .int a1), (2, .int l2), (3, .int l3), (5, .int l5)]) hx hb dX5_bargains_41 hl (by decide) rfl (fun ls hl => ?_)
            refine lv_iinc (v := (l5 + (1 : Int32))) (lv' := [(5, .int (l5 + (1 : Int32))), (4, .int s0), (0, .ref A_t), (1, .int a1), (2, .int l2), (3, .int l3)]) hx hb dX5_bargains_43 hl (k := 5) rfl rfl (by decide) rfl (fun ls hl => ?_)
            refine lv_goto (tgt := 15) hx hb dX5_bargains_46 (by decide) ?_
            exact ih_15 l2 l3 s0 (l5 + (1 : Int32)) _ _ ls (lv_sub hl [2, 3, 4, 5, 1, 0] rfl) hP hD hS hf
          have hb_36 : ∀ (l2 : Int32) (l3 : Int32) (l5 : Int32) (H : Heap) (locs : List Loc) (ls : Array Slot), lv_has ls 6 [(0, .ref A_t), (1, .int a1), (2, .int l2), (3, .int l3), (5, .int l5)] → va_P D vwCl [oX5 A_t A_t_tape A_t_borne x_t_bottles, oX9 A_t_tape A_t_tape_bytes x_t_tape_size x_t_tape_end x_t_tape_place x_t_tape_fault, iA cI 260 A_t_tape_bytes v_t_tape_bytes] H → va_D A [oX5 A_t A_t_tape A_t_borne x_t_bottles, oX9 A_t_tape A_t_tape_bytes x_t_tape_size x_t_tape_end x_t_tape_place x_t_tape_fault, iA cI 260 A_t_tape_bytes v_t_tape_bytes] → va_S A s.heap H locs → f_X5_bargains_b36 a1 (f_X5_bargains_b4 v_t_tape_bytes x_t_tape_size a1 n_4) (f_X5_bargains_b15 v_t_tape_bytes x_t_tape_size a1 (f_X5_bargains_b4 v_t_tape_bytes x_t_tape_size a1 n_4) n_15) l2 l3 l5 = some o_r → W p l e { frames := 3, cells := 0, slots := 0, locals := 66 } s m ([.ref A_t, .int a1] : List Value).toArray below meth c H locs 0 0 (MQ below (PoI D A [oX5 A_t A_t_tape A_t_borne x_t_bottles, oX9 A_t_tape A_t_tape_bytes x_t_tape_size x_t_tape_end x_t_tape_place x_t_tape_fault, iA cI 260 A_t_tape_bytes v_t_tape_bytes] o_r) ([.ref A_t, .int a1] : List Value).toArray s 0 0 A) (F0 m 36 ls []) := by
            intro l2 l3 l5 H locs ls hl hP hD hS hf
            unfold f_X5_bargains_b36 at hf
            refine lv_iconst (v := 1) hx hb dX5_bargains_36 (by decide) ?_
            refine lv_goto (tgt := 41) hx hb dX5_bargains_37 (by decide) ?_
            exact hb_41 (1 : Int32) l2 l3 l5 _ _ ls (lv_sub hl [0, 1, 2, 3, 4] rfl) hP hD hS hf
          intro l2 l3 l4 l5 H locs ls hl hP hD hS hf
          rw [f_X5_bargains_b15] at hf
          refine lv_iload hx hb dX5_bargains_15 (lv_at hl 5 rfl) ?_
          refine lv_iload_n hx hb dX5_bargains_17 rfl (lv_at hl 1 rfl) ?_
          refine lv_icmp_ge (tgt := 49) hx hb dX5_bargains_18 (by decide) (fun q => ?_) (fun q => ?_)
          · have hf := if_t q hf
            refine lv_iload_n hx hb dX5_bargains_49 rfl (lv_at hl 2 rfl) ?_
            refine lv_iload hx hb dX5_bargains_50 (lv_at hl 4 rfl) ?_
            refine lv_if_eq (tgt := 59) hx hb dX5_bargains_52 (by decide) (fun q => ?_) (fun q => ?_)
            · have hf := if_t q hf
              refine lv_iconst (v := 1) hx hb dX5_bargains_59 (by decide) ?_
              exact hb_60 l2 (1 : Int32) l3 _ _ ls (lv_sub hl [0, 1, 3] rfl) hP hD hS hf
            · have hf := if_f q hf
              refine lv_iconst (v := 0) hx hb dX5_bargains_55 (by decide) ?_
              refine lv_goto (tgt := 60) hx hb dX5_bargains_56 (by decide) ?_
              exact hb_60 l2 (0 : Int32) l3 _ _ ls (lv_sub hl [0, 1, 3] rfl) hP hD hS hf
          · have hf := if_f q hf
            refine lv_iload hx hb dX5_bargains_21 (lv_at hl 4 rfl) ?_
            refine lv_if_ne (tgt := 36) hx hb dX5_bargains_23 (by decide) (fun q => ?_) (fun q => ?_)
            · have hf := if_f q hf
              exact hb_36 l2 l3 l5 _ _ ls (lv_sub hl [0, 1, 2, 3, 5] rfl) hP hD hS hf
            · have hf := if_t q hf
              refine lv_aload_n hx hb dX5_bargains_26 rfl (lv_at hl 0 rfl) ?_
              refine lv_iload_n hx hb dX5_bargains_27 rfl (lv_at hl 3 rfl) ?_
              refine lv_iload hx hb dX5_bargains_28 (lv_at hl 5 rfl) ?_
              obtain ⟨r1, hc2, hf⟩ := bd1_e hf
              refine x_callVI (ws' := [oX5 A_t A_t_tape A_t_borne x_t_bottles, oX9 A_t_tape A_t_tape_bytes x_t_tape_size x_t_tape_end x_t_tape_place x_t_tape_fault, iA cI 260 A_t_tape_bytes v_t_tape_bytes]) (rest := []) C hK hP hD hS hA hl mf_X5_50 (c_X5_isLeftFor hc2) [0, 1, 2] 0 5 rfl rfl rfl rfl rfl rfl rfl rfl rfl rfl (Nat.le_of_ble_eq_true rfl) ⟨Nat.le_of_ble_eq_true rfl, Nat.le_of_ble_eq_true rfl⟩ ⟨Nat.le_refl _, Nat.le_refl _⟩ dX5_bargains_30 ?_
              intro H locs hP hD hS
              refine lv_if_eq (tgt := 40) hx hb dX5_bargains_33 (by decide) (fun q => ?_) (fun q => ?_)
              · have hf := if_t q hf
                refine lv_iconst (v := 0) hx hb dX5_bargains_40 (by decide) ?_
                exact hb_41 (0 : Int32) l2 l3 l5 _ _ ls (lv_sub hl [0, 1, 2, 3, 5] rfl) hP hD hS hf
              · have hf := if_f q hf
                exact hb_36 l2 l3 l5 _ _ ls (lv_sub hl [0, 1, 2, 3, 5] rfl) hP hD hS hf
      intro l2 l3 H locs ls hl hP hD hS hf
      rw [f_X5_bargains_b4] at hf
      refine lv_iload_n hx hb dX5_bargains_4 rfl (lv_at hl 3 rfl) ?_
      refine lv_iload_n hx hb dX5_bargains_5 rfl (lv_at hl 1 rfl) ?_
      refine lv_icmp_ge (tgt := 68) hx hb dX5_bargains_6 (by decide) (fun q => ?_) (fun q => ?_)
      · have hf := if_t q hf
        refine lv_iload_n hx hb dX5_bargains_68 rfl (lv_at hl 2 rfl) ?_
        obtain rfl := ev1 hf
        exact x_iret C hr hlk hP hD hS dX5_bargains_69
      · have hf := if_f q hf
        refine lv_iconst (v := 0) hx hb dX5_bargains_9 (by decide) ?_
        refine lv_istore (lv' := [(4, .int (0 : Int32)), (0, .ref A_t), (1, .int a1), (2, .int l2), (3, .int l3)]) hx hb dX5_bargains_10 hl (by decide) rfl (fun ls hl => ?_)
        refine lv_iconst (v := 0) hx hb dX5_bargains_12 (by decide) ?_
        refine lv_istore (lv' := [(5, .int (0 : Int32)), (4, .int (0 : Int32)), (0, .ref A_t), (1, .int a1), (2, .int l2), (3, .int l3)]) hx hb dX5_bargains_13 hl (by decide) rfl (fun ls hl => ?_)
        exact hb_15 FU l2 l3 (0 : Int32) (0 : Int32) _ _ ls (lv_sub hl [2, 3, 4, 5, 1, 0] rfl) hP hD hS hf
  refine lv_iconst (v := 0) hx hb dX5_bargains_0 (by decide) ?_
  refine lv_istore_n (lv' := [(2, .int (0 : Int32)), (0, .ref A_t), (1, .int a1)]) hx hb dX5_bargains_1 rfl hl (by decide) rfl (fun ls hl => ?_)
  refine lv_iconst (v := 0) hx hb dX5_bargains_2 (by decide) ?_
  refine lv_istore_n (lv' := [(3, .int (0 : Int32)), (2, .int (0 : Int32)), (0, .ref A_t), (1, .int a1)]) hx hb dX5_bargains_3 rfl hl (by decide) rfl (fun ls hl => ?_)
  exact hb_4 FU (0 : Int32) (0 : Int32) _ _ ls (lv_sub hl [2, 3, 1, 0] rfl) hP hD hS hf
def f_X5_commonDivisor_b34 (l2 : Int32) : Option (Int32) :=
  some l2
def f_X5_commonDivisor_b7 : Nat → Int32 → Int32 → Int32 → Option (Int32)
  | 0, _, _, _ => none
  | n + 1, l2, l3, l4 =>
    if (100 : Int32) ≤ l4 then
      f_X5_commonDivisor_b34 l2
    else
      if l3 = 0 then
        f_X5_commonDivisor_b34 l2
      else
        rI l2 l3 (fun g1 =>
        f_X5_commonDivisor_b7 n l3 g1 (l4 + (1 : Int32)))
def f_X5_commonDivisor (a0 : Int32) (a1 : Int32) : Option (Int32) :=
  f_X5_commonDivisor_b7 FU a0 a1 (0 : Int32)
set_option maxHeartbeats 4000000 in
set_option maxRecDepth 100000 in
theorem c_X5_commonDivisor {l : Launch} {D : va_G} {cI cB : ClassId} {a0 a1 : Int32} {o_r : Int32} (hf : f_X5_commonDivisor a0 a1 = some o_r) : CtI l D cI cB yX5_commonDivisor cX5_commonDivisor 6 (some .int) 0 0 [.int a0, .int a1] [] [] o_r := by
  refine x_startI (by decide) (Nat.le_of_ble_eq_true rfl) ?_
  intro p e s m below meth c A C hr hlk hA hK hP hD hS ls hl
  have hl : lv_has ls 6 [(0, .int a0), (1, .int a1)] := hl
  have hx := C.1
  have hb := C.2.1
  unfold f_X5_commonDivisor at hf
  have hb_34 : ∀ (l2 : Int32) (H : Heap) (locs : List Loc) (ls : Array Slot), lv_has ls 6 [(2, .int l2)] → va_P D vwCl [] H → va_D A [] → va_S A s.heap H locs → f_X5_commonDivisor_b34 l2 = some o_r → W p l e { frames := 0, cells := 0, slots := 0, locals := 0 } s m ([.int a0, .int a1] : List Value).toArray below meth c H locs 0 0 (MQ below (PoI D A [] o_r) ([.int a0, .int a1] : List Value).toArray s 0 0 A) (F0 m 34 ls []) := by
    intro l2 H locs ls hl hP hD hS hf
    unfold f_X5_commonDivisor_b34 at hf
    refine lv_iload_n hx hb dX5_commonDivisor_34 rfl (lv_at hl 0 rfl) ?_
    obtain rfl := ev1 hf
    exact x_iret C hr hlk hP hD hS dX5_commonDivisor_35
  have hb_7 : ∀ (n_7 : Nat) (l2 : Int32) (l3 : Int32) (l4 : Int32) (H : Heap) (locs : List Loc) (ls : Array Slot), lv_has ls 6 [(2, .int l2), (3, .int l3), (4, .int l4)] → va_P D vwCl [] H → va_D A [] → va_S A s.heap H locs → f_X5_commonDivisor_b7 n_7 l2 l3 l4 = some o_r → W p l e { frames := 0, cells := 0, slots := 0, locals := 0 } s m ([.int a0, .int a1] : List Value).toArray below meth c H locs 0 0 (MQ below (PoI D A [] o_r) ([.int a0, .int a1] : List Value).toArray s 0 0 A) (F0 m 7 ls []) := by
    intro n_7
    induction n_7 with
    | zero =>
      intro l2 l3 l4 H locs ls hl hP hD hS hf
      exact absurd hf (fun h => by rw [f_X5_commonDivisor_b7] at h; cases h)
    | succ n_7 ih_7 =>
      intro l2 l3 l4 H locs ls hl hP hD hS hf
      rw [f_X5_commonDivisor_b7] at hf
      refine lv_iload hx hb dX5_commonDivisor_7 (lv_at hl 2 rfl) ?_
      refine lv_bipush (v := 100) hx hb dX5_commonDivisor_9 (by decide) ?_
      refine lv_icmp_ge (tgt := 34) hx hb dX5_commonDivisor_11 (by decide) (fun q => ?_) (fun q => ?_)
      · have hf := if_t q hf
        exact hb_34 l2 _ _ ls (lv_sub hl [0] rfl) hP hD hS hf
      · have hf := if_f q hf
        refine lv_iload_n hx hb dX5_commonDivisor_14 rfl (lv_at hl 1 rfl) ?_
        refine lv_if_eq (tgt := 34) hx hb dX5_commonDivisor_15 (by decide) (fun q => ?_) (fun q => ?_)
        · have hf := if_t q hf
          exact hb_34 l2 _ _ ls (lv_sub hl [0] rfl) hP hD hS hf
        · have hf := if_f q hf
          refine lv_iload_n hx hb dX5_commonDivisor_18 rfl (lv_at hl 0 rfl) ?_
          refine lv_iload_n hx hb dX5_commonDivisor_19 rfl (lv_at hl 1 rfl) ?_
          obtain ⟨hz, hf⟩ := rI_e hf
          refine lv_irem hx hb dX5_commonDivisor_20 hz ?_
          refine lv_istore (lv' := [(5, .int (l2 - l2 / l3 * l3)), (2, .int l2), (3, .int l3), (4, .int l4)]) hx hb dX5_commonDivisor_21 hl (by decide) rfl (fun ls hl => ?_)
          refine lv_iload_n hx hb dX5_commonDivisor_23 rfl (lv_at hl 2 rfl) ?_
          refine lv_istore_n (lv' := [(2, .int l3), (5, .int (l2 - l2 / l3 * l3)), (3, .int l3), (4, .int l4)]) hx hb dX5_commonDivisor_24 rfl hl (by decide) rfl (fun ls hl => ?_)
          refine lv_iload hx hb dX5_commonDivisor_25 (lv_at hl 1 rfl) ?_
          refine lv_istore_n (lv' := [(3, .int (l2 - l2 / l3 * l3)), (2, .int l3), (5, .int (l2 - l2 / l3 * l3)), (4, .int l4)]) hx hb dX5_commonDivisor_27 rfl hl (by decide) rfl (fun ls hl => ?_)
          refine lv_iinc (v := (l4 + (1 : Int32))) (lv' := [(4, .int (l4 + (1 : Int32))), (3, .int (l2 - l2 / l3 * l3)), (2, .int l3), (5, .int (l2 - l2 / l3 * l3))]) hx hb dX5_commonDivisor_28 hl (k := 3) rfl rfl (by decide) rfl (fun ls hl => ?_)
          refine lv_goto (tgt := 7) hx hb dX5_commonDivisor_31 (by decide) ?_
          exact ih_7 l3 (l2 - l2 / l3 * l3) (l4 + (1 : Int32)) _ _ ls (lv_sub hl [2, 1, 0] rfl) hP hD hS hf
  refine lv_iload_n hx hb dX5_commonDivisor_0 rfl (lv_at hl 0 rfl) ?_
  refine lv_istore_n (lv' := [(2, .int a0), (0, .int a0), (1, .int a1)]) hx hb dX5_commonDivisor_1 rfl hl (by decide) rfl (fun ls hl => ?_)
  refine lv_iload_n hx hb dX5_commonDivisor_2 rfl (lv_at hl 2 rfl) ?_
  refine lv_istore_n (lv' := [(3, .int a1), (2, .int a0), (0, .int a0), (1, .int a1)]) hx hb dX5_commonDivisor_3 rfl hl (by decide) rfl (fun ls hl => ?_)
  refine lv_iconst (v := 0) hx hb dX5_commonDivisor_4 (by decide) ?_
  refine lv_istore (lv' := [(4, .int (0 : Int32)), (3, .int a1), (2, .int a0), (0, .int a0), (1, .int a1)]) hx hb dX5_commonDivisor_5 hl (by decide) rfl (fun ls hl => ?_)
  exact hb_7 FU a0 a1 (0 : Int32) _ _ ls (lv_sub hl [2, 1, 0] rfl) hP hD hS hf
def f_X5_odds_b118 (s0 : Int32) : Option (Int32) :=
  some s0
def f_X5_odds_b102 (s0 : Int32) (l7 : Int32) : Option (Int32) :=
  if l7 ≤ 0 then
    f_X5_odds_b118 (-1 : Int32)
  else
    dI s0 l7 (fun g1 =>
    f_X5_odds_b118 g1)
def f_X5_odds_b80 (a2 : Int32) (s0 : Int32) (l3 : Int32) : Option (Int32) :=
  bd1 (f_X5_commonDivisor s0 l3) (fun r1 =>
  rI a2 (2 : Int32) (fun g2 =>
  if g2 = 0 then
    f_X5_odds_b102 s0 r1
  else
    f_X5_odds_b102 l3 r1))
def f_X5_odds_b11 (v_t_tape_bytes : (Nat → Int32)) (x_t_tape_size : Int32) (a1 : Int32) (a2 : Int32) : Nat → Int32 → Int32 → Int32 → Int32 → Option (Int32)
  | 0, _, _, _, _ => none
  | n + 1, l3, l4, l5, l6 =>
    if a1 ≤ l6 then
      if (2 : Int32) ≤ a2 then
        f_X5_odds_b80 a2 (l3 - l5) l3
      else
        f_X5_odds_b80 a2 l4 l3
    else
      bd1 (f_X9_at v_t_tape_bytes x_t_tape_size l6) (fun r1 =>
      if r1 ≤ (10 : Int32) then
        f_X5_odds_b11 v_t_tape_bytes x_t_tape_size a1 a2 n (l3 * (10 : Int32)) (l4 * r1) (l5 * ((10 : Int32) - r1)) (l6 + (1 : Int32))
      else
        some (-3 : Int32))
def f_X5_odds (v_t_tape_bytes : (Nat → Int32)) (x_t_tape_size : Int32) (a1 : Int32) (a2 : Int32) : Option (Int32) :=
  f_X5_odds_b11 v_t_tape_bytes x_t_tape_size a1 a2 FU (1 : Int32) (1 : Int32) (1 : Int32) (0 : Int32)
set_option maxHeartbeats 4000000 in
set_option maxRecDepth 100000 in
theorem c_X5_odds {l : Launch} {D : va_G} {cI cB : ClassId} {A_t A_t_tape A_t_borne A_t_tape_bytes : Nat} {x_t_bottles x_t_tape_size x_t_tape_end x_t_tape_place x_t_tape_fault a1 a2 : Int32} {v_t_tape_bytes : Nat → Int32} {o_r : Int32} (hf : f_X5_odds v_t_tape_bytes x_t_tape_size a1 a2 = some o_r) : CtI l D cI cB yX5_odds cX5_odds 9 (some .int) 1 25 [.ref A_t, .int a1, .int a2] [oX5 A_t A_t_tape A_t_borne x_t_bottles, oX9 A_t_tape A_t_tape_bytes x_t_tape_size x_t_tape_end x_t_tape_place x_t_tape_fault, iA cI 260 A_t_tape_bytes v_t_tape_bytes] [oX5 A_t A_t_tape A_t_borne x_t_bottles, oX9 A_t_tape A_t_tape_bytes x_t_tape_size x_t_tape_end x_t_tape_place x_t_tape_fault, iA cI 260 A_t_tape_bytes v_t_tape_bytes] o_r := by
  refine x_startI (by decide) (Nat.le_of_ble_eq_true rfl) ?_
  intro p e s m below meth c A C hr hlk hA hK hP hD hS ls hl
  have hl : lv_has ls 9 [(0, .ref A_t), (1, .int a1), (2, .int a2)] := hl
  have hx := C.1
  have hb := C.2.1
  unfold f_X5_odds at hf
  have hb_118 : ∀ (s0 : Int32) (H : Heap) (locs : List Loc) (ls : Array Slot), lv_has ls 9 [] → va_P D vwCl [oX5 A_t A_t_tape A_t_borne x_t_bottles, oX9 A_t_tape A_t_tape_bytes x_t_tape_size x_t_tape_end x_t_tape_place x_t_tape_fault, iA cI 260 A_t_tape_bytes v_t_tape_bytes] H → va_D A [oX5 A_t A_t_tape A_t_borne x_t_bottles, oX9 A_t_tape A_t_tape_bytes x_t_tape_size x_t_tape_end x_t_tape_place x_t_tape_fault, iA cI 260 A_t_tape_bytes v_t_tape_bytes] → va_S A s.heap H locs → f_X5_odds_b118 s0 = some o_r → W p l e { frames := 1, cells := 0, slots := 0, locals := 25 } s m ([.ref A_t, .int a1, .int a2] : List Value).toArray below meth c H locs 0 0 (MQ below (PoI D A [oX5 A_t A_t_tape A_t_borne x_t_bottles, oX9 A_t_tape A_t_tape_bytes x_t_tape_size x_t_tape_end x_t_tape_place x_t_tape_fault, iA cI 260 A_t_tape_bytes v_t_tape_bytes] o_r) ([.ref A_t, .int a1, .int a2] : List Value).toArray s 0 0 A) (F0 m 118 ls [.int s0]) := by
    intro s0 H locs ls hl hP hD hS hf
    unfold f_X5_odds_b118 at hf
    obtain rfl := ev1 hf
    exact x_iret C hr hlk hP hD hS dX5_odds_118
  have hb_102 : ∀ (s0 : Int32) (l7 : Int32) (H : Heap) (locs : List Loc) (ls : Array Slot), lv_has ls 9 [(7, .int l7)] → va_P D vwCl [oX5 A_t A_t_tape A_t_borne x_t_bottles, oX9 A_t_tape A_t_tape_bytes x_t_tape_size x_t_tape_end x_t_tape_place x_t_tape_fault, iA cI 260 A_t_tape_bytes v_t_tape_bytes] H → va_D A [oX5 A_t A_t_tape A_t_borne x_t_bottles, oX9 A_t_tape A_t_tape_bytes x_t_tape_size x_t_tape_end x_t_tape_place x_t_tape_fault, iA cI 260 A_t_tape_bytes v_t_tape_bytes] → va_S A s.heap H locs → f_X5_odds_b102 s0 l7 = some o_r → W p l e { frames := 1, cells := 0, slots := 0, locals := 25 } s m ([.ref A_t, .int a1, .int a2] : List Value).toArray below meth c H locs 0 0 (MQ below (PoI D A [oX5 A_t A_t_tape A_t_borne x_t_bottles, oX9 A_t_tape A_t_tape_bytes x_t_tape_size x_t_tape_end x_t_tape_place x_t_tape_fault, iA cI 260 A_t_tape_bytes v_t_tape_bytes] o_r) ([.ref A_t, .int a1, .int a2] : List Value).toArray s 0 0 A) (F0 m 102 ls [.int s0]) := by
    intro s0 l7 H locs ls hl hP hD hS hf
    unfold f_X5_odds_b102 at hf
    refine lv_istore (lv' := [(8, .int s0), (7, .int l7)]) hx hb dX5_odds_102 hl (by decide) rfl (fun ls hl => ?_)
    refine lv_iload hx hb dX5_odds_104 (lv_at hl 1 rfl) ?_
    refine lv_if_le (tgt := 117) hx hb dX5_odds_106 (by decide) (fun q => ?_) (fun q => ?_)
    · have hf := if_t q hf
      refine lv_iconst (v := -1) hx hb dX5_odds_117 (by decide) ?_
      exact hb_118 (-1 : Int32) _ _ ls (lv_sub hl [] rfl) hP hD hS hf
    · have hf := if_f q hf
      refine lv_iload hx hb dX5_odds_109 (lv_at hl 0 rfl) ?_
      refine lv_iload hx hb dX5_odds_111 (lv_at hl 1 rfl) ?_
      obtain ⟨hz, hf⟩ := dI_e hf
      refine lv_idiv hx hb dX5_odds_113 hz ?_
      refine lv_goto (tgt := 118) hx hb dX5_odds_114 (by decide) ?_
      exact hb_118 (s0 / l7) _ _ ls (lv_sub hl [] rfl) hP hD hS hf
  have hb_80 : ∀ (s0 : Int32) (l3 : Int32) (H : Heap) (locs : List Loc) (ls : Array Slot), lv_has ls 9 [(2, .int a2), (3, .int l3)] → va_P D vwCl [oX5 A_t A_t_tape A_t_borne x_t_bottles, oX9 A_t_tape A_t_tape_bytes x_t_tape_size x_t_tape_end x_t_tape_place x_t_tape_fault, iA cI 260 A_t_tape_bytes v_t_tape_bytes] H → va_D A [oX5 A_t A_t_tape A_t_borne x_t_bottles, oX9 A_t_tape A_t_tape_bytes x_t_tape_size x_t_tape_end x_t_tape_place x_t_tape_fault, iA cI 260 A_t_tape_bytes v_t_tape_bytes] → va_S A s.heap H locs → f_X5_odds_b80 a2 s0 l3 = some o_r → W p l e { frames := 1, cells := 0, slots := 0, locals := 25 } s m ([.ref A_t, .int a1, .int a2] : List Value).toArray below meth c H locs 0 0 (MQ below (PoI D A [oX5 A_t A_t_tape A_t_borne x_t_bottles, oX9 A_t_tape A_t_tape_bytes x_t_tape_size x_t_tape_end x_t_tape_place x_t_tape_fault, iA cI 260 A_t_tape_bytes v_t_tape_bytes] o_r) ([.ref A_t, .int a1, .int a2] : List Value).toArray s 0 0 A) (F0 m 80 ls [.int s0]) := by
    intro s0 l3 H locs ls hl hP hD hS hf
    unfold f_X5_odds_b80 at hf
    refine lv_istore (lv' := [(6, .int s0), (2, .int a2), (3, .int l3)]) hx hb dX5_odds_80 hl (by decide) rfl (fun ls hl => ?_)
    refine lv_iload hx hb dX5_odds_82 (lv_at hl 0 rfl) ?_
    refine lv_iload_n hx hb dX5_odds_84 rfl (lv_at hl 2 rfl) ?_
    obtain ⟨r1, hc2, hf⟩ := bd1_e hf
    refine x_callSI (ws' := [oX5 A_t A_t_tape A_t_borne x_t_bottles, oX9 A_t_tape A_t_tape_bytes x_t_tape_size x_t_tape_end x_t_tape_place x_t_tape_fault, iA cI 260 A_t_tape_bytes v_t_tape_bytes]) (rest := []) C hK hP hD hS hA hl mf_X5_59 (c_X5_commonDivisor hc2) [] rfl rfl rfl rfl rfl rfl rfl rfl (Nat.le_of_ble_eq_true rfl) ⟨Nat.le_of_ble_eq_true rfl, Nat.le_of_ble_eq_true rfl⟩ ⟨Nat.le_refl _, Nat.le_refl _⟩ dX5_odds_85 ?_
    intro H locs hP hD hS
    refine lv_istore (lv' := [(7, .int r1), (6, .int s0), (2, .int a2), (3, .int l3)]) hx hb dX5_odds_88 hl (by decide) rfl (fun ls hl => ?_)
    refine lv_iload_n hx hb dX5_odds_90 rfl (lv_at hl 2 rfl) ?_
    refine lv_iconst (v := 2) hx hb dX5_odds_91 (by decide) ?_
    obtain ⟨hz, hf⟩ := rI_e hf
    refine lv_irem hx hb dX5_odds_92 hz ?_
    refine lv_if_ne (tgt := 101) hx hb dX5_odds_93 (by decide) (fun q => ?_) (fun q => ?_)
    · have hf := if_f q hf
      refine lv_iload_n hx hb dX5_odds_101 rfl (lv_at hl 3 rfl) ?_
      exact hb_102 l3 r1 _ _ ls (lv_sub hl [0] rfl) hP hD hS hf
    · have hf := if_t q hf
      refine lv_iload hx hb dX5_odds_96 (lv_at hl 1 rfl) ?_
      refine lv_goto (tgt := 102) hx hb dX5_odds_98 (by decide) ?_
      exact hb_102 s0 r1 _ _ ls (lv_sub hl [0] rfl) hP hD hS hf
  have hb_11 : ∀ (n_11 : Nat) (l3 : Int32) (l4 : Int32) (l5 : Int32) (l6 : Int32) (H : Heap) (locs : List Loc) (ls : Array Slot), lv_has ls 9 [(0, .ref A_t), (1, .int a1), (2, .int a2), (3, .int l3), (4, .int l4), (5, .int l5), (6, .int l6)] → va_P D vwCl [oX5 A_t A_t_tape A_t_borne x_t_bottles, oX9 A_t_tape A_t_tape_bytes x_t_tape_size x_t_tape_end x_t_tape_place x_t_tape_fault, iA cI 260 A_t_tape_bytes v_t_tape_bytes] H → va_D A [oX5 A_t A_t_tape A_t_borne x_t_bottles, oX9 A_t_tape A_t_tape_bytes x_t_tape_size x_t_tape_end x_t_tape_place x_t_tape_fault, iA cI 260 A_t_tape_bytes v_t_tape_bytes] → va_S A s.heap H locs → f_X5_odds_b11 v_t_tape_bytes x_t_tape_size a1 a2 n_11 l3 l4 l5 l6 = some o_r → W p l e { frames := 1, cells := 0, slots := 0, locals := 25 } s m ([.ref A_t, .int a1, .int a2] : List Value).toArray below meth c H locs 0 0 (MQ below (PoI D A [oX5 A_t A_t_tape A_t_borne x_t_bottles, oX9 A_t_tape A_t_tape_bytes x_t_tape_size x_t_tape_end x_t_tape_place x_t_tape_fault, iA cI 260 A_t_tape_bytes v_t_tape_bytes] o_r) ([.ref A_t, .int a1, .int a2] : List Value).toArray s 0 0 A) (F0 m 11 ls []) := by
    intro n_11
    induction n_11 with
    | zero =>
      intro l3 l4 l5 l6 H locs ls hl hP hD hS hf
      exact absurd hf (fun h => by rw [f_X5_odds_b11] at h; cases h)
    | succ n_11 ih_11 =>
      intro l3 l4 l5 l6 H locs ls hl hP hD hS hf
      rw [f_X5_odds_b11] at hf
      refine lv_iload hx hb dX5_odds_11 (lv_at hl 6 rfl) ?_
      refine lv_iload_n hx hb dX5_odds_13 rfl (lv_at hl 1 rfl) ?_
      refine lv_icmp_ge (tgt := 66) hx hb dX5_odds_14 (by decide) (fun q => ?_) (fun q => ?_)
      · have hf := if_t q hf
        refine lv_iload_n hx hb dX5_odds_66 rfl (lv_at hl 2 rfl) ?_
        refine lv_iconst (v := 2) hx hb dX5_odds_67 (by decide) ?_
        refine lv_icmp_ge (tgt := 76) hx hb dX5_odds_68 (by decide) (fun q => ?_) (fun q => ?_)
        · have hf := if_t q hf
          refine lv_iload_n hx hb dX5_odds_76 rfl (lv_at hl 3 rfl) ?_
          refine lv_iload hx hb dX5_odds_77 (lv_at hl 5 rfl) ?_
          refine lv_isub hx hb dX5_odds_79 ?_
          exact hb_80 (l3 - l5) l3 _ _ ls (lv_sub hl [2, 3] rfl) hP hD hS hf
        · have hf := if_f q hf
          refine lv_iload hx hb dX5_odds_71 (lv_at hl 4 rfl) ?_
          refine lv_goto (tgt := 80) hx hb dX5_odds_73 (by decide) ?_
          exact hb_80 l4 l3 _ _ ls (lv_sub hl [2, 3] rfl) hP hD hS hf
      · have hf := if_f q hf
        refine lv_aload_n hx hb dX5_odds_17 rfl (lv_at hl 0 rfl) ?_
        refine x_get C hK hP fd_X5_15 0 rfl rfl dX5_odds_18 ?_
        refine lv_iload hx hb dX5_odds_21 (lv_at hl 6 rfl) ?_
        obtain ⟨r3, hc4, hf⟩ := bd1_e hf
        refine x_callVI (ws' := [oX5 A_t A_t_tape A_t_borne x_t_bottles, oX9 A_t_tape A_t_tape_bytes x_t_tape_size x_t_tape_end x_t_tape_place x_t_tape_fault, iA cI 260 A_t_tape_bytes v_t_tape_bytes]) (rest := []) C hK hP hD hS hA hl mf_X5_54 (c_X9_at hc4) [1, 2] 0 9 rfl rfl rfl rfl rfl rfl rfl rfl rfl rfl (Nat.le_of_ble_eq_true rfl) ⟨Nat.le_of_ble_eq_true rfl, Nat.le_of_ble_eq_true rfl⟩ ⟨Nat.le_refl _, Nat.le_refl _⟩ dX5_odds_23 ?_
        intro H locs hP hD hS
        refine lv_istore (lv' := [(7, .int r3), (0, .ref A_t), (1, .int a1), (2, .int a2), (3, .int l3), (4, .int l4), (5, .int l5), (6, .int l6)]) hx hb dX5_odds_26 hl (by decide) rfl (fun ls hl => ?_)
        refine lv_iload hx hb dX5_odds_28 (lv_at hl 0 rfl) ?_
        refine lv_bipush (v := 10) hx hb dX5_odds_30 (by decide) ?_
        refine lv_icmp_le (tgt := 38) hx hb dX5_odds_32 (by decide) (fun q => ?_) (fun q => ?_)
        · have hf := if_t q hf
          refine lv_iload_n hx hb dX5_odds_38 rfl (lv_at hl 4 rfl) ?_
          refine lv_bipush (v := 10) hx hb dX5_odds_39 (by decide) ?_
          refine lv_imul hx hb dX5_odds_41 ?_
          refine lv_istore_n (lv' := [(3, .int (l3 * (10 : Int32))), (7, .int r3), (0, .ref A_t), (1, .int a1), (2, .int a2), (4, .int l4), (5, .int l5), (6, .int l6)]) hx hb dX5_odds_42 rfl hl (by decide) rfl (fun ls hl => ?_)
          refine lv_iload hx hb dX5_odds_43 (lv_at hl 5 rfl) ?_
          refine lv_iload hx hb dX5_odds_45 (lv_at hl 1 rfl) ?_
          refine lv_imul hx hb dX5_odds_47 ?_
          refine lv_istore (lv' := [(4, .int (l4 * r3)), (3, .int (l3 * (10 : Int32))), (7, .int r3), (0, .ref A_t), (1, .int a1), (2, .int a2), (5, .int l5), (6, .int l6)]) hx hb dX5_odds_48 hl (by decide) rfl (fun ls hl => ?_)
          refine lv_iload hx hb dX5_odds_50 (lv_at hl 6 rfl) ?_
          refine lv_bipush (v := 10) hx hb dX5_odds_52 (by decide) ?_
          refine lv_iload hx hb dX5_odds_54 (lv_at hl 2 rfl) ?_
          refine lv_isub hx hb dX5_odds_56 ?_
          refine lv_imul hx hb dX5_odds_57 ?_
          refine lv_istore (lv' := [(5, .int (l5 * ((10 : Int32) - r3))), (4, .int (l4 * r3)), (3, .int (l3 * (10 : Int32))), (7, .int r3), (0, .ref A_t), (1, .int a1), (2, .int a2), (6, .int l6)]) hx hb dX5_odds_58 hl (by decide) rfl (fun ls hl => ?_)
          refine lv_iinc (v := (l6 + (1 : Int32))) (lv' := [(6, .int (l6 + (1 : Int32))), (5, .int (l5 * ((10 : Int32) - r3))), (4, .int (l4 * r3)), (3, .int (l3 * (10 : Int32))), (7, .int r3), (0, .ref A_t), (1, .int a1), (2, .int a2)]) hx hb dX5_odds_60 hl (k := 7) rfl rfl (by decide) rfl (fun ls hl => ?_)
          refine lv_goto (tgt := 11) hx hb dX5_odds_63 (by decide) ?_
          exact ih_11 (l3 * (10 : Int32)) (l4 * r3) (l5 * ((10 : Int32) - r3)) (l6 + (1 : Int32)) _ _ ls (lv_sub hl [5, 6, 7, 3, 2, 1, 0] rfl) hP hD hS hf
        · have hf := if_f q hf
          refine lv_bipush (v := -3) hx hb dX5_odds_35 (by decide) ?_
          obtain rfl := ev1 hf
          exact x_iret C hr hlk hP hD hS dX5_odds_37
  refine lv_iconst (v := 1) hx hb dX5_odds_0 (by decide) ?_
  refine lv_istore_n (lv' := [(3, .int (1 : Int32)), (0, .ref A_t), (1, .int a1), (2, .int a2)]) hx hb dX5_odds_1 rfl hl (by decide) rfl (fun ls hl => ?_)
  refine lv_iconst (v := 1) hx hb dX5_odds_2 (by decide) ?_
  refine lv_istore (lv' := [(4, .int (1 : Int32)), (3, .int (1 : Int32)), (0, .ref A_t), (1, .int a1), (2, .int a2)]) hx hb dX5_odds_3 hl (by decide) rfl (fun ls hl => ?_)
  refine lv_iconst (v := 1) hx hb dX5_odds_5 (by decide) ?_
  refine lv_istore (lv' := [(5, .int (1 : Int32)), (4, .int (1 : Int32)), (3, .int (1 : Int32)), (0, .ref A_t), (1, .int a1), (2, .int a2)]) hx hb dX5_odds_6 hl (by decide) rfl (fun ls hl => ?_)
  refine lv_iconst (v := 0) hx hb dX5_odds_8 (by decide) ?_
  refine lv_istore (lv' := [(6, .int (0 : Int32)), (5, .int (1 : Int32)), (4, .int (1 : Int32)), (3, .int (1 : Int32)), (0, .ref A_t), (1, .int a1), (2, .int a2)]) hx hb dX5_odds_9 hl (by decide) rfl (fun ls hl => ?_)
  exact hb_11 FU (1 : Int32) (1 : Int32) (1 : Int32) (0 : Int32) _ _ ls (lv_sub hl [4, 5, 6, 3, 2, 1, 0] rfl) hP hD hS hf
def f_X5_ringsIn_b109 (a1 : Int32) (a2 : Int32) (k11 : Int32 → Int32 → Int32 → Int32 → Option (Int32)) (l3 : Int32) (l4 : Int32) (l5 : Int32) (l6 : Int32) : Option (Int32) :=
  k11 l3 l4 l5 (l6 + (1 : Int32))
def f_X5_ringsIn_b107 (a1 : Int32) (a2 : Int32) (k11 : Int32 → Int32 → Int32 → Int32 → Option (Int32)) (s0 : Int32) (l3 : Int32) (l5 : Int32) (l6 : Int32) : Option (Int32) :=
  f_X5_ringsIn_b109 a1 a2 k11 l3 s0 l5 l6
def f_X5_ringsIn_b72 (a1 : Int32) (a2 : Int32) (k11 : Int32 → Int32 → Int32 → Int32 → Option (Int32)) (l3 : Int32) (l4 : Int32) (l5 : Int32) (l6 : Int32) (l7 : Int32) : Option (Int32) :=
  if l7 ≤ 0 then
    f_X5_ringsIn_b109 a1 a2 k11 l3 l4 l5 l6
  else
    bd1 (f_X5_commonDivisor l4 l7) (fun r1 =>
    if r1 ≤ 0 then
      f_X5_ringsIn_b107 a1 a2 k11 l4 (l3 + (1 : Int32)) l5 l6
    else
      dI l4 r1 (fun g2 =>
      f_X5_ringsIn_b107 a1 a2 k11 (g2 * l7) (l3 + (1 : Int32)) l5 l6))
def f_X5_ringsIn_b27 (v_t_tape_bytes : (Nat → Int32)) (x_t_tape_size : Int32) (a1 : Int32) (a2 : Int32) (k11 : Int32 → Int32 → Int32 → Int32 → Option (Int32)) : Nat → Int32 → Int32 → Int32 → Int32 → Int32 → Int32 → Int32 → Option (Int32)
  | 0, _, _, _, _, _, _, _ => none
  | n + 1, l3, l4, l5, l6, l7, l8, l9 =>
    if a1 ≤ l9 then
      f_X5_ringsIn_b72 a1 a2 k11 l3 l4 l5 l6 l7
    else
      if ((l5 >>> (l8 &&& 31)) &&& (1 : Int32)) = 0 then
        bd1 (f_X9_at v_t_tape_bytes x_t_tape_size l8) (fun r1 =>
        f_X5_ringsIn_b27 v_t_tape_bytes x_t_tape_size a1 a2 k11 n l3 l4 (l5 ||| ((1 : Int32) <<< (l8 &&& 31))) l6 (l7 + (1 : Int32)) r1 (l9 + (1 : Int32)))
      else
        f_X5_ringsIn_b72 a1 a2 k11 l3 l4 l5 l6 l7
def f_X5_ringsIn_b125 (s0 : Int32) : Option (Int32) :=
  some s0
def f_X5_ringsIn_b11 (v_t_tape_bytes : (Nat → Int32)) (x_t_tape_size : Int32) (a1 : Int32) (a2 : Int32) : Nat → Int32 → Int32 → Int32 → Int32 → Option (Int32)
  | 0, _, _, _, _ => none
  | n + 1, l3, l4, l5, l6 =>
    if a1 ≤ l6 then
      if a2 = 0 then
        f_X5_ringsIn_b125 l3
      else
        f_X5_ringsIn_b125 l4
    else
      f_X5_ringsIn_b27 v_t_tape_bytes x_t_tape_size a1 a2 (f_X5_ringsIn_b11 v_t_tape_bytes x_t_tape_size a1 a2 n) FU l3 l4 l5 l6 (0 : Int32) l6 (0 : Int32)
def f_X5_ringsIn (v_t_tape_bytes : (Nat → Int32)) (x_t_tape_size : Int32) (a1 : Int32) (a2 : Int32) : Option (Int32) :=
  f_X5_ringsIn_b11 v_t_tape_bytes x_t_tape_size a1 a2 FU (0 : Int32) (1 : Int32) (0 : Int32) (0 : Int32)
set_option maxHeartbeats 4000000 in
set_option maxRecDepth 100000 in
theorem c_X5_ringsIn {l : Launch} {D : va_G} {cI cB : ClassId} {A_t A_t_tape A_t_borne A_t_tape_bytes : Nat} {x_t_bottles x_t_tape_size x_t_tape_end x_t_tape_place x_t_tape_fault a1 a2 : Int32} {v_t_tape_bytes : Nat → Int32} {o_r : Int32} (hf : f_X5_ringsIn v_t_tape_bytes x_t_tape_size a1 a2 = some o_r) : CtI l D cI cB yX5_ringsIn cX5_ringsIn 10 (some .int) 1 25 [.ref A_t, .int a1, .int a2] [oX5 A_t A_t_tape A_t_borne x_t_bottles, oX9 A_t_tape A_t_tape_bytes x_t_tape_size x_t_tape_end x_t_tape_place x_t_tape_fault, iA cI 260 A_t_tape_bytes v_t_tape_bytes] [oX5 A_t A_t_tape A_t_borne x_t_bottles, oX9 A_t_tape A_t_tape_bytes x_t_tape_size x_t_tape_end x_t_tape_place x_t_tape_fault, iA cI 260 A_t_tape_bytes v_t_tape_bytes] o_r := by
  refine x_startI (by decide) (Nat.le_of_ble_eq_true rfl) ?_
  intro p e s m below meth c A C hr hlk hA hK hP hD hS ls hl
  have hl : lv_has ls 10 [(0, .ref A_t), (1, .int a1), (2, .int a2)] := hl
  have hx := C.1
  have hb := C.2.1
  unfold f_X5_ringsIn at hf
  have hb_125 : ∀ (s0 : Int32) (H : Heap) (locs : List Loc) (ls : Array Slot), lv_has ls 10 [] → va_P D vwCl [oX5 A_t A_t_tape A_t_borne x_t_bottles, oX9 A_t_tape A_t_tape_bytes x_t_tape_size x_t_tape_end x_t_tape_place x_t_tape_fault, iA cI 260 A_t_tape_bytes v_t_tape_bytes] H → va_D A [oX5 A_t A_t_tape A_t_borne x_t_bottles, oX9 A_t_tape A_t_tape_bytes x_t_tape_size x_t_tape_end x_t_tape_place x_t_tape_fault, iA cI 260 A_t_tape_bytes v_t_tape_bytes] → va_S A s.heap H locs → f_X5_ringsIn_b125 s0 = some o_r → W p l e { frames := 1, cells := 0, slots := 0, locals := 25 } s m ([.ref A_t, .int a1, .int a2] : List Value).toArray below meth c H locs 0 0 (MQ below (PoI D A [oX5 A_t A_t_tape A_t_borne x_t_bottles, oX9 A_t_tape A_t_tape_bytes x_t_tape_size x_t_tape_end x_t_tape_place x_t_tape_fault, iA cI 260 A_t_tape_bytes v_t_tape_bytes] o_r) ([.ref A_t, .int a1, .int a2] : List Value).toArray s 0 0 A) (F0 m 125 ls [.int s0]) := by
    intro s0 H locs ls hl hP hD hS hf
    unfold f_X5_ringsIn_b125 at hf
    obtain rfl := ev1 hf
    exact x_iret C hr hlk hP hD hS dX5_ringsIn_125
  have hb_11 : ∀ (n_11 : Nat) (l3 : Int32) (l4 : Int32) (l5 : Int32) (l6 : Int32) (H : Heap) (locs : List Loc) (ls : Array Slot), lv_has ls 10 [(0, .ref A_t), (1, .int a1), (2, .int a2), (3, .int l3), (4, .int l4), (5, .int l5), (6, .int l6)] → va_P D vwCl [oX5 A_t A_t_tape A_t_borne x_t_bottles, oX9 A_t_tape A_t_tape_bytes x_t_tape_size x_t_tape_end x_t_tape_place x_t_tape_fault, iA cI 260 A_t_tape_bytes v_t_tape_bytes] H → va_D A [oX5 A_t A_t_tape A_t_borne x_t_bottles, oX9 A_t_tape A_t_tape_bytes x_t_tape_size x_t_tape_end x_t_tape_place x_t_tape_fault, iA cI 260 A_t_tape_bytes v_t_tape_bytes] → va_S A s.heap H locs → f_X5_ringsIn_b11 v_t_tape_bytes x_t_tape_size a1 a2 n_11 l3 l4 l5 l6 = some o_r → W p l e { frames := 1, cells := 0, slots := 0, locals := 25 } s m ([.ref A_t, .int a1, .int a2] : List Value).toArray below meth c H locs 0 0 (MQ below (PoI D A [oX5 A_t A_t_tape A_t_borne x_t_bottles, oX9 A_t_tape A_t_tape_bytes x_t_tape_size x_t_tape_end x_t_tape_place x_t_tape_fault, iA cI 260 A_t_tape_bytes v_t_tape_bytes] o_r) ([.ref A_t, .int a1, .int a2] : List Value).toArray s 0 0 A) (F0 m 11 ls []) := by
    intro n_11
    induction n_11 with
    | zero =>
      intro l3 l4 l5 l6 H locs ls hl hP hD hS hf
      exact absurd hf (fun h => by rw [f_X5_ringsIn_b11] at h; cases h)
    | succ n_11 ih_11 =>
      have hb_109 : ∀ (l3 : Int32) (l4 : Int32) (l5 : Int32) (l6 : Int32) (H : Heap) (locs : List Loc) (ls : Array Slot), lv_has ls 10 [(0, .ref A_t), (1, .int a1), (2, .int a2), (3, .int l3), (4, .int l4), (5, .int l5), (6, .int l6)] → va_P D vwCl [oX5 A_t A_t_tape A_t_borne x_t_bottles, oX9 A_t_tape A_t_tape_bytes x_t_tape_size x_t_tape_end x_t_tape_place x_t_tape_fault, iA cI 260 A_t_tape_bytes v_t_tape_bytes] H → va_D A [oX5 A_t A_t_tape A_t_borne x_t_bottles, oX9 A_t_tape A_t_tape_bytes x_t_tape_size x_t_tape_end x_t_tape_place x_t_tape_fault, iA cI 260 A_t_tape_bytes v_t_tape_bytes] → va_S A s.heap H locs → f_X5_ringsIn_b109 a1 a2 (f_X5_ringsIn_b11 v_t_tape_bytes x_t_tape_size a1 a2 n_11) l3 l4 l5 l6 = some o_r → W p l e { frames := 1, cells := 0, slots := 0, locals := 25 } s m ([.ref A_t, .int a1, .int a2] : List Value).toArray below meth c H locs 0 0 (MQ below (PoI D A [oX5 A_t A_t_tape A_t_borne x_t_bottles, oX9 A_t_tape A_t_tape_bytes x_t_tape_size x_t_tape_end x_t_tape_place x_t_tape_fault, iA cI 260 A_t_tape_bytes v_t_tape_bytes] o_r) ([.ref A_t, .int a1, .int a2] : List Value).toArray s 0 0 A) (F0 m 109 ls []) := by
        intro l3 l4 l5 l6 H locs ls hl hP hD hS hf
        unfold f_X5_ringsIn_b109 at hf
        refine lv_iinc (v := (l6 + (1 : Int32))) (lv' := [(6, .int (l6 + (1 : Int32))), (0, .ref A_t), (1, .int a1), (2, .int a2), (3, .int l3), (4, .int l4), (5, .int l5)]) hx hb dX5_ringsIn_109 hl (k := 6) rfl rfl (by decide) rfl (fun ls hl => ?_)
        refine lv_goto (tgt := 11) hx hb dX5_ringsIn_112 (by decide) ?_
        exact ih_11 l3 l4 l5 (l6 + (1 : Int32)) _ _ ls (lv_sub hl [1, 2, 3, 4, 5, 6, 0] rfl) hP hD hS hf
      have hb_107 : ∀ (s0 : Int32) (l3 : Int32) (l5 : Int32) (l6 : Int32) (H : Heap) (locs : List Loc) (ls : Array Slot), lv_has ls 10 [(0, .ref A_t), (1, .int a1), (2, .int a2), (3, .int l3), (5, .int l5), (6, .int l6)] → va_P D vwCl [oX5 A_t A_t_tape A_t_borne x_t_bottles, oX9 A_t_tape A_t_tape_bytes x_t_tape_size x_t_tape_end x_t_tape_place x_t_tape_fault, iA cI 260 A_t_tape_bytes v_t_tape_bytes] H → va_D A [oX5 A_t A_t_tape A_t_borne x_t_bottles, oX9 A_t_tape A_t_tape_bytes x_t_tape_size x_t_tape_end x_t_tape_place x_t_tape_fault, iA cI 260 A_t_tape_bytes v_t_tape_bytes] → va_S A s.heap H locs → f_X5_ringsIn_b107 a1 a2 (f_X5_ringsIn_b11 v_t_tape_bytes x_t_tape_size a1 a2 n_11) s0 l3 l5 l6 = some o_r → W p l e { frames := 1, cells := 0, slots := 0, locals := 25 } s m ([.ref A_t, .int a1, .int a2] : List Value).toArray below meth c H locs 0 0 (MQ below (PoI D A [oX5 A_t A_t_tape A_t_borne x_t_bottles, oX9 A_t_tape A_t_tape_bytes x_t_tape_size x_t_tape_end x_t_tape_place x_t_tape_fault, iA cI 260 A_t_tape_bytes v_t_tape_bytes] o_r) ([.ref A_t, .int a1, .int a2] : List Value).toArray s 0 0 A) (F0 m 107 ls [.int s0]) := by
        intro s0 l3 l5 l6 H locs ls hl hP hD hS hf
        unfold f_X5_ringsIn_b107 at hf
        refine lv_istore (lv' := [(4, .int s0), (0, .ref A_t), (1, .int a1), (2, .int a2), (3, .int l3), (5, .int l5), (6, .int l6)]) hx hb dX5_ringsIn_107 hl (by decide) rfl (fun ls hl => ?_)
        exact hb_109 l3 s0 l5 l6 _ _ ls (lv_sub hl [1, 2, 3, 4, 0, 5, 6] rfl) hP hD hS hf
      have hb_72 : ∀ (l3 : Int32) (l4 : Int32) (l5 : Int32) (l6 : Int32) (l7 : Int32) (H : Heap) (locs : List Loc) (ls : Array Slot), lv_has ls 10 [(0, .ref A_t), (1, .int a1), (2, .int a2), (3, .int l3), (4, .int l4), (5, .int l5), (6, .int l6), (7, .int l7)] → va_P D vwCl [oX5 A_t A_t_tape A_t_borne x_t_bottles, oX9 A_t_tape A_t_tape_bytes x_t_tape_size x_t_tape_end x_t_tape_place x_t_tape_fault, iA cI 260 A_t_tape_bytes v_t_tape_bytes] H → va_D A [oX5 A_t A_t_tape A_t_borne x_t_bottles, oX9 A_t_tape A_t_tape_bytes x_t_tape_size x_t_tape_end x_t_tape_place x_t_tape_fault, iA cI 260 A_t_tape_bytes v_t_tape_bytes] → va_S A s.heap H locs → f_X5_ringsIn_b72 a1 a2 (f_X5_ringsIn_b11 v_t_tape_bytes x_t_tape_size a1 a2 n_11) l3 l4 l5 l6 l7 = some o_r → W p l e { frames := 1, cells := 0, slots := 0, locals := 25 } s m ([.ref A_t, .int a1, .int a2] : List Value).toArray below meth c H locs 0 0 (MQ below (PoI D A [oX5 A_t A_t_tape A_t_borne x_t_bottles, oX9 A_t_tape A_t_tape_bytes x_t_tape_size x_t_tape_end x_t_tape_place x_t_tape_fault, iA cI 260 A_t_tape_bytes v_t_tape_bytes] o_r) ([.ref A_t, .int a1, .int a2] : List Value).toArray s 0 0 A) (F0 m 72 ls []) := by
        intro l3 l4 l5 l6 l7 H locs ls hl hP hD hS hf
        unfold f_X5_ringsIn_b72 at hf
        refine lv_iload hx hb dX5_ringsIn_72 (lv_at hl 7 rfl) ?_
        refine lv_if_le (tgt := 109) hx hb dX5_ringsIn_74 (by decide) (fun q => ?_) (fun q => ?_)
        · have hf := if_t q hf
          exact hb_109 l3 l4 l5 l6 _ _ ls (lv_sub hl [0, 1, 2, 3, 4, 5, 6] rfl) hP hD hS hf
        · have hf := if_f q hf
          refine lv_iinc (v := (l3 + (1 : Int32))) (lv' := [(3, .int (l3 + (1 : Int32))), (0, .ref A_t), (1, .int a1), (2, .int a2), (4, .int l4), (5, .int l5), (6, .int l6), (7, .int l7)]) hx hb dX5_ringsIn_77 hl (k := 3) rfl rfl (by decide) rfl (fun ls hl => ?_)
          refine lv_iload hx hb dX5_ringsIn_80 (lv_at hl 4 rfl) ?_
          refine lv_iload hx hb dX5_ringsIn_82 (lv_at hl 7 rfl) ?_
          obtain ⟨r1, hc2, hf⟩ := bd1_e hf
          refine x_callSI (ws' := [oX5 A_t A_t_tape A_t_borne x_t_bottles, oX9 A_t_tape A_t_tape_bytes x_t_tape_size x_t_tape_end x_t_tape_place x_t_tape_fault, iA cI 260 A_t_tape_bytes v_t_tape_bytes]) (rest := []) C hK hP hD hS hA hl mf_X5_59 (c_X5_commonDivisor hc2) [] rfl rfl rfl rfl rfl rfl rfl rfl (Nat.le_of_ble_eq_true rfl) ⟨Nat.le_of_ble_eq_true rfl, Nat.le_of_ble_eq_true rfl⟩ ⟨Nat.le_refl _, Nat.le_refl _⟩ dX5_ringsIn_84 ?_
          intro H locs hP hD hS
          refine lv_istore (lv' := [(9, .int r1), (3, .int (l3 + (1 : Int32))), (0, .ref A_t), (1, .int a1), (2, .int a2), (4, .int l4), (5, .int l5), (6, .int l6), (7, .int l7)]) hx hb dX5_ringsIn_87 hl (by decide) rfl (fun ls hl => ?_)
          refine lv_iload hx hb dX5_ringsIn_89 (lv_at hl 0 rfl) ?_
          refine lv_if_le (tgt := 105) hx hb dX5_ringsIn_91 (by decide) (fun q => ?_) (fun q => ?_)
          · have hf := if_t q hf
            refine lv_iload hx hb dX5_ringsIn_105 (lv_at hl 5 rfl) ?_
            exact hb_107 l4 (l3 + (1 : Int32)) l5 l6 _ _ ls (lv_sub hl [2, 3, 4, 1, 6, 7] rfl) hP hD hS hf
          · have hf := if_f q hf
            refine lv_iload hx hb dX5_ringsIn_94 (lv_at hl 5 rfl) ?_
            refine lv_iload hx hb dX5_ringsIn_96 (lv_at hl 0 rfl) ?_
            obtain ⟨hz, hf⟩ := dI_e hf
            refine lv_idiv hx hb dX5_ringsIn_98 hz ?_
            refine lv_iload hx hb dX5_ringsIn_99 (lv_at hl 8 rfl) ?_
            refine lv_imul hx hb dX5_ringsIn_101 ?_
            refine lv_goto (tgt := 107) hx hb dX5_ringsIn_102 (by decide) ?_
            exact hb_107 ((l4 / r1) * l7) (l3 + (1 : Int32)) l5 l6 _ _ ls (lv_sub hl [2, 3, 4, 1, 6, 7] rfl) hP hD hS hf
      have hb_27 : ∀ (n_27 : Nat) (l3 : Int32) (l4 : Int32) (l5 : Int32) (l6 : Int32) (l7 : Int32) (l8 : Int32) (l9 : Int32) (H : Heap) (locs : List Loc) (ls : Array Slot), lv_has ls 10 [(0, .ref A_t), (1, .int a1), (2, .int a2), (3, .int l3), (4, .int l4), (5, .int l5), (6, .int l6), (7, .int l7), (8, .int l8), (9, .int l9)] → va_P D vwCl [oX5 A_t A_t_tape A_t_borne x_t_bottles, oX9 A_t_tape A_t_tape_bytes x_t_tape_size x_t_tape_end x_t_tape_place x_t_tape_fault, iA cI 260 A_t_tape_bytes v_t_tape_bytes] H → va_D A [oX5 A_t A_t_tape A_t_borne x_t_bottles, oX9 A_t_tape A_t_tape_bytes x_t_tape_size x_t_tape_end x_t_tape_place x_t_tape_fault, iA cI 260 A_t_tape_bytes v_t_tape_bytes] → va_S A s.heap H locs → f_X5_ringsIn_b27 v_t_tape_bytes x_t_tape_size a1 a2 (f_X5_ringsIn_b11 v_t_tape_bytes x_t_tape_size a1 a2 n_11) n_27 l3 l4 l5 l6 l7 l8 l9 = some o_r → W p l e { frames := 1, cells := 0, slots := 0, locals := 25 } s m ([.ref A_t, .int a1, .int a2] : List Value).toArray below meth c H locs 0 0 (MQ below (PoI D A [oX5 A_t A_t_tape A_t_borne x_t_bottles, oX9 A_t_tape A_t_tape_bytes x_t_tape_size x_t_tape_end x_t_tape_place x_t_tape_fault, iA cI 260 A_t_tape_bytes v_t_tape_bytes] o_r) ([.ref A_t, .int a1, .int a2] : List Value).toArray s 0 0 A) (F0 m 27 ls []) := by
        intro n_27
        induction n_27 with
        | zero =>
          intro l3 l4 l5 l6 l7 l8 l9 H locs ls hl hP hD hS hf
          exact absurd hf (fun h => by rw [f_X5_ringsIn_b27] at h; cases h)
        | succ n_27 ih_27 =>
          intro l3 l4 l5 l6 l7 l8 l9 H locs ls hl hP hD hS hf
          rw [f_X5_ringsIn_b27] at hf
          refine lv_iload hx hb dX5_ringsIn_27 (lv_at hl 9 rfl) ?_
          refine lv_iload_n hx hb dX5_ringsIn_29 rfl (lv_at hl 1 rfl) ?_
          refine lv_icmp_ge (tgt := 72) hx hb dX5_ringsIn_30 (by decide) (fun q => ?_) (fun q => ?_)
          · have hf := if_t q hf
            exact hb_72 l3 l4 l5 l6 l7 _ _ ls (lv_sub hl [0, 1, 2, 3, 4, 5, 6, 7] rfl) hP hD hS hf
          · have hf := if_f q hf
            refine lv_iload hx hb dX5_ringsIn_33 (lv_at hl 5 rfl) ?_
            refine lv_iload hx hb dX5_ringsIn_35 (lv_at hl 8 rfl) ?_
            refine lv_ishr hx hb dX5_ringsIn_37 ?_
            refine lv_iconst (v := 1) hx hb dX5_ringsIn_38 (by decide) ?_
            refine lv_iand hx hb dX5_ringsIn_39 ?_
            refine lv_if_ne (tgt := 72) hx hb dX5_ringsIn_40 (by decide) (fun q => ?_) (fun q => ?_)
            · have hf := if_f q hf
              exact hb_72 l3 l4 l5 l6 l7 _ _ ls (lv_sub hl [0, 1, 2, 3, 4, 5, 6, 7] rfl) hP hD hS hf
            · have hf := if_t q hf
              refine lv_iload hx hb dX5_ringsIn_43 (lv_at hl 5 rfl) ?_
              refine lv_iconst (v := 1) hx hb dX5_ringsIn_45 (by decide) ?_
              refine lv_iload hx hb dX5_ringsIn_46 (lv_at hl 8 rfl) ?_
              refine lv_ishl hx hb dX5_ringsIn_48 ?_
              refine lv_ior hx hb dX5_ringsIn_49 ?_
              refine lv_istore (lv' := [(5, .int (l5 ||| ((1 : Int32) <<< (l8 &&& 31)))), (0, .ref A_t), (1, .int a1), (2, .int a2), (3, .int l3), (4, .int l4), (6, .int l6), (7, .int l7), (8, .int l8), (9, .int l9)]) hx hb dX5_ringsIn_50 hl (by decide) rfl (fun ls hl => ?_)
              refine lv_aload_n hx hb dX5_ringsIn_52 rfl (lv_at hl 1 rfl) ?_
              refine x_get C hK hP fd_X5_15 0 rfl rfl dX5_ringsIn_53 ?_
              refine lv_iload hx hb dX5_ringsIn_56 (lv_at hl 8 rfl) ?_
              obtain ⟨r3, hc4, hf⟩ := bd1_e hf
              refine x_callVI (ws' := [oX5 A_t A_t_tape A_t_borne x_t_bottles, oX9 A_t_tape A_t_tape_bytes x_t_tape_size x_t_tape_end x_t_tape_place x_t_tape_fault, iA cI 260 A_t_tape_bytes v_t_tape_bytes]) (rest := []) C hK hP hD hS hA hl mf_X5_54 (c_X9_at hc4) [1, 2] 0 9 rfl rfl rfl rfl rfl rfl rfl rfl rfl rfl (Nat.le_of_ble_eq_true rfl) ⟨Nat.le_of_ble_eq_true rfl, Nat.le_of_ble_eq_true rfl⟩ ⟨Nat.le_refl _, Nat.le_refl _⟩ dX5_ringsIn_58 ?_
              intro H locs hP hD hS
              refine lv_istore (lv' := [(8, .int r3), (5, .int (l5 ||| ((1 : Int32) <<< (l8 &&& 31)))), (0, .ref A_t), (1, .int a1), (2, .int a2), (3, .int l3), (4, .int l4), (6, .int l6), (7, .int l7), (9, .int l9)]) hx hb dX5_ringsIn_61 hl (by decide) rfl (fun ls hl => ?_)
              refine lv_iinc (v := (l7 + (1 : Int32))) (lv' := [(7, .int (l7 + (1 : Int32))), (8, .int r3), (5, .int (l5 ||| ((1 : Int32) <<< (l8 &&& 31)))), (0, .ref A_t), (1, .int a1), (2, .int a2), (3, .int l3), (4, .int l4), (6, .int l6), (9, .int l9)]) hx hb dX5_ringsIn_63 hl (k := 8) rfl rfl (by decide) rfl (fun ls hl => ?_)
              refine lv_iinc (v := (l9 + (1 : Int32))) (lv' := [(9, .int (l9 + (1 : Int32))), (7, .int (l7 + (1 : Int32))), (8, .int r3), (5, .int (l5 ||| ((1 : Int32) <<< (l8 &&& 31)))), (0, .ref A_t), (1, .int a1), (2, .int a2), (3, .int l3), (4, .int l4), (6, .int l6)]) hx hb dX5_ringsIn_66 hl (k := 9) rfl rfl (by decide) rfl (fun ls hl => ?_)
              refine lv_goto (tgt := 27) hx hb dX5_ringsIn_69 (by decide) ?_
              exact ih_27 l3 l4 (l5 ||| ((1 : Int32) <<< (l8 &&& 31))) l6 (l7 + (1 : Int32)) r3 (l9 + (1 : Int32)) _ _ ls (lv_sub hl [4, 5, 6, 7, 8, 3, 9, 1, 2, 0] rfl) hP hD hS hf
      intro l3 l4 l5 l6 H locs ls hl hP hD hS hf
      rw [f_X5_ringsIn_b11] at hf
      refine lv_iload hx hb dX5_ringsIn_11 (lv_at hl 6 rfl) ?_
      refine lv_iload_n hx hb dX5_ringsIn_13 rfl (lv_at hl 1 rfl) ?_
      refine lv_icmp_ge (tgt := 115) hx hb dX5_ringsIn_14 (by decide) (fun q => ?_) (fun q => ?_)
      · have hf := if_t q hf
        refine lv_iload_n hx hb dX5_ringsIn_115 rfl (lv_at hl 2 rfl) ?_
        refine lv_if_ne (tgt := 123) hx hb dX5_ringsIn_116 (by decide) (fun q => ?_) (fun q => ?_)
        · have hf := if_f q hf
          refine lv_iload hx hb dX5_ringsIn_123 (lv_at hl 4 rfl) ?_
          exact hb_125 l4 _ _ ls (lv_sub hl [] rfl) hP hD hS hf
        · have hf := if_t q hf
          refine lv_iload_n hx hb dX5_ringsIn_119 rfl (lv_at hl 3 rfl) ?_
          refine lv_goto (tgt := 125) hx hb dX5_ringsIn_120 (by decide) ?_
          exact hb_125 l3 _ _ ls (lv_sub hl [] rfl) hP hD hS hf
      · have hf := if_f q hf
        refine lv_iconst (v := 0) hx hb dX5_ringsIn_17 (by decide) ?_
        refine lv_istore (lv' := [(7, .int (0 : Int32)), (0, .ref A_t), (1, .int a1), (2, .int a2), (3, .int l3), (4, .int l4), (5, .int l5), (6, .int l6)]) hx hb dX5_ringsIn_18 hl (by decide) rfl (fun ls hl => ?_)
        refine lv_iload hx hb dX5_ringsIn_20 (lv_at hl 7 rfl) ?_
        refine lv_istore (lv' := [(8, .int l6), (7, .int (0 : Int32)), (0, .ref A_t), (1, .int a1), (2, .int a2), (3, .int l3), (4, .int l4), (5, .int l5), (6, .int l6)]) hx hb dX5_ringsIn_22 hl (by decide) rfl (fun ls hl => ?_)
        refine lv_iconst (v := 0) hx hb dX5_ringsIn_24 (by decide) ?_
        refine lv_istore (lv' := [(9, .int (0 : Int32)), (8, .int l6), (7, .int (0 : Int32)), (0, .ref A_t), (1, .int a1), (2, .int a2), (3, .int l3), (4, .int l4), (5, .int l5), (6, .int l6)]) hx hb dX5_ringsIn_25 hl (by decide) rfl (fun ls hl => ?_)
        exact hb_27 FU l3 l4 l5 l6 (0 : Int32) l6 (0 : Int32) _ _ ls (lv_sub hl [3, 4, 5, 6, 7, 8, 9, 2, 1, 0] rfl) hP hD hS hf
  refine lv_iconst (v := 0) hx hb dX5_ringsIn_0 (by decide) ?_
  refine lv_istore_n (lv' := [(3, .int (0 : Int32)), (0, .ref A_t), (1, .int a1), (2, .int a2)]) hx hb dX5_ringsIn_1 rfl hl (by decide) rfl (fun ls hl => ?_)
  refine lv_iconst (v := 1) hx hb dX5_ringsIn_2 (by decide) ?_
  refine lv_istore (lv' := [(4, .int (1 : Int32)), (3, .int (0 : Int32)), (0, .ref A_t), (1, .int a1), (2, .int a2)]) hx hb dX5_ringsIn_3 hl (by decide) rfl (fun ls hl => ?_)
  refine lv_iconst (v := 0) hx hb dX5_ringsIn_5 (by decide) ?_
  refine lv_istore (lv' := [(5, .int (0 : Int32)), (4, .int (1 : Int32)), (3, .int (0 : Int32)), (0, .ref A_t), (1, .int a1), (2, .int a2)]) hx hb dX5_ringsIn_6 hl (by decide) rfl (fun ls hl => ?_)
  refine lv_iconst (v := 0) hx hb dX5_ringsIn_8 (by decide) ?_
  refine lv_istore (lv' := [(6, .int (0 : Int32)), (5, .int (0 : Int32)), (4, .int (1 : Int32)), (3, .int (0 : Int32)), (0, .ref A_t), (1, .int a1), (2, .int a2)]) hx hb dX5_ringsIn_9 hl (by decide) rfl (fun ls hl => ?_)
  exact hb_11 FU (0 : Int32) (1 : Int32) (0 : Int32) (0 : Int32) _ _ ls (lv_sub hl [4, 5, 6, 3, 2, 1, 0] rfl) hP hD hS hf
