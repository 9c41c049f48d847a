def f_X1_clear (x_t_rules : Int32) (x_t_size : Int32) : Option (Int32 × Int32) :=
  some ((0 : Int32), (0 : Int32))
set_option maxHeartbeats 4000000 in
set_option maxRecDepth 100000 in
theorem c_X1_clear {l : Launch} {D : va_G} {cI cB : ClassId} {A_t A_t_code A_t_letters A_t_valueFrom A_t_testFrom A_t_testEnd A_t_facts A_t_stack : Nat} {x_t_size x_t_rules x_t_height x_t_refused : Int32} {o_x_t_rules o_x_t_size : Int32} (hf : f_X1_clear x_t_rules x_t_size = some (o_x_t_rules, o_x_t_size)) : CtV l D cI cB yX1_clear cX1_clear 1 0 0 [.ref A_t] [oX1 A_t A_t_code A_t_letters A_t_valueFrom A_t_testFrom A_t_testEnd A_t_facts A_t_stack x_t_size x_t_rules x_t_height x_t_refused] [oX1 A_t A_t_code A_t_letters A_t_valueFrom A_t_testFrom A_t_testEnd A_t_facts A_t_stack o_x_t_size o_x_t_rules x_t_height x_t_refused] := by
  refine x_startV (by decide) (Nat.le_of_ble_eq_true rfl) ?_
  intro p e s m below meth c A C hr hlk hA hK hP hD hS ls hl
  have hl : lv_has ls 1 [(0, .ref A_t)] := hl
  have hx := C.1
  have hb := C.2.1
  unfold f_X1_clear at hf
  refine lv_aload_n hx hb dX1_clear_0 rfl (lv_at hl 0 rfl) ?_
  refine lv_iconst (v := 0) hx hb dX1_clear_1 (by decide) ?_
  refine x_put (ws' := [oX1 A_t A_t_code A_t_letters A_t_valueFrom A_t_testFrom A_t_testEnd A_t_facts A_t_stack (0 : Int32) x_t_rules x_t_height x_t_refused]) C hK hP hD hS fp_X1_31 0 rfl rfl rfl (Nat.le_of_ble_eq_true rfl) rfl dX1_clear_2 ?_
  intro H locs hP hD hS
  refine lv_aload_n hx hb dX1_clear_5 rfl (lv_at hl 0 rfl) ?_
  refine lv_iconst (v := 0) hx hb dX1_clear_6 (by decide) ?_
  refine x_put (ws' := [oX1 A_t A_t_code A_t_letters A_t_valueFrom A_t_testFrom A_t_testEnd A_t_facts A_t_stack (0 : Int32) (0 : Int32) x_t_height x_t_refused]) C hK hP hD hS fp_X1_35 0 rfl rfl rfl (Nat.le_of_ble_eq_true rfl) rfl dX1_clear_7 ?_
  intro H locs hP hD hS
  obtain ⟨rfl, rfl⟩ := ev2 hf
  exact x_vret C hr hlk hP hD hS dX1_clear_10
def f_X1_copyFrom (v_o1_code : (Nat → Int32)) (v_o1_letters : (Nat → Int32)) (v_o1_testEnd : (Nat → Int32)) (v_o1_testFrom : (Nat → Int32)) (v_o1_valueFrom : (Nat → Int32)) (v_t_code : (Nat → Int32)) (v_t_letters : (Nat → Int32)) (v_t_testEnd : (Nat → Int32)) (v_t_testFrom : (Nat → Int32)) (v_t_valueFrom : (Nat → Int32)) (x_o1_rules : Int32) (x_o1_size : Int32) (x_t_rules : Int32) (x_t_size : Int32) : Option ((Nat → Int32) × (Nat → Int32) × (Nat → Int32) × (Nat → Int32) × (Nat → Int32) × Int32 × Int32) :=
  cI 240 240 v_o1_code v_t_code (0 : Int32) (0 : Int32) (240 : Int32) (fun w1 =>
  cI 16 16 v_o1_letters v_t_letters (0 : Int32) (0 : Int32) (16 : Int32) (fun w2 =>
  cI 16 16 v_o1_valueFrom v_t_valueFrom (0 : Int32) (0 : Int32) (16 : Int32) (fun w3 =>
  cI 16 16 v_o1_testFrom v_t_testFrom (0 : Int32) (0 : Int32) (16 : Int32) (fun w4 =>
  cI 16 16 v_o1_testEnd v_t_testEnd (0 : Int32) (0 : Int32) (16 : Int32) (fun w5 =>
  some (w1, w2, w5, w4, w3, x_o1_rules, x_o1_size))))))
set_option maxHeartbeats 4000000 in
set_option maxRecDepth 100000 in
theorem c_X1_copyFrom {l : Launch} {D : va_G} {cI cB : ClassId} {A_o1 A_o1_code A_o1_letters A_o1_valueFrom A_o1_testFrom A_o1_testEnd A_o1_facts A_o1_stack A_t A_t_code A_t_letters A_t_valueFrom A_t_testFrom A_t_testEnd A_t_facts A_t_stack : Nat} {x_o1_size x_o1_rules x_o1_height x_o1_refused x_t_size x_t_rules x_t_height x_t_refused : Int32} {v_o1_code v_o1_letters v_o1_testEnd v_o1_testFrom v_o1_valueFrom v_t_code v_t_letters v_t_testEnd v_t_testFrom v_t_valueFrom : Nat → Int32} {o_x_t_rules o_x_t_size : Int32} {o_v_t_code o_v_t_letters o_v_t_testEnd o_v_t_testFrom o_v_t_valueFrom : Nat → Int32} (hf : f_X1_copyFrom v_o1_code v_o1_letters v_o1_testEnd v_o1_testFrom v_o1_valueFrom v_t_code v_t_letters v_t_testEnd v_t_testFrom v_t_valueFrom x_o1_rules x_o1_size x_t_rules x_t_size = some (o_v_t_code, o_v_t_letters, o_v_t_testEnd, o_v_t_testFrom, o_v_t_valueFrom, o_x_t_rules, o_x_t_size)) : CtV l D cI cB yX1_copyFrom cX1_copyFrom 2 1 40 [.ref A_t, .ref A_o1] [oX1 A_o1 A_o1_code A_o1_letters A_o1_valueFrom A_o1_testFrom A_o1_testEnd A_o1_facts A_o1_stack x_o1_size x_o1_rules x_o1_height x_o1_refused, oX1 A_t A_t_code A_t_letters A_t_valueFrom A_t_testFrom A_t_testEnd A_t_facts A_t_stack x_t_size x_t_rules x_t_height x_t_refused, iA cI 240 A_o1_code v_o1_code, iA cI 16 A_o1_letters v_o1_letters, iA cI 16 A_o1_testEnd v_o1_testEnd, iA cI 16 A_o1_testFrom v_o1_testFrom, iA cI 16 A_o1_valueFrom v_o1_valueFrom, iA cI 240 A_t_code v_t_code, iA cI 16 A_t_letters v_t_letters, iA cI 16 A_t_testEnd v_t_testEnd, iA cI 16 A_t_testFrom v_t_testFrom, iA cI 16 A_t_valueFrom v_t_valueFrom] [oX1 A_o1 A_o1_code A_o1_letters A_o1_valueFrom A_o1_testFrom A_o1_testEnd A_o1_facts A_o1_stack x_o1_size x_o1_rules x_o1_height x_o1_refused, oX1 A_t A_t_code A_t_letters A_t_valueFrom A_t_testFrom A_t_testEnd A_t_facts A_t_stack o_x_t_size o_x_t_rules x_t_height x_t_refused, iA cI 240 A_o1_code v_o1_code, iA cI 16 A_o1_letters v_o1_letters, iA cI 16 A_o1_testEnd v_o1_testEnd, iA cI 16 A_o1_testFrom v_o1_testFrom, iA cI 16 A_o1_valueFrom v_o1_valueFrom, iA cI 240 A_t_code o_v_t_code, iA cI 16 A_t_letters o_v_t_letters, iA cI 16 A_t_testEnd o_v_t_testEnd, iA cI 16 A_t_testFrom o_v_t_testFrom, iA cI 16 A_t_valueFrom o_v_t_valueFrom] := by
  refine x_startV (by decide) (Nat.le_of_ble_eq_true rfl) ?_
  intro p e s m below meth c A C hr hlk hA hK hP hD hS ls hl
  have hl : lv_has ls 2 [(0, .ref A_t), (1, .ref A_o1)] := hl
  have hx := C.1
  have hb := C.2.1
  unfold f_X1_copyFrom at hf
  refine lv_aload_n hx hb dX1_copyFrom_0 rfl (lv_at hl 1 rfl) ?_
  refine x_get C hK hP fd_X1_9 0 rfl rfl dX1_copyFrom_1 ?_
  refine lv_iconst (v := 0) hx hb dX1_copyFrom_4 (by decide) ?_
  refine lv_aload_n hx hb dX1_copyFrom_5 rfl (lv_at hl 0 rfl) ?_
  refine x_get C hK hP fd_X1_9 1 rfl rfl dX1_copyFrom_6 ?_
  refine lv_iconst (v := 0) hx hb dX1_copyFrom_9 (by decide) ?_
  refine lv_sipush (v := 240) hx hb dX1_copyFrom_10 (by decide) ?_
  obtain ⟨hc, hf⟩ := cI_e hf
  refine x_copy (ws' := [oX1 A_o1 A_o1_code A_o1_letters A_o1_valueFrom A_o1_testFrom A_o1_testEnd A_o1_facts A_o1_stack x_o1_size x_o1_rules x_o1_height x_o1_refused, oX1 A_t A_t_code A_t_letters A_t_valueFrom A_t_testFrom A_t_testEnd A_t_facts A_t_stack x_t_size x_t_rules x_t_height x_t_refused, iA cI 240 A_o1_code v_o1_code, iA cI 16 A_o1_letters v_o1_letters, iA cI 16 A_o1_testEnd v_o1_testEnd, iA cI 16 A_o1_testFrom v_o1_testFrom, iA cI 16 A_o1_valueFrom v_o1_valueFrom, iA cI 240 A_t_code (va_cpy v_o1_code v_t_code (0 : Int32).toNatClampNeg (0 : Int32).toNatClampNeg (240 : Int32).toNatClampNeg), iA cI 16 A_t_letters v_t_letters, iA cI 16 A_t_testEnd v_t_testEnd, iA cI 16 A_t_testFrom v_t_testFrom, iA cI 16 A_t_valueFrom v_t_valueFrom]) C hK hP hD hS hl ml_X1_38 2 7 rfl rfl hc rfl (Nat.le_of_ble_eq_true rfl) (Nat.le_of_ble_eq_true rfl) dX1_copyFrom_13 ?_
  intro H locs hP hD hS
  refine lv_aload_n hx hb dX1_copyFrom_16 rfl (lv_at hl 1 rfl) ?_
  refine x_get C hK hP fd_X1_13 0 rfl rfl dX1_copyFrom_17 ?_
  refine lv_iconst (v := 0) hx hb dX1_copyFrom_20 (by decide) ?_
  refine lv_aload_n hx hb dX1_copyFrom_21 rfl (lv_at hl 0 rfl) ?_
  refine x_get C hK hP fd_X1_13 1 rfl rfl dX1_copyFrom_22 ?_
  refine lv_iconst (v := 0) hx hb dX1_copyFrom_25 (by decide) ?_
  refine lv_bipush (v := 16) hx hb dX1_copyFrom_26 (by decide) ?_
  obtain ⟨hc, hf⟩ := cI_e hf
  refine x_copy (ws' := [oX1 A_o1 A_o1_code A_o1_letters A_o1_valueFrom A_o1_testFrom A_o1_testEnd A_o1_facts A_o1_stack x_o1_size x_o1_rules x_o1_height x_o1_refused, oX1 A_t A_t_code A_t_letters A_t_valueFrom A_t_testFrom A_t_testEnd A_t_facts A_t_stack x_t_size x_t_rules x_t_height x_t_refused, iA cI 240 A_o1_code v_o1_code, iA cI 16 A_o1_letters v_o1_letters, iA cI 16 A_o1_testEnd v_o1_testEnd, iA cI 16 A_o1_testFrom v_o1_testFrom, iA cI 16 A_o1_valueFrom v_o1_valueFrom, iA cI 240 A_t_code (va_cpy v_o1_code v_t_code (0 : Int32).toNatClampNeg (0 : Int32).toNatClampNeg (240 : Int32).toNatClampNeg), iA cI 16 A_t_letters (va_cpy v_o1_letters v_t_letters (0 : Int32).toNatClampNeg (0 : Int32).toNatClampNeg (16 : Int32).toNatClampNeg), iA cI 16 A_t_testEnd v_t_testEnd, iA cI 16 A_t_testFrom v_t_testFrom, iA cI 16 A_t_valueFrom v_t_valueFrom]) C hK hP hD hS hl ml_X1_38 3 8 rfl rfl hc rfl (Nat.le_of_ble_eq_true rfl) (Nat.le_of_ble_eq_true rfl) dX1_copyFrom_28 ?_
  intro H locs hP hD hS
  refine lv_aload_n hx hb dX1_copyFrom_31 rfl (lv_at hl 1 rfl) ?_
  refine x_get C hK hP fd_X1_16 0 rfl rfl dX1_copyFrom_32 ?_
  refine lv_iconst (v := 0) hx hb dX1_copyFrom_35 (by decide) ?_
  refine lv_aload_n hx hb dX1_copyFrom_36 rfl (lv_at hl 0 rfl) ?_
  refine x_get C hK hP fd_X1_16 1 rfl rfl dX1_copyFrom_37 ?_
  refine lv_iconst (v := 0) hx hb dX1_copyFrom_40 (by decide) ?_
  refine lv_bipush (v := 16) hx hb dX1_copyFrom_41 (by decide) ?_
  obtain ⟨hc, hf⟩ := cI_e hf
  refine x_copy (ws' := [oX1 A_o1 A_o1_code A_o1_letters A_o1_valueFrom A_o1_testFrom A_o1_testEnd A_o1_facts A_o1_stack x_o1_size x_o1_rules x_o1_height x_o1_refused, oX1 A_t A_t_code A_t_letters A_t_valueFrom A_t_testFrom A_t_testEnd A_t_facts A_t_stack x_t_size x_t_rules x_t_height x_t_refused, iA cI 240 A_o1_code v_o1_code, iA cI 16 A_o1_letters v_o1_letters, iA cI 16 A_o1_testEnd v_o1_testEnd, iA cI 16 A_o1_testFrom v_o1_testFrom, iA cI 16 A_o1_valueFrom v_o1_valueFrom, iA cI 240 A_t_code (va_cpy v_o1_code v_t_code (0 : Int32).toNatClampNeg (0 : Int32).toNatClampNeg (240 : Int32).toNatClampNeg), iA cI 16 A_t_letters (va_cpy v_o1_letters v_t_letters (0 : Int32).toNatClampNeg (0 : Int32).toNatClampNeg (16 : Int32).toNatClampNeg), iA cI 16 A_t_testEnd v_t_testEnd, iA cI 16 A_t_testFrom v_t_testFrom, iA cI 16 A_t_valueFrom (va_cpy v_o1_valueFrom v_t_valueFrom (0 : Int32).toNatClampNeg (0 : Int32).toNatClampNeg (16 : Int32).toNatClampNeg)]) C hK hP hD hS hl ml_X1_38 6 11 rfl rfl hc rfl (Nat.le_of_ble_eq_true rfl) (Nat.le_of_ble_eq_true rfl) dX1_copyFrom_43 ?_
  intro H locs hP hD hS
  refine lv_aload_n hx hb dX1_copyFrom_46 rfl (lv_at hl 1 rfl) ?_
  refine x_get C hK hP fd_X1_19 0 rfl rfl dX1_copyFrom_47 ?_
  refine lv_iconst (v := 0) hx hb dX1_copyFrom_50 (by decide) ?_
  refine lv_aload_n hx hb dX1_copyFrom_51 rfl (lv_at hl 0 rfl) ?_
  refine x_get C hK hP fd_X1_19 1 rfl rfl dX1_copyFrom_52 ?_
  refine lv_iconst (v := 0) hx hb dX1_copyFrom_55 (by decide) ?_
  refine lv_bipush (v := 16) hx hb dX1_copyFrom_56 (by decide) ?_
  obtain ⟨hc, hf⟩ := cI_e hf
  refine x_copy (ws' := [oX1 A_o1 A_o1_code A_o1_letters A_o1_valueFrom A_o1_testFrom A_o1_testEnd A_o1_facts A_o1_stack x_o1_size x_o1_rules x_o1_height x_o1_refused, oX1 A_t A_t_code A_t_letters A_t_valueFrom A_t_testFrom A_t_testEnd A_t_facts A_t_stack x_t_size x_t_rules x_t_height x_t_refused, iA cI 240 A_o1_code v_o1_code, iA cI 16 A_o1_letters v_o1_letters, iA cI 16 A_o1_testEnd v_o1_testEnd, iA cI 16 A_o1_testFrom v_o1_testFrom, iA cI 16 A_o1_valueFrom v_o1_valueFrom, iA cI 240 A_t_code (va_cpy v_o1_code v_t_code (0 : Int32).toNatClampNeg (0 : Int32).toNatClampNeg (240 : Int32).toNatClampNeg), iA cI 16 A_t_letters (va_cpy v_o1_letters v_t_letters (0 : Int32).toNatClampNeg (0 : Int32).toNatClampNeg (16 : Int32).toNatClampNeg), iA cI 16 A_t_testEnd v_t_testEnd, iA cI 16 A_t_testFrom (va_cpy v_o1_testFrom v_t_testFrom (0 : Int32).toNatClampNeg (0 : Int32).toNatClampNeg (16 : Int32).toNatClampNeg), iA cI 16 A_t_valueFrom (va_cpy v_o1_valueFrom v_t_valueFrom (0 : Int32).toNatClampNeg (0 : Int32).toNatClampNeg (16 : Int32).toNatClampNeg)]) C hK hP hD hS hl ml_X1_38 5 10 rfl rfl hc rfl (Nat.le_of_ble_eq_true rfl) (Nat.le_of_ble_eq_true rfl) dX1_copyFrom_58 ?_
  intro H locs hP hD hS
  refine lv_aload_n hx hb dX1_copyFrom_61 rfl (lv_at hl 1 rfl) ?_
  refine x_get C hK hP fd_X1_22 0 rfl rfl dX1_copyFrom_62 ?_
  refine lv_iconst (v := 0) hx hb dX1_copyFrom_65 (by decide) ?_
  refine lv_aload_n hx hb dX1_copyFrom_66 rfl (lv_at hl 0 rfl) ?_
  refine x_get C hK hP fd_X1_22 1 rfl rfl dX1_copyFrom_67 ?_
  refine lv_iconst (v := 0) hx hb dX1_copyFrom_70 (by decide) ?_
  refine lv_bipush (v := 16) hx hb dX1_copyFrom_71 (by decide) ?_
  obtain ⟨hc, hf⟩ := cI_e hf
  refine x_copy (ws' := [oX1 A_o1 A_o1_code A_o1_letters A_o1_valueFrom A_o1_testFrom A_o1_testEnd A_o1_facts A_o1_stack x_o1_size x_o1_rules x_o1_height x_o1_refused, oX1 A_t A_t_code A_t_letters A_t_valueFrom A_t_testFrom A_t_testEnd A_t_facts A_t_stack x_t_size x_t_rules x_t_height x_t_refused, iA cI 240 A_o1_code v_o1_code, iA cI 16 A_o1_letters v_o1_letters, iA cI 16 A_o1_testEnd v_o1_testEnd, iA cI 16 A_o1_testFrom v_o1_testFrom, iA cI 16 A_o1_valueFrom v_o1_valueFrom, iA cI 240 A_t_code (va_cpy v_o1_code v_t_code (0 : Int32).toNatClampNeg (0 : Int32).toNatClampNeg (240 : Int32).toNatClampNeg), iA cI 16 A_t_letters (va_cpy v_o1_letters v_t_letters (0 : Int32).toNatClampNeg (0 : Int32).toNatClampNeg (16 : Int32).toNatClampNeg), iA cI 16 A_t_testEnd (va_cpy v_o1_testEnd v_t_testEnd (0 : Int32).toNatClampNeg (0 : Int32).toNatClampNeg (16 : Int32).toNatClampNeg), iA cI 16 A_t_testFrom (va_cpy v_o1_testFrom v_t_testFrom (0 : Int32).toNatClampNeg (0 : Int32).toNatClampNeg (16 : Int32).toNatClampNeg), iA cI 16 A_t_valueFrom (va_cpy v_o1_valueFrom v_t_valueFrom (0 : Int32).toNatClampNeg (0 : Int32).toNatClampNeg (16 : Int32).toNatClampNeg)]) C hK hP hD hS hl ml_X1_38 4 9 rfl rfl hc rfl (Nat.le_of_ble_eq_true rfl) (Nat.le_of_ble_eq_true rfl) dX1_copyFrom_73 ?_
  intro H locs hP hD hS
  refine lv_aload_n hx hb dX1_copyFrom_76 rfl (lv_at hl 0 rfl) ?_
  refine lv_aload_n hx hb dX1_copyFrom_77 rfl (lv_at hl 1 rfl) ?_
  refine x_get C hK hP fd_X1_31 0 rfl rfl dX1_copyFrom_78 ?_
  refine x_put (ws' := [oX1 A_o1 A_o1_code A_o1_letters A_o1_valueFrom A_o1_testFrom A_o1_testEnd A_o1_facts A_o1_stack x_o1_size x_o1_rules x_o1_height x_o1_refused, oX1 A_t A_t_code A_t_letters A_t_valueFrom A_t_testFrom A_t_testEnd A_t_facts A_t_stack x_o1_size x_t_rules x_t_height x_t_refused, iA cI 240 A_o1_code v_o1_code, iA cI 16 A_o1_letters v_o1_letters, iA cI 16 A_o1_testEnd v_o1_testEnd, iA cI 16 A_o1_testFrom v_o1_testFrom, iA cI 16 A_o1_valueFrom v_o1_valueFrom, iA cI 240 A_t_code (va_cpy v_o1_code v_t_code (0 : Int32).toNatClampNeg (0 : Int32).toNatClampNeg (240 : Int32).toNatClampNeg), iA cI 16 A_t_letters (va_cpy v_o1_letters v_t_letters (0 : Int32).toNatClampNeg (0 : Int32).toNatClampNeg (16 : Int32).toNatClampNeg), iA cI 16 A_t_testEnd (va_cpy v_o1_testEnd v_t_testEnd (0 : Int32).toNatClampNeg (0 : Int32).toNatClampNeg (16 : Int32).toNatClampNeg), iA cI 16 A_t_testFrom (va_cpy v_o1_testFrom v_t_testFrom (0 : Int32).toNatClampNeg (0 : Int32).toNatClampNeg (16 : Int32).toNatClampNeg), iA cI 16 A_t_valueFrom (va_cpy v_o1_valueFrom v_t_valueFrom (0 : Int32).toNatClampNeg (0 : Int32).toNatClampNeg (16 : Int32).toNatClampNeg)]) C hK hP hD hS fp_X1_31 1 rfl rfl rfl (Nat.le_of_ble_eq_true rfl) rfl dX1_copyFrom_81 ?_
  intro H locs hP hD hS
  refine lv_aload_n hx hb dX1_copyFrom_84 rfl (lv_at hl 0 rfl) ?_
  refine lv_aload_n hx hb dX1_copyFrom_85 rfl (lv_at hl 1 rfl) ?_
  refine x_get C hK hP fd_X1_35 0 rfl rfl dX1_copyFrom_86 ?_
  refine x_put (ws' := [oX1 A_o1 A_o1_code A_o1_letters A_o1_valueFrom A_o1_testFrom A_o1_testEnd A_o1_facts A_o1_stack x_o1_size x_o1_rules x_o1_height x_o1_refused, oX1 A_t A_t_code A_t_letters A_t_valueFrom A_t_testFrom A_t_testEnd A_t_facts A_t_stack x_o1_size x_o1_rules x_t_height x_t_refused, iA cI 240 A_o1_code v_o1_code, iA cI 16 A_o1_letters v_o1_letters, iA cI 16 A_o1_testEnd v_o1_testEnd, iA cI 16 A_o1_testFrom v_o1_testFrom, iA cI 16 A_o1_valueFrom v_o1_valueFrom, iA cI 240 A_t_code (va_cpy v_o1_code v_t_code (0 : Int32).toNatClampNeg (0 : Int32).toNatClampNeg (240 : Int32).toNatClampNeg), iA cI 16 A_t_letters (va_cpy v_o1_letters v_t_letters (0 : Int32).toNatClampNeg (0 : Int32).toNatClampNeg (16 : Int32).toNatClampNeg), iA cI 16 A_t_testEnd (va_cpy v_o1_testEnd v_t_testEnd (0 : Int32).toNatClampNeg (0 : Int32).toNatClampNeg (16 : Int32).toNatClampNeg), iA cI 16 A_t_testFrom (va_cpy v_o1_testFrom v_t_testFrom (0 : Int32).toNatClampNeg (0 : Int32).toNatClampNeg (16 : Int32).toNatClampNeg), iA cI 16 A_t_valueFrom (va_cpy v_o1_valueFrom v_t_valueFrom (0 : Int32).toNatClampNeg (0 : Int32).toNatClampNeg (16 : Int32).toNatClampNeg)]) C hK hP hD hS fp_X1_35 1 rfl rfl rfl (Nat.le_of_ble_eq_true rfl) rfl dX1_copyFrom_89 ?_
  intro H locs hP hD hS
  obtain ⟨rfl, rfl, rfl, rfl, rfl, rfl, rfl⟩ := ev7 hf
  exact x_vret C hr hlk hP hD hS dX1_copyFrom_92
def f_X1_emit_b33 (v_t_code : (Nat → Int32)) (x_t_size : Int32) (l3 : Int32) : Option (Int32 × (Nat → Int32) × Int32) :=
  some (l3, v_t_code, x_t_size)
def f_X1_emit (v_t_code : (Nat → Int32)) (x_t_size : Int32) (a1 : Int32) (a2 : Int32) : Option (Int32 × (Nat → Int32) × Int32) :=
  if (240 : Int32) ≤ x_t_size then
    f_X1_emit_b33 v_t_code x_t_size x_t_size
  else
    sI 240 v_t_code x_t_size ((a2 <<< ((4 : Int32) &&& 31)) ||| a1) (fun w1 =>
    f_X1_emit_b33 w1 (x_t_size + (1 : Int32)) x_t_size)
set_option maxHeartbeats 4000000 in
set_option maxRecDepth 100000 in
theorem c_X1_emit {l : Launch} {D : va_G} {cI cB : ClassId} {A_t A_t_code A_t_letters A_t_valueFrom A_t_testFrom A_t_testEnd A_t_facts A_t_stack : Nat} {x_t_size x_t_rules x_t_height x_t_refused a1 a2 : Int32} {v_t_code : Nat → Int32} {o_r o_x_t_size : Int32} {o_v_t_code : Nat → Int32} (hf : f_X1_emit v_t_code x_t_size a1 a2 = some (o_r, o_v_t_code, o_x_t_size)) : CtI l D cI cB yX1_emit cX1_emit 4 (some .int) 0 0 [.ref A_t, .int a1, .int a2] [oX1 A_t A_t_code A_t_letters A_t_valueFrom A_t_testFrom A_t_testEnd A_t_facts A_t_stack x_t_size x_t_rules x_t_height x_t_refused, iA cI 240 A_t_code v_t_code] [oX1 A_t A_t_code A_t_letters A_t_valueFrom A_t_testFrom A_t_testEnd A_t_facts A_t_stack o_x_t_size x_t_rules x_t_height x_t_refused, iA cI 240 A_t_code o_v_t_code] o_r := by
  refine x_startI (by decide) (Nat.le_of_ble_eq_true rfl) ?_
  intro p e s m below meth c A C hr hlk hA hK hP hD hS ls hl
  have hl : lv_has ls 4 [(0, .ref A_t), (1, .int a1), (2, .int a2)] := hl
  have hx := C.1
  have hb := C.2.1
  unfold f_X1_emit at hf
  have hb_33 : ∀ (v_t_code : (Nat → Int32)) (x_t_size : Int32) (l3 : Int32) (H : Heap) (locs : List Loc) (ls : Array Slot), lv_has ls 4 [(3, .int l3)] → va_P D vwCl [oX1 A_t A_t_code A_t_letters A_t_valueFrom A_t_testFrom A_t_testEnd A_t_facts A_t_stack x_t_size x_t_rules x_t_height x_t_refused, iA cI 240 A_t_code v_t_code] H → va_D A [oX1 A_t A_t_code A_t_letters A_t_valueFrom A_t_testFrom A_t_testEnd A_t_facts A_t_stack x_t_size x_t_rules x_t_height x_t_refused, iA cI 240 A_t_code v_t_code] → va_S A s.heap H locs → f_X1_emit_b33 v_t_code x_t_size l3 = some (o_r, o_v_t_code, o_x_t_size) → W p l e { frames := 0, cells := 0, slots := 0, locals := 0 } s m ([.ref A_t, .int a1, .int a2] : List Value).toArray below meth c H locs 0 0 (MQ below (PoI D A [oX1 A_t A_t_code A_t_letters A_t_valueFrom A_t_testFrom A_t_testEnd A_t_facts A_t_stack o_x_t_size x_t_rules x_t_height x_t_refused, iA cI 240 A_t_code o_v_t_code] o_r) ([.ref A_t, .int a1, .int a2] : List Value).toArray s 0 0 A) (F0 m 33 ls []) := by
    intro v_t_code x_t_size l3 H locs ls hl hP hD hS hf
    unfold f_X1_emit_b33 at hf
    refine lv_iload_n hx hb dX1_emit_33 rfl (lv_at hl 0 rfl) ?_
    obtain ⟨rfl, rfl, rfl⟩ := ev3 hf
    exact x_iret C hr hlk hP hD hS dX1_emit_34
  refine lv_aload_n hx hb dX1_emit_0 rfl (lv_at hl 0 rfl) ?_
  refine x_get C hK hP fd_X1_31 0 rfl rfl dX1_emit_1 ?_
  refine lv_istore_n (lv' := [(3, .int x_t_size), (0, .ref A_t), (1, .int a1), (2, .int a2)]) hx hb dX1_emit_4 rfl hl (by decide) rfl (fun ls hl => ?_)
  refine lv_iload_n hx hb dX1_emit_5 rfl (lv_at hl 0 rfl) ?_
  refine lv_sipush (v := 240) hx hb dX1_emit_6 (by decide) ?_
  refine lv_icmp_ge (tgt := 33) hx hb dX1_emit_9 (by decide) (fun q => ?_) (fun q => ?_)
  · have hf := if_t q hf
    exact hb_33 v_t_code x_t_size x_t_size _ _ ls (lv_sub hl [0] rfl) hP hD hS hf
  · have hf := if_f q hf
    refine lv_aload_n hx hb dX1_emit_12 rfl (lv_at hl 1 rfl) ?_
    refine x_get C hK hP fd_X1_9 0 rfl rfl dX1_emit_13 ?_
    refine lv_iload_n hx hb dX1_emit_16 rfl (lv_at hl 0 rfl) ?_
    refine lv_iload_n hx hb dX1_emit_17 rfl (lv_at hl 3 rfl) ?_
    refine lv_iconst (v := 4) hx hb dX1_emit_18 (by decide) ?_
    refine lv_ishl hx hb dX1_emit_19 ?_
    refine lv_iload_n hx hb dX1_emit_20 rfl (lv_at hl 2 rfl) ?_
    refine lv_ior hx hb dX1_emit_21 ?_
    obtain ⟨hi, hf⟩ := sI_e hf
    refine x_iast (ws' := [oX1 A_t A_t_code A_t_letters A_t_valueFrom A_t_testFrom A_t_testEnd A_t_facts A_t_stack x_t_size x_t_rules x_t_height x_t_refused, iA cI 240 A_t_code (upd v_t_code x_t_size.toNatClampNeg ((a2 <<< ((4 : Int32) &&& 31)) ||| a1))]) C hK hP hD hS 1 rfl hi rfl dX1_emit_22 ?_
    intro H locs hP hD hS
    refine lv_aload_n hx hb dX1_emit_23 rfl (lv_at hl 1 rfl) ?_
    refine lv_dup hx hb dX1_emit_24 rfl ?_
    refine x_get C hK hP fd_X1_31 0 rfl rfl dX1_emit_25 ?_
    refine lv_iconst (v := 1) hx hb dX1_emit_28 (by decide) ?_
    refine lv_iadd hx hb dX1_emit_29 ?_
    refine x_put (ws' := [oX1 A_t A_t_code A_t_letters A_t_valueFrom A_t_testFrom A_t_testEnd A_t_facts A_t_stack (x_t_size + (1 : Int32)) x_t_rules x_t_height x_t_refused, iA cI 240 A_t_code (upd v_t_code x_t_size.toNatClampNeg ((a2 <<< ((4 : Int32) &&& 31)) ||| a1))]) C hK hP hD hS fp_X1_31 0 rfl rfl rfl (Nat.le_of_ble_eq_true rfl) rfl dX1_emit_30 ?_
    intro H locs hP hD hS
    exact hb_33 (upd v_t_code x_t_size.toNatClampNeg ((a2 <<< ((4 : Int32) &&& 31)) ||| a1)) (x_t_size + (1 : Int32)) x_t_size _ _ ls (lv_sub hl [0] rfl) hP hD hS hf
def f_X1_leapTo_b30 (v_t_code : (Nat → Int32)) : Option ((Nat → Int32)) :=
  some v_t_code
def f_X1_leapTo (v_t_code : (Nat → Int32)) (a1 : Int32) (a2 : Int32) : Option ((Nat → Int32)) :=
  if a1 < 0 then
    f_X1_leapTo_b30 v_t_code
  else
    if (240 : Int32) ≤ a1 then
      f_X1_leapTo_b30 v_t_code
    else
      gI 240 v_t_code a1 (fun g1 =>
      sI 240 v_t_code a1 ((a2 <<< ((4 : Int32) &&& 31)) ||| (g1 &&& (15 : Int32))) (fun w2 =>
      f_X1_leapTo_b30 w2))
set_option maxHeartbeats 4000000 in
set_option maxRecDepth 100000 in
theorem c_X1_leapTo {l : Launch} {D : va_G} {cI cB : ClassId} {A_t A_t_code A_t_letters A_t_valueFrom A_t_testFrom A_t_testEnd A_t_facts A_t_stack : Nat} {x_t_size x_t_rules x_t_height x_t_refused a1 a2 : Int32} {v_t_code : Nat → Int32} {o_v_t_code : Nat → Int32} (hf : f_X1_leapTo v_t_code a1 a2 = some o_v_t_code) : CtV l D cI cB yX1_leapTo cX1_leapTo 3 0 0 [.ref A_t, .int a1, .int a2] [oX1 A_t A_t_code A_t_letters A_t_valueFrom A_t_testFrom A_t_testEnd A_t_facts A_t_stack x_t_size x_t_rules x_t_height x_t_refused, iA cI 240 A_t_code v_t_code] [oX1 A_t A_t_code A_t_letters A_t_valueFrom A_t_testFrom A_t_testEnd A_t_facts A_t_stack x_t_size x_t_rules x_t_height x_t_refused, iA cI 240 A_t_code o_v_t_code] := by
  refine x_startV (by decide) (Nat.le_of_ble_eq_true rfl) ?_
  intro p e s m below meth c A C hr hlk hA hK hP hD hS ls hl
  have hl : lv_has ls 3 [(0, .ref A_t), (1, .int a1), (2, .int a2)] := hl
  have hx := C.1
  have hb := C.2.1
  unfold f_X1_leapTo at hf
  have hb_30 : ∀ (v_t_code : (Nat → Int32)) (H : Heap) (locs : List Loc) (ls : Array Slot), lv_has ls 3 [] → va_P D vwCl [oX1 A_t A_t_code A_t_letters A_t_valueFrom A_t_testFrom A_t_testEnd A_t_facts A_t_stack x_t_size x_t_rules x_t_height x_t_refused, iA cI 240 A_t_code v_t_code] H → va_D A [oX1 A_t A_t_code A_t_letters A_t_valueFrom A_t_testFrom A_t_testEnd A_t_facts A_t_stack x_t_size x_t_rules x_t_height x_t_refused, iA cI 240 A_t_code v_t_code] → va_S A s.heap H locs → f_X1_leapTo_b30 v_t_code = some o_v_t_code → W p l e { frames := 0, cells := 0, slots := 0, locals := 0 } s m ([.ref A_t, .int a1, .int a2] : List Value).toArray below meth c H locs 0 0 (MQ below (PoV D A [oX1 A_t A_t_code A_t_letters A_t_valueFrom A_t_testFrom A_t_testEnd A_t_facts A_t_stack x_t_size x_t_rules x_t_height x_t_refused, iA cI 240 A_t_code o_v_t_code]) ([.ref A_t, .int a1, .int a2] : List Value).toArray s 0 0 A) (F0 m 30 ls []) := by
    intro v_t_code H locs ls hl hP hD hS hf
    unfold f_X1_leapTo_b30 at hf
    obtain rfl := ev1 hf
    exact x_vret C hr hlk hP hD hS dX1_leapTo_30
  refine lv_iload_n hx hb dX1_leapTo_0 rfl (lv_at hl 1 rfl) ?_
  refine lv_if_lt (tgt := 30) hx hb dX1_leapTo_1 (by decide) (fun q => ?_) (fun q => ?_)
  · have hf := if_t q hf
    exact hb_30 v_t_code _ _ ls (lv_sub hl [] rfl) hP hD hS hf
  · have hf := if_f q hf
    refine lv_iload_n hx hb dX1_leapTo_4 rfl (lv_at hl 1 rfl) ?_
    refine lv_sipush (v := 240) hx hb dX1_leapTo_5 (by decide) ?_
    refine lv_icmp_ge (tgt := 30) hx hb dX1_leapTo_8 (by decide) (fun q => ?_) (fun q => ?_)
    · have hf := if_t q hf
      exact hb_30 v_t_code _ _ ls (lv_sub hl [] rfl) hP hD hS hf
    · have hf := if_f q hf
      refine lv_aload_n hx hb dX1_leapTo_11 rfl (lv_at hl 0 rfl) ?_
      refine x_get C hK hP fd_X1_9 0 rfl rfl dX1_leapTo_12 ?_
      refine lv_iload_n hx hb dX1_leapTo_15 rfl (lv_at hl 1 rfl) ?_
      refine lv_iload_n hx hb dX1_leapTo_16 rfl (lv_at hl 2 rfl) ?_
      refine lv_iconst (v := 4) hx hb dX1_leapTo_17 (by decide) ?_
      refine lv_ishl hx hb dX1_leapTo_18 ?_
      refine lv_aload_n hx hb dX1_leapTo_19 rfl (lv_at hl 0 rfl) ?_
      refine x_get C hK hP fd_X1_9 0 rfl rfl dX1_leapTo_20 ?_
      refine lv_iload_n hx hb dX1_leapTo_23 rfl (lv_at hl 1 rfl) ?_
      obtain ⟨hi, hf⟩ := gI_e hf
      refine x_iald C hK hP 1 rfl hi dX1_leapTo_24 ?_
      refine lv_bipush (v := 15) hx hb dX1_leapTo_25 (by decide) ?_
      refine lv_iand hx hb dX1_leapTo_27 ?_
      refine lv_ior hx hb dX1_leapTo_28 ?_
      obtain ⟨hi, hf⟩ := sI_e hf
      refine x_iast (ws' := [oX1 A_t A_t_code A_t_letters A_t_valueFrom A_t_testFrom A_t_testEnd A_t_facts A_t_stack x_t_size x_t_rules x_t_height x_t_refused, iA cI 240 A_t_code (upd v_t_code a1.toNatClampNeg ((a2 <<< ((4 : Int32) &&& 31)) ||| ((v_t_code a1.toNatClampNeg) &&& (15 : Int32))))]) C hK hP hD hS 1 rfl hi rfl dX1_leapTo_29 ?_
      intro H locs hP hD hS
      exact hb_30 (upd v_t_code a1.toNatClampNeg ((a2 <<< ((4 : Int32) &&& 31)) ||| ((v_t_code a1.toNatClampNeg) &&& (15 : Int32)))) _ _ ls (lv_sub hl [] rfl) hP hD hS hf
def f_X1_addRule_b62 (v_t_letters : (Nat → Int32)) (v_t_testEnd : (Nat → Int32)) (v_t_testFrom : (Nat → Int32)) (v_t_valueFrom : (Nat → Int32)) (x_t_rules : Int32) : Option ((Nat → Int32) × (Nat → Int32) × (Nat → Int32) × (Nat → Int32) × Int32) :=
  some (v_t_letters, v_t_testEnd, v_t_testFrom, v_t_valueFrom, x_t_rules)
def f_X1_addRule (v_t_letters : (Nat → Int32)) (v_t_testEnd : (Nat → Int32)) (v_t_testFrom : (Nat → Int32)) (v_t_valueFrom : (Nat → Int32)) (x_t_rules : Int32) (x_t_size : Int32) (a1 : Int32) (a2 : Int32) (a3 : Int32) : Option ((Nat → Int32) × (Nat → Int32) × (Nat → Int32) × (Nat → Int32) × Int32) :=
  if (16 : Int32) ≤ x_t_rules then
    f_X1_addRule_b62 v_t_letters v_t_testEnd v_t_testFrom v_t_valueFrom x_t_rules
  else
    sI 16 v_t_letters x_t_rules a1 (fun w1 =>
    sI 16 v_t_valueFrom x_t_rules a2 (fun w2 =>
    sI 16 v_t_testFrom x_t_rules a3 (fun w3 =>
    sI 16 v_t_testEnd x_t_rules x_t_size (fun w4 =>
    f_X1_addRule_b62 w1 w4 w3 w2 (x_t_rules + (1 : Int32))))))
set_option maxHeartbeats 4000000 in
set_option maxRecDepth 100000 in
theorem c_X1_addRule {l : Launch} {D : va_G} {cI cB : ClassId} {A_t A_t_code A_t_letters A_t_valueFrom A_t_testFrom A_t_testEnd A_t_facts A_t_stack : Nat} {x_t_size x_t_rules x_t_height x_t_refused a1 a2 a3 : Int32} {v_t_letters v_t_testEnd v_t_testFrom v_t_valueFrom : Nat → Int32} {o_x_t_rules : Int32} {o_v_t_letters o_v_t_testEnd o_v_t_testFrom o_v_t_valueFrom : Nat → Int32} (hf : f_X1_addRule v_t_letters v_t_testEnd v_t_testFrom v_t_valueFrom x_t_rules x_t_size a1 a2 a3 = some (o_v_t_letters, o_v_t_testEnd, o_v_t_testFrom, o_v_t_valueFrom, o_x_t_rules)) : CtV l D cI cB yX1_addRule cX1_addRule 4 0 0 [.ref A_t, .int a1, .int a2, .int a3] [oX1 A_t A_t_code A_t_letters A_t_valueFrom A_t_testFrom A_t_testEnd A_t_facts A_t_stack x_t_size x_t_rules x_t_height x_t_refused, iA cI 16 A_t_letters v_t_letters, iA cI 16 A_t_testEnd v_t_testEnd, iA cI 16 A_t_testFrom v_t_testFrom, iA cI 16 A_t_valueFrom v_t_valueFrom] [oX1 A_t A_t_code A_t_letters A_t_valueFrom A_t_testFrom A_t_testEnd A_t_facts A_t_stack x_t_size o_x_t_rules x_t_height x_t_refused, iA cI 16 A_t_letters o_v_t_letters, iA cI 16 A_t_testEnd o_v_t_testEnd, iA cI 16 A_t_testFrom o_v_t_testFrom, iA cI 16 A_t_valueFrom o_v_t_valueFrom] := by
  refine x_startV (by decide) (Nat.le_of_ble_eq_true rfl) ?_
  intro p e s m below meth c A C hr hlk hA hK hP hD hS ls hl
  have hl : lv_has ls 4 [(0, .ref A_t), (1, .int a1), (2, .int a2), (3, .int a3)] := hl
  have hx := C.1
  have hb := C.2.1
  unfold f_X1_addRule at hf
  have hb_62 : ∀ (v_t_letters : (Nat → Int32)) (v_t_testEnd : (Nat → Int32)) (v_t_testFrom : (Nat → Int32)) (v_t_valueFrom : (Nat → Int32)) (x_t_rules : Int32) (H : Heap) (locs : List Loc) (ls : Array Slot), lv_has ls 4 [] → va_P D vwCl [oX1 A_t A_t_code A_t_letters A_t_valueFrom A_t_testFrom A_t_testEnd A_t_facts A_t_stack x_t_size x_t_rules x_t_height x_t_refused, iA cI 16 A_t_letters v_t_letters, iA cI 16 A_t_testEnd v_t_testEnd, iA cI 16 A_t_testFrom v_t_testFrom, iA cI 16 A_t_valueFrom v_t_valueFrom] H → va_D A [oX1 A_t A_t_code A_t_letters A_t_valueFrom A_t_testFrom A_t_testEnd A_t_facts A_t_stack x_t_size x_t_rules x_t_height x_t_refused, iA cI 16 A_t_letters v_t_letters, iA cI 16 A_t_testEnd v_t_testEnd, iA cI 16 A_t_testFrom v_t_testFrom, iA cI 16 A_t_valueFrom v_t_valueFrom] → va_S A s.heap H locs → f_X1_addRule_b62 v_t_letters v_t_testEnd v_t_testFrom v_t_valueFrom x_t_rules = some (o_v_t_letters, o_v_t_testEnd, o_v_t_testFrom, o_v_t_valueFrom, o_x_t_rules) → W p l e { frames := 0, cells := 0, slots := 0, locals := 0 } s m ([.ref A_t, .int a1, .int a2, .int a3] : List Value).toArray below meth c H locs 0 0 (MQ below (PoV D A [oX1 A_t A_t_code A_t_letters A_t_valueFrom A_t_testFrom A_t_testEnd A_t_facts A_t_stack x_t_size o_x_t_rules x_t_height x_t_refused, iA cI 16 A_t_letters o_v_t_letters, iA cI 16 A_t_testEnd o_v_t_testEnd, iA cI 16 A_t_testFrom o_v_t_testFrom, iA cI 16 A_t_valueFrom o_v_t_valueFrom]) ([.ref A_t, .int a1, .int a2, .int a3] : List Value).toArray s 0 0 A) (F0 m 62 ls []) := by
    intro v_t_letters v_t_testEnd v_t_testFrom v_t_valueFrom x_t_rules H locs ls hl hP hD hS hf
    unfold f_X1_addRule_b62 at hf
    obtain ⟨rfl, rfl, rfl, rfl, rfl⟩ := ev5 hf
    exact x_vret C hr hlk hP hD hS dX1_addRule_62
  refine lv_aload_n hx hb dX1_addRule_0 rfl (lv_at hl 0 rfl) ?_
  refine x_get C hK hP fd_X1_35 0 rfl rfl dX1_addRule_1 ?_
  refine lv_bipush (v := 16) hx hb dX1_addRule_4 (by decide) ?_
  refine lv_icmp_ge (tgt := 62) hx hb dX1_addRule_6 (by decide) (fun q => ?_) (fun q => ?_)
  · have hf := if_t q hf
    exact hb_62 v_t_letters v_t_testEnd v_t_testFrom v_t_valueFrom x_t_rules _ _ ls (lv_sub hl [] rfl) hP hD hS hf
  · have hf := if_f q hf
    refine lv_aload_n hx hb dX1_addRule_9 rfl (lv_at hl 0 rfl) ?_
    refine x_get C hK hP fd_X1_13 0 rfl rfl dX1_addRule_10 ?_
    refine lv_aload_n hx hb dX1_addRule_13 rfl (lv_at hl 0 rfl) ?_
    refine x_get C hK hP fd_X1_35 0 rfl rfl dX1_addRule_14 ?_
    refine lv_iload_n hx hb dX1_addRule_17 rfl (lv_at hl 1 rfl) ?_
    obtain ⟨hi, hf⟩ := sI_e hf
    refine x_iast (ws' := [oX1 A_t A_t_code A_t_letters A_t_valueFrom A_t_testFrom A_t_testEnd A_t_facts A_t_stack x_t_size x_t_rules x_t_height x_t_refused, iA cI 16 A_t_letters (upd v_t_letters x_t_rules.toNatClampNeg a1), iA cI 16 A_t_testEnd v_t_testEnd, iA cI 16 A_t_testFrom v_t_testFrom, iA cI 16 A_t_valueFrom v_t_valueFrom]) C hK hP hD hS 1 rfl hi rfl dX1_addRule_18 ?_
    intro H locs hP hD hS
    refine lv_aload_n hx hb dX1_addRule_19 rfl (lv_at hl 0 rfl) ?_
    refine x_get C hK hP fd_X1_16 0 rfl rfl dX1_addRule_20 ?_
    refine lv_aload_n hx hb dX1_addRule_23 rfl (lv_at hl 0 rfl) ?_
    refine x_get C hK hP fd_X1_35 0 rfl rfl dX1_addRule_24 ?_
    refine lv_iload_n hx hb dX1_addRule_27 rfl (lv_at hl 2 rfl) ?_
    obtain ⟨hi, hf⟩ := sI_e hf
    refine x_iast (ws' := [oX1 A_t A_t_code A_t_letters A_t_valueFrom A_t_testFrom A_t_testEnd A_t_facts A_t_stack x_t_size x_t_rules x_t_height x_t_refused, iA cI 16 A_t_letters (upd v_t_letters x_t_rules.toNatClampNeg a1), iA cI 16 A_t_testEnd v_t_testEnd, iA cI 16 A_t_testFrom v_t_testFrom, iA cI 16 A_t_valueFrom (upd v_t_valueFrom x_t_rules.toNatClampNeg a2)]) C hK hP hD hS 4 rfl hi rfl dX1_addRule_28 ?_
    intro H locs hP hD hS
    refine lv_aload_n hx hb dX1_addRule_29 rfl (lv_at hl 0 rfl) ?_
    refine x_get C hK hP fd_X1_19 0 rfl rfl dX1_addRule_30 ?_
    refine lv_aload_n hx hb dX1_addRule_33 rfl (lv_at hl 0 rfl) ?_
    refine x_get C hK hP fd_X1_35 0 rfl rfl dX1_addRule_34 ?_
    refine lv_iload_n hx hb dX1_addRule_37 rfl (lv_at hl 3 rfl) ?_
    obtain ⟨hi, hf⟩ := sI_e hf
    refine x_iast (ws' := [oX1 A_t A_t_code A_t_letters A_t_valueFrom A_t_testFrom A_t_testEnd A_t_facts A_t_stack x_t_size x_t_rules x_t_height x_t_refused, iA cI 16 A_t_letters (upd v_t_letters x_t_rules.toNatClampNeg a1), iA cI 16 A_t_testEnd v_t_testEnd, iA cI 16 A_t_testFrom (upd v_t_testFrom x_t_rules.toNatClampNeg a3), iA cI 16 A_t_valueFrom (upd v_t_valueFrom x_t_rules.toNatClampNeg a2)]) C hK hP hD hS 3 rfl hi rfl dX1_addRule_38 ?_
    intro H locs hP hD hS
    refine lv_aload_n hx hb dX1_addRule_39 rfl (lv_at hl 0 rfl) ?_
    refine x_get C hK hP fd_X1_22 0 rfl rfl dX1_addRule_40 ?_
    refine lv_aload_n hx hb dX1_addRule_43 rfl (lv_at hl 0 rfl) ?_
    refine x_get C hK hP fd_X1_35 0 rfl rfl dX1_addRule_44 ?_
    refine lv_aload_n hx hb dX1_addRule_47 rfl (lv_at hl 0 rfl) ?_
    refine x_get C hK hP fd_X1_31 0 rfl rfl dX1_addRule_48 ?_
    obtain ⟨hi, hf⟩ := sI_e hf
    refine x_iast (ws' := [oX1 A_t A_t_code A_t_letters A_t_valueFrom A_t_testFrom A_t_testEnd A_t_facts A_t_stack x_t_size x_t_rules x_t_height x_t_refused, iA cI 16 A_t_letters (upd v_t_letters x_t_rules.toNatClampNeg a1), iA cI 16 A_t_testEnd (upd v_t_testEnd x_t_rules.toNatClampNeg x_t_size), iA cI 16 A_t_testFrom (upd v_t_testFrom x_t_rules.toNatClampNeg a3), iA cI 16 A_t_valueFrom (upd v_t_valueFrom x_t_rules.toNatClampNeg a2)]) C hK hP hD hS 2 rfl hi rfl dX1_addRule_51 ?_
    intro H locs hP hD hS
    refine lv_aload_n hx hb dX1_addRule_52 rfl (lv_at hl 0 rfl) ?_
    refine lv_dup hx hb dX1_addRule_53 rfl ?_
    refine x_get C hK hP fd_X1_35 0 rfl rfl dX1_addRule_54 ?_
    refine lv_iconst (v := 1) hx hb dX1_addRule_57 (by decide) ?_
    refine lv_iadd hx hb dX1_addRule_58 ?_
    refine x_put (ws' := [oX1 A_t A_t_code A_t_letters A_t_valueFrom A_t_testFrom A_t_testEnd A_t_facts A_t_stack x_t_size (x_t_rules + (1 : Int32)) x_t_height x_t_refused, iA cI 16 A_t_letters (upd v_t_letters x_t_rules.toNatClampNeg a1), iA cI 16 A_t_testEnd (upd v_t_testEnd x_t_rules.toNatClampNeg x_t_size), iA cI 16 A_t_testFrom (upd v_t_testFrom x_t_rules.toNatClampNeg a3), iA cI 16 A_t_valueFrom (upd v_t_valueFrom x_t_rules.toNatClampNeg a2)]) C hK hP hD hS fp_X1_35 0 rfl rfl rfl (Nat.le_of_ble_eq_true rfl) rfl dX1_addRule_59 ?_
    intro H locs hP hD hS
    exact hb_62 (upd v_t_letters x_t_rules.toNatClampNeg a1) (upd v_t_testEnd x_t_rules.toNatClampNeg x_t_size) (upd v_t_testFrom x_t_rules.toNatClampNeg a3) (upd v_t_valueFrom x_t_rules.toNatClampNeg a2) (x_t_rules + (1 : Int32)) _ _ ls (lv_sub hl [] rfl) hP hD hS hf
def f_X1_lookAtPlace (v_t_facts : (Nat → Int32)) (a1 : Int32) (a2 : Int32) (a3 : Int32) : Option ((Nat → Int32)) :=
  sI 10 v_t_facts (7 : Int32) a1 (fun w1 =>
  rI a2 (100 : Int32) (fun g2 =>
  sI 10 w1 (8 : Int32) g2 (fun w3 =>
  sI 10 w3 (9 : Int32) a3 (fun w4 =>
  some w4))))
set_option maxHeartbeats 4000000 in
set_option maxRecDepth 100000 in
theorem c_X1_lookAtPlace {l : Launch} {D : va_G} {cI cB : ClassId} {A_t A_t_code A_t_letters A_t_valueFrom A_t_testFrom A_t_testEnd A_t_facts A_t_stack : Nat} {x_t_size x_t_rules x_t_height x_t_refused a1 a2 a3 : Int32} {v_t_facts : Nat → Int32} {o_v_t_facts : Nat → Int32} (hf : f_X1_lookAtPlace v_t_facts a1 a2 a3 = some o_v_t_facts) : CtV l D cI cB yX1_lookAtPlace cX1_lookAtPlace 4 0 0 [.ref A_t, .int a1, .int a2, .int a3] [oX1 A_t A_t_code A_t_letters A_t_valueFrom A_t_testFrom A_t_testEnd A_t_facts A_t_stack x_t_size x_t_rules x_t_height x_t_refused, iA cI 10 A_t_facts v_t_facts] [oX1 A_t A_t_code A_t_letters A_t_valueFrom A_t_testFrom A_t_testEnd A_t_facts A_t_stack x_t_size x_t_rules x_t_height x_t_refused, iA cI 10 A_t_facts o_v_t_facts] := by
  refine x_startV (by decide) (Nat.le_of_ble_eq_true rfl) ?_
  intro p e s m below meth c A C hr hlk hA hK hP hD hS ls hl
  have hl : lv_has ls 4 [(0, .ref A_t), (1, .int a1), (2, .int a2), (3, .int a3)] := hl
  have hx := C.1
  have hb := C.2.1
  unfold f_X1_lookAtPlace at hf
  refine lv_aload_n hx hb dX1_lookAtPlace_0 rfl (lv_at hl 0 rfl) ?_
  refine x_get C hK hP fd_X1_25 0 rfl rfl dX1_lookAtPlace_1 ?_
  refine lv_bipush (v := 7) hx hb dX1_lookAtPlace_4 (by decide) ?_
  refine lv_iload_n hx hb dX1_lookAtPlace_6 rfl (lv_at hl 1 rfl) ?_
  obtain ⟨hi, hf⟩ := sI_e hf
  refine x_iast (ws' := [oX1 A_t A_t_code A_t_letters A_t_valueFrom A_t_testFrom A_t_testEnd A_t_facts A_t_stack x_t_size x_t_rules x_t_height x_t_refused, iA cI 10 A_t_facts (upd v_t_facts (7 : Int32).toNatClampNeg a1)]) C hK hP hD hS 1 rfl hi rfl dX1_lookAtPlace_7 ?_
  intro H locs hP hD hS
  refine lv_aload_n hx hb dX1_lookAtPlace_8 rfl (lv_at hl 0 rfl) ?_
  refine x_get C hK hP fd_X1_25 0 rfl rfl dX1_lookAtPlace_9 ?_
  refine lv_bipush (v := 8) hx hb dX1_lookAtPlace_12 (by decide) ?_
  refine lv_iload_n hx hb dX1_lookAtPlace_14 rfl (lv_at hl 2 rfl) ?_
  refine lv_bipush (v := 100) hx hb dX1_lookAtPlace_15 (by decide) ?_
  obtain ⟨hz, hf⟩ := rI_e hf
  refine lv_irem hx hb dX1_lookAtPlace_17 hz ?_
  obtain ⟨hi, hf⟩ := sI_e hf
  refine x_iast (ws' := [oX1 A_t A_t_code A_t_letters A_t_valueFrom A_t_testFrom A_t_testEnd A_t_facts A_t_stack x_t_size x_t_rules x_t_height x_t_refused, iA cI 10 A_t_facts (upd (upd v_t_facts (7 : Int32).toNatClampNeg a1) (8 : Int32).toNatClampNeg (a2 - a2 / (100 : Int32) * (100 : Int32)))]) C hK hP hD hS 1 rfl hi rfl dX1_lookAtPlace_18 ?_
  intro H locs hP hD hS
  refine lv_aload_n hx hb dX1_lookAtPlace_19 rfl (lv_at hl 0 rfl) ?_
  refine x_get C hK hP fd_X1_25 0 rfl rfl dX1_lookAtPlace_20 ?_
  refine lv_bipush (v := 9) hx hb dX1_lookAtPlace_23 (by decide) ?_
  refine lv_iload_n hx hb dX1_lookAtPlace_25 rfl (lv_at hl 3 rfl) ?_
  obtain ⟨hi, hf⟩ := sI_e hf
  refine x_iast (ws' := [oX1 A_t A_t_code A_t_letters A_t_valueFrom A_t_testFrom A_t_testEnd A_t_facts A_t_stack x_t_size x_t_rules x_t_height x_t_refused, iA cI 10 A_t_facts (upd (upd (upd v_t_facts (7 : Int32).toNatClampNeg a1) (8 : Int32).toNatClampNeg (a2 - a2 / (100 : Int32) * (100 : Int32))) (9 : Int32).toNatClampNeg a3)]) C hK hP hD hS 1 rfl hi rfl dX1_lookAtPlace_26 ?_
  intro H locs hP hD hS
  obtain rfl := ev1 hf
  exact x_vret C hr hlk hP hD hS dX1_lookAtPlace_27
def f_X1_lookAtBottle (v_o1_dread : (Nat → Int32)) (v_o1_kind : (Nat → Int32)) (v_o1_salt : (Nat → Int32)) (v_o1_tries : (Nat → Int32)) (v_t_facts : (Nat → Int32)) (a2 : Int32) (a3 : Int32) (a4 : Int32) : Option ((Nat → Int32)) :=
  sI 10 v_t_facts (0 : Int32) a2 (fun w1 =>
  bd1 (f_X8_kindOf v_o1_kind a2) (fun r2 =>
  sI 10 w1 (1 : Int32) r2 (fun w3 =>
  sI 10 w3 (2 : Int32) a3 (fun w4 =>
  bd1 (f_X8_dreadOf v_o1_dread a2 a3) (fun r5 =>
  sI 10 w4 (3 : Int32) r5 (fun w6 =>
  bd1 (f_X8_triesOf v_o1_tries a2 a3) (fun r7 =>
  sI 10 w6 (4 : Int32) r7 (fun w8 =>
  bd1 (f_X8_saltOf v_o1_salt a2) (fun r9 =>
  sI 10 w8 (5 : Int32) r9 (fun w10 =>
  sI 10 w10 (6 : Int32) a4 (fun w11 =>
  some w11)))))))))))
set_option maxHeartbeats 4000000 in
set_option maxRecDepth 100000 in
theorem c_X1_lookAtBottle {l : Launch} {D : va_G} {cI cB : ClassId} {A_o1 A_o1_rhymes A_o1_kind A_o1_salt A_o1_ink A_o1_dread A_o1_tries A_t A_t_code A_t_letters A_t_valueFrom A_t_testFrom A_t_testEnd A_t_facts A_t_stack : Nat} {x_o1_told x_o1_nerve x_o1_pictures x_o1_written x_o1_day x_o1_x x_t_size x_t_rules x_t_height x_t_refused a2 a3 a4 : Int32} {v_o1_dread v_o1_kind v_o1_salt v_o1_tries v_t_facts : Nat → Int32} {o_v_t_facts : Nat → Int32} (hf : f_X1_lookAtBottle v_o1_dread v_o1_kind v_o1_salt v_o1_tries v_t_facts a2 a3 a4 = some o_v_t_facts) : CtV l D cI cB yX1_lookAtBottle cX1_lookAtBottle 5 1 22 [.ref A_t, .ref A_o1, .int a2, .int a3, .int a4] [oX8 A_o1 A_o1_rhymes A_o1_kind A_o1_salt A_o1_ink A_o1_dread A_o1_tries x_o1_told x_o1_nerve x_o1_pictures x_o1_written x_o1_day x_o1_x, oX1 A_t A_t_code A_t_letters A_t_valueFrom A_t_testFrom A_t_testEnd A_t_facts A_t_stack x_t_size x_t_rules x_t_height x_t_refused, iA cI 128 A_o1_dread v_o1_dread, iA cI 8 A_o1_kind v_o1_kind, iA cI 8 A_o1_salt v_o1_salt, iA cI 128 A_o1_tries v_o1_tries, iA cI 10 A_t_facts v_t_facts] [oX8 A_o1 A_o1_rhymes A_o1_kind A_o1_salt A_o1_ink A_o1_dread A_o1_tries x_o1_told x_o1_nerve x_o1_pictures x_o1_written x_o1_day x_o1_x, oX1 A_t A_t_code A_t_letters A_t_valueFrom A_t_testFrom A_t_testEnd A_t_facts A_t_stack x_t_size x_t_rules x_t_height x_t_refused, iA cI 128 A_o1_dread v_o1_dread, iA cI 8 A_o1_kind v_o1_kind, iA cI 8 A_o1_salt v_o1_salt, iA cI 128 A_o1_tries v_o1_tries, iA cI 10 A_t_facts o_v_t_facts] := by
  refine x_startV (by decide) (Nat.le_of_ble_eq_true rfl) ?_
  intro p e s m below meth c A C hr hlk hA hK hP hD hS ls hl
  have hl : lv_has ls 5 [(0, .ref A_t), (1, .ref A_o1), (2, .int a2), (3, .int a3), (4, .int a4)] := hl
  have hx := C.1
  have hb := C.2.1
  unfold f_X1_lookAtBottle at hf
  refine lv_aload_n hx hb dX1_lookAtBottle_0 rfl (lv_at hl 0 rfl) ?_
  refine x_get C hK hP fd_X1_25 1 rfl rfl dX1_lookAtBottle_1 ?_
  refine lv_iconst (v := 0) hx hb dX1_lookAtBottle_4 (by decide) ?_
  refine lv_iload_n hx hb dX1_lookAtBottle_5 rfl (lv_at hl 2 rfl) ?_
  obtain ⟨hi, hf⟩ := sI_e hf
  refine x_iast (ws' := [oX8 A_o1 A_o1_rhymes A_o1_kind A_o1_salt A_o1_ink A_o1_dread A_o1_tries x_o1_told x_o1_nerve x_o1_pictures x_o1_written x_o1_day x_o1_x, oX1 A_t A_t_code A_t_letters A_t_valueFrom A_t_testFrom A_t_testEnd A_t_facts A_t_stack x_t_size x_t_rules x_t_height x_t_refused, iA cI 128 A_o1_dread v_o1_dread, iA cI 8 A_o1_kind v_o1_kind, iA cI 8 A_o1_salt v_o1_salt, iA cI 128 A_o1_tries v_o1_tries, iA cI 10 A_t_facts (upd v_t_facts (0 : Int32).toNatClampNeg a2)]) C hK hP hD hS 6 rfl hi rfl dX1_lookAtBottle_6 ?_
  intro H locs hP hD hS
  refine lv_aload_n hx hb dX1_lookAtBottle_7 rfl (lv_at hl 0 rfl) ?_
  refine x_get C hK hP fd_X1_25 1 rfl rfl dX1_lookAtBottle_8 ?_
  refine lv_iconst (v := 1) hx hb dX1_lookAtBottle_11 (by decide) ?_
  refine lv_aload_n hx hb dX1_lookAtBottle_12 rfl (lv_at hl 1 rfl) ?_
  refine lv_iload_n hx hb dX1_lookAtBottle_13 rfl (lv_at hl 2 rfl) ?_
  obtain ⟨r1, hc2, hf⟩ := bd1_e hf
  refine x_callVI (ws' := [oX8 A_o1 A_o1_rhymes A_o1_kind A_o1_salt A_o1_ink A_o1_dread A_o1_tries x_o1_told x_o1_nerve x_o1_pictures x_o1_written x_o1_day x_o1_x, oX1 A_t A_t_code A_t_letters A_t_valueFrom A_t_testFrom A_t_testEnd A_t_facts A_t_stack x_t_size x_t_rules x_t_height x_t_refused, iA cI 128 A_o1_dread v_o1_dread, iA cI 8 A_o1_kind v_o1_kind, iA cI 8 A_o1_salt v_o1_salt, iA cI 128 A_o1_tries v_o1_tries, iA cI 10 A_t_facts (upd v_t_facts (0 : Int32).toNatClampNeg a2)]) (rest := [.int (1 : Int32), .ref A_t_facts]) C hK hP hD hS hA hl mf_X1_44 (c_X8_kindOf hc2) [0, 3] 0 8 rfl rfl rfl rfl rfl rfl rfl rfl rfl rfl (Nat.le_of_ble_eq_true rfl) ⟨Nat.le_of_ble_eq_true rfl, Nat.le_of_ble_eq_true rfl⟩ ⟨Nat.le_refl _, Nat.le_refl _⟩ dX1_lookAtBottle_14 ?_
  intro H locs hP hD hS
  obtain ⟨hi, hf⟩ := sI_e hf
  refine x_iast (ws' := [oX8 A_o1 A_o1_rhymes A_o1_kind A_o1_salt A_o1_ink A_o1_dread A_o1_tries x_o1_told x_o1_nerve x_o1_pictures x_o1_written x_o1_day x_o1_x, oX1 A_t A_t_code A_t_letters A_t_valueFrom A_t_testFrom A_t_testEnd A_t_facts A_t_stack x_t_size x_t_rules x_t_height x_t_refused, iA cI 128 A_o1_dread v_o1_dread, iA cI 8 A_o1_kind v_o1_kind, iA cI 8 A_o1_salt v_o1_salt, iA cI 128 A_o1_tries v_o1_tries, iA cI 10 A_t_facts (upd (upd v_t_facts (0 : Int32).toNatClampNeg a2) (1 : Int32).toNatClampNeg r1)]) C hK hP hD hS 6 rfl hi rfl dX1_lookAtBottle_17 ?_
  intro H locs hP hD hS
  refine lv_aload_n hx hb dX1_lookAtBottle_18 rfl (lv_at hl 0 rfl) ?_
  refine x_get C hK hP fd_X1_25 1 rfl rfl dX1_lookAtBottle_19 ?_
  refine lv_iconst (v := 2) hx hb dX1_lookAtBottle_22 (by decide) ?_
  refine lv_iload_n hx hb dX1_lookAtBottle_23 rfl (lv_at hl 3 rfl) ?_
  obtain ⟨hi, hf⟩ := sI_e hf
  refine x_iast (ws' := [oX8 A_o1 A_o1_rhymes A_o1_kind A_o1_salt A_o1_ink A_o1_dread A_o1_tries x_o1_told x_o1_nerve x_o1_pictures x_o1_written x_o1_day x_o1_x, oX1 A_t A_t_code A_t_letters A_t_valueFrom A_t_testFrom A_t_testEnd A_t_facts A_t_stack x_t_size x_t_rules x_t_height x_t_refused, iA cI 128 A_o1_dread v_o1_dread, iA cI 8 A_o1_kind v_o1_kind, iA cI 8 A_o1_salt v_o1_salt, iA cI 128 A_o1_tries v_o1_tries, iA cI 10 A_t_facts (upd (upd (upd v_t_facts (0 : Int32).toNatClampNeg a2) (1 : Int32).toNatClampNeg r1) (2 : Int32).toNatClampNeg a3)]) C hK hP hD hS 6 rfl hi rfl dX1_lookAtBottle_24 ?_
  intro H locs hP hD hS
  refine lv_aload_n hx hb dX1_lookAtBottle_25 rfl (lv_at hl 0 rfl) ?_
  refine x_get C hK hP fd_X1_25 1 rfl rfl dX1_lookAtBottle_26 ?_
  refine lv_iconst (v := 3) hx hb dX1_lookAtBottle_29 (by decide) ?_
  refine lv_aload_n hx hb dX1_lookAtBottle_30 rfl (lv_at hl 1 rfl) ?_
  refine lv_iload_n hx hb dX1_lookAtBottle_31 rfl (lv_at hl 2 rfl) ?_
  refine lv_iload_n hx hb dX1_lookAtBottle_32 rfl (lv_at hl 3 rfl) ?_
  obtain ⟨r3, hc4, hf⟩ := bd1_e hf
  refine x_callVI (ws' := [oX8 A_o1 A_o1_rhymes A_o1_kind A_o1_salt A_o1_ink A_o1_dread A_o1_tries x_o1_told x_o1_nerve x_o1_pictures x_o1_written x_o1_day x_o1_x, oX1 A_t A_t_code A_t_letters A_t_valueFrom A_t_testFrom A_t_testEnd A_t_facts A_t_stack x_t_size x_t_rules x_t_height x_t_refused, iA cI 128 A_o1_dread v_o1_dread, iA cI 8 A_o1_kind v_o1_kind, iA cI 8 A_o1_salt v_o1_salt, iA cI 128 A_o1_tries v_o1_tries, iA cI 10 A_t_facts (upd (upd (upd v_t_facts (0 : Int32).toNatClampNeg a2) (1 : Int32).toNatClampNeg r1) (2 : Int32).toNatClampNeg a3)]) (rest := [.int (3 : Int32), .ref A_t_facts]) C hK hP hD hS hA hl mf_X1_50 (c_X8_dreadOf hc4) [0, 2] 0 8 rfl rfl rfl rfl rfl rfl rfl rfl rfl rfl (Nat.le_of_ble_eq_true rfl) ⟨Nat.le_of_ble_eq_true rfl, Nat.le_of_ble_eq_true rfl⟩ ⟨Nat.le_refl _, Nat.le_refl _⟩ dX1_lookAtBottle_33 ?_
  intro H locs hP hD hS
  obtain ⟨hi, hf⟩ := sI_e hf
  refine x_iast (ws' := [oX8 A_o1 A_o1_rhymes A_o1_kind A_o1_salt A_o1_ink A_o1_dread A_o1_tries x_o1_told x_o1_nerve x_o1_pictures x_o1_written x_o1_day x_o1_x, oX1 A_t A_t_code A_t_letters A_t_valueFrom A_t_testFrom A_t_testEnd A_t_facts A_t_stack x_t_size x_t_rules x_t_height x_t_refused, iA cI 128 A_o1_dread v_o1_dread, iA cI 8 A_o1_kind v_o1_kind, iA cI 8 A_o1_salt v_o1_salt, iA cI 128 A_o1_tries v_o1_tries, iA cI 10 A_t_facts (upd (upd (upd (upd v_t_facts (0 : Int32).toNatClampNeg a2) (1 : Int32).toNatClampNeg r1) (2 : Int32).toNatClampNeg a3) (3 : Int32).toNatClampNeg r3)]) C hK hP hD hS 6 rfl hi rfl dX1_lookAtBottle_36 ?_
  intro H locs hP hD hS
  refine lv_aload_n hx hb dX1_lookAtBottle_37 rfl (lv_at hl 0 rfl) ?_
  refine x_get C hK hP fd_X1_25 1 rfl rfl dX1_lookAtBottle_38 ?_
  refine lv_iconst (v := 4) hx hb dX1_lookAtBottle_41 (by decide) ?_
  refine lv_aload_n hx hb dX1_lookAtBottle_42 rfl (lv_at hl 1 rfl) ?_
  refine lv_iload_n hx hb dX1_lookAtBottle_43 rfl (lv_at hl 2 rfl) ?_
  refine lv_iload_n hx hb dX1_lookAtBottle_44 rfl (lv_at hl 3 rfl) ?_
  obtain ⟨r5, hc6, hf⟩ := bd1_e hf
  refine x_callVI (ws' := [oX8 A_o1 A_o1_rhymes A_o1_kind A_o1_salt A_o1_ink A_o1_dread A_o1_tries x_o1_told x_o1_nerve x_o1_pictures x_o1_written x_o1_day x_o1_x, oX1 A_t A_t_code A_t_letters A_t_valueFrom A_t_testFrom A_t_testEnd A_t_facts A_t_stack x_t_size x_t_rules x_t_height x_t_refused, iA cI 128 A_o1_dread v_o1_dread, iA cI 8 A_o1_kind v_o1_kind, iA cI 8 A_o1_salt v_o1_salt, iA cI 128 A_o1_tries v_o1_tries, iA cI 10 A_t_facts (upd (upd (upd (upd v_t_facts (0 : Int32).toNatClampNeg a2) (1 : Int32).toNatClampNeg r1) (2 : Int32).toNatClampNeg a3) (3 : Int32).toNatClampNeg r3)]) (rest := [.int (4 : Int32), .ref A_t_facts]) C hK hP hD hS hA hl mf_X1_54 (c_X8_triesOf hc6) [0, 5] 0 8 rfl rfl rfl rfl rfl rfl rfl rfl rfl rfl (Nat.le_of_ble_eq_true rfl) ⟨Nat.le_of_ble_eq_true rfl, Nat.le_of_ble_eq_true rfl⟩ ⟨Nat.le_refl _, Nat.le_refl _⟩ dX1_lookAtBottle_45 ?_
  intro H locs hP hD hS
  obtain ⟨hi, hf⟩ := sI_e hf
  refine x_iast (ws' := [oX8 A_o1 A_o1_rhymes A_o1_kind A_o1_salt A_o1_ink A_o1_dread A_o1_tries x_o1_told x_o1_nerve x_o1_pictures x_o1_written x_o1_day x_o1_x, oX1 A_t A_t_code A_t_letters A_t_valueFrom A_t_testFrom A_t_testEnd A_t_facts A_t_stack x_t_size x_t_rules x_t_height x_t_refused, iA cI 128 A_o1_dread v_o1_dread, iA cI 8 A_o1_kind v_o1_kind, iA cI 8 A_o1_salt v_o1_salt, iA cI 128 A_o1_tries v_o1_tries, iA cI 10 A_t_facts (upd (upd (upd (upd (upd v_t_facts (0 : Int32).toNatClampNeg a2) (1 : Int32).toNatClampNeg r1) (2 : Int32).toNatClampNeg a3) (3 : Int32).toNatClampNeg r3) (4 : Int32).toNatClampNeg r5)]) C hK hP hD hS 6 rfl hi rfl dX1_lookAtBottle_48 ?_
  intro H locs hP hD hS
  refine lv_aload_n hx hb dX1_lookAtBottle_49 rfl (lv_at hl 0 rfl) ?_
  refine x_get C hK hP fd_X1_25 1 rfl rfl dX1_lookAtBottle_50 ?_
  refine lv_iconst (v := 5) hx hb dX1_lookAtBottle_53 (by decide) ?_
  refine lv_aload_n hx hb dX1_lookAtBottle_54 rfl (lv_at hl 1 rfl) ?_
  refine lv_iload_n hx hb dX1_lookAtBottle_55 rfl (lv_at hl 2 rfl) ?_
  obtain ⟨r7, hc8, hf⟩ := bd1_e hf
  refine x_callVI (ws' := [oX8 A_o1 A_o1_rhymes A_o1_kind A_o1_salt A_o1_ink A_o1_dread A_o1_tries x_o1_told x_o1_nerve x_o1_pictures x_o1_written x_o1_day x_o1_x, oX1 A_t A_t_code A_t_letters A_t_valueFrom A_t_testFrom A_t_testEnd A_t_facts A_t_stack x_t_size x_t_rules x_t_height x_t_refused, iA cI 128 A_o1_dread v_o1_dread, iA cI 8 A_o1_kind v_o1_kind, iA cI 8 A_o1_salt v_o1_salt, iA cI 128 A_o1_tries v_o1_tries, iA cI 10 A_t_facts (upd (upd (upd (upd (upd v_t_facts (0 : Int32).toNatClampNeg a2) (1 : Int32).toNatClampNeg r1) (2 : Int32).toNatClampNeg a3) (3 : Int32).toNatClampNeg r3) (4 : Int32).toNatClampNeg r5)]) (rest := [.int (5 : Int32), .ref A_t_facts]) C hK hP hD hS hA hl mf_X1_57 (c_X8_saltOf hc8) [0, 4] 0 8 rfl rfl rfl rfl rfl rfl rfl rfl rfl rfl (Nat.le_of_ble_eq_true rfl) ⟨Nat.le_of_ble_eq_true rfl, Nat.le_of_ble_eq_true rfl⟩ ⟨Nat.le_refl _, Nat.le_refl _⟩ dX1_lookAtBottle_56 ?_
  intro H locs hP hD hS
  obtain ⟨hi, hf⟩ := sI_e hf
  refine x_iast (ws' := [oX8 A_o1 A_o1_rhymes A_o1_kind A_o1_salt A_o1_ink A_o1_dread A_o1_tries x_o1_told x_o1_nerve x_o1_pictures x_o1_written x_o1_day x_o1_x, oX1 A_t A_t_code A_t_letters A_t_valueFrom A_t_testFrom A_t_testEnd A_t_facts A_t_stack x_t_size x_t_rules x_t_height x_t_refused, iA cI 128 A_o1_dread v_o1_dread, iA cI 8 A_o1_kind v_o1_kind, iA cI 8 A_o1_salt v_o1_salt, iA cI 128 A_o1_tries v_o1_tries, iA cI 10 A_t_facts (upd (upd (upd (upd (upd (upd v_t_facts (0 : Int32).toNatClampNeg a2) (1 : Int32).toNatClampNeg r1) (2 : Int32).toNatClampNeg a3) (3 : Int32).toNatClampNeg r3) (4 : Int32).toNatClampNeg r5) (5 : Int32).toNatClampNeg r7)]) C hK hP hD hS 6 rfl hi rfl dX1_lookAtBottle_59 ?_
  intro H locs hP hD hS
  refine lv_aload_n hx hb dX1_lookAtBottle_60 rfl (lv_at hl 0 rfl) ?_
  refine x_get C hK hP fd_X1_25 1 rfl rfl dX1_lookAtBottle_61 ?_
  refine lv_bipush (v := 6) hx hb dX1_lookAtBottle_64 (by decide) ?_
  refine lv_iload hx hb dX1_lookAtBottle_66 (lv_at hl 4 rfl) ?_
  obtain ⟨hi, hf⟩ := sI_e hf
  refine x_iast (ws' := [oX8 A_o1 A_o1_rhymes A_o1_kind A_o1_salt A_o1_ink A_o1_dread A_o1_tries x_o1_told x_o1_nerve x_o1_pictures x_o1_written x_o1_day x_o1_x, oX1 A_t A_t_code A_t_letters A_t_valueFrom A_t_testFrom A_t_testEnd A_t_facts A_t_stack x_t_size x_t_rules x_t_height x_t_refused, iA cI 128 A_o1_dread v_o1_dread, iA cI 8 A_o1_kind v_o1_kind, iA cI 8 A_o1_salt v_o1_salt, iA cI 128 A_o1_tries v_o1_tries, iA cI 10 A_t_facts (upd (upd (upd (upd (upd (upd (upd v_t_facts (0 : Int32).toNatClampNeg a2) (1 : Int32).toNatClampNeg r1) (2 : Int32).toNatClampNeg a3) (3 : Int32).toNatClampNeg r3) (4 : Int32).toNatClampNeg r5) (5 : Int32).toNatClampNeg r7) (6 : Int32).toNatClampNeg a4)]) C hK hP hD hS 6 rfl hi rfl dX1_lookAtBottle_68 ?_
  intro H locs hP hD hS
  obtain rfl := ev1 hf
  exact x_vret C hr hlk hP hD hS dX1_lookAtBottle_69
def f_X1_push_b36 (v_t_stack : (Nat → Int32)) (x_t_height : Int32) : Option ((Nat → Int32) × Int32) :=
  some (v_t_stack, x_t_height)
def f_X1_push (v_t_stack : (Nat → Int32)) (x_t_height : Int32) (a1 : Int32) : Option ((Nat → Int32) × Int32) :=
  if x_t_height < 0 then
    f_X1_push_b36 v_t_stack x_t_height
  else
    if (32 : Int32) ≤ x_t_height then
      f_X1_push_b36 v_t_stack x_t_height
    else
      sI 32 v_t_stack x_t_height a1 (fun w1 =>
      f_X1_push_b36 w1 (x_t_height + (1 : Int32)))
set_option maxHeartbeats 4000000 in
set_option maxRecDepth 100000 in
theorem c_X1_push {l : Launch} {D : va_G} {cI cB : ClassId} {A_t A_t_code A_t_letters A_t_valueFrom A_t_testFrom A_t_testEnd A_t_facts A_t_stack : Nat} {x_t_size x_t_rules x_t_height x_t_refused a1 : Int32} {v_t_stack : Nat → Int32} {o_x_t_height : Int32} {o_v_t_stack : Nat → Int32} (hf : f_X1_push v_t_stack x_t_height a1 = some (o_v_t_stack, o_x_t_height)) : CtV l D cI cB yX1_push cX1_push 2 0 0 [.ref A_t, .int a1] [oX1 A_t A_t_code A_t_letters A_t_valueFrom A_t_testFrom A_t_testEnd A_t_facts A_t_stack x_t_size x_t_rules x_t_height x_t_refused, iA cI 32 A_t_stack v_t_stack] [oX1 A_t A_t_code A_t_letters A_t_valueFrom A_t_testFrom A_t_testEnd A_t_facts A_t_stack x_t_size x_t_rules o_x_t_height x_t_refused, iA cI 32 A_t_stack o_v_t_stack] := by
  refine x_startV (by decide) (Nat.le_of_ble_eq_true rfl) ?_
  intro p e s m below meth c A C hr hlk hA hK hP hD hS ls hl
  have hl : lv_has ls 2 [(0, .ref A_t), (1, .int a1)] := hl
  have hx := C.1
  have hb := C.2.1
  unfold f_X1_push at hf
  have hb_36 : ∀ (v_t_stack : (Nat → Int32)) (x_t_height : Int32) (H : Heap) (locs : List Loc) (ls : Array Slot), lv_has ls 2 [] → va_P D vwCl [oX1 A_t A_t_code A_t_letters A_t_valueFrom A_t_testFrom A_t_testEnd A_t_facts A_t_stack x_t_size x_t_rules x_t_height x_t_refused, iA cI 32 A_t_stack v_t_stack] H → va_D A [oX1 A_t A_t_code A_t_letters A_t_valueFrom A_t_testFrom A_t_testEnd A_t_facts A_t_stack x_t_size x_t_rules x_t_height x_t_refused, iA cI 32 A_t_stack v_t_stack] → va_S A s.heap H locs → f_X1_push_b36 v_t_stack x_t_height = some (o_v_t_stack, o_x_t_height) → W p l e { frames := 0, cells := 0, slots := 0, locals := 0 } s m ([.ref A_t, .int a1] : List Value).toArray below meth c H locs 0 0 (MQ below (PoV D A [oX1 A_t A_t_code A_t_letters A_t_valueFrom A_t_testFrom A_t_testEnd A_t_facts A_t_stack x_t_size x_t_rules o_x_t_height x_t_refused, iA cI 32 A_t_stack o_v_t_stack]) ([.ref A_t, .int a1] : List Value).toArray s 0 0 A) (F0 m 36 ls []) := by
    intro v_t_stack x_t_height H locs ls hl hP hD hS hf
    unfold f_X1_push_b36 at hf
    obtain ⟨rfl, rfl⟩ := ev2 hf
    exact x_vret C hr hlk hP hD hS dX1_push_36
  refine lv_aload_n hx hb dX1_push_0 rfl (lv_at hl 0 rfl) ?_
  refine x_get C hK hP fd_X1_68 0 rfl rfl dX1_push_1 ?_
  refine lv_if_lt (tgt := 36) hx hb dX1_push_4 (by decide) (fun q => ?_) (fun q => ?_)
  · have hf := if_t q hf
    exact hb_36 v_t_stack x_t_height _ _ ls (lv_sub hl [] rfl) hP hD hS hf
  · have hf := if_f q hf
    refine lv_aload_n hx hb dX1_push_7 rfl (lv_at hl 0 rfl) ?_
    refine x_get C hK hP fd_X1_68 0 rfl rfl dX1_push_8 ?_
    refine lv_bipush (v := 32) hx hb dX1_push_11 (by decide) ?_
    refine lv_icmp_ge (tgt := 36) hx hb dX1_push_13 (by decide) (fun q => ?_) (fun q => ?_)
    · have hf := if_t q hf
      exact hb_36 v_t_stack x_t_height _ _ ls (lv_sub hl [] rfl) hP hD hS hf
    · have hf := if_f q hf
      refine lv_aload_n hx hb dX1_push_16 rfl (lv_at hl 0 rfl) ?_
      refine x_get C hK hP fd_X1_28 0 rfl rfl dX1_push_17 ?_
      refine lv_aload_n hx hb dX1_push_20 rfl (lv_at hl 0 rfl) ?_
      refine x_get C hK hP fd_X1_68 0 rfl rfl dX1_push_21 ?_
      refine lv_iload_n hx hb dX1_push_24 rfl (lv_at hl 1 rfl) ?_
      obtain ⟨hi, hf⟩ := sI_e hf
      refine x_iast (ws' := [oX1 A_t A_t_code A_t_letters A_t_valueFrom A_t_testFrom A_t_testEnd A_t_facts A_t_stack x_t_size x_t_rules x_t_height x_t_refused, iA cI 32 A_t_stack (upd v_t_stack x_t_height.toNatClampNeg a1)]) C hK hP hD hS 1 rfl hi rfl dX1_push_25 ?_
      intro H locs hP hD hS
      refine lv_aload_n hx hb dX1_push_26 rfl (lv_at hl 0 rfl) ?_
      refine lv_dup hx hb dX1_push_27 rfl ?_
      refine x_get C hK hP fd_X1_68 0 rfl rfl dX1_push_28 ?_
      refine lv_iconst (v := 1) hx hb dX1_push_31 (by decide) ?_
      refine lv_iadd hx hb dX1_push_32 ?_
      refine x_put (ws' := [oX1 A_t A_t_code A_t_letters A_t_valueFrom A_t_testFrom A_t_testEnd A_t_facts A_t_stack x_t_size x_t_rules (x_t_height + (1 : Int32)) x_t_refused, iA cI 32 A_t_stack (upd v_t_stack x_t_height.toNatClampNeg a1)]) C hK hP hD hS fp_X1_68 0 rfl rfl rfl (Nat.le_of_ble_eq_true rfl) rfl dX1_push_33 ?_
      intro H locs hP hD hS
      exact hb_36 (upd v_t_stack x_t_height.toNatClampNeg a1) (x_t_height + (1 : Int32)) _ _ ls (lv_sub hl [] rfl) hP hD hS hf
def f_X1_pop_b16 (x_t_height : Int32) : Option (Int32 × Int32) :=
  some ((0 : Int32), x_t_height)
def f_X1_pop (v_t_stack : (Nat → Int32)) (x_t_height : Int32) : Option (Int32 × Int32) :=
  if x_t_height ≤ 0 then
    f_X1_pop_b16 x_t_height
  else
    if x_t_height ≤ (32 : Int32) then
      gI 32 v_t_stack (x_t_height - (1 : Int32)) (fun g1 =>
      some (g1, (x_t_height - (1 : Int32))))
    else
      f_X1_pop_b16 x_t_height
set_option maxHeartbeats 4000000 in
set_option maxRecDepth 100000 in
theorem c_X1_pop {l : Launch} {D : va_G} {cI cB : ClassId} {A_t A_t_code A_t_letters A_t_valueFrom A_t_testFrom A_t_testEnd A_t_facts A_t_stack : Nat} {x_t_size x_t_rules x_t_height x_t_refused : Int32} {v_t_stack : Nat → Int32} {o_r o_x_t_height : Int32} (hf : f_X1_pop v_t_stack x_t_height = some (o_r, o_x_t_height)) : CtI l D cI cB yX1_pop cX1_pop 1 (some .int) 0 0 [.ref A_t] [oX1 A_t A_t_code A_t_letters A_t_valueFrom A_t_testFrom A_t_testEnd A_t_facts A_t_stack x_t_size x_t_rules x_t_height x_t_refused, iA cI 32 A_t_stack v_t_stack] [oX1 A_t A_t_code A_t_letters A_t_valueFrom A_t_testFrom A_t_testEnd A_t_facts A_t_stack x_t_size x_t_rules o_x_t_height x_t_refused, iA cI 32 A_t_stack v_t_stack] o_r := by
  refine x_startI (by decide) (Nat.le_of_ble_eq_true rfl) ?_
  intro p e s m below meth c A C hr hlk hA hK hP hD hS ls hl
  have hl : lv_has ls 1 [(0, .ref A_t)] := hl
  have hx := C.1
  have hb := C.2.1
  unfold f_X1_pop at hf
  have hb_16 : ∀ (x_t_height : Int32) (H : Heap) (locs : List Loc) (ls : Array Slot), lv_has ls 1 [] → va_P D vwCl [oX1 A_t A_t_code A_t_letters A_t_valueFrom A_t_testFrom A_t_testEnd A_t_facts A_t_stack x_t_size x_t_rules x_t_height x_t_refused, iA cI 32 A_t_stack v_t_stack] H → va_D A [oX1 A_t A_t_code A_t_letters A_t_valueFrom A_t_testFrom A_t_testEnd A_t_facts A_t_stack x_t_size x_t_rules x_t_height x_t_refused, iA cI 32 A_t_stack v_t_stack] → va_S A s.heap H locs → f_X1_pop_b16 x_t_height = some (o_r, o_x_t_height) → W p l e { frames := 0, cells := 0, slots := 0, locals := 0 } s m ([.ref A_t] : List Value).toArray below meth c H locs 0 0 (MQ below (PoI D A [oX1 A_t A_t_code A_t_letters A_t_valueFrom A_t_testFrom A_t_testEnd A_t_facts A_t_stack x_t_size x_t_rules o_x_t_height x_t_refused, iA cI 32 A_t_stack v_t_stack] o_r) ([.ref A_t] : List Value).toArray s 0 0 A) (F0 m 16 ls []) := by
    intro x_t_height H locs ls hl hP hD hS hf
    unfold f_X1_pop_b16 at hf
    refine lv_iconst (v := 0) hx hb dX1_pop_16 (by decide) ?_
    obtain ⟨rfl, rfl⟩ := ev2 hf
    exact x_iret C hr hlk hP hD hS dX1_pop_17
  refine lv_aload_n hx hb dX1_pop_0 rfl (lv_at hl 0 rfl) ?_
  refine x_get C hK hP fd_X1_68 0 rfl rfl dX1_pop_1 ?_
  refine lv_if_le (tgt := 16) hx hb dX1_pop_4 (by decide) (fun q => ?_) (fun q => ?_)
  · have hf := if_t q hf
    exact hb_16 x_t_height _ _ ls (lv_sub hl [] rfl) hP hD hS hf
  · have hf := if_f q hf
    refine lv_aload_n hx hb dX1_pop_7 rfl (lv_at hl 0 rfl) ?_
    refine x_get C hK hP fd_X1_68 0 rfl rfl dX1_pop_8 ?_
    refine lv_bipush (v := 32) hx hb dX1_pop_11 (by decide) ?_
    refine lv_icmp_le (tgt := 18) hx hb dX1_pop_13 (by decide) (fun q => ?_) (fun q => ?_)
    · have hf := if_t q hf
      refine lv_aload_n hx hb dX1_pop_18 rfl (lv_at hl 0 rfl) ?_
      refine lv_dup hx hb dX1_pop_19 rfl ?_
      refine x_get C hK hP fd_X1_68 0 rfl rfl dX1_pop_20 ?_
      refine lv_iconst (v := 1) hx hb dX1_pop_23 (by decide) ?_
      refine lv_isub hx hb dX1_pop_24 ?_
      refine x_put (ws' := [oX1 A_t A_t_code A_t_letters A_t_valueFrom A_t_testFrom A_t_testEnd A_t_facts A_t_stack x_t_size x_t_rules (x_t_height - (1 : Int32)) x_t_refused, iA cI 32 A_t_stack v_t_stack]) C hK hP hD hS fp_X1_68 0 rfl rfl rfl (Nat.le_of_ble_eq_true rfl) rfl dX1_pop_25 ?_
      intro H locs hP hD hS
      refine lv_aload_n hx hb dX1_pop_28 rfl (lv_at hl 0 rfl) ?_
      refine x_get C hK hP fd_X1_28 0 rfl rfl dX1_pop_29 ?_
      refine lv_aload_n hx hb dX1_pop_32 rfl (lv_at hl 0 rfl) ?_
      refine x_get C hK hP fd_X1_68 0 rfl rfl dX1_pop_33 ?_
      obtain ⟨hi, hf⟩ := gI_e hf
      refine x_iald C hK hP 1 rfl hi dX1_pop_36 ?_
      obtain ⟨rfl, rfl⟩ := ev2 hf
      exact x_iret C hr hlk hP hD hS dX1_pop_37
    · have hf := if_f q hf
      exact hb_16 x_t_height _ _ ls (lv_sub hl [] rfl) hP hD hS hf
def f_X1_reckon_b70 (x_t_refused : Int32) (s0 : Int32) : Option (Int32 × Int32) :=
  some (s0, x_t_refused)
def f_X1_reckon_b81 (x_t_refused : Int32) (s0 : Int32) : Option (Int32 × Int32) :=
  some (s0, x_t_refused)
def f_X1_reckon_b92 (x_t_refused : Int32) (s0 : Int32) : Option (Int32 × Int32) :=
  some (s0, x_t_refused)
def f_X1_reckon_b134 (x_t_refused : Int32) (s0 : Int32) : Option (Int32 × Int32) :=
  some (s0, x_t_refused)
def f_X1_reckon_b110 (a1 : Int32) (a2 : Int32) (a3 : Int32) (x_t_refused : Int32) (s1 : Int32) : Option (Int32 × Int32) :=
  zI s1 (
  if a3 = 0 then
    some ((0 : Int32), s1)
  else
    if a1 = (8 : Int32) then
      dI a2 a3 (fun g2 =>
      f_X1_reckon_b134 s1 g2)
    else
      rI a2 a3 (fun g1 =>
      f_X1_reckon_b134 s1 g1))
def f_X1_reckon_b105 (a1 : Int32) (a2 : Int32) (a3 : Int32) (x_t_refused : Int32) : Option (Int32 × Int32) :=
  f_X1_reckon_b110 a1 a2 a3 x_t_refused (1 : Int32)
def f_X1_reckon_b93 (a1 : Int32) (a2 : Int32) (a3 : Int32) (x_t_refused : Int32) : Option (Int32 × Int32) :=
  if x_t_refused = 0 then
    if a3 = 0 then
      f_X1_reckon_b105 a1 a2 a3 x_t_refused
    else
      f_X1_reckon_b110 a1 a2 a3 x_t_refused (0 : Int32)
  else
    f_X1_reckon_b105 a1 a2 a3 x_t_refused
def f_X1_reckon (x_t_refused : Int32) (a1 : Int32) (a2 : Int32) (a3 : Int32) : Option (Int32 × Int32) :=
  if a1 = (5 : Int32) then
    some ((a2 + a3), x_t_refused)
  else
  if a1 = (6 : Int32) then
    some ((a2 - a3), x_t_refused)
  else
  if a1 = (7 : Int32) then
    some ((a2 * a3), x_t_refused)
  else
  if a1 = (8 : Int32) then
    f_X1_reckon_b93 a1 a2 a3 x_t_refused
  else
  if a1 = (9 : Int32) then
    f_X1_reckon_b93 a1 a2 a3 x_t_refused
  else
  if a1 = (10 : Int32) then
    if a3 ≤ a2 then
      f_X1_reckon_b70 x_t_refused (0 : Int32)
    else
      f_X1_reckon_b70 x_t_refused (1 : Int32)
  else
  if a1 = (11 : Int32) then
    if a2 ≤ a3 then
      f_X1_reckon_b81 x_t_refused (0 : Int32)
    else
      f_X1_reckon_b81 x_t_refused (1 : Int32)
  else
  if a1 = (12 : Int32) then
    if a2 = a3 then
      f_X1_reckon_b92 x_t_refused (1 : Int32)
    else
      f_X1_reckon_b92 x_t_refused (0 : Int32)
  else
    f_X1_reckon_b93 a1 a2 a3 x_t_refused
set_option maxHeartbeats 4000000 in
set_option maxRecDepth 100000 in
theorem c_X1_reckon {l : Launch} {D : va_G} {cI cB : ClassId} {A_t A_t_code A_t_letters A_t_valueFrom A_t_testFrom A_t_testEnd A_t_facts A_t_stack : Nat} {x_t_size x_t_rules x_t_height x_t_refused a1 a2 a3 : Int32} {o_r o_x_t_refused : Int32} (hf : f_X1_reckon x_t_refused a1 a2 a3 = some (o_r, o_x_t_refused)) : CtI l D cI cB yX1_reckon cX1_reckon 4 (some .int) 0 0 [.ref A_t, .int a1, .int a2, .int a3] [oX1 A_t A_t_code A_t_letters A_t_valueFrom A_t_testFrom A_t_testEnd A_t_facts A_t_stack x_t_size x_t_rules x_t_height x_t_refused] [oX1 A_t A_t_code A_t_letters A_t_valueFrom A_t_testFrom A_t_testEnd A_t_facts A_t_stack x_t_size x_t_rules x_t_height o_x_t_refused] o_r := by
  refine x_startI (by decide) (Nat.le_of_ble_eq_true rfl) ?_
  intro p e s m below meth c A C hr hlk hA hK hP hD hS ls hl
  have hl : lv_has ls 4 [(0, .ref A_t), (1, .int a1), (2, .int a2), (3, .int a3)] := hl
  have hx := C.1
  have hb := C.2.1
  unfold f_X1_reckon at hf
  have hb_70 : ∀ (x_t_refused : Int32) (s0 : Int32) (H : Heap) (locs : List Loc) (ls : Array Slot), lv_has ls 4 [] → va_P D vwCl [oX1 A_t A_t_code A_t_letters A_t_valueFrom A_t_testFrom A_t_testEnd A_t_facts A_t_stack x_t_size x_t_rules x_t_height x_t_refused] H → va_D A [oX1 A_t A_t_code A_t_letters A_t_valueFrom A_t_testFrom A_t_testEnd A_t_facts A_t_stack x_t_size x_t_rules x_t_height x_t_refused] → va_S A s.heap H locs → f_X1_reckon_b70 x_t_refused s0 = some (o_r, o_x_t_refused) → W p l e { frames := 0, cells := 0, slots := 0, locals := 0 } s m ([.ref A_t, .int a1, .int a2, .int a3] : List Value).toArray below meth c H locs 0 0 (MQ below (PoI D A [oX1 A_t A_t_code A_t_letters A_t_valueFrom A_t_testFrom A_t_testEnd A_t_facts A_t_stack x_t_size x_t_rules x_t_height o_x_t_refused] o_r) ([.ref A_t, .int a1, .int a2, .int a3] : List Value).toArray s 0 0 A) (F0 m 70 ls [.int s0]) := by
    intro x_t_refused s0 H locs ls hl hP hD hS hf
    unfold f_X1_reckon_b70 at hf
    obtain ⟨rfl, rfl⟩ := ev2 hf
    exact x_iret C hr hlk hP hD hS dX1_reckon_70
  have hb_81 : ∀ (x_t_refused : Int32) (s0 : Int32) (H : Heap) (locs : List Loc) (ls : Array Slot), lv_has ls 4 [] → va_P D vwCl [oX1 A_t A_t_code A_t_letters A_t_valueFrom A_t_testFrom A_t_testEnd A_t_facts A_t_stack x_t_size x_t_rules x_t_height x_t_refused] H → va_D A [oX1 A_t A_t_code A_t_letters A_t_valueFrom A_t_testFrom A_t_testEnd A_t_facts A_t_stack x_t_size x_t_rules x_t_height x_t_refused] → va_S A s.heap H locs → f_X1_reckon_b81 x_t_refused s0 = some (o_r, o_x_t_refused) → W p l e { frames := 0, cells := 0, slots := 0, locals := 0 } s m ([.ref A_t, .int a1, .int a2, .int a3] : List Value).toArray below meth c H locs 0 0 (MQ below (PoI D A [oX1 A_t A_t_code A_t_letters A_t_valueFrom A_t_testFrom A_t_testEnd A_t_facts A_t_stack x_t_size x_t_rules x_t_height o_x_t_refused] o_r) ([.ref A_t, .int a1, .int a2, .int a3] : List Value).toArray s 0 0 A) (F0 m 81 ls [.int s0]) := by
    intro x_t_refused s0 H locs ls hl hP hD hS hf
    unfold f_X1_reckon_b81 at hf
    obtain ⟨rfl, rfl⟩ := ev2 hf
    exact x_iret C hr hlk hP hD hS dX1_reckon_81
  have hb_92 : ∀ (x_t_refused : Int32) (s0 : Int32) (H : Heap) (locs : List Loc) (ls : Array Slot), lv_has ls 4 [] → va_P D vwCl [oX1 A_t A_t_code A_t_letters A_t_valueFrom A_t_testFrom A_t_testEnd A_t_facts A_t_stack x_t_size x_t_rules x_t_height x_t_refused] H → va_D A [oX1 A_t A_t_code A_t_letters A_t_valueFrom A_t_testFrom A_t_testEnd A_t_facts A_t_stack x_t_size x_t_rules x_t_height x_t_refused] → va_S A s.heap H locs → f_X1_reckon_b92 x_t_refused s0 = some (o_r, o_x_t_refused) → W p l e { frames := 0, cells := 0, slots := 0, locals := 0 } s m ([.ref A_t, .int a1, .int a2, .int a3] : List Value).toArray below meth c H locs 0 0 (MQ below (PoI D A [oX1 A_t A_t_code A_t_letters A_t_valueFrom A_t_testFrom A_t_testEnd A_t_facts A_t_stack x_t_size x_t_rules x_t_height o_x_t_refused] o_r) ([.ref A_t, .int a1, .int a2, .int a3] : List Value).toArray s 0 0 A) (F0 m 92 ls [.int s0]) := by
    intro x_t_refused s0 H locs ls hl hP hD hS hf
    unfold f_X1_reckon_b92 at hf
    obtain ⟨rfl, rfl⟩ := ev2 hf
    exact x_iret C hr hlk hP hD hS dX1_reckon_92
  have hb_134 : ∀ (x_t_refused : Int32) (s0 : Int32) (H : Heap) (locs : List Loc) (ls : Array Slot), lv_has ls 4 [] → va_P D vwCl [oX1 A_t A_t_code A_t_letters A_t_valueFrom A_t_testFrom A_t_testEnd A_t_facts A_t_stack x_t_size x_t_rules x_t_height x_t_refused] H → va_D A [oX1 A_t A_t_code A_t_letters A_t_valueFrom A_t_testFrom A_t_testEnd A_t_facts A_t_stack x_t_size x_t_rules x_t_height x_t_refused] → va_S A s.heap H locs → f_X1_reckon_b134 x_t_refused s0 = some (o_r, o_x_t_refused) → W p l e { frames := 0, cells := 0, slots := 0, locals := 0 } s m ([.ref A_t, .int a1, .int a2, .int a3] : List Value).toArray below meth c H locs 0 0 (MQ below (PoI D A [oX1 A_t A_t_code A_t_letters A_t_valueFrom A_t_testFrom A_t_testEnd A_t_facts A_t_stack x_t_size x_t_rules x_t_height o_x_t_refused] o_r) ([.ref A_t, .int a1, .int a2, .int a3] : List Value).toArray s 0 0 A) (F0 m 134 ls [.int s0]) := by
    intro x_t_refused s0 H locs ls hl hP hD hS hf
    unfold f_X1_reckon_b134 at hf
    obtain ⟨rfl, rfl⟩ := ev2 hf
    exact x_iret C hr hlk hP hD hS dX1_reckon_134
  have hb_110 : ∀ (x_t_refused : Int32) (s1 : Int32) (H : Heap) (locs : List Loc) (ls : Array Slot), lv_has ls 4 [(1, .int a1), (2, .int a2), (3, .int a3)] → va_P D vwCl [oX1 A_t A_t_code A_t_letters A_t_valueFrom A_t_testFrom A_t_testEnd A_t_facts A_t_stack x_t_size x_t_rules x_t_height x_t_refused] H → va_D A [oX1 A_t A_t_code A_t_letters A_t_valueFrom A_t_testFrom A_t_testEnd A_t_facts A_t_stack x_t_size x_t_rules x_t_height x_t_refused] → va_S A s.heap H locs → f_X1_reckon_b110 a1 a2 a3 x_t_refused s1 = some (o_r, o_x_t_refused) → W p l e { frames := 0, cells := 0, slots := 0, locals := 0 } s m ([.ref A_t, .int a1, .int a2, .int a3] : List Value).toArray below meth c H locs 0 0 (MQ below (PoI D A [oX1 A_t A_t_code A_t_letters A_t_valueFrom A_t_testFrom A_t_testEnd A_t_facts A_t_stack x_t_size x_t_rules x_t_height o_x_t_refused] o_r) ([.ref A_t, .int a1, .int a2, .int a3] : List Value).toArray s 0 0 A) (F0 m 110 ls [.int s1, .ref A_t]) := by
    intro x_t_refused s1 H locs ls hl hP hD hS hf
    unfold f_X1_reckon_b110 at hf
    obtain ⟨hz, hf⟩ := zI_e hf
    refine x_put (ws' := [oX1 A_t A_t_code A_t_letters A_t_valueFrom A_t_testFrom A_t_testEnd A_t_facts A_t_stack x_t_size x_t_rules x_t_height s1]) C hK hP hD hS fp_X1_71 0 rfl (z_n hz) (z_f hz) (Nat.le_of_ble_eq_true rfl) rfl dX1_reckon_110 ?_
    intro H locs hP hD hS
    refine lv_iload_n hx hb dX1_reckon_113 rfl (lv_at hl 2 rfl) ?_
    refine lv_if_ne (tgt := 119) hx hb dX1_reckon_114 (by decide) (fun q => ?_) (fun q => ?_)
    · have hf := if_f q hf
      refine lv_iload_n hx hb dX1_reckon_119 rfl (lv_at hl 0 rfl) ?_
      refine lv_bipush (v := 8) hx hb dX1_reckon_120 (by decide) ?_
      refine lv_icmp_ne (tgt := 131) hx hb dX1_reckon_122 (by decide) (fun q => ?_) (fun q => ?_)
      · have hf := if_f q hf
        refine lv_iload_n hx hb dX1_reckon_131 rfl (lv_at hl 1 rfl) ?_
        refine lv_iload_n hx hb dX1_reckon_132 rfl (lv_at hl 2 rfl) ?_
        obtain ⟨hz, hf⟩ := rI_e hf
        refine lv_irem hx hb dX1_reckon_133 hz ?_
        exact hb_134 s1 (a2 - a2 / a3 * a3) _ _ ls (lv_sub hl [] rfl) hP hD hS hf
      · have hf := if_t q hf
        refine lv_iload_n hx hb dX1_reckon_125 rfl (lv_at hl 1 rfl) ?_
        refine lv_iload_n hx hb dX1_reckon_126 rfl (lv_at hl 2 rfl) ?_
        obtain ⟨hz, hf⟩ := dI_e hf
        refine lv_idiv hx hb dX1_reckon_127 hz ?_
        refine lv_goto (tgt := 134) hx hb dX1_reckon_128 (by decide) ?_
        exact hb_134 s1 (a2 / a3) _ _ ls (lv_sub hl [] rfl) hP hD hS hf
    · have hf := if_t q hf
      refine lv_iconst (v := 0) hx hb dX1_reckon_117 (by decide) ?_
      obtain ⟨rfl, rfl⟩ := ev2 hf
      exact x_iret C hr hlk hP hD hS dX1_reckon_118
  have hb_105 : ∀ (x_t_refused : Int32) (H : Heap) (locs : List Loc) (ls : Array Slot), lv_has ls 4 [(1, .int a1), (2, .int a2), (3, .int a3)] → va_P D vwCl [oX1 A_t A_t_code A_t_letters A_t_valueFrom A_t_testFrom A_t_testEnd A_t_facts A_t_stack x_t_size x_t_rules x_t_height x_t_refused] H → va_D A [oX1 A_t A_t_code A_t_letters A_t_valueFrom A_t_testFrom A_t_testEnd A_t_facts A_t_stack x_t_size x_t_rules x_t_height x_t_refused] → va_S A s.heap H locs → f_X1_reckon_b105 a1 a2 a3 x_t_refused = some (o_r, o_x_t_refused) → W p l e { frames := 0, cells := 0, slots := 0, locals := 0 } s m ([.ref A_t, .int a1, .int a2, .int a3] : List Value).toArray below meth c H locs 0 0 (MQ below (PoI D A [oX1 A_t A_t_code A_t_letters A_t_valueFrom A_t_testFrom A_t_testEnd A_t_facts A_t_stack x_t_size x_t_rules x_t_height o_x_t_refused] o_r) ([.ref A_t, .int a1, .int a2, .int a3] : List Value).toArray s 0 0 A) (F0 m 105 ls [.ref A_t]) := by
    intro x_t_refused H locs ls hl hP hD hS hf
    unfold f_X1_reckon_b105 at hf
    refine lv_iconst (v := 1) hx hb dX1_reckon_105 (by decide) ?_
    refine lv_goto (tgt := 110) hx hb dX1_reckon_106 (by decide) ?_
    exact hb_110 x_t_refused (1 : Int32) _ _ ls (lv_sub hl [0, 1, 2] rfl) hP hD hS hf
  have hb_93 : ∀ (x_t_refused : Int32) (H : Heap) (locs : List Loc) (ls : Array Slot), lv_has ls 4 [(0, .ref A_t), (1, .int a1), (2, .int a2), (3, .int a3)] → va_P D vwCl [oX1 A_t A_t_code A_t_letters A_t_valueFrom A_t_testFrom A_t_testEnd A_t_facts A_t_stack x_t_size x_t_rules x_t_height x_t_refused] H → va_D A [oX1 A_t A_t_code A_t_letters A_t_valueFrom A_t_testFrom A_t_testEnd A_t_facts A_t_stack x_t_size x_t_rules x_t_height x_t_refused] → va_S A s.heap H locs → f_X1_reckon_b93 a1 a2 a3 x_t_refused = some (o_r, o_x_t_refused) → W p l e { frames := 0, cells := 0, slots := 0, locals := 0 } s m ([.ref A_t, .int a1, .int a2, .int a3] : List Value).toArray below meth c H locs 0 0 (MQ below (PoI D A [oX1 A_t A_t_code A_t_letters A_t_valueFrom A_t_testFrom A_t_testEnd A_t_facts A_t_stack x_t_size x_t_rules x_t_height o_x_t_refused] o_r) ([.ref A_t, .int a1, .int a2, .int a3] : List Value).toArray s 0 0 A) (F0 m 93 ls []) := by
    intro x_t_refused H locs ls hl hP hD hS hf
    unfold f_X1_reckon_b93 at hf
    refine lv_aload_n hx hb dX1_reckon_93 rfl (lv_at hl 0 rfl) ?_
    refine lv_aload_n hx hb dX1_reckon_94 rfl (lv_at hl 0 rfl) ?_
    refine x_get C hK hP fd_X1_71 0 rfl rfl dX1_reckon_95 ?_
    refine lv_if_ne (tgt := 105) hx hb dX1_reckon_98 (by decide) (fun q => ?_) (fun q => ?_)
    · have hf := if_f q hf
      exact hb_105 x_t_refused _ _ ls (lv_sub hl [1, 2, 3] rfl) hP hD hS hf
    · have hf := if_t q hf
      refine lv_iload_n hx hb dX1_reckon_101 rfl (lv_at hl 3 rfl) ?_
      refine lv_if_ne (tgt := 109) hx hb dX1_reckon_102 (by decide) (fun q => ?_) (fun q => ?_)
      · have hf := if_f q hf
        refine lv_iconst (v := 0) hx hb dX1_reckon_109 (by decide) ?_
        exact hb_110 x_t_refused (0 : Int32) _ _ ls (lv_sub hl [1, 2, 3] rfl) hP hD hS hf
      · have hf := if_t q hf
        exact hb_105 x_t_refused _ _ ls (lv_sub hl [1, 2, 3] rfl) hP hD hS hf
  refine lv_iload_n hx hb dX1_reckon_0 rfl (lv_at hl 1 rfl) ?_
  by_cases q_5 : a1 = (5 : Int32)
  · have hf := if_t q_5 hf
    refine lv_tableIn (tgt := 48) hx hb dX1_reckon_1 (by rw [q_5]; decide) (by rw [q_5]; decide) (by rw [q_5]; rfl) (by decide) ?_
    refine lv_iload_n hx hb dX1_reckon_48 rfl (lv_at hl 2 rfl) ?_
    refine lv_iload_n hx hb dX1_reckon_49 rfl (lv_at hl 3 rfl) ?_
    refine lv_iadd hx hb dX1_reckon_50 ?_
    obtain ⟨rfl, rfl⟩ := ev2 hf
    exact x_iret C hr hlk hP hD hS dX1_reckon_51
  have hf := if_f q_5 hf
  by_cases q_6 : a1 = (6 : Int32)
  · have hf := if_t q_6 hf
    refine lv_tableIn (tgt := 52) hx hb dX1_reckon_1 (by rw [q_6]; decide) (by rw [q_6]; decide) (by rw [q_6]; rfl) (by decide) ?_
    refine lv_iload_n hx hb dX1_reckon_52 rfl (lv_at hl 2 rfl) ?_
    refine lv_iload_n hx hb dX1_reckon_53 rfl (lv_at hl 3 rfl) ?_
    refine lv_isub hx hb dX1_reckon_54 ?_
    obtain ⟨rfl, rfl⟩ := ev2 hf
    exact x_iret C hr hlk hP hD hS dX1_reckon_55
  have hf := if_f q_6 hf
  by_cases q_7 : a1 = (7 : Int32)
  · have hf := if_t q_7 hf
    refine lv_tableIn (tgt := 56) hx hb dX1_reckon_1 (by rw [q_7]; decide) (by rw [q_7]; decide) (by rw [q_7]; rfl) (by decide) ?_
    refine lv_iload_n hx hb dX1_reckon_56 rfl (lv_at hl 2 rfl) ?_
    refine lv_iload_n hx hb dX1_reckon_57 rfl (lv_at hl 3 rfl) ?_
    refine lv_imul hx hb dX1_reckon_58 ?_
    obtain ⟨rfl, rfl⟩ := ev2 hf
    exact x_iret C hr hlk hP hD hS dX1_reckon_59
  have hf := if_f q_7 hf
  by_cases q_8 : a1 = (8 : Int32)
  · have hf := if_t q_8 hf
    refine lv_tableIn (tgt := 93) hx hb dX1_reckon_1 (by rw [q_8]; decide) (by rw [q_8]; decide) (by rw [q_8]; rfl) (by decide) ?_
    exact hb_93 x_t_refused _ _ ls (lv_sub hl [0, 1, 2, 3] rfl) hP hD hS hf
  have hf := if_f q_8 hf
  by_cases q_9 : a1 = (9 : Int32)
  · have hf := if_t q_9 hf
    refine lv_tableIn (tgt := 93) hx hb dX1_reckon_1 (by rw [q_9]; decide) (by rw [q_9]; decide) (by rw [q_9]; rfl) (by decide) ?_
    exact hb_93 x_t_refused _ _ ls (lv_sub hl [0, 1, 2, 3] rfl) hP hD hS hf
  have hf := if_f q_9 hf
  by_cases q_10 : a1 = (10 : Int32)
  · have hf := if_t q_10 hf
    refine lv_tableIn (tgt := 60) hx hb dX1_reckon_1 (by rw [q_10]; decide) (by rw [q_10]; decide) (by rw [q_10]; rfl) (by decide) ?_
    refine lv_iload_n hx hb dX1_reckon_60 rfl (lv_at hl 2 rfl) ?_
    refine lv_iload_n hx hb dX1_reckon_61 rfl (lv_at hl 3 rfl) ?_
    refine lv_icmp_ge (tgt := 69) hx hb dX1_reckon_62 (by decide) (fun q => ?_) (fun q => ?_)
    · have hf := if_t q hf
      refine lv_iconst (v := 0) hx hb dX1_reckon_69 (by decide) ?_
      exact hb_70 x_t_refused (0 : Int32) _ _ ls (lv_sub hl [] rfl) hP hD hS hf
    · have hf := if_f q hf
      refine lv_iconst (v := 1) hx hb dX1_reckon_65 (by decide) ?_
      refine lv_goto (tgt := 70) hx hb dX1_reckon_66 (by decide) ?_
      exact hb_70 x_t_refused (1 : Int32) _ _ ls (lv_sub hl [] rfl) hP hD hS hf
  have hf := if_f q_10 hf
  by_cases q_11 : a1 = (11 : Int32)
  · have hf := if_t q_11 hf
    refine lv_tableIn (tgt := 71) hx hb dX1_reckon_1 (by rw [q_11]; decide) (by rw [q_11]; decide) (by rw [q_11]; rfl) (by decide) ?_
    refine lv_iload_n hx hb dX1_reckon_71 rfl (lv_at hl 2 rfl) ?_
    refine lv_iload_n hx hb dX1_reckon_72 rfl (lv_at hl 3 rfl) ?_
    refine lv_icmp_le (tgt := 80) hx hb dX1_reckon_73 (by decide) (fun q => ?_) (fun q => ?_)
    · have hf := if_t q hf
      refine lv_iconst (v := 0) hx hb dX1_reckon_80 (by decide) ?_
      exact hb_81 x_t_refused (0 : Int32) _ _ ls (lv_sub hl [] rfl) hP hD hS hf
    · have hf := if_f q hf
      refine lv_iconst (v := 1) hx hb dX1_reckon_76 (by decide) ?_
      refine lv_goto (tgt := 81) hx hb dX1_reckon_77 (by decide) ?_
      exact hb_81 x_t_refused (1 : Int32) _ _ ls (lv_sub hl [] rfl) hP hD hS hf
  have hf := if_f q_11 hf
  by_cases q_12 : a1 = (12 : Int32)
  · have hf := if_t q_12 hf
    refine lv_tableIn (tgt := 82) hx hb dX1_reckon_1 (by rw [q_12]; decide) (by rw [q_12]; decide) (by rw [q_12]; rfl) (by decide) ?_
    refine lv_iload_n hx hb dX1_reckon_82 rfl (lv_at hl 2 rfl) ?_
    refine lv_iload_n hx hb dX1_reckon_83 rfl (lv_at hl 3 rfl) ?_
    refine lv_icmp_ne (tgt := 91) hx hb dX1_reckon_84 (by decide) (fun q => ?_) (fun q => ?_)
    · have hf := if_f q hf
      refine lv_iconst (v := 0) hx hb dX1_reckon_91 (by decide) ?_
      exact hb_92 x_t_refused (0 : Int32) _ _ ls (lv_sub hl [] rfl) hP hD hS hf
    · have hf := if_t q hf
      refine lv_iconst (v := 1) hx hb dX1_reckon_87 (by decide) ?_
      refine lv_goto (tgt := 92) hx hb dX1_reckon_88 (by decide) ?_
      exact hb_92 x_t_refused (1 : Int32) _ _ ls (lv_sub hl [] rfl) hP hD hS hf
  have hf := if_f q_12 hf
  have eq_5 : a1.toInt ≠ 5 := fun h => q_5 (Int32.toInt_inj.mp (h.trans (by decide)))
  have eq_6 : a1.toInt ≠ 6 := fun h => q_6 (Int32.toInt_inj.mp (h.trans (by decide)))
  have eq_7 : a1.toInt ≠ 7 := fun h => q_7 (Int32.toInt_inj.mp (h.trans (by decide)))
  have eq_8 : a1.toInt ≠ 8 := fun h => q_8 (Int32.toInt_inj.mp (h.trans (by decide)))
  have eq_9 : a1.toInt ≠ 9 := fun h => q_9 (Int32.toInt_inj.mp (h.trans (by decide)))
  have eq_10 : a1.toInt ≠ 10 := fun h => q_10 (Int32.toInt_inj.mp (h.trans (by decide)))
  have eq_11 : a1.toInt ≠ 11 := fun h => q_11 (Int32.toInt_inj.mp (h.trans (by decide)))
  have eq_12 : a1.toInt ≠ 12 := fun h => q_12 (Int32.toInt_inj.mp (h.trans (by decide)))
  refine lv_tableOut (tgt := 93) hx hb dX1_reckon_1 (by omega) (by decide) ?_
  exact hb_93 x_t_refused _ _ ls (lv_sub hl [0, 1, 2, 3] rfl) hP hD hS hf
def f_X1_stepAt_b191 (a1 : Int32) (v_t_stack : (Nat → Int32)) (x_t_height : Int32) (x_t_refused : Int32) : Option (Int32 × (Nat → Int32) × Int32 × Int32) :=
  some ((a1 + (1 : Int32)), v_t_stack, x_t_height, x_t_refused)
def f_X1_stepAt_b75 (a1 : Int32) (v_t_stack : (Nat → Int32)) (x_t_height : Int32) (x_t_refused : Int32) (s1 : Int32) : Option (Int32 × (Nat → Int32) × Int32 × Int32) :=
  bd2 (f_X1_push v_t_stack x_t_height s1) (fun w1 w2 =>
  f_X1_stepAt_b191 a1 w1 w2 x_t_refused)
def f_X1_stepAt_b74 (a1 : Int32) (v_t_stack : (Nat → Int32)) (x_t_height : Int32) (x_t_refused : Int32) : Option (Int32 × (Nat → Int32) × Int32 × Int32) :=
  f_X1_stepAt_b75 a1 v_t_stack x_t_height x_t_refused (0 : Int32)
def f_X1_stepAt_b100 (a1 : Int32) (v_t_stack : (Nat → Int32)) (x_t_height : Int32) (x_t_refused : Int32) (s1 : Int32) : Option (Int32 × (Nat → Int32) × Int32 × Int32) :=
  bd2 (f_X1_push v_t_stack x_t_height s1) (fun w1 w2 =>
  f_X1_stepAt_b191 a1 w1 w2 x_t_refused)
def f_X1_stepAt_b145 (a1 : Int32) (v_t_stack : (Nat → Int32)) (x_t_height : Int32) (x_t_refused : Int32) (s0 : Int32) (s1 : Int32) (l3 : Int32) (l5 : Int32) : Option (Int32 × (Nat → Int32) × Int32 × Int32) :=
  if s0 = s1 then
    bd2 (f_X1_push v_t_stack x_t_height l5) (fun w1 w2 =>
    some ((mxI l3 (a1 + (1 : Int32))), w1, w2, x_t_refused))
  else
    f_X1_stepAt_b191 a1 v_t_stack x_t_height x_t_refused
def f_X1_stepAt_b134 (a1 : Int32) (v_t_stack : (Nat → Int32)) (x_t_height : Int32) (x_t_refused : Int32) (s0 : Int32) (l3 : Int32) (l4 : Int32) (l5 : Int32) : Option (Int32 × (Nat → Int32) × Int32 × Int32) :=
  if l4 = (3 : Int32) then
    f_X1_stepAt_b145 a1 v_t_stack x_t_height x_t_refused s0 (1 : Int32) l3 l5
  else
    f_X1_stepAt_b145 a1 v_t_stack x_t_height x_t_refused s0 (0 : Int32) l3 l5
def f_X1_stepAt_b118 (a1 : Int32) (v_t_stack : (Nat → Int32)) (x_t_height : Int32) (x_t_refused : Int32) (l3 : Int32) (l4 : Int32) : Option (Int32 × (Nat → Int32) × Int32 × Int32) :=
  bd2 (f_X1_pop v_t_stack x_t_height) (fun r1 w2 =>
  if r1 = 0 then
    f_X1_stepAt_b134 a1 v_t_stack w2 x_t_refused (0 : Int32) l3 l4 r1
  else
    f_X1_stepAt_b134 a1 v_t_stack w2 x_t_refused (1 : Int32) l3 l4 r1)
def f_X1_stepAt_b21 (v_t_facts : (Nat → Int32)) (a1 : Int32) (v_t_stack : (Nat → Int32)) (x_t_height : Int32) (x_t_refused : Int32) (s0 : Int32) : Option (Int32 × (Nat → Int32) × Int32 × Int32) :=
  if (s0 &&& (15 : Int32)) = 0 then
    bd2 (f_X1_push v_t_stack x_t_height (s0 >>> ((4 : Int32) &&& 31))) (fun w12 w13 =>
    f_X1_stepAt_b191 a1 w12 w13 x_t_refused)
  else
    if (s0 &&& (15 : Int32)) = (1 : Int32) then
      if (s0 >>> ((4 : Int32) &&& 31)) < 0 then
        f_X1_stepAt_b74 a1 v_t_stack x_t_height x_t_refused
      else
        if (10 : Int32) ≤ (s0 >>> ((4 : Int32) &&& 31)) then
          f_X1_stepAt_b74 a1 v_t_stack x_t_height x_t_refused
        else
          gI 10 v_t_facts (s0 >>> ((4 : Int32) &&& 31)) (fun g11 =>
          f_X1_stepAt_b75 a1 v_t_stack x_t_height x_t_refused g11)
    else
      if (s0 &&& (15 : Int32)) = (2 : Int32) then
        bd2 (f_X1_pop v_t_stack x_t_height) (fun r9 w10 =>
        if r9 = 0 then
          f_X1_stepAt_b100 a1 v_t_stack w10 x_t_refused (1 : Int32)
        else
          f_X1_stepAt_b100 a1 v_t_stack w10 x_t_refused (0 : Int32))
      else
        if (s0 &&& (15 : Int32)) = (3 : Int32) then
          f_X1_stepAt_b118 a1 v_t_stack x_t_height x_t_refused (s0 >>> ((4 : Int32) &&& 31)) (s0 &&& (15 : Int32))
        else
          if (s0 &&& (15 : Int32)) = (4 : Int32) then
            f_X1_stepAt_b118 a1 v_t_stack x_t_height x_t_refused (s0 >>> ((4 : Int32) &&& 31)) (s0 &&& (15 : Int32))
          else
            bd2 (f_X1_pop v_t_stack x_t_height) (fun r1 w2 =>
            bd2 (f_X1_pop v_t_stack w2) (fun r3 w4 =>
            bd2 (f_X1_reckon x_t_refused (s0 &&& (15 : Int32)) r3 r1) (fun r5 w6 =>
            bd2 (f_X1_push v_t_stack w4 r5) (fun w7 w8 =>
            f_X1_stepAt_b191 a1 w7 w8 w6))))
def f_X1_stepAt_b20 (v_t_facts : (Nat → Int32)) (a1 : Int32) (v_t_stack : (Nat → Int32)) (x_t_height : Int32) (x_t_refused : Int32) : Option (Int32 × (Nat → Int32) × Int32 × Int32) :=
  f_X1_stepAt_b21 v_t_facts a1 v_t_stack x_t_height x_t_refused (0 : Int32)
def f_X1_stepAt (v_t_code : (Nat → Int32)) (v_t_facts : (Nat → Int32)) (v_t_stack : (Nat → Int32)) (x_t_height : Int32) (x_t_refused : Int32) (a1 : Int32) : Option (Int32 × (Nat → Int32) × Int32 × Int32) :=
  if a1 < 0 then
    f_X1_stepAt_b20 v_t_facts a1 v_t_stack x_t_height x_t_refused
  else
    if (240 : Int32) ≤ a1 then
      f_X1_stepAt_b20 v_t_facts a1 v_t_stack x_t_height x_t_refused
    else
      gI 240 v_t_code a1 (fun g1 =>
      f_X1_stepAt_b21 v_t_facts a1 v_t_stack x_t_height x_t_refused g1)
set_option maxHeartbeats 4000000 in
set_option maxRecDepth 100000 in
theorem c_X1_stepAt {l : Launch} {D : va_G} {cI cB : ClassId} {A_t A_t_code A_t_letters A_t_valueFrom A_t_testFrom A_t_testEnd A_t_facts A_t_stack : Nat} {x_t_size x_t_rules x_t_height x_t_refused a1 : Int32} {v_t_code v_t_facts v_t_stack : Nat → Int32} {o_r o_x_t_height o_x_t_refused : Int32} {o_v_t_stack : Nat → Int32} (hf : f_X1_stepAt v_t_code v_t_facts v_t_stack x_t_height x_t_refused a1 = some (o_r, o_v_t_stack, o_x_t_height, o_x_t_refused)) : CtI l D cI cB yX1_stepAt cX1_stepAt 7 (some .int) 1 23 [.ref A_t, .int a1] [oX1 A_t A_t_code A_t_letters A_t_valueFrom A_t_testFrom A_t_testEnd A_t_facts A_t_stack x_t_size x_t_rules x_t_height x_t_refused, iA cI 240 A_t_code v_t_code, iA cI 10 A_t_facts v_t_facts, iA cI 32 A_t_stack v_t_stack] [oX1 A_t A_t_code A_t_letters A_t_valueFrom A_t_testFrom A_t_testEnd A_t_facts A_t_stack x_t_size x_t_rules o_x_t_height o_x_t_refused, iA cI 240 A_t_code v_t_code, iA cI 10 A_t_facts v_t_facts, iA cI 32 A_t_stack o_v_t_stack] o_r := by
  refine x_startI (by decide) (Nat.le_of_ble_eq_true rfl) ?_
  intro p e s m below meth c A C hr hlk hA hK hP hD hS ls hl
  have hl : lv_has ls 7 [(0, .ref A_t), (1, .int a1)] := hl
  have hx := C.1
  have hb := C.2.1
  unfold f_X1_stepAt at hf
  have hb_191 : ∀ (v_t_stack : (Nat → Int32)) (x_t_height : Int32) (x_t_refused : Int32) (H : Heap) (locs : List Loc) (ls : Array Slot), lv_has ls 7 [(1, .int a1)] → va_P D vwCl [oX1 A_t A_t_code A_t_letters A_t_valueFrom A_t_testFrom A_t_testEnd A_t_facts A_t_stack x_t_size x_t_rules x_t_height x_t_refused, iA cI 240 A_t_code v_t_code, iA cI 10 A_t_facts v_t_facts, iA cI 32 A_t_stack v_t_stack] H → va_D A [oX1 A_t A_t_code A_t_letters A_t_valueFrom A_t_testFrom A_t_testEnd A_t_facts A_t_stack x_t_size x_t_rules x_t_height x_t_refused, iA cI 240 A_t_code v_t_code, iA cI 10 A_t_facts v_t_facts, iA cI 32 A_t_stack v_t_stack] → va_S A s.heap H locs → f_X1_stepAt_b191 a1 v_t_stack x_t_height x_t_refused = some (o_r, o_v_t_stack, o_x_t_height, o_x_t_refused) → W p l e { frames := 1, cells := 0, slots := 0, locals := 23 } s m ([.ref A_t, .int a1] : List Value).toArray below meth c H locs 0 0 (MQ below (PoI D A [oX1 A_t A_t_code A_t_letters A_t_valueFrom A_t_testFrom A_t_testEnd A_t_facts A_t_stack x_t_size x_t_rules o_x_t_height o_x_t_refused, iA cI 240 A_t_code v_t_code, iA cI 10 A_t_facts v_t_facts, iA cI 32 A_t_stack o_v_t_stack] o_r) ([.ref A_t, .int a1] : List Value).toArray s 0 0 A) (F0 m 191 ls []) := by
    intro v_t_stack x_t_height x_t_refused H locs ls hl hP hD hS hf
    unfold f_X1_stepAt_b191 at hf
    refine lv_iload_n hx hb dX1_stepAt_191 rfl (lv_at hl 0 rfl) ?_
    refine lv_iconst (v := 1) hx hb dX1_stepAt_192 (by decide) ?_
    refine lv_iadd hx hb dX1_stepAt_193 ?_
    obtain ⟨rfl, rfl, rfl, rfl⟩ := ev4 hf
    exact x_iret C hr hlk hP hD hS dX1_stepAt_194
  have hb_75 : ∀ (v_t_stack : (Nat → Int32)) (x_t_height : Int32) (x_t_refused : Int32) (s1 : Int32) (H : Heap) (locs : List Loc) (ls : Array Slot), lv_has ls 7 [(1, .int a1)] → va_P D vwCl [oX1 A_t A_t_code A_t_letters A_t_valueFrom A_t_testFrom A_t_testEnd A_t_facts A_t_stack x_t_size x_t_rules x_t_height x_t_refused, iA cI 240 A_t_code v_t_code, iA cI 10 A_t_facts v_t_facts, iA cI 32 A_t_stack v_t_stack] H → va_D A [oX1 A_t A_t_code A_t_letters A_t_valueFrom A_t_testFrom A_t_testEnd A_t_facts A_t_stack x_t_size x_t_rules x_t_height x_t_refused, iA cI 240 A_t_code v_t_code, iA cI 10 A_t_facts v_t_facts, iA cI 32 A_t_stack v_t_stack] → va_S A s.heap H locs → f_X1_stepAt_b75 a1 v_t_stack x_t_height x_t_refused s1 = some (o_r, o_v_t_stack, o_x_t_height, o_x_t_refused) → W p l e { frames := 1, cells := 0, slots := 0, locals := 23 } s m ([.ref A_t, .int a1] : List Value).toArray below meth c H locs 0 0 (MQ below (PoI D A [oX1 A_t A_t_code A_t_letters A_t_valueFrom A_t_testFrom A_t_testEnd A_t_facts A_t_stack x_t_size x_t_rules o_x_t_height o_x_t_refused, iA cI 240 A_t_code v_t_code, iA cI 10 A_t_facts v_t_facts, iA cI 32 A_t_stack o_v_t_stack] o_r) ([.ref A_t, .int a1] : List Value).toArray s 0 0 A) (F0 m 75 ls [.int s1, .ref A_t]) := by
    intro v_t_stack x_t_height x_t_refused s1 H locs ls hl hP hD hS hf
    unfold f_X1_stepAt_b75 at hf
    obtain ⟨w1, w2, hc3, hf⟩ := bd2_e hf
    refine x_callVV (ws' := [oX1 A_t A_t_code A_t_letters A_t_valueFrom A_t_testFrom A_t_testEnd A_t_facts A_t_stack x_t_size x_t_rules w2 x_t_refused, iA cI 240 A_t_code v_t_code, iA cI 10 A_t_facts v_t_facts, iA cI 32 A_t_stack w1]) (rest := []) C hK hP hD hS hA hl mf_X1_82 (c_X1_push hc3) [0, 3] 0 1 rfl rfl rfl rfl rfl rfl rfl rfl rfl rfl (Nat.le_of_ble_eq_true rfl) ⟨Nat.le_of_ble_eq_true rfl, Nat.le_of_ble_eq_true rfl⟩ ⟨Nat.le_refl _, Nat.le_refl _⟩ dX1_stepAt_75 ?_
    intro H locs hP hD hS
    refine lv_goto (tgt := 191) hx hb dX1_stepAt_78 (by decide) ?_
    exact hb_191 w1 w2 x_t_refused _ _ ls (lv_sub hl [0] rfl) hP hD hS hf
  have hb_74 : ∀ (v_t_stack : (Nat → Int32)) (x_t_height : Int32) (x_t_refused : Int32) (H : Heap) (locs : List Loc) (ls : Array Slot), lv_has ls 7 [(1, .int a1)] → va_P D vwCl [oX1 A_t A_t_code A_t_letters A_t_valueFrom A_t_testFrom A_t_testEnd A_t_facts A_t_stack x_t_size x_t_rules x_t_height x_t_refused, iA cI 240 A_t_code v_t_code, iA cI 10 A_t_facts v_t_facts, iA cI 32 A_t_stack v_t_stack] H → va_D A [oX1 A_t A_t_code A_t_letters A_t_valueFrom A_t_testFrom A_t_testEnd A_t_facts A_t_stack x_t_size x_t_rules x_t_height x_t_refused, iA cI 240 A_t_code v_t_code, iA cI 10 A_t_facts v_t_facts, iA cI 32 A_t_stack v_t_stack] → va_S A s.heap H locs → f_X1_stepAt_b74 a1 v_t_stack x_t_height x_t_refused = some (o_r, o_v_t_stack, o_x_t_height, o_x_t_refused) → W p l e { frames := 1, cells := 0, slots := 0, locals := 23 } s m ([.ref A_t, .int a1] : List Value).toArray below meth c H locs 0 0 (MQ below (PoI D A [oX1 A_t A_t_code A_t_letters A_t_valueFrom A_t_testFrom A_t_testEnd A_t_facts A_t_stack x_t_size x_t_rules o_x_t_height o_x_t_refused, iA cI 240 A_t_code v_t_code, iA cI 10 A_t_facts v_t_facts, iA cI 32 A_t_stack o_v_t_stack] o_r) ([.ref A_t, .int a1] : List Value).toArray s 0 0 A) (F0 m 74 ls [.ref A_t]) := by
    intro v_t_stack x_t_height x_t_refused H locs ls hl hP hD hS hf
    unfold f_X1_stepAt_b74 at hf
    refine lv_iconst (v := 0) hx hb dX1_stepAt_74 (by decide) ?_
    exact hb_75 v_t_stack x_t_height x_t_refused (0 : Int32) _ _ ls (lv_sub hl [0] rfl) hP hD hS hf
  have hb_100 : ∀ (v_t_stack : (Nat → Int32)) (x_t_height : Int32) (x_t_refused : Int32) (s1 : Int32) (H : Heap) (locs : List Loc) (ls : Array Slot), lv_has ls 7 [(1, .int a1)] → va_P D vwCl [oX1 A_t A_t_code A_t_letters A_t_valueFrom A_t_testFrom A_t_testEnd A_t_facts A_t_stack x_t_size x_t_rules x_t_height x_t_refused, iA cI 240 A_t_code v_t_code, iA cI 10 A_t_facts v_t_facts, iA cI 32 A_t_stack v_t_stack] H → va_D A [oX1 A_t A_t_code A_t_letters A_t_valueFrom A_t_testFrom A_t_testEnd A_t_facts A_t_stack x_t_size x_t_rules x_t_height x_t_refused, iA cI 240 A_t_code v_t_code, iA cI 10 A_t_facts v_t_facts, iA cI 32 A_t_stack v_t_stack] → va_S A s.heap H locs → f_X1_stepAt_b100 a1 v_t_stack x_t_height x_t_refused s1 = some (o_r, o_v_t_stack, o_x_t_height, o_x_t_refused) → W p l e { frames := 1, cells := 0, slots := 0, locals := 23 } s m ([.ref A_t, .int a1] : List Value).toArray below meth c H locs 0 0 (MQ below (PoI D A [oX1 A_t A_t_code A_t_letters A_t_valueFrom A_t_testFrom A_t_testEnd A_t_facts A_t_stack x_t_size x_t_rules o_x_t_height o_x_t_refused, iA cI 240 A_t_code v_t_code, iA cI 10 A_t_facts v_t_facts, iA cI 32 A_t_stack o_v_t_stack] o_r) ([.ref A_t, .int a1] : List Value).toArray s 0 0 A) (F0 m 100 ls [.int s1, .ref A_t]) := by
    intro v_t_stack x_t_height x_t_refused s1 H locs ls hl hP hD hS hf
    unfold f_X1_stepAt_b100 at hf
    obtain ⟨w4, w5, hc6, hf⟩ := bd2_e hf
    refine x_callVV (ws' := [oX1 A_t A_t_code A_t_letters A_t_valueFrom A_t_testFrom A_t_testEnd A_t_facts A_t_stack x_t_size x_t_rules w5 x_t_refused, iA cI 240 A_t_code v_t_code, iA cI 10 A_t_facts v_t_facts, iA cI 32 A_t_stack w4]) (rest := []) C hK hP hD hS hA hl mf_X1_82 (c_X1_push hc6) [0, 3] 0 1 rfl rfl rfl rfl rfl rfl rfl rfl rfl rfl (Nat.le_of_ble_eq_true rfl) ⟨Nat.le_of_ble_eq_true rfl, Nat.le_of_ble_eq_true rfl⟩ ⟨Nat.le_refl _, Nat.le_refl _⟩ dX1_stepAt_100 ?_
    intro H locs hP hD hS
    refine lv_goto (tgt := 191) hx hb dX1_stepAt_103 (by decide) ?_
    exact hb_191 w4 w5 x_t_refused _ _ ls (lv_sub hl [0] rfl) hP hD hS hf
  have hb_145 : ∀ (v_t_stack : (Nat → Int32)) (x_t_height : Int32) (x_t_refused : Int32) (s0 : Int32) (s1 : Int32) (l3 : Int32) (l5 : Int32) (H : Heap) (locs : List Loc) (ls : Array Slot), lv_has ls 7 [(0, .ref A_t), (1, .int a1), (3, .int l3), (5, .int l5)] → va_P D vwCl [oX1 A_t A_t_code A_t_letters A_t_valueFrom A_t_testFrom A_t_testEnd A_t_facts A_t_stack x_t_size x_t_rules x_t_height x_t_refused, iA cI 240 A_t_code v_t_code, iA cI 10 A_t_facts v_t_facts, iA cI 32 A_t_stack v_t_stack] H → va_D A [oX1 A_t A_t_code A_t_letters A_t_valueFrom A_t_testFrom A_t_testEnd A_t_facts A_t_stack x_t_size x_t_rules x_t_height x_t_refused, iA cI 240 A_t_code v_t_code, iA cI 10 A_t_facts v_t_facts, iA cI 32 A_t_stack v_t_stack] → va_S A s.heap H locs → f_X1_stepAt_b145 a1 v_t_stack x_t_height x_t_refused s0 s1 l3 l5 = some (o_r, o_v_t_stack, o_x_t_height, o_x_t_refused) → W p l e { frames := 1, cells := 0, slots := 0, locals := 23 } s m ([.ref A_t, .int a1] : List Value).toArray below meth c H locs 0 0 (MQ below (PoI D A [oX1 A_t A_t_code A_t_letters A_t_valueFrom A_t_testFrom A_t_testEnd A_t_facts A_t_stack x_t_size x_t_rules o_x_t_height o_x_t_refused, iA cI 240 A_t_code v_t_code, iA cI 10 A_t_facts v_t_facts, iA cI 32 A_t_stack o_v_t_stack] o_r) ([.ref A_t, .int a1] : List Value).toArray s 0 0 A) (F0 m 145 ls [.int s1, .int s0]) := by
    intro v_t_stack x_t_height x_t_refused s0 s1 l3 l5 H locs ls hl hP hD hS hf
    unfold f_X1_stepAt_b145 at hf
    refine lv_icmp_ne (tgt := 162) hx hb dX1_stepAt_145 (by decide) (fun q => ?_) (fun q => ?_)
    · have hf := if_f q hf
      refine lv_goto (tgt := 191) hx hb dX1_stepAt_162 (by decide) ?_
      exact hb_191 v_t_stack x_t_height x_t_refused _ _ ls (lv_sub hl [1] rfl) hP hD hS hf
    · have hf := if_t q hf
      refine lv_aload_n hx hb dX1_stepAt_148 rfl (lv_at hl 0 rfl) ?_
      refine lv_iload hx hb dX1_stepAt_149 (lv_at hl 3 rfl) ?_
      obtain ⟨w7, w8, hc9, hf⟩ := bd2_e hf
      refine x_callVV (ws' := [oX1 A_t A_t_code A_t_letters A_t_valueFrom A_t_testFrom A_t_testEnd A_t_facts A_t_stack x_t_size x_t_rules w8 x_t_refused, iA cI 240 A_t_code v_t_code, iA cI 10 A_t_facts v_t_facts, iA cI 32 A_t_stack w7]) (rest := []) C hK hP hD hS hA hl mf_X1_82 (c_X1_push hc9) [0, 3] 0 1 rfl rfl rfl rfl rfl rfl rfl rfl rfl rfl (Nat.le_of_ble_eq_true rfl) ⟨Nat.le_of_ble_eq_true rfl, Nat.le_of_ble_eq_true rfl⟩ ⟨Nat.le_refl _, Nat.le_refl _⟩ dX1_stepAt_151 ?_
      intro H locs hP hD hS
      refine lv_iload_n hx hb dX1_stepAt_154 rfl (lv_at hl 2 rfl) ?_
      refine lv_iload_n hx hb dX1_stepAt_155 rfl (lv_at hl 1 rfl) ?_
      refine lv_iconst (v := 1) hx hb dX1_stepAt_156 (by decide) ?_
      refine lv_iadd hx hb dX1_stepAt_157 ?_
      refine x_mmax C hl ml_X1_86 (Nat.le_of_ble_eq_true rfl) (Nat.le_of_ble_eq_true rfl) ⟨Nat.le_refl _, Nat.le_refl _⟩ dX1_stepAt_158 ?_
      obtain ⟨rfl, rfl, rfl, rfl⟩ := ev4 hf
      exact x_iret C hr hlk hP hD hS dX1_stepAt_161
  have hb_134 : ∀ (v_t_stack : (Nat → Int32)) (x_t_height : Int32) (x_t_refused : Int32) (s0 : Int32) (l3 : Int32) (l4 : Int32) (l5 : Int32) (H : Heap) (locs : List Loc) (ls : Array Slot), lv_has ls 7 [(0, .ref A_t), (1, .int a1), (3, .int l3), (4, .int l4), (5, .int l5)] → va_P D vwCl [oX1 A_t A_t_code A_t_letters A_t_valueFrom A_t_testFrom A_t_testEnd A_t_facts A_t_stack x_t_size x_t_rules x_t_height x_t_refused, iA cI 240 A_t_code v_t_code, iA cI 10 A_t_facts v_t_facts, iA cI 32 A_t_stack v_t_stack] H → va_D A [oX1 A_t A_t_code A_t_letters A_t_valueFrom A_t_testFrom A_t_testEnd A_t_facts A_t_stack x_t_size x_t_rules x_t_height x_t_refused, iA cI 240 A_t_code v_t_code, iA cI 10 A_t_facts v_t_facts, iA cI 32 A_t_stack v_t_stack] → va_S A s.heap H locs → f_X1_stepAt_b134 a1 v_t_stack x_t_height x_t_refused s0 l3 l4 l5 = some (o_r, o_v_t_stack, o_x_t_height, o_x_t_refused) → W p l e { frames := 1, cells := 0, slots := 0, locals := 23 } s m ([.ref A_t, .int a1] : List Value).toArray below meth c H locs 0 0 (MQ below (PoI D A [oX1 A_t A_t_code A_t_letters A_t_valueFrom A_t_testFrom A_t_testEnd A_t_facts A_t_stack x_t_size x_t_rules o_x_t_height o_x_t_refused, iA cI 240 A_t_code v_t_code, iA cI 10 A_t_facts v_t_facts, iA cI 32 A_t_stack o_v_t_stack] o_r) ([.ref A_t, .int a1] : List Value).toArray s 0 0 A) (F0 m 134 ls [.int s0]) := by
    intro v_t_stack x_t_height x_t_refused s0 l3 l4 l5 H locs ls hl hP hD hS hf
    unfold f_X1_stepAt_b134 at hf
    refine lv_iload hx hb dX1_stepAt_134 (lv_at hl 3 rfl) ?_
    refine lv_iconst (v := 3) hx hb dX1_stepAt_136 (by decide) ?_
    refine lv_icmp_ne (tgt := 144) hx hb dX1_stepAt_137 (by decide) (fun q => ?_) (fun q => ?_)
    · have hf := if_f q hf
      refine lv_iconst (v := 0) hx hb dX1_stepAt_144 (by decide) ?_
      exact hb_145 v_t_stack x_t_height x_t_refused s0 (0 : Int32) l3 l5 _ _ ls (lv_sub hl [0, 1, 2, 4] rfl) hP hD hS hf
    · have hf := if_t q hf
      refine lv_iconst (v := 1) hx hb dX1_stepAt_140 (by decide) ?_
      refine lv_goto (tgt := 145) hx hb dX1_stepAt_141 (by decide) ?_
      exact hb_145 v_t_stack x_t_height x_t_refused s0 (1 : Int32) l3 l5 _ _ ls (lv_sub hl [0, 1, 2, 4] rfl) hP hD hS hf
  have hb_118 : ∀ (v_t_stack : (Nat → Int32)) (x_t_height : Int32) (x_t_refused : Int32) (l3 : Int32) (l4 : Int32) (H : Heap) (locs : List Loc) (ls : Array Slot), lv_has ls 7 [(0, .ref A_t), (1, .int a1), (3, .int l3), (4, .int l4)] → va_P D vwCl [oX1 A_t A_t_code A_t_letters A_t_valueFrom A_t_testFrom A_t_testEnd A_t_facts A_t_stack x_t_size x_t_rules x_t_height x_t_refused, iA cI 240 A_t_code v_t_code, iA cI 10 A_t_facts v_t_facts, iA cI 32 A_t_stack v_t_stack] H → va_D A [oX1 A_t A_t_code A_t_letters A_t_valueFrom A_t_testFrom A_t_testEnd A_t_facts A_t_stack x_t_size x_t_rules x_t_height x_t_refused, iA cI 240 A_t_code v_t_code, iA cI 10 A_t_facts v_t_facts, iA cI 32 A_t_stack v_t_stack] → va_S A s.heap H locs → f_X1_stepAt_b118 a1 v_t_stack x_t_height x_t_refused l3 l4 = some (o_r, o_v_t_stack, o_x_t_height, o_x_t_refused) → W p l e { frames := 1, cells := 0, slots := 0, locals := 23 } s m ([.ref A_t, .int a1] : List Value).toArray below meth c H locs 0 0 (MQ below (PoI D A [oX1 A_t A_t_code A_t_letters A_t_valueFrom A_t_testFrom A_t_testEnd A_t_facts A_t_stack x_t_size x_t_rules o_x_t_height o_x_t_refused, iA cI 240 A_t_code v_t_code, iA cI 10 A_t_facts v_t_facts, iA cI 32 A_t_stack o_v_t_stack] o_r) ([.ref A_t, .int a1] : List Value).toArray s 0 0 A) (F0 m 118 ls []) := by
    intro v_t_stack x_t_height x_t_refused l3 l4 H locs ls hl hP hD hS hf
    unfold f_X1_stepAt_b118 at hf
    refine lv_aload_n hx hb dX1_stepAt_118 rfl (lv_at hl 0 rfl) ?_
    obtain ⟨r10, w11, hc12, hf⟩ := bd2_e hf
    refine x_callVI (ws' := [oX1 A_t A_t_code A_t_letters A_t_valueFrom A_t_testFrom A_t_testEnd A_t_facts A_t_stack x_t_size x_t_rules w11 x_t_refused, iA cI 240 A_t_code v_t_code, iA cI 10 A_t_facts v_t_facts, iA cI 32 A_t_stack v_t_stack]) (rest := []) C hK hP hD hS hA hl mf_X1_78 (c_X1_pop hc12) [0, 3] 0 1 rfl rfl rfl rfl rfl rfl rfl rfl rfl rfl (Nat.le_of_ble_eq_true rfl) ⟨Nat.le_of_ble_eq_true rfl, Nat.le_of_ble_eq_true rfl⟩ ⟨Nat.le_refl _, Nat.le_refl _⟩ dX1_stepAt_119 ?_
    intro H locs hP hD hS
    refine lv_istore (lv' := [(5, .int r10), (0, .ref A_t), (1, .int a1), (3, .int l3), (4, .int l4)]) hx hb dX1_stepAt_122 hl (by decide) rfl (fun ls hl => ?_)
    refine lv_iload hx hb dX1_stepAt_124 (lv_at hl 0 rfl) ?_
    refine lv_if_eq (tgt := 133) hx hb dX1_stepAt_126 (by decide) (fun q => ?_) (fun q => ?_)
    · have hf := if_t q hf
      refine lv_iconst (v := 0) hx hb dX1_stepAt_133 (by decide) ?_
      exact hb_134 v_t_stack w11 x_t_refused (0 : Int32) l3 l4 r10 _ _ ls (lv_sub hl [1, 2, 3, 4, 0] rfl) hP hD hS hf
    · have hf := if_f q hf
      refine lv_iconst (v := 1) hx hb dX1_stepAt_129 (by decide) ?_
      refine lv_goto (tgt := 134) hx hb dX1_stepAt_130 (by decide) ?_
      exact hb_134 v_t_stack w11 x_t_refused (1 : Int32) l3 l4 r10 _ _ ls (lv_sub hl [1, 2, 3, 4, 0] rfl) hP hD hS hf
  have hb_21 : ∀ (v_t_stack : (Nat → Int32)) (x_t_height : Int32) (x_t_refused : Int32) (s0 : Int32) (H : Heap) (locs : List Loc) (ls : Array Slot), lv_has ls 7 [(0, .ref A_t), (1, .int a1)] → va_P D vwCl [oX1 A_t A_t_code A_t_letters A_t_valueFrom A_t_testFrom A_t_testEnd A_t_facts A_t_stack x_t_size x_t_rules x_t_height x_t_refused, iA cI 240 A_t_code v_t_code, iA cI 10 A_t_facts v_t_facts, iA cI 32 A_t_stack v_t_stack] H → va_D A [oX1 A_t A_t_code A_t_letters A_t_valueFrom A_t_testFrom A_t_testEnd A_t_facts A_t_stack x_t_size x_t_rules x_t_height x_t_refused, iA cI 240 A_t_code v_t_code, iA cI 10 A_t_facts v_t_facts, iA cI 32 A_t_stack v_t_stack] → va_S A s.heap H locs → f_X1_stepAt_b21 v_t_facts a1 v_t_stack x_t_height x_t_refused s0 = some (o_r, o_v_t_stack, o_x_t_height, o_x_t_refused) → W p l e { frames := 1, cells := 0, slots := 0, locals := 23 } s m ([.ref A_t, .int a1] : List Value).toArray below meth c H locs 0 0 (MQ below (PoI D A [oX1 A_t A_t_code A_t_letters A_t_valueFrom A_t_testFrom A_t_testEnd A_t_facts A_t_stack x_t_size x_t_rules o_x_t_height o_x_t_refused, iA cI 240 A_t_code v_t_code, iA cI 10 A_t_facts v_t_facts, iA cI 32 A_t_stack o_v_t_stack] o_r) ([.ref A_t, .int a1] : List Value).toArray s 0 0 A) (F0 m 21 ls [.int s0]) := by
    intro v_t_stack x_t_height x_t_refused s0 H locs ls hl hP hD hS hf
    unfold f_X1_stepAt_b21 at hf
    refine lv_istore_n (lv' := [(2, .int s0), (0, .ref A_t), (1, .int a1)]) hx hb dX1_stepAt_21 rfl hl (by decide) rfl (fun ls hl => ?_)
    refine lv_iload_n hx hb dX1_stepAt_22 rfl (lv_at hl 0 rfl) ?_
    refine lv_iconst (v := 4) hx hb dX1_stepAt_23 (by decide) ?_
    refine lv_ishr hx hb dX1_stepAt_24 ?_
    refine lv_istore_n (lv' := [(3, .int (s0 >>> ((4 : Int32) &&& 31))), (2, .int s0), (0, .ref A_t), (1, .int a1)]) hx hb dX1_stepAt_25 rfl hl (by decide) rfl (fun ls hl => ?_)
    refine lv_iload_n hx hb dX1_stepAt_26 rfl (lv_at hl 1 rfl) ?_
    refine lv_bipush (v := 15) hx hb dX1_stepAt_27 (by decide) ?_
    refine lv_iand hx hb dX1_stepAt_29 ?_
    refine lv_istore (lv' := [(4, .int (s0 &&& (15 : Int32))), (3, .int (s0 >>> ((4 : Int32) &&& 31))), (2, .int s0), (0, .ref A_t), (1, .int a1)]) hx hb dX1_stepAt_30 hl (by decide) rfl (fun ls hl => ?_)
    refine lv_iload hx hb dX1_stepAt_32 (lv_at hl 0 rfl) ?_
    refine lv_if_ne (tgt := 45) hx hb dX1_stepAt_34 (by decide) (fun q => ?_) (fun q => ?_)
    · have hf := if_f q hf
      refine lv_iload hx hb dX1_stepAt_45 (lv_at hl 0 rfl) ?_
      refine lv_iconst (v := 1) hx hb dX1_stepAt_47 (by decide) ?_
      refine lv_icmp_ne (tgt := 81) hx hb dX1_stepAt_48 (by decide) (fun q => ?_) (fun q => ?_)
      · have hf := if_f q hf
        refine lv_iload hx hb dX1_stepAt_81 (lv_at hl 0 rfl) ?_
        refine lv_iconst (v := 2) hx hb dX1_stepAt_83 (by decide) ?_
        refine lv_icmp_ne (tgt := 106) hx hb dX1_stepAt_84 (by decide) (fun q => ?_) (fun q => ?_)
        · have hf := if_f q hf
          refine lv_iload hx hb dX1_stepAt_106 (lv_at hl 0 rfl) ?_
          refine lv_iconst (v := 3) hx hb dX1_stepAt_108 (by decide) ?_
          refine lv_icmp_eq (tgt := 118) hx hb dX1_stepAt_109 (by decide) (fun q => ?_) (fun q => ?_)
          · have hf := if_t q hf
            exact hb_118 v_t_stack x_t_height x_t_refused (s0 >>> ((4 : Int32) &&& 31)) (s0 &&& (15 : Int32)) _ _ ls (lv_sub hl [3, 4, 1, 0] rfl) hP hD hS hf
          · have hf := if_f q hf
            refine lv_iload hx hb dX1_stepAt_112 (lv_at hl 0 rfl) ?_
            refine lv_iconst (v := 4) hx hb dX1_stepAt_114 (by decide) ?_
            refine lv_icmp_ne (tgt := 165) hx hb dX1_stepAt_115 (by decide) (fun q => ?_) (fun q => ?_)
            · have hf := if_f q hf
              refine lv_aload_n hx hb dX1_stepAt_165 rfl (lv_at hl 3 rfl) ?_
              obtain ⟨r13, w14, hc15, hf⟩ := bd2_e hf
              refine x_callVI (ws' := [oX1 A_t A_t_code A_t_letters A_t_valueFrom A_t_testFrom A_t_testEnd A_t_facts A_t_stack x_t_size x_t_rules w14 x_t_refused, iA cI 240 A_t_code v_t_code, iA cI 10 A_t_facts v_t_facts, iA cI 32 A_t_stack v_t_stack]) (rest := []) C hK hP hD hS hA hl mf_X1_78 (c_X1_pop hc15) [0, 3] 0 1 rfl rfl rfl rfl rfl rfl rfl rfl rfl rfl (Nat.le_of_ble_eq_true rfl) ⟨Nat.le_of_ble_eq_true rfl, Nat.le_of_ble_eq_true rfl⟩ ⟨Nat.le_refl _, Nat.le_refl _⟩ dX1_stepAt_166 ?_
              intro H locs hP hD hS
              refine lv_istore (lv' := [(5, .int r13), (4, .int (s0 &&& (15 : Int32))), (3, .int (s0 >>> ((4 : Int32) &&& 31))), (2, .int s0), (0, .ref A_t), (1, .int a1)]) hx hb dX1_stepAt_169 hl (by decide) rfl (fun ls hl => ?_)
              refine lv_aload_n hx hb dX1_stepAt_171 rfl (lv_at hl 4 rfl) ?_
              obtain ⟨r16, w17, hc18, hf⟩ := bd2_e hf
              refine x_callVI (ws' := [oX1 A_t A_t_code A_t_letters A_t_valueFrom A_t_testFrom A_t_testEnd A_t_facts A_t_stack x_t_size x_t_rules w17 x_t_refused, iA cI 240 A_t_code v_t_code, iA cI 10 A_t_facts v_t_facts, iA cI 32 A_t_stack v_t_stack]) (rest := []) C hK hP hD hS hA hl mf_X1_78 (c_X1_pop hc18) [0, 3] 0 1 rfl rfl rfl rfl rfl rfl rfl rfl rfl rfl (Nat.le_of_ble_eq_true rfl) ⟨Nat.le_of_ble_eq_true rfl, Nat.le_of_ble_eq_true rfl⟩ ⟨Nat.le_refl _, Nat.le_refl _⟩ dX1_stepAt_172 ?_
              intro H locs hP hD hS
              refine lv_istore (lv' := [(6, .int r16), (5, .int r13), (4, .int (s0 &&& (15 : Int32))), (3, .int (s0 >>> ((4 : Int32) &&& 31))), (2, .int s0), (0, .ref A_t), (1, .int a1)]) hx hb dX1_stepAt_175 hl (by decide) rfl (fun ls hl => ?_)
              refine lv_aload_n hx hb dX1_stepAt_177 rfl (lv_at hl 5 rfl) ?_
              refine lv_aload_n hx hb dX1_stepAt_178 rfl (lv_at hl 5 rfl) ?_
              refine lv_iload hx hb dX1_stepAt_179 (lv_at hl 2 rfl) ?_
              refine lv_iload hx hb dX1_stepAt_181 (lv_at hl 0 rfl) ?_
              refine lv_iload hx hb dX1_stepAt_183 (lv_at hl 1 rfl) ?_
              obtain ⟨r19, w20, hc21, hf⟩ := bd2_e hf
              refine x_callVI (ws' := [oX1 A_t A_t_code A_t_letters A_t_valueFrom A_t_testFrom A_t_testEnd A_t_facts A_t_stack x_t_size x_t_rules w17 w20, iA cI 240 A_t_code v_t_code, iA cI 10 A_t_facts v_t_facts, iA cI 32 A_t_stack v_t_stack]) (rest := [.ref A_t]) C hK hP hD hS hA hl mf_X1_91 (c_X1_reckon hc21) [0] 0 1 rfl rfl rfl rfl rfl rfl rfl rfl rfl rfl (Nat.le_of_ble_eq_true rfl) ⟨Nat.le_of_ble_eq_true rfl, Nat.le_of_ble_eq_true rfl⟩ ⟨Nat.le_refl _, Nat.le_refl _⟩ dX1_stepAt_185 ?_
              intro H locs hP hD hS
              obtain ⟨w22, w23, hc24, hf⟩ := bd2_e hf
              refine x_callVV (ws' := [oX1 A_t A_t_code A_t_letters A_t_valueFrom A_t_testFrom A_t_testEnd A_t_facts A_t_stack x_t_size x_t_rules w23 w20, iA cI 240 A_t_code v_t_code, iA cI 10 A_t_facts v_t_facts, iA cI 32 A_t_stack w22]) (rest := []) C hK hP hD hS hA hl mf_X1_82 (c_X1_push hc24) [0, 3] 0 1 rfl rfl rfl rfl rfl rfl rfl rfl rfl rfl (Nat.le_of_ble_eq_true rfl) ⟨Nat.le_of_ble_eq_true rfl, Nat.le_of_ble_eq_true rfl⟩ ⟨Nat.le_refl _, Nat.le_refl _⟩ dX1_stepAt_188 ?_
              intro H locs hP hD hS
              exact hb_191 w22 w23 w20 _ _ ls (lv_sub hl [6] rfl) hP hD hS hf
            · have hf := if_t q hf
              exact hb_118 v_t_stack x_t_height x_t_refused (s0 >>> ((4 : Int32) &&& 31)) (s0 &&& (15 : Int32)) _ _ ls (lv_sub hl [3, 4, 1, 0] rfl) hP hD hS hf
        · have hf := if_t q hf
          refine lv_aload_n hx hb dX1_stepAt_87 rfl (lv_at hl 3 rfl) ?_
          refine lv_aload_n hx hb dX1_stepAt_88 rfl (lv_at hl 3 rfl) ?_
          obtain ⟨r25, w26, hc27, hf⟩ := bd2_e hf
          refine x_callVI (ws' := [oX1 A_t A_t_code A_t_letters A_t_valueFrom A_t_testFrom A_t_testEnd A_t_facts A_t_stack x_t_size x_t_rules w26 x_t_refused, iA cI 240 A_t_code v_t_code, iA cI 10 A_t_facts v_t_facts, iA cI 32 A_t_stack v_t_stack]) (rest := [.ref A_t]) C hK hP hD hS hA hl mf_X1_78 (c_X1_pop hc27) [0, 3] 0 1 rfl rfl rfl rfl rfl rfl rfl rfl rfl rfl (Nat.le_of_ble_eq_true rfl) ⟨Nat.le_of_ble_eq_true rfl, Nat.le_of_ble_eq_true rfl⟩ ⟨Nat.le_refl _, Nat.le_refl _⟩ dX1_stepAt_89 ?_
          intro H locs hP hD hS
          refine lv_if_ne (tgt := 99) hx hb dX1_stepAt_92 (by decide) (fun q => ?_) (fun q => ?_)
          · have hf := if_f q hf
            refine lv_iconst (v := 0) hx hb dX1_stepAt_99 (by decide) ?_
            exact hb_100 v_t_stack w26 x_t_refused (0 : Int32) _ _ ls (lv_sub hl [4] rfl) hP hD hS hf
          · have hf := if_t q hf
            refine lv_iconst (v := 1) hx hb dX1_stepAt_95 (by decide) ?_
            refine lv_goto (tgt := 100) hx hb dX1_stepAt_96 (by decide) ?_
            exact hb_100 v_t_stack w26 x_t_refused (1 : Int32) _ _ ls (lv_sub hl [4] rfl) hP hD hS hf
      · have hf := if_t q hf
        refine lv_aload_n hx hb dX1_stepAt_51 rfl (lv_at hl 3 rfl) ?_
        refine lv_iload_n hx hb dX1_stepAt_52 rfl (lv_at hl 1 rfl) ?_
        refine lv_if_lt (tgt := 74) hx hb dX1_stepAt_53 (by decide) (fun q => ?_) (fun q => ?_)
        · have hf := if_t q hf
          exact hb_74 v_t_stack x_t_height x_t_refused _ _ ls (lv_sub hl [4] rfl) hP hD hS hf
        · have hf := if_f q hf
          refine lv_iload_n hx hb dX1_stepAt_56 rfl (lv_at hl 1 rfl) ?_
          refine lv_aload_n hx hb dX1_stepAt_57 rfl (lv_at hl 3 rfl) ?_
          refine x_get C hK hP fd_X1_25 0 rfl rfl dX1_stepAt_58 ?_
          refine x_alen (v := 10) C hK hP 2 rfl (by decide) dX1_stepAt_61 ?_
          refine lv_icmp_ge (tgt := 74) hx hb dX1_stepAt_62 (by decide) (fun q => ?_) (fun q => ?_)
          · have hf := if_t q hf
            exact hb_74 v_t_stack x_t_height x_t_refused _ _ ls (lv_sub hl [4] rfl) hP hD hS hf
          · have hf := if_f q hf
            refine lv_aload_n hx hb dX1_stepAt_65 rfl (lv_at hl 3 rfl) ?_
            refine x_get C hK hP fd_X1_25 0 rfl rfl dX1_stepAt_66 ?_
            refine lv_iload_n hx hb dX1_stepAt_69 rfl (lv_at hl 1 rfl) ?_
            obtain ⟨hi, hf⟩ := gI_e hf
            refine x_iald C hK hP 2 rfl hi dX1_stepAt_70 ?_
            refine lv_goto (tgt := 75) hx hb dX1_stepAt_71 (by decide) ?_
            exact hb_75 v_t_stack x_t_height x_t_refused (v_t_facts (s0 >>> ((4 : Int32) &&& 31)).toNatClampNeg) _ _ ls (lv_sub hl [4] rfl) hP hD hS hf
    · have hf := if_t q hf
      refine lv_aload_n hx hb dX1_stepAt_37 rfl (lv_at hl 3 rfl) ?_
      refine lv_iload_n hx hb dX1_stepAt_38 rfl (lv_at hl 1 rfl) ?_
      obtain ⟨w28, w29, hc30, hf⟩ := bd2_e hf
      refine x_callVV (ws' := [oX1 A_t A_t_code A_t_letters A_t_valueFrom A_t_testFrom A_t_testEnd A_t_facts A_t_stack x_t_size x_t_rules w29 x_t_refused, iA cI 240 A_t_code v_t_code, iA cI 10 A_t_facts v_t_facts, iA cI 32 A_t_stack w28]) (rest := []) C hK hP hD hS hA hl mf_X1_82 (c_X1_push hc30) [0, 3] 0 1 rfl rfl rfl rfl rfl rfl rfl rfl rfl rfl (Nat.le_of_ble_eq_true rfl) ⟨Nat.le_of_ble_eq_true rfl, Nat.le_of_ble_eq_true rfl⟩ ⟨Nat.le_refl _, Nat.le_refl _⟩ dX1_stepAt_39 ?_
      intro H locs hP hD hS
      refine lv_goto (tgt := 191) hx hb dX1_stepAt_42 (by decide) ?_
      exact hb_191 w28 w29 x_t_refused _ _ ls (lv_sub hl [4] rfl) hP hD hS hf
  have hb_20 : ∀ (v_t_stack : (Nat → Int32)) (x_t_height : Int32) (x_t_refused : Int32) (H : Heap) (locs : List Loc) (ls : Array Slot), lv_has ls 7 [(0, .ref A_t), (1, .int a1)] → va_P D vwCl [oX1 A_t A_t_code A_t_letters A_t_valueFrom A_t_testFrom A_t_testEnd A_t_facts A_t_stack x_t_size x_t_rules x_t_height x_t_refused, iA cI 240 A_t_code v_t_code, iA cI 10 A_t_facts v_t_facts, iA cI 32 A_t_stack v_t_stack] H → va_D A [oX1 A_t A_t_code A_t_letters A_t_valueFrom A_t_testFrom A_t_testEnd A_t_facts A_t_stack x_t_size x_t_rules x_t_height x_t_refused, iA cI 240 A_t_code v_t_code, iA cI 10 A_t_facts v_t_facts, iA cI 32 A_t_stack v_t_stack] → va_S A s.heap H locs → f_X1_stepAt_b20 v_t_facts a1 v_t_stack x_t_height x_t_refused = some (o_r, o_v_t_stack, o_x_t_height, o_x_t_refused) → W p l e { frames := 1, cells := 0, slots := 0, locals := 23 } s m ([.ref A_t, .int a1] : List Value).toArray below meth c H locs 0 0 (MQ below (PoI D A [oX1 A_t A_t_code A_t_letters A_t_valueFrom A_t_testFrom A_t_testEnd A_t_facts A_t_stack x_t_size x_t_rules o_x_t_height o_x_t_refused, iA cI 240 A_t_code v_t_code, iA cI 10 A_t_facts v_t_facts, iA cI 32 A_t_stack o_v_t_stack] o_r) ([.ref A_t, .int a1] : List Value).toArray s 0 0 A) (F0 m 20 ls []) := by
    intro v_t_stack x_t_height x_t_refused H locs ls hl hP hD hS hf
    unfold f_X1_stepAt_b20 at hf
    refine lv_iconst (v := 0) hx hb dX1_stepAt_20 (by decide) ?_
    exact hb_21 v_t_stack x_t_height x_t_refused (0 : Int32) _ _ ls (lv_sub hl [0, 1] rfl) hP hD hS hf
  refine lv_iload_n hx hb dX1_stepAt_0 rfl (lv_at hl 1 rfl) ?_
  refine lv_if_lt (tgt := 20) hx hb dX1_stepAt_1 (by decide) (fun q => ?_) (fun q => ?_)
  · have hf := if_t q hf
    exact hb_20 v_t_stack x_t_height x_t_refused _ _ ls (lv_sub hl [0, 1] rfl) hP hD hS hf
  · have hf := if_f q hf
    refine lv_iload_n hx hb dX1_stepAt_4 rfl (lv_at hl 1 rfl) ?_
    refine lv_sipush (v := 240) hx hb dX1_stepAt_5 (by decide) ?_
    refine lv_icmp_ge (tgt := 20) hx hb dX1_stepAt_8 (by decide) (fun q => ?_) (fun q => ?_)
    · have hf := if_t q hf
      exact hb_20 v_t_stack x_t_height x_t_refused _ _ ls (lv_sub hl [0, 1] rfl) hP hD hS hf
    · have hf := if_f q hf
      refine lv_aload_n hx hb dX1_stepAt_11 rfl (lv_at hl 0 rfl) ?_
      refine x_get C hK hP fd_X1_9 0 rfl rfl dX1_stepAt_12 ?_
      refine lv_iload_n hx hb dX1_stepAt_15 rfl (lv_at hl 1 rfl) ?_
      obtain ⟨hi, hf⟩ := gI_e hf
      refine x_iald C hK hP 1 rfl hi dX1_stepAt_16 ?_
      refine lv_goto (tgt := 21) hx hb dX1_stepAt_17 (by decide) ?_
      exact hb_21 v_t_stack x_t_height x_t_refused (v_t_code a1.toNatClampNeg) _ _ ls (lv_sub hl [0, 1] rfl) hP hD hS hf
def f_X1_run_b62 (v_t_stack : (Nat → Int32)) (x_t_height : Int32) (x_t_refused : Int32) (s0 : Int32) : Option (Int32 × (Nat → Int32) × Int32 × Int32) :=
  some (s0, v_t_stack, x_t_height, x_t_refused)
def f_X1_run_b47 (v_t_stack : (Nat → Int32)) (x_t_height : Int32) (x_t_refused : Int32) : Option (Int32 × (Nat → Int32) × Int32 × Int32) :=
  if x_t_refused = 0 then
    bd2 (f_X1_pop v_t_stack x_t_height) (fun r1 w2 =>
    f_X1_run_b62 v_t_stack w2 x_t_refused r1)
  else
    f_X1_run_b62 v_t_stack x_t_height x_t_refused (0 : Int32)
def f_X1_run_b15 (v_t_code : (Nat → Int32)) (v_t_facts : (Nat → Int32)) (a2 : Int32) : Nat → (Nat → Int32) → Int32 → Int32 → Int32 → Int32 → Option (Int32 × (Nat → Int32) × Int32 × Int32)
  | 0, _, _, _, _, _ => none
  | n + 1, v_t_stack, x_t_height, x_t_refused, l3, l4 =>
    if (240 : Int32) ≤ l4 then
      f_X1_run_b47 v_t_stack x_t_height x_t_refused
    else
      if a2 ≤ l3 then
        f_X1_run_b47 v_t_stack x_t_height x_t_refused
      else
        if x_t_refused = 0 then
          bd4 (f_X1_stepAt v_t_code v_t_facts v_t_stack x_t_height x_t_refused l3) (fun r1 w2 w3 w4 =>
          f_X1_run_b15 v_t_code v_t_facts a2 n w2 w3 w4 r1 (l4 + (1 : Int32)))
        else
          f_X1_run_b47 v_t_stack x_t_height x_t_refused
def f_X1_run (v_t_code : (Nat → Int32)) (v_t_facts : (Nat → Int32)) (v_t_stack : (Nat → Int32)) (x_t_height : Int32) (x_t_refused : Int32) (a1 : Int32) (a2 : Int32) : Option (Int32 × (Nat → Int32) × Int32 × Int32) :=
  f_X1_run_b15 v_t_code v_t_facts a2 FU v_t_stack (0 : Int32) (0 : Int32) a1 (0 : Int32)
set_option maxHeartbeats 4000000 in
set_option maxRecDepth 100000 in
theorem c_X1_run {l : Launch} {D : va_G} {cI cB : ClassId} {A_t A_t_code A_t_letters A_t_valueFrom A_t_testFrom A_t_testEnd A_t_facts A_t_stack : Nat} {x_t_size x_t_rules x_t_height x_t_refused a1 a2 : Int32} {v_t_code v_t_facts v_t_stack : Nat → Int32} {o_r o_x_t_height o_x_t_refused : Int32} {o_v_t_stack : Nat → Int32} (hf : f_X1_run v_t_code v_t_facts v_t_stack x_t_height x_t_refused a1 a2 = some (o_r, o_v_t_stack, o_x_t_height, o_x_t_refused)) : CtI l D cI cB yX1_run cX1_run 5 (some .int) 2 49 [.ref A_t, .int a1, .int a2] [oX1 A_t A_t_code A_t_letters A_t_valueFrom A_t_testFrom A_t_testEnd A_t_facts A_t_stack x_t_size x_t_rules x_t_height x_t_refused, iA cI 240 A_t_code v_t_code, iA cI 10 A_t_facts v_t_facts, iA cI 32 A_t_stack v_t_stack] [oX1 A_t A_t_code A_t_letters A_t_valueFrom A_t_testFrom A_t_testEnd A_t_facts A_t_stack x_t_size x_t_rules o_x_t_height o_x_t_refused, iA cI 240 A_t_code v_t_code, iA cI 10 A_t_facts v_t_facts, iA cI 32 A_t_stack o_v_t_stack] o_r := by
  refine x_startI (by decide) (Nat.le_of_ble_eq_true rfl) ?_
  intro p e s m below meth c A C hr hlk hA hK hP hD hS ls hl
  have hl : lv_has ls 5 [(0, .ref A_t), (1, .int a1), (2, .int a2)] := hl
  have hx := C.1
  have hb := C.2.1
  unfold f_X1_run at hf
  have hb_62 : ∀ (v_t_stack : (Nat → Int32)) (x_t_height : Int32) (x_t_refused : Int32) (s0 : Int32) (H : Heap) (locs : List Loc) (ls : Array Slot), lv_has ls 5 [] → va_P D vwCl [oX1 A_t A_t_code A_t_letters A_t_valueFrom A_t_testFrom A_t_testEnd A_t_facts A_t_stack x_t_size x_t_rules x_t_height x_t_refused, iA cI 240 A_t_code v_t_code, iA cI 10 A_t_facts v_t_facts, iA cI 32 A_t_stack v_t_stack] H → va_D A [oX1 A_t A_t_code A_t_letters A_t_valueFrom A_t_testFrom A_t_testEnd A_t_facts A_t_stack x_t_size x_t_rules x_t_height x_t_refused, iA cI 240 A_t_code v_t_code, iA cI 10 A_t_facts v_t_facts, iA cI 32 A_t_stack v_t_stack] → va_S A s.heap H locs → f_X1_run_b62 v_t_stack x_t_height x_t_refused s0 = some (o_r, o_v_t_stack, o_x_t_height, o_x_t_refused) → W p l e { frames := 2, cells := 0, slots := 0, locals := 49 } s m ([.ref A_t, .int a1, .int a2] : List Value).toArray below meth c H locs 0 0 (MQ below (PoI D A [oX1 A_t A_t_code A_t_letters A_t_valueFrom A_t_testFrom A_t_testEnd A_t_facts A_t_stack x_t_size x_t_rules o_x_t_height o_x_t_refused, iA cI 240 A_t_code v_t_code, iA cI 10 A_t_facts v_t_facts, iA cI 32 A_t_stack o_v_t_stack] o_r) ([.ref A_t, .int a1, .int a2] : List Value).toArray s 0 0 A) (F0 m 62 ls [.int s0]) := by
    intro v_t_stack x_t_height x_t_refused s0 H locs ls hl hP hD hS hf
    unfold f_X1_run_b62 at hf
    obtain ⟨rfl, rfl, rfl, rfl⟩ := ev4 hf
    exact x_iret C hr hlk hP hD hS dX1_run_62
  have hb_47 : ∀ (v_t_stack : (Nat → Int32)) (x_t_height : Int32) (x_t_refused : Int32) (H : Heap) (locs : List Loc) (ls : Array Slot), lv_has ls 5 [(0, .ref A_t)] → va_P D vwCl [oX1 A_t A_t_code A_t_letters A_t_valueFrom A_t_testFrom A_t_testEnd A_t_facts A_t_stack x_t_size x_t_rules x_t_height x_t_refused, iA cI 240 A_t_code v_t_code, iA cI 10 A_t_facts v_t_facts, iA cI 32 A_t_stack v_t_stack] H → va_D A [oX1 A_t A_t_code A_t_letters A_t_valueFrom A_t_testFrom A_t_testEnd A_t_facts A_t_stack x_t_size x_t_rules x_t_height x_t_refused, iA cI 240 A_t_code v_t_code, iA cI 10 A_t_facts v_t_facts, iA cI 32 A_t_stack v_t_stack] → va_S A s.heap H locs → f_X1_run_b47 v_t_stack x_t_height x_t_refused = some (o_r, o_v_t_stack, o_x_t_height, o_x_t_refused) → W p l e { frames := 2, cells := 0, slots := 0, locals := 49 } s m ([.ref A_t, .int a1, .int a2] : List Value).toArray below meth c H locs 0 0 (MQ below (PoI D A [oX1 A_t A_t_code A_t_letters A_t_valueFrom A_t_testFrom A_t_testEnd A_t_facts A_t_stack x_t_size x_t_rules o_x_t_height o_x_t_refused, iA cI 240 A_t_code v_t_code, iA cI 10 A_t_facts v_t_facts, iA cI 32 A_t_stack o_v_t_stack] o_r) ([.ref A_t, .int a1, .int a2] : List Value).toArray s 0 0 A) (F0 m 47 ls []) := by
    intro v_t_stack x_t_height x_t_refused H locs ls hl hP hD hS hf
    unfold f_X1_run_b47 at hf
    refine lv_aload_n hx hb dX1_run_47 rfl (lv_at hl 0 rfl) ?_
    refine x_get C hK hP fd_X1_71 0 rfl rfl dX1_run_48 ?_
    refine lv_if_eq (tgt := 58) hx hb dX1_run_51 (by decide) (fun q => ?_) (fun q => ?_)
    · have hf := if_t q hf
      refine lv_aload_n hx hb dX1_run_58 rfl (lv_at hl 0 rfl) ?_
      obtain ⟨r1, w2, hc3, hf⟩ := bd2_e hf
      refine x_callVI (ws' := [oX1 A_t A_t_code A_t_letters A_t_valueFrom A_t_testFrom A_t_testEnd A_t_facts A_t_stack x_t_size x_t_rules w2 x_t_refused, iA cI 240 A_t_code v_t_code, iA cI 10 A_t_facts v_t_facts, iA cI 32 A_t_stack v_t_stack]) (rest := []) C hK hP hD hS hA hl mf_X1_78 (c_X1_pop hc3) [0, 3] 0 1 rfl rfl rfl rfl rfl rfl rfl rfl rfl rfl (Nat.le_of_ble_eq_true rfl) ⟨Nat.le_of_ble_eq_true rfl, Nat.le_of_ble_eq_true rfl⟩ ⟨Nat.le_refl _, Nat.le_refl _⟩ dX1_run_59 ?_
      intro H locs hP hD hS
      exact hb_62 v_t_stack w2 x_t_refused r1 _ _ ls (lv_sub hl [] rfl) hP hD hS hf
    · have hf := if_f q hf
      refine lv_iconst (v := 0) hx hb dX1_run_54 (by decide) ?_
      refine lv_goto (tgt := 62) hx hb dX1_run_55 (by decide) ?_
      exact hb_62 v_t_stack x_t_height x_t_refused (0 : Int32) _ _ ls (lv_sub hl [] rfl) hP hD hS hf
  have hb_15 : ∀ (n_15 : Nat) (v_t_stack : (Nat → Int32)) (x_t_height : Int32) (x_t_refused : Int32) (l3 : Int32) (l4 : Int32) (H : Heap) (locs : List Loc) (ls : Array Slot), lv_has ls 5 [(0, .ref A_t), (2, .int a2), (3, .int l3), (4, .int l4)] → va_P D vwCl [oX1 A_t A_t_code A_t_letters A_t_valueFrom A_t_testFrom A_t_testEnd A_t_facts A_t_stack x_t_size x_t_rules x_t_height x_t_refused, iA cI 240 A_t_code v_t_code, iA cI 10 A_t_facts v_t_facts, iA cI 32 A_t_stack v_t_stack] H → va_D A [oX1 A_t A_t_code A_t_letters A_t_valueFrom A_t_testFrom A_t_testEnd A_t_facts A_t_stack x_t_size x_t_rules x_t_height x_t_refused, iA cI 240 A_t_code v_t_code, iA cI 10 A_t_facts v_t_facts, iA cI 32 A_t_stack v_t_stack] → va_S A s.heap H locs → f_X1_run_b15 v_t_code v_t_facts a2 n_15 v_t_stack x_t_height x_t_refused l3 l4 = some (o_r, o_v_t_stack, o_x_t_height, o_x_t_refused) → W p l e { frames := 2, cells := 0, slots := 0, locals := 49 } s m ([.ref A_t, .int a1, .int a2] : List Value).toArray below meth c H locs 0 0 (MQ below (PoI D A [oX1 A_t A_t_code A_t_letters A_t_valueFrom A_t_testFrom A_t_testEnd A_t_facts A_t_stack x_t_size x_t_rules o_x_t_height o_x_t_refused, iA cI 240 A_t_code v_t_code, iA cI 10 A_t_facts v_t_facts, iA cI 32 A_t_stack o_v_t_stack] o_r) ([.ref A_t, .int a1, .int a2] : List Value).toArray s 0 0 A) (F0 m 15 ls []) := by
    intro n_15
    induction n_15 with
    | zero =>
      intro v_t_stack x_t_height x_t_refused l3 l4 H locs ls hl hP hD hS hf
      exact absurd hf (fun h => by rw [f_X1_run_b15] at h; cases h)
    | succ n_15 ih_15 =>
      intro v_t_stack x_t_height x_t_refused l3 l4 H locs ls hl hP hD hS hf
      rw [f_X1_run_b15] at hf
      refine lv_iload hx hb dX1_run_15 (lv_at hl 3 rfl) ?_
      refine lv_sipush (v := 240) hx hb dX1_run_17 (by decide) ?_
      refine lv_icmp_ge (tgt := 47) hx hb dX1_run_20 (by decide) (fun q => ?_) (fun q => ?_)
      · have hf := if_t q hf
        exact hb_47 v_t_stack x_t_height x_t_refused _ _ ls (lv_sub hl [0] rfl) hP hD hS hf
      · have hf := if_f q hf
        refine lv_iload_n hx hb dX1_run_23 rfl (lv_at hl 2 rfl) ?_
        refine lv_iload_n hx hb dX1_run_24 rfl (lv_at hl 1 rfl) ?_
        refine lv_icmp_ge (tgt := 47) hx hb dX1_run_25 (by decide) (fun q => ?_) (fun q => ?_)
        · have hf := if_t q hf
          exact hb_47 v_t_stack x_t_height x_t_refused _ _ ls (lv_sub hl [0] rfl) hP hD hS hf
        · have hf := if_f q hf
          refine lv_aload_n hx hb dX1_run_28 rfl (lv_at hl 0 rfl) ?_
          refine x_get C hK hP fd_X1_71 0 rfl rfl dX1_run_29 ?_
          refine lv_if_ne (tgt := 47) hx hb dX1_run_32 (by decide) (fun q => ?_) (fun q => ?_)
          · have hf := if_f q hf
            exact hb_47 v_t_stack x_t_height x_t_refused _ _ ls (lv_sub hl [0] rfl) hP hD hS hf
          · have hf := if_t q hf
            refine lv_aload_n hx hb dX1_run_35 rfl (lv_at hl 0 rfl) ?_
            refine lv_iload_n hx hb dX1_run_36 rfl (lv_at hl 2 rfl) ?_
            obtain ⟨r4, w5, w6, w7, hc8, hf⟩ := bd4_e hf
            refine x_callVI (ws' := [oX1 A_t A_t_code A_t_letters A_t_valueFrom A_t_testFrom A_t_testEnd A_t_facts A_t_stack x_t_size x_t_rules w6 w7, iA cI 240 A_t_code v_t_code, iA cI 10 A_t_facts v_t_facts, iA cI 32 A_t_stack w5]) (rest := []) C hK hP hD hS hA hl mf_X1_75 (c_X1_stepAt hc8) [0, 1, 2, 3] 0 1 rfl rfl rfl rfl rfl rfl rfl rfl rfl rfl (Nat.le_of_ble_eq_true rfl) ⟨Nat.le_of_ble_eq_true rfl, Nat.le_of_ble_eq_true rfl⟩ ⟨Nat.le_refl _, Nat.le_refl _⟩ dX1_run_37 ?_
            intro H locs hP hD hS
            refine lv_istore_n (lv' := [(3, .int r4), (0, .ref A_t), (2, .int a2), (4, .int l4)]) hx hb dX1_run_40 rfl hl (by decide) rfl (fun ls hl => ?_)
            refine lv_iinc (v := (l4 + (1 : Int32))) (lv' := [(4, .int (l4 + (1 : Int32))), (3, .int r4), (0, .ref A_t), (2, .int a2)]) hx hb dX1_run_41 hl (k := 3) rfl rfl (by decide) rfl (fun ls hl => ?_)
            refine lv_goto (tgt := 15) hx hb dX1_run_44 (by decide) ?_
            exact ih_15 w5 w6 w7 r4 (l4 + (1 : Int32)) _ _ ls (lv_sub hl [2, 3, 1, 0] rfl) hP hD hS hf
  refine lv_aload_n hx hb dX1_run_0 rfl (lv_at hl 0 rfl) ?_
  refine lv_iconst (v := 0) hx hb dX1_run_1 (by decide) ?_
  refine x_put (ws' := [oX1 A_t A_t_code A_t_letters A_t_valueFrom A_t_testFrom A_t_testEnd A_t_facts A_t_stack x_t_size x_t_rules (0 : Int32) x_t_refused, iA cI 240 A_t_code v_t_code, iA cI 10 A_t_facts v_t_facts, iA cI 32 A_t_stack v_t_stack]) C hK hP hD hS fp_X1_68 0 rfl rfl rfl (Nat.le_of_ble_eq_true rfl) rfl dX1_run_2 ?_
  intro H locs hP hD hS
  refine lv_aload_n hx hb dX1_run_5 rfl (lv_at hl 0 rfl) ?_
  refine lv_iconst (v := 0) hx hb dX1_run_6 (by decide) ?_
  refine x_put (ws' := [oX1 A_t A_t_code A_t_letters A_t_valueFrom A_t_testFrom A_t_testEnd A_t_facts A_t_stack x_t_size x_t_rules (0 : Int32) (0 : Int32), iA cI 240 A_t_code v_t_code, iA cI 10 A_t_facts v_t_facts, iA cI 32 A_t_stack v_t_stack]) C hK hP hD hS fp_X1_71 0 rfl (by decide) (by decide) (Nat.le_of_ble_eq_true rfl) rfl dX1_run_7 ?_
  intro H locs hP hD hS
  refine lv_iload_n hx hb dX1_run_10 rfl (lv_at hl 1 rfl) ?_
  refine lv_istore_n (lv' := [(3, .int a1), (0, .ref A_t), (1, .int a1), (2, .int a2)]) hx hb dX1_run_11 rfl hl (by decide) rfl (fun ls hl => ?_)
  refine lv_iconst (v := 0) hx hb dX1_run_12 (by decide) ?_
  refine lv_istore (lv' := [(4, .int (0 : Int32)), (3, .int a1), (0, .ref A_t), (1, .int a1), (2, .int a2)]) hx hb dX1_run_13 hl (by decide) rfl (fun ls hl => ?_)
  exact hb_15 FU v_t_stack (0 : Int32) (0 : Int32) a1 (0 : Int32) _ _ ls (lv_sub hl [2, 4, 1, 0] rfl) hP hD hS hf
def f_X1_opens_b48 (k2 : (Nat → Int32) → Int32 → Int32 → Int32 → Option (Int32 × (Nat → Int32) × Int32 × Int32)) (v_t_stack : (Nat → Int32)) (x_t_height : Int32) (x_t_refused : Int32) (l1 : Int32) : Option (Int32 × (Nat → Int32) × Int32 × Int32) :=
  k2 v_t_stack x_t_height x_t_refused (l1 + (1 : Int32))
def f_X1_opens_b54 (v_t_stack : (Nat → Int32)) (x_t_height : Int32) (x_t_refused : Int32) : Option (Int32 × (Nat → Int32) × Int32 × Int32) :=
  some ((1 : Int32), v_t_stack, x_t_height, x_t_refused)
def f_X1_opens_b2 (v_t_code : (Nat → Int32)) (v_t_facts : (Nat → Int32)) (v_t_letters : (Nat → Int32)) (v_t_testEnd : (Nat → Int32)) (v_t_testFrom : (Nat → Int32)) (x_t_rules : Int32) : Nat → (Nat → Int32) → Int32 → Int32 → Int32 → Option (Int32 × (Nat → Int32) × Int32 × Int32)
  | 0, _, _, _, _ => none
  | n + 1, v_t_stack, x_t_height, x_t_refused, l1 =>
    if x_t_rules ≤ l1 then
      f_X1_opens_b54 v_t_stack x_t_height x_t_refused
    else
      if (16 : Int32) ≤ l1 then
        f_X1_opens_b54 v_t_stack x_t_height x_t_refused
      else
        gI 16 v_t_letters l1 (fun g1 =>
        if g1 = (120 : Int32) then
          gI 16 v_t_testFrom l1 (fun g2 =>
          gI 16 v_t_testEnd l1 (fun g3 =>
          bd4 (f_X1_run v_t_code v_t_facts v_t_stack x_t_height x_t_refused g2 g3) (fun r4 w5 w6 w7 =>
          if r4 = 0 then
            f_X1_opens_b48 (f_X1_opens_b2 v_t_code v_t_facts v_t_letters v_t_testEnd v_t_testFrom x_t_rules n) w5 w6 w7 l1
          else
            some ((0 : Int32), w5, w6, w7))))
        else
          f_X1_opens_b48 (f_X1_opens_b2 v_t_code v_t_facts v_t_letters v_t_testEnd v_t_testFrom x_t_rules n) v_t_stack x_t_height x_t_refused l1)
def f_X1_opens (v_t_code : (Nat → Int32)) (v_t_facts : (Nat → Int32)) (v_t_letters : (Nat → Int32)) (v_t_stack : (Nat → Int32)) (v_t_testEnd : (Nat → Int32)) (v_t_testFrom : (Nat → Int32)) (x_t_height : Int32) (x_t_refused : Int32) (x_t_rules : Int32) : Option (Int32 × (Nat → Int32) × Int32 × Int32) :=
  f_X1_opens_b2 v_t_code v_t_facts v_t_letters v_t_testEnd v_t_testFrom x_t_rules FU v_t_stack x_t_height x_t_refused (0 : Int32)
set_option maxHeartbeats 4000000 in
set_option maxRecDepth 100000 in
theorem c_X1_opens {l : Launch} {D : va_G} {cI cB : ClassId} {A_t A_t_code A_t_letters A_t_valueFrom A_t_testFrom A_t_testEnd A_t_facts A_t_stack : Nat} {x_t_size x_t_rules x_t_height x_t_refused : Int32} {v_t_code v_t_facts v_t_letters v_t_stack v_t_testEnd v_t_testFrom : Nat → Int32} {o_r o_x_t_height o_x_t_refused : Int32} {o_v_t_stack : Nat → Int32} (hf : f_X1_opens v_t_code v_t_facts v_t_letters v_t_stack v_t_testEnd v_t_testFrom x_t_height x_t_refused x_t_rules = some (o_r, o_v_t_stack, o_x_t_height, o_x_t_refused)) : CtI l D cI cB yX1_opens cX1_opens 2 (some .boolean) 3 73 [.ref A_t] [oX1 A_t A_t_code A_t_letters A_t_valueFrom A_t_testFrom A_t_testEnd A_t_facts A_t_stack x_t_size x_t_rules x_t_height x_t_refused, iA cI 240 A_t_code v_t_code, iA cI 10 A_t_facts v_t_facts, iA cI 16 A_t_letters v_t_letters, iA cI 32 A_t_stack v_t_stack, iA cI 16 A_t_testEnd v_t_testEnd, iA cI 16 A_t_testFrom v_t_testFrom] [oX1 A_t A_t_code A_t_letters A_t_valueFrom A_t_testFrom A_t_testEnd A_t_facts A_t_stack x_t_size x_t_rules o_x_t_height o_x_t_refused, iA cI 240 A_t_code v_t_code, iA cI 10 A_t_facts v_t_facts, iA cI 16 A_t_letters v_t_letters, iA cI 32 A_t_stack o_v_t_stack, iA cI 16 A_t_testEnd v_t_testEnd, iA cI 16 A_t_testFrom v_t_testFrom] o_r := by
  refine x_startI (by decide) (Nat.le_of_ble_eq_true rfl) ?_
  intro p e s m below meth c A C hr hlk hA hK hP hD hS ls hl
  have hl : lv_has ls 2 [(0, .ref A_t)] := hl
  have hx := C.1
  have hb := C.2.1
  unfold f_X1_opens at hf
  have hb_54 : ∀ (v_t_stack : (Nat → Int32)) (x_t_height : Int32) (x_t_refused : Int32) (H : Heap) (locs : List Loc) (ls : Array Slot), lv_has ls 2 [] → va_P D vwCl [oX1 A_t A_t_code A_t_letters A_t_valueFrom A_t_testFrom A_t_testEnd A_t_facts A_t_stack x_t_size x_t_rules x_t_height x_t_refused, iA cI 240 A_t_code v_t_code, iA cI 10 A_t_facts v_t_facts, iA cI 16 A_t_letters v_t_letters, iA cI 32 A_t_stack v_t_stack, iA cI 16 A_t_testEnd v_t_testEnd, iA cI 16 A_t_testFrom v_t_testFrom] H → va_D A [oX1 A_t A_t_code A_t_letters A_t_valueFrom A_t_testFrom A_t_testEnd A_t_facts A_t_stack x_t_size x_t_rules x_t_height x_t_refused, iA cI 240 A_t_code v_t_code, iA cI 10 A_t_facts v_t_facts, iA cI 16 A_t_letters v_t_letters, iA cI 32 A_t_stack v_t_stack, iA cI 16 A_t_testEnd v_t_testEnd, iA cI 16 A_t_testFrom v_t_testFrom] → va_S A s.heap H locs → f_X1_opens_b54 v_t_stack x_t_height x_t_refused = some (o_r, o_v_t_stack, o_x_t_height, o_x_t_refused) → W p l e { frames := 3, cells := 0, slots := 0, locals := 73 } s m ([.ref A_t] : List Value).toArray below meth c H locs 0 0 (MQ below (PoI D A [oX1 A_t A_t_code A_t_letters A_t_valueFrom A_t_testFrom A_t_testEnd A_t_facts A_t_stack x_t_size x_t_rules o_x_t_height o_x_t_refused, iA cI 240 A_t_code v_t_code, iA cI 10 A_t_facts v_t_facts, iA cI 16 A_t_letters v_t_letters, iA cI 32 A_t_stack o_v_t_stack, iA cI 16 A_t_testEnd v_t_testEnd, iA cI 16 A_t_testFrom v_t_testFrom] o_r) ([.ref A_t] : List Value).toArray s 0 0 A) (F0 m 54 ls []) := by
    intro v_t_stack x_t_height x_t_refused H locs ls hl hP hD hS hf
    unfold f_X1_opens_b54 at hf
    refine lv_iconst (v := 1) hx hb dX1_opens_54 (by decide) ?_
    obtain ⟨rfl, rfl, rfl, rfl⟩ := ev4 hf
    exact x_zret C hr hlk (Or.inr rfl) hP hD hS dX1_opens_55
  have hb_2 : ∀ (n_2 : Nat) (v_t_stack : (Nat → Int32)) (x_t_height : Int32) (x_t_refused : Int32) (l1 : Int32) (H : Heap) (locs : List Loc) (ls : Array Slot), lv_has ls 2 [(0, .ref A_t), (1, .int l1)] → va_P D vwCl [oX1 A_t A_t_code A_t_letters A_t_valueFrom A_t_testFrom A_t_testEnd A_t_facts A_t_stack x_t_size x_t_rules x_t_height x_t_refused, iA cI 240 A_t_code v_t_code, iA cI 10 A_t_facts v_t_facts, iA cI 16 A_t_letters v_t_letters, iA cI 32 A_t_stack v_t_stack, iA cI 16 A_t_testEnd v_t_testEnd, iA cI 16 A_t_testFrom v_t_testFrom] H → va_D A [oX1 A_t A_t_code A_t_letters A_t_valueFrom A_t_testFrom A_t_testEnd A_t_facts A_t_stack x_t_size x_t_rules x_t_height x_t_refused, iA cI 240 A_t_code v_t_code, iA cI 10 A_t_facts v_t_facts, iA cI 16 A_t_letters v_t_letters, iA cI 32 A_t_stack v_t_stack, iA cI 16 A_t_testEnd v_t_testEnd, iA cI 16 A_t_testFrom v_t_testFrom] → va_S A s.heap H locs → f_X1_opens_b2 v_t_code v_t_facts v_t_letters v_t_testEnd v_t_testFrom x_t_rules n_2 v_t_stack x_t_height x_t_refused l1 = some (o_r, o_v_t_stack, o_x_t_height, o_x_t_refused) → W p l e { frames := 3, cells := 0, slots := 0, locals := 73 } s m ([.ref A_t] : List Value).toArray below meth c H locs 0 0 (MQ below (PoI D A [oX1 A_t A_t_code A_t_letters A_t_valueFrom A_t_testFrom A_t_testEnd A_t_facts A_t_stack x_t_size x_t_rules o_x_t_height o_x_t_refused, iA cI 240 A_t_code v_t_code, iA cI 10 A_t_facts v_t_facts, iA cI 16 A_t_letters v_t_letters, iA cI 32 A_t_stack o_v_t_stack, iA cI 16 A_t_testEnd v_t_testEnd, iA cI 16 A_t_testFrom v_t_testFrom] o_r) ([.ref A_t] : List Value).toArray s 0 0 A) (F0 m 2 ls []) := by
    intro n_2
    induction n_2 with
    | zero =>
      intro v_t_stack x_t_height x_t_refused l1 H locs ls hl hP hD hS hf
      exact absurd hf (fun h => by rw [f_X1_opens_b2] at h; cases h)
    | succ n_2 ih_2 =>
      have hb_48 : ∀ (v_t_stack : (Nat → Int32)) (x_t_height : Int32) (x_t_refused : Int32) (l1 : Int32) (H : Heap) (locs : List Loc) (ls : Array Slot), lv_has ls 2 [(0, .ref A_t), (1, .int l1)] → va_P D vwCl [oX1 A_t A_t_code A_t_letters A_t_valueFrom A_t_testFrom A_t_testEnd A_t_facts A_t_stack x_t_size x_t_rules x_t_height x_t_refused, iA cI 240 A_t_code v_t_code, iA cI 10 A_t_facts v_t_facts, iA cI 16 A_t_letters v_t_letters, iA cI 32 A_t_stack v_t_stack, iA cI 16 A_t_testEnd v_t_testEnd, iA cI 16 A_t_testFrom v_t_testFrom] H → va_D A [oX1 A_t A_t_code A_t_letters A_t_valueFrom A_t_testFrom A_t_testEnd A_t_facts A_t_stack x_t_size x_t_rules x_t_height x_t_refused, iA cI 240 A_t_code v_t_code, iA cI 10 A_t_facts v_t_facts, iA cI 16 A_t_letters v_t_letters, iA cI 32 A_t_stack v_t_stack, iA cI 16 A_t_testEnd v_t_testEnd, iA cI 16 A_t_testFrom v_t_testFrom] → va_S A s.heap H locs → f_X1_opens_b48 (f_X1_opens_b2 v_t_code v_t_facts v_t_letters v_t_testEnd v_t_testFrom x_t_rules n_2) v_t_stack x_t_height x_t_refused l1 = some (o_r, o_v_t_stack, o_x_t_height, o_x_t_refused) → W p l e { frames := 3, cells := 0, slots := 0, locals := 73 } s m ([.ref A_t] : List Value).toArray below meth c H locs 0 0 (MQ below (PoI D A [oX1 A_t A_t_code A_t_letters A_t_valueFrom A_t_testFrom A_t_testEnd A_t_facts A_t_stack x_t_size x_t_rules o_x_t_height o_x_t_refused, iA cI 240 A_t_code v_t_code, iA cI 10 A_t_facts v_t_facts, iA cI 16 A_t_letters v_t_letters, iA cI 32 A_t_stack o_v_t_stack, iA cI 16 A_t_testEnd v_t_testEnd, iA cI 16 A_t_testFrom v_t_testFrom] o_r) ([.ref A_t] : List Value).toArray s 0 0 A) (F0 m 48 ls []) := by
        intro v_t_stack x_t_height x_t_refused l1 H locs ls hl hP hD hS hf
        unfold f_X1_opens_b48 at hf
        refine lv_iinc (v := (l1 + (1 : Int32))) (lv' := [(1, .int (l1 + (1 : Int32))), (0, .ref A_t)]) hx hb dX1_opens_48 hl (k := 1) rfl rfl (by decide) rfl (fun ls hl => ?_)
        refine lv_goto (tgt := 2) hx hb dX1_opens_51 (by decide) ?_
        exact ih_2 v_t_stack x_t_height x_t_refused (l1 + (1 : Int32)) _ _ ls (lv_sub hl [1, 0] rfl) hP hD hS hf
      intro v_t_stack x_t_height x_t_refused l1 H locs ls hl hP hD hS hf
      rw [f_X1_opens_b2] at hf
      refine lv_iload_n hx hb dX1_opens_2 rfl (lv_at hl 1 rfl) ?_
      refine lv_aload_n hx hb dX1_opens_3 rfl (lv_at hl 0 rfl) ?_
      refine x_get C hK hP fd_X1_35 0 rfl rfl dX1_opens_4 ?_
      refine lv_icmp_ge (tgt := 54) hx hb dX1_opens_7 (by decide) (fun q => ?_) (fun q => ?_)
      · have hf := if_t q hf
        exact hb_54 v_t_stack x_t_height x_t_refused _ _ ls (lv_sub hl [] rfl) hP hD hS hf
      · have hf := if_f q hf
        refine lv_iload_n hx hb dX1_opens_10 rfl (lv_at hl 1 rfl) ?_
        refine lv_bipush (v := 16) hx hb dX1_opens_11 (by decide) ?_
        refine lv_icmp_ge (tgt := 54) hx hb dX1_opens_13 (by decide) (fun q => ?_) (fun q => ?_)
        · have hf := if_t q hf
          exact hb_54 v_t_stack x_t_height x_t_refused _ _ ls (lv_sub hl [] rfl) hP hD hS hf
        · have hf := if_f q hf
          refine lv_aload_n hx hb dX1_opens_16 rfl (lv_at hl 0 rfl) ?_
          refine x_get C hK hP fd_X1_13 0 rfl rfl dX1_opens_17 ?_
          refine lv_iload_n hx hb dX1_opens_20 rfl (lv_at hl 1 rfl) ?_
          obtain ⟨hi, hf⟩ := gI_e hf
          refine x_iald C hK hP 3 rfl hi dX1_opens_21 ?_
          refine lv_bipush (v := 120) hx hb dX1_opens_22 (by decide) ?_
          refine lv_icmp_ne (tgt := 48) hx hb dX1_opens_24 (by decide) (fun q => ?_) (fun q => ?_)
          · have hf := if_f q hf
            exact hb_48 v_t_stack x_t_height x_t_refused l1 _ _ ls (lv_sub hl [0, 1] rfl) hP hD hS hf
          · have hf := if_t q hf
            refine lv_aload_n hx hb dX1_opens_27 rfl (lv_at hl 0 rfl) ?_
            refine lv_aload_n hx hb dX1_opens_28 rfl (lv_at hl 0 rfl) ?_
            refine x_get C hK hP fd_X1_19 0 rfl rfl dX1_opens_29 ?_
            refine lv_iload_n hx hb dX1_opens_32 rfl (lv_at hl 1 rfl) ?_
            obtain ⟨hi, hf⟩ := gI_e hf
            refine x_iald C hK hP 6 rfl hi dX1_opens_33 ?_
            refine lv_aload_n hx hb dX1_opens_34 rfl (lv_at hl 0 rfl) ?_
            refine x_get C hK hP fd_X1_22 0 rfl rfl dX1_opens_35 ?_
            refine lv_iload_n hx hb dX1_opens_38 rfl (lv_at hl 1 rfl) ?_
            obtain ⟨hi, hf⟩ := gI_e hf
            refine x_iald C hK hP 5 rfl hi dX1_opens_39 ?_
            obtain ⟨r1, w2, w3, w4, hc5, hf⟩ := bd4_e hf
            refine x_callVI (ws' := [oX1 A_t A_t_code A_t_letters A_t_valueFrom A_t_testFrom A_t_testEnd A_t_facts A_t_stack x_t_size x_t_rules w3 w4, iA cI 240 A_t_code v_t_code, iA cI 10 A_t_facts v_t_facts, iA cI 16 A_t_letters v_t_letters, iA cI 32 A_t_stack w2, iA cI 16 A_t_testEnd v_t_testEnd, iA cI 16 A_t_testFrom v_t_testFrom]) (rest := []) C hK hP hD hS hA hl mf_X1_60 (c_X1_run hc5) [0, 1, 2, 4] 0 1 rfl rfl rfl rfl rfl rfl rfl rfl rfl rfl (Nat.le_of_ble_eq_true rfl) ⟨Nat.le_of_ble_eq_true rfl, Nat.le_of_ble_eq_true rfl⟩ ⟨Nat.le_refl _, Nat.le_refl _⟩ dX1_opens_40 ?_
            intro H locs hP hD hS
            refine lv_if_eq (tgt := 48) hx hb dX1_opens_43 (by decide) (fun q => ?_) (fun q => ?_)
            · have hf := if_t q hf
              exact hb_48 w2 w3 w4 l1 _ _ ls (lv_sub hl [0, 1] rfl) hP hD hS hf
            · have hf := if_f q hf
              refine lv_iconst (v := 0) hx hb dX1_opens_46 (by decide) ?_
              obtain ⟨rfl, rfl, rfl, rfl⟩ := ev4 hf
              exact x_zret C hr hlk (Or.inl rfl) hP hD hS dX1_opens_47
  refine lv_iconst (v := 0) hx hb dX1_opens_0 (by decide) ?_
  refine lv_istore_n (lv' := [(1, .int (0 : Int32)), (0, .ref A_t)]) hx hb dX1_opens_1 rfl hl (by decide) rfl (fun ls hl => ?_)
  exact hb_2 FU v_t_stack x_t_height x_t_refused (0 : Int32) _ _ ls (lv_sub hl [1, 0] rfl) hP hD hS hf
def f_X1_valueBy_b74 (a1 : Int32) (a2 : Int32) (a3 : Int32) (k3 : (Nat → Int32) → Int32 → Int32 → Int32 → Option (Int32 × (Nat → Int32) × Int32 × Int32)) (v_t_stack : (Nat → Int32)) (x_t_height : Int32) (x_t_refused : Int32) (l4 : Int32) : Option (Int32 × (Nat → Int32) × Int32 × Int32) :=
  k3 v_t_stack x_t_height x_t_refused (l4 + (1 : Int32))
def f_X1_valueBy_b80 (a3 : Int32) (v_t_stack : (Nat → Int32)) (x_t_height : Int32) (x_t_refused : Int32) : Option (Int32 × (Nat → Int32) × Int32 × Int32) :=
  some (a3, v_t_stack, x_t_height, x_t_refused)
def f_X1_valueBy_b3 (v_t_code : (Nat → Int32)) (v_t_facts : (Nat → Int32)) (v_t_letters : (Nat → Int32)) (v_t_testEnd : (Nat → Int32)) (v_t_testFrom : (Nat → Int32)) (v_t_valueFrom : (Nat → Int32)) (x_t_rules : Int32) (a1 : Int32) (a2 : Int32) (a3 : Int32) : Nat → (Nat → Int32) → Int32 → Int32 → Int32 → Option (Int32 × (Nat → Int32) × Int32 × Int32)
  | 0, _, _, _, _ => none
  | n + 1, v_t_stack, x_t_height, x_t_refused, l4 =>
    if x_t_rules ≤ l4 then
      f_X1_valueBy_b80 a3 v_t_stack x_t_height x_t_refused
    else
      if (16 : Int32) ≤ l4 then
        f_X1_valueBy_b80 a3 v_t_stack x_t_height x_t_refused
      else
        gI 16 v_t_letters l4 (fun g1 =>
        if g1 = a1 then
          gI 16 v_t_testFrom l4 (fun g2 =>
          gI 16 v_t_testEnd l4 (fun g3 =>
          bd4 (f_X1_run v_t_code v_t_facts v_t_stack x_t_height x_t_refused g2 g3) (fun r4 w5 w6 w7 =>
          if r4 = 0 then
            f_X1_valueBy_b74 a1 a2 a3 (f_X1_valueBy_b3 v_t_code v_t_facts v_t_letters v_t_testEnd v_t_testFrom v_t_valueFrom x_t_rules a1 a2 a3 n) w5 w6 w7 l4
          else
            gI 16 v_t_valueFrom l4 (fun g8 =>
            gI 16 v_t_testFrom l4 (fun g9 =>
            bd4 (f_X1_run v_t_code v_t_facts w5 w6 w7 g8 g9) (fun r10 w11 w12 w13 =>
            bd1 (f_X11_bounded r10 a2) (fun r14 =>
            some (r14, w11, w12, w13))))))))
        else
          f_X1_valueBy_b74 a1 a2 a3 (f_X1_valueBy_b3 v_t_code v_t_facts v_t_letters v_t_testEnd v_t_testFrom v_t_valueFrom x_t_rules a1 a2 a3 n) v_t_stack x_t_height x_t_refused l4)
def f_X1_valueBy (v_t_code : (Nat → Int32)) (v_t_facts : (Nat → Int32)) (v_t_letters : (Nat → Int32)) (v_t_stack : (Nat → Int32)) (v_t_testEnd : (Nat → Int32)) (v_t_testFrom : (Nat → Int32)) (v_t_valueFrom : (Nat → Int32)) (x_t_height : Int32) (x_t_refused : Int32) (x_t_rules : Int32) (a1 : Int32) (a2 : Int32) (a3 : Int32) : Option (Int32 × (Nat → Int32) × Int32 × Int32) :=
  f_X1_valueBy_b3 v_t_code v_t_facts v_t_letters v_t_testEnd v_t_testFrom v_t_valueFrom x_t_rules a1 a2 a3 FU v_t_stack x_t_height x_t_refused (0 : Int32)
set_option maxHeartbeats 4000000 in
set_option maxRecDepth 100000 in
theorem c_X1_valueBy {l : Launch} {D : va_G} {cI cB : ClassId} {A_t A_t_code A_t_letters A_t_valueFrom A_t_testFrom A_t_testEnd A_t_facts A_t_stack : Nat} {x_t_size x_t_rules x_t_height x_t_refused a1 a2 a3 : Int32} {v_t_code v_t_facts v_t_letters v_t_stack v_t_testEnd v_t_testFrom v_t_valueFrom : Nat → Int32} {o_r o_x_t_height o_x_t_refused : Int32} {o_v_t_stack : Nat → Int32} (hf : f_X1_valueBy v_t_code v_t_facts v_t_letters v_t_stack v_t_testEnd v_t_testFrom v_t_valueFrom x_t_height x_t_refused x_t_rules a1 a2 a3 = some (o_r, o_v_t_stack, o_x_t_height, o_x_t_refused)) : CtI l D cI cB yX1_valueBy cX1_valueBy 5 (some .int) 3 73 [.ref A_t, .int a1, .int a2, .int a3] [oX1 A_t A_t_code A_t_letters A_t_valueFrom A_t_testFrom A_t_testEnd A_t_facts A_t_stack x_t_size x_t_rules x_t_height x_t_refused, iA cI 240 A_t_code v_t_code, iA cI 10 A_t_facts v_t_facts, iA cI 16 A_t_letters v_t_letters, iA cI 32 A_t_stack v_t_stack, iA cI 16 A_t_testEnd v_t_testEnd, iA cI 16 A_t_testFrom v_t_testFrom, iA cI 16 A_t_valueFrom v_t_valueFrom] [oX1 A_t A_t_code A_t_letters A_t_valueFrom A_t_testFrom A_t_testEnd A_t_facts A_t_stack x_t_size x_t_rules o_x_t_height o_x_t_refused, iA cI 240 A_t_code v_t_code, iA cI 10 A_t_facts v_t_facts, iA cI 16 A_t_letters v_t_letters, iA cI 32 A_t_stack o_v_t_stack, iA cI 16 A_t_testEnd v_t_testEnd, iA cI 16 A_t_testFrom v_t_testFrom, iA cI 16 A_t_valueFrom v_t_valueFrom] o_r := by
  refine x_startI (by decide) (Nat.le_of_ble_eq_true rfl) ?_
  intro p e s m below meth c A C hr hlk hA hK hP hD hS ls hl
  have hl : lv_has ls 5 [(0, .ref A_t), (1, .int a1), (2, .int a2), (3, .int a3)] := hl
  have hx := C.1
  have hb := C.2.1
  unfold f_X1_valueBy at hf
  have hb_80 : ∀ (v_t_stack : (Nat → Int32)) (x_t_height : Int32) (x_t_refused : Int32) (H : Heap) (locs : List Loc) (ls : Array Slot), lv_has ls 5 [(3, .int a3)] → va_P D vwCl [oX1 A_t A_t_code A_t_letters A_t_valueFrom A_t_testFrom A_t_testEnd A_t_facts A_t_stack x_t_size x_t_rules x_t_height x_t_refused, iA cI 240 A_t_code v_t_code, iA cI 10 A_t_facts v_t_facts, iA cI 16 A_t_letters v_t_letters, iA cI 32 A_t_stack v_t_stack, iA cI 16 A_t_testEnd v_t_testEnd, iA cI 16 A_t_testFrom v_t_testFrom, iA cI 16 A_t_valueFrom v_t_valueFrom] H → va_D A [oX1 A_t A_t_code A_t_letters A_t_valueFrom A_t_testFrom A_t_testEnd A_t_facts A_t_stack x_t_size x_t_rules x_t_height x_t_refused, iA cI 240 A_t_code v_t_code, iA cI 10 A_t_facts v_t_facts, iA cI 16 A_t_letters v_t_letters, iA cI 32 A_t_stack v_t_stack, iA cI 16 A_t_testEnd v_t_testEnd, iA cI 16 A_t_testFrom v_t_testFrom, iA cI 16 A_t_valueFrom v_t_valueFrom] → va_S A s.heap H locs → f_X1_valueBy_b80 a3 v_t_stack x_t_height x_t_refused = some (o_r, o_v_t_stack, o_x_t_height, o_x_t_refused) → W p l e { frames := 3, cells := 0, slots := 0, locals := 73 } s m ([.ref A_t, .int a1, .int a2, .int a3] : List Value).toArray below meth c H locs 0 0 (MQ below (PoI D A [oX1 A_t A_t_code A_t_letters A_t_valueFrom A_t_testFrom A_t_testEnd A_t_facts A_t_stack x_t_size x_t_rules o_x_t_height o_x_t_refused, iA cI 240 A_t_code v_t_code, iA cI 10 A_t_facts v_t_facts, iA cI 16 A_t_letters v_t_letters, iA cI 32 A_t_stack o_v_t_stack, iA cI 16 A_t_testEnd v_t_testEnd, iA cI 16 A_t_testFrom v_t_testFrom, iA cI 16 A_t_valueFrom v_t_valueFrom] o_r) ([.ref A_t, .int a1, .int a2, .int a3] : List Value).toArray s 0 0 A) (F0 m 80 ls []) := by
    intro v_t_stack x_t_height x_t_refused H locs ls hl hP hD hS hf
    unfold f_X1_valueBy_b80 at hf
    refine lv_iload_n hx hb dX1_valueBy_80 rfl (lv_at hl 0 rfl) ?_
    obtain ⟨rfl, rfl, rfl, rfl⟩ := ev4 hf
    exact x_iret C hr hlk hP hD hS dX1_valueBy_81
  have hb_3 : ∀ (n_3 : Nat) (v_t_stack : (Nat → Int32)) (x_t_height : Int32) (x_t_refused : Int32) (l4 : Int32) (H : Heap) (locs : List Loc) (ls : Array Slot), lv_has ls 5 [(0, .ref A_t), (1, .int a1), (2, .int a2), (3, .int a3), (4, .int l4)] → va_P D vwCl [oX1 A_t A_t_code A_t_letters A_t_valueFrom A_t_testFrom A_t_testEnd A_t_facts A_t_stack x_t_size x_t_rules x_t_height x_t_refused, iA cI 240 A_t_code v_t_code, iA cI 10 A_t_facts v_t_facts, iA cI 16 A_t_letters v_t_letters, iA cI 32 A_t_stack v_t_stack, iA cI 16 A_t_testEnd v_t_testEnd, iA cI 16 A_t_testFrom v_t_testFrom, iA cI 16 A_t_valueFrom v_t_valueFrom] H → va_D A [oX1 A_t A_t_code A_t_letters A_t_valueFrom A_t_testFrom A_t_testEnd A_t_facts A_t_stack x_t_size x_t_rules x_t_height x_t_refused, iA cI 240 A_t_code v_t_code, iA cI 10 A_t_facts v_t_facts, iA cI 16 A_t_letters v_t_letters, iA cI 32 A_t_stack v_t_stack, iA cI 16 A_t_testEnd v_t_testEnd, iA cI 16 A_t_testFrom v_t_testFrom, iA cI 16 A_t_valueFrom v_t_valueFrom] → va_S A s.heap H locs → f_X1_valueBy_b3 v_t_code v_t_facts v_t_letters v_t_testEnd v_t_testFrom v_t_valueFrom x_t_rules a1 a2 a3 n_3 v_t_stack x_t_height x_t_refused l4 = some (o_r, o_v_t_stack, o_x_t_height, o_x_t_refused) → W p l e { frames := 3, cells := 0, slots := 0, locals := 73 } s m ([.ref A_t, .int a1, .int a2, .int a3] : List Value).toArray below meth c H locs 0 0 (MQ below (PoI D A [oX1 A_t A_t_code A_t_letters A_t_valueFrom A_t_testFrom A_t_testEnd A_t_facts A_t_stack x_t_size x_t_rules o_x_t_height o_x_t_refused, iA cI 240 A_t_code v_t_code, iA cI 10 A_t_facts v_t_facts, iA cI 16 A_t_letters v_t_letters, iA cI 32 A_t_stack o_v_t_stack, iA cI 16 A_t_testEnd v_t_testEnd, iA cI 16 A_t_testFrom v_t_testFrom, iA cI 16 A_t_valueFrom v_t_valueFrom] o_r) ([.ref A_t, .int a1, .int a2, .int a3] : List Value).toArray s 0 0 A) (F0 m 3 ls []) := by
    intro n_3
    induction n_3 with
    | zero =>
      intro v_t_stack x_t_height x_t_refused l4 H locs ls hl hP hD hS hf
      exact absurd hf (fun h => by rw [f_X1_valueBy_b3] at h; cases h)
    | succ n_3 ih_3 =>
      have hb_74 : ∀ (v_t_stack : (Nat → Int32)) (x_t_height : Int32) (x_t_refused : Int32) (l4 : Int32) (H : Heap) (locs : List Loc) (ls : Array Slot), lv_has ls 5 [(0, .ref A_t), (1, .int a1), (2, .int a2), (3, .int a3), (4, .int l4)] → va_P D vwCl [oX1 A_t A_t_code A_t_letters A_t_valueFrom A_t_testFrom A_t_testEnd A_t_facts A_t_stack x_t_size x_t_rules x_t_height x_t_refused, iA cI 240 A_t_code v_t_code, iA cI 10 A_t_facts v_t_facts, iA cI 16 A_t_letters v_t_letters, iA cI 32 A_t_stack v_t_stack, iA cI 16 A_t_testEnd v_t_testEnd, iA cI 16 A_t_testFrom v_t_testFrom, iA cI 16 A_t_valueFrom v_t_valueFrom] H → va_D A [oX1 A_t A_t_code A_t_letters A_t_valueFrom A_t_testFrom A_t_testEnd A_t_facts A_t_stack x_t_size x_t_rules x_t_height x_t_refused, iA cI 240 A_t_code v_t_code, iA cI 10 A_t_facts v_t_facts, iA cI 16 A_t_letters v_t_letters, iA cI 32 A_t_stack v_t_stack, iA cI 16 A_t_testEnd v_t_testEnd, iA cI 16 A_t_testFrom v_t_testFrom, iA cI 16 A_t_valueFrom v_t_valueFrom] → va_S A s.heap H locs → f_X1_valueBy_b74 a1 a2 a3 (f_X1_valueBy_b3 v_t_code v_t_facts v_t_letters v_t_testEnd v_t_testFrom v_t_valueFrom x_t_rules a1 a2 a3 n_3) v_t_stack x_t_height x_t_refused l4 = some (o_r, o_v_t_stack, o_x_t_height, o_x_t_refused) → W p l e { frames := 3, cells := 0, slots := 0, locals := 73 } s m ([.ref A_t, .int a1, .int a2, .int a3] : List Value).toArray below meth c H locs 0 0 (MQ below (PoI D A [oX1 A_t A_t_code A_t_letters A_t_valueFrom A_t_testFrom A_t_testEnd A_t_facts A_t_stack x_t_size x_t_rules o_x_t_height o_x_t_refused, iA cI 240 A_t_code v_t_code, iA cI 10 A_t_facts v_t_facts, iA cI 16 A_t_letters v_t_letters, iA cI 32 A_t_stack o_v_t_stack, iA cI 16 A_t_testEnd v_t_testEnd, iA cI 16 A_t_testFrom v_t_testFrom, iA cI 16 A_t_valueFrom v_t_valueFrom] o_r) ([.ref A_t, .int a1, .int a2, .int a3] : List Value).toArray s 0 0 A) (F0 m 74 ls []) := by
        intro v_t_stack x_t_height x_t_refused l4 H locs ls hl hP hD hS hf
        unfold f_X1_valueBy_b74 at hf
        refine lv_iinc (v := (l4 + (1 : Int32))) (lv' := [(4, .int (l4 + (1 : Int32))), (0, .ref A_t), (1, .int a1), (2, .int a2), (3, .int a3)]) hx hb dX1_valueBy_74 hl (k := 4) rfl rfl (by decide) rfl (fun ls hl => ?_)
        refine lv_goto (tgt := 3) hx hb dX1_valueBy_77 (by decide) ?_
        exact ih_3 v_t_stack x_t_height x_t_refused (l4 + (1 : Int32)) _ _ ls (lv_sub hl [1, 2, 3, 4, 0] rfl) hP hD hS hf
      intro v_t_stack x_t_height x_t_refused l4 H locs ls hl hP hD hS hf
      rw [f_X1_valueBy_b3] at hf
      refine lv_iload hx hb dX1_valueBy_3 (lv_at hl 4 rfl) ?_
      refine lv_aload_n hx hb dX1_valueBy_5 rfl (lv_at hl 0 rfl) ?_
      refine x_get C hK hP fd_X1_35 0 rfl rfl dX1_valueBy_6 ?_
      refine lv_icmp_ge (tgt := 80) hx hb dX1_valueBy_9 (by decide) (fun q => ?_) (fun q => ?_)
      · have hf := if_t q hf
        exact hb_80 v_t_stack x_t_height x_t_refused _ _ ls (lv_sub hl [3] rfl) hP hD hS hf
      · have hf := if_f q hf
        refine lv_iload hx hb dX1_valueBy_12 (lv_at hl 4 rfl) ?_
        refine lv_bipush (v := 16) hx hb dX1_valueBy_14 (by decide) ?_
        refine lv_icmp_ge (tgt := 80) hx hb dX1_valueBy_16 (by decide) (fun q => ?_) (fun q => ?_)
        · have hf := if_t q hf
          exact hb_80 v_t_stack x_t_height x_t_refused _ _ ls (lv_sub hl [3] rfl) hP hD hS hf
        · have hf := if_f q hf
          refine lv_aload_n hx hb dX1_valueBy_19 rfl (lv_at hl 0 rfl) ?_
          refine x_get C hK hP fd_X1_13 0 rfl rfl dX1_valueBy_20 ?_
          refine lv_iload hx hb dX1_valueBy_23 (lv_at hl 4 rfl) ?_
          obtain ⟨hi, hf⟩ := gI_e hf
          refine x_iald C hK hP 3 rfl hi dX1_valueBy_25 ?_
          refine lv_iload_n hx hb dX1_valueBy_26 rfl (lv_at hl 1 rfl) ?_
          refine lv_icmp_ne (tgt := 74) hx hb dX1_valueBy_27 (by decide) (fun q => ?_) (fun q => ?_)
          · have hf := if_f q hf
            exact hb_74 v_t_stack x_t_height x_t_refused l4 _ _ ls (lv_sub hl [0, 1, 2, 3, 4] rfl) hP hD hS hf
          · have hf := if_t q hf
            refine lv_aload_n hx hb dX1_valueBy_30 rfl (lv_at hl 0 rfl) ?_
            refine lv_aload_n hx hb dX1_valueBy_31 rfl (lv_at hl 0 rfl) ?_
            refine x_get C hK hP fd_X1_19 0 rfl rfl dX1_valueBy_32 ?_
            refine lv_iload hx hb dX1_valueBy_35 (lv_at hl 4 rfl) ?_
            obtain ⟨hi, hf⟩ := gI_e hf
            refine x_iald C hK hP 6 rfl hi dX1_valueBy_37 ?_
            refine lv_aload_n hx hb dX1_valueBy_38 rfl (lv_at hl 0 rfl) ?_
            refine x_get C hK hP fd_X1_22 0 rfl rfl dX1_valueBy_39 ?_
            refine lv_iload hx hb dX1_valueBy_42 (lv_at hl 4 rfl) ?_
            obtain ⟨hi, hf⟩ := gI_e hf
            refine x_iald C hK hP 5 rfl hi dX1_valueBy_44 ?_
            obtain ⟨r1, w2, w3, w4, hc5, hf⟩ := bd4_e hf
            refine x_callVI (ws' := [oX1 A_t A_t_code A_t_letters A_t_valueFrom A_t_testFrom A_t_testEnd A_t_facts A_t_stack x_t_size x_t_rules w3 w4, iA cI 240 A_t_code v_t_code, iA cI 10 A_t_facts v_t_facts, iA cI 16 A_t_letters v_t_letters, iA cI 32 A_t_stack w2, iA cI 16 A_t_testEnd v_t_testEnd, iA cI 16 A_t_testFrom v_t_testFrom, iA cI 16 A_t_valueFrom v_t_valueFrom]) (rest := []) C hK hP hD hS hA hl mf_X1_60 (c_X1_run hc5) [0, 1, 2, 4] 0 1 rfl rfl rfl rfl rfl rfl rfl rfl rfl rfl (Nat.le_of_ble_eq_true rfl) ⟨Nat.le_of_ble_eq_true rfl, Nat.le_of_ble_eq_true rfl⟩ ⟨Nat.le_refl _, Nat.le_refl _⟩ dX1_valueBy_45 ?_
            intro H locs hP hD hS
            refine lv_if_eq (tgt := 74) hx hb dX1_valueBy_48 (by decide) (fun q => ?_) (fun q => ?_)
            · have hf := if_t q hf
              exact hb_74 w2 w3 w4 l4 _ _ ls (lv_sub hl [0, 1, 2, 3, 4] rfl) hP hD hS hf
            · have hf := if_f q hf
              refine lv_aload_n hx hb dX1_valueBy_51 rfl (lv_at hl 0 rfl) ?_
              refine lv_aload_n hx hb dX1_valueBy_52 rfl (lv_at hl 0 rfl) ?_
              refine x_get C hK hP fd_X1_16 0 rfl rfl dX1_valueBy_53 ?_
              refine lv_iload hx hb dX1_valueBy_56 (lv_at hl 4 rfl) ?_
              obtain ⟨hi, hf⟩ := gI_e hf
              refine x_iald C hK hP 7 rfl hi dX1_valueBy_58 ?_
              refine lv_aload_n hx hb dX1_valueBy_59 rfl (lv_at hl 0 rfl) ?_
              refine x_get C hK hP fd_X1_19 0 rfl rfl dX1_valueBy_60 ?_
              refine lv_iload hx hb dX1_valueBy_63 (lv_at hl 4 rfl) ?_
              obtain ⟨hi, hf⟩ := gI_e hf
              refine x_iald C hK hP 6 rfl hi dX1_valueBy_65 ?_
              obtain ⟨r6, w7, w8, w9, hc10, hf⟩ := bd4_e hf
              refine x_callVI (ws' := [oX1 A_t A_t_code A_t_letters A_t_valueFrom A_t_testFrom A_t_testEnd A_t_facts A_t_stack x_t_size x_t_rules w8 w9, iA cI 240 A_t_code v_t_code, iA cI 10 A_t_facts v_t_facts, iA cI 16 A_t_letters v_t_letters, iA cI 32 A_t_stack w7, iA cI 16 A_t_testEnd v_t_testEnd, iA cI 16 A_t_testFrom v_t_testFrom, iA cI 16 A_t_valueFrom v_t_valueFrom]) (rest := []) C hK hP hD hS hA hl mf_X1_60 (c_X1_run hc10) [0, 1, 2, 4] 0 1 rfl rfl rfl rfl rfl rfl rfl rfl rfl rfl (Nat.le_of_ble_eq_true rfl) ⟨Nat.le_of_ble_eq_true rfl, Nat.le_of_ble_eq_true rfl⟩ ⟨Nat.le_refl _, Nat.le_refl _⟩ dX1_valueBy_66 ?_
              intro H locs hP hD hS
              refine lv_iload_n hx hb dX1_valueBy_69 rfl (lv_at hl 2 rfl) ?_
              obtain ⟨r11, hc12, hf⟩ := bd1_e hf
              refine x_callSI (ws' := [oX1 A_t A_t_code A_t_letters A_t_valueFrom A_t_testFrom A_t_testEnd A_t_facts A_t_stack x_t_size x_t_rules w8 w9, iA cI 240 A_t_code v_t_code, iA cI 10 A_t_facts v_t_facts, iA cI 16 A_t_letters v_t_letters, iA cI 32 A_t_stack w7, iA cI 16 A_t_testEnd v_t_testEnd, iA cI 16 A_t_testFrom v_t_testFrom, iA cI 16 A_t_valueFrom v_t_valueFrom]) (rest := []) C hK hP hD hS hA hl mf_X1_63 (c_X11_bounded hc12) [] rfl rfl rfl rfl rfl rfl rfl rfl (Nat.le_of_ble_eq_true rfl) ⟨Nat.le_of_ble_eq_true rfl, Nat.le_of_ble_eq_true rfl⟩ ⟨Nat.le_refl _, Nat.le_refl _⟩ dX1_valueBy_70 ?_
              intro H locs hP hD hS
              obtain ⟨rfl, rfl, rfl, rfl⟩ := ev4 hf
              exact x_iret C hr hlk hP hD hS dX1_valueBy_73
  refine lv_iconst (v := 0) hx hb dX1_valueBy_0 (by decide) ?_
  refine lv_istore (lv' := [(4, .int (0 : Int32)), (0, .ref A_t), (1, .int a1), (2, .int a2), (3, .int a3)]) hx hb dX1_valueBy_1 hl (by decide) rfl (fun ls hl => ?_)
  exact hb_3 FU v_t_stack x_t_height x_t_refused (0 : Int32) _ _ ls (lv_sub hl [1, 2, 3, 4, 0] rfl) hP hD hS hf
