def f_X12_count (v_t_now : (Nat → Int32)) (x_t_clauses : Int32) (x_t_taped : Int32) (x_t_wordMany : Int32) (a1 : Int32) : Option (Int32) :=
  if a1 = (0 : Int32) then
    gI 293 v_t_now (291 : Int32) (fun g1 =>
    some g1)
  else
  if a1 = (1 : Int32) then
    bd1 (f_X12_toldSet v_t_now) (fun r2 =>
    some r2)
  else
  if a1 = (2 : Int32) then
    gI 293 v_t_now (288 : Int32) (fun g3 =>
    some g3)
  else
  if a1 = (3 : Int32) then
    gI 293 v_t_now (289 : Int32) (fun g4 =>
    some g4)
  else
  if a1 = (4 : Int32) then
    gI 293 v_t_now (290 : Int32) (fun g5 =>
    some g5)
  else
  if a1 = (5 : Int32) then
    some x_t_clauses
  else
  if a1 = (6 : Int32) then
    some x_t_taped
  else
  if a1 = (7 : Int32) then
    gI 293 v_t_now (292 : Int32) (fun g6 =>
    some g6)
  else
  if a1 = (8 : Int32) then
    some x_t_wordMany
  else
    some (-1 : Int32)
set_option maxHeartbeats 4000000 in
set_option maxRecDepth 100000 in
theorem c_X12_count {l : Launch} {D : va_G} {cI cB : ClassId} {A_t A_t_now A_t_aside A_t_kept A_t_rhymeOf A_t_wasRhyme A_t_wordAt A_t_tape A_t_said A_t_waitsAt A_t_saidLetter A_t_saidFrom A_t_saidHalf A_t_saidTo A_t_codes A_t_clauseOf A_t_codeFrom A_t_codeHalf A_t_codeTo A_t_stack A_t_facts A_t_newWords A_t_roundFrom A_t_roundAt A_t_roundTimes A_t_leastFrom A_t_rowNow A_t_bornOf A_t_trainsTo A_t_trainAt : Nat} {x_t_wordMany x_t_taped x_t_place0 x_t_length0 x_t_fault x_t_number0 x_t_open x_t_codeMany x_t_waiting x_t_saidMany x_t_clauses x_t_lines x_t_newMany x_t_rounds x_t_itFrom x_t_itTimes x_t_writtenNow x_t_picturesNow x_t_usedNow x_t_chosen x_t_fearOfChosen x_t_changesNow x_t_left0 x_t_trainMany x_t_leastTries x_t_firstTrained x_t_isKept a1 : Int32} {v_t_now : Nat → Int32} {o_r : Int32} (hf : f_X12_count v_t_now x_t_clauses x_t_taped x_t_wordMany a1 = some o_r) : CtI l D cI cB yX12_count cX12_count 2 (some .int) 3 65 [.ref A_t, .int a1] [oX12 A_t A_t_now A_t_aside A_t_kept A_t_rhymeOf A_t_wasRhyme A_t_wordAt x_t_wordMany A_t_tape x_t_taped x_t_place0 x_t_length0 x_t_fault x_t_number0 x_t_open x_t_codeMany x_t_waiting x_t_saidMany x_t_clauses A_t_said A_t_waitsAt A_t_saidLetter A_t_saidFrom A_t_saidHalf A_t_saidTo A_t_codes A_t_clauseOf A_t_codeFrom A_t_codeHalf A_t_codeTo A_t_stack A_t_facts x_t_lines A_t_newWords A_t_roundFrom A_t_roundAt A_t_roundTimes x_t_newMany x_t_rounds x_t_itFrom x_t_itTimes x_t_writtenNow x_t_picturesNow x_t_usedNow x_t_chosen x_t_fearOfChosen A_t_leastFrom A_t_rowNow x_t_changesNow x_t_left0 A_t_bornOf A_t_trainsTo A_t_trainAt x_t_trainMany x_t_leastTries x_t_firstTrained x_t_isKept, iA cI 293 A_t_now v_t_now] [oX12 A_t A_t_now A_t_aside A_t_kept A_t_rhymeOf A_t_wasRhyme A_t_wordAt x_t_wordMany A_t_tape x_t_taped x_t_place0 x_t_length0 x_t_fault x_t_number0 x_t_open x_t_codeMany x_t_waiting x_t_saidMany x_t_clauses A_t_said A_t_waitsAt A_t_saidLetter A_t_saidFrom A_t_saidHalf A_t_saidTo A_t_codes A_t_clauseOf A_t_codeFrom A_t_codeHalf A_t_codeTo A_t_stack A_t_facts x_t_lines A_t_newWords A_t_roundFrom A_t_roundAt A_t_roundTimes x_t_newMany x_t_rounds x_t_itFrom x_t_itTimes x_t_writtenNow x_t_picturesNow x_t_usedNow x_t_chosen x_t_fearOfChosen A_t_leastFrom A_t_rowNow x_t_changesNow x_t_left0 A_t_bornOf A_t_trainsTo A_t_trainAt x_t_trainMany x_t_leastTries x_t_firstTrained x_t_isKept, iA cI 293 A_t_now v_t_now] o_r := by
  refine x_startI (by decide) (Nat.le_of_ble_eq_true rfl) ?_
  intro p e s m below meth c A C hr hlk hA hK hP hD hS ls hl
  have hl : lv_has ls 2 [(0, .ref A_t), (1, .int a1)] := hl
  have hx := C.1
  have hb := C.2.1
  unfold f_X12_count at hf
  refine lv_iload_n hx hb dX12_count_0 rfl (lv_at hl 1 rfl) ?_
  by_cases q_0 : a1 = (0 : Int32)
  · have hf := if_t q_0 hf
    refine lv_tableIn (tgt := 52) hx hb dX12_count_1 (by rw [q_0]; decide) (by rw [q_0]; decide) (by rw [q_0]; rfl) (by decide) ?_
    refine lv_aload_n hx hb dX12_count_52 rfl (lv_at hl 0 rfl) ?_
    refine x_get C hK hP fd_X12_7 0 rfl rfl dX12_count_53 ?_
    refine lv_sipush (v := 291) hx hb dX12_count_56 (by decide) ?_
    obtain ⟨hi, hf⟩ := gI_e hf
    refine x_iald C hK hP 1 rfl hi dX12_count_59 ?_
    obtain rfl := ev1 hf
    exact x_iret C hr hlk hP hD hS dX12_count_60
  have hf := if_f q_0 hf
  by_cases q_1 : a1 = (1 : Int32)
  · have hf := if_t q_1 hf
    refine lv_tableIn (tgt := 61) hx hb dX12_count_1 (by rw [q_1]; decide) (by rw [q_1]; decide) (by rw [q_1]; rfl) (by decide) ?_
    refine lv_aload_n hx hb dX12_count_61 rfl (lv_at hl 0 rfl) ?_
    obtain ⟨r1, hc2, hf⟩ := bd1_e hf
    refine x_callVI (ws' := [oX12 A_t A_t_now A_t_aside A_t_kept A_t_rhymeOf A_t_wasRhyme A_t_wordAt x_t_wordMany A_t_tape x_t_taped x_t_place0 x_t_length0 x_t_fault x_t_number0 x_t_open x_t_codeMany x_t_waiting x_t_saidMany x_t_clauses A_t_said A_t_waitsAt A_t_saidLetter A_t_saidFrom A_t_saidHalf A_t_saidTo A_t_codes A_t_clauseOf A_t_codeFrom A_t_codeHalf A_t_codeTo A_t_stack A_t_facts x_t_lines A_t_newWords A_t_roundFrom A_t_roundAt A_t_roundTimes x_t_newMany x_t_rounds x_t_itFrom x_t_itTimes x_t_writtenNow x_t_picturesNow x_t_usedNow x_t_chosen x_t_fearOfChosen A_t_leastFrom A_t_rowNow x_t_changesNow x_t_left0 A_t_bornOf A_t_trainsTo A_t_trainAt x_t_trainMany x_t_leastTries x_t_firstTrained x_t_isKept, iA cI 293 A_t_now v_t_now]) (rest := []) C hK hP hD hS hA hl mf_X12_387 (c_X12_toldSet hc2) [0, 1] 0 12 rfl rfl rfl rfl rfl rfl rfl rfl rfl rfl (Nat.le_of_ble_eq_true rfl) ⟨Nat.le_of_ble_eq_true rfl, Nat.le_of_ble_eq_true rfl⟩ ⟨Nat.le_refl _, Nat.le_refl _⟩ dX12_count_62 ?_
    intro H locs hP hD hS
    obtain rfl := ev1 hf
    exact x_iret C hr hlk hP hD hS dX12_count_65
  have hf := if_f q_1 hf
  by_cases q_2 : a1 = (2 : Int32)
  · have hf := if_t q_2 hf
    refine lv_tableIn (tgt := 66) hx hb dX12_count_1 (by rw [q_2]; decide) (by rw [q_2]; decide) (by rw [q_2]; rfl) (by decide) ?_
    refine lv_aload_n hx hb dX12_count_66 rfl (lv_at hl 0 rfl) ?_
    refine x_get C hK hP fd_X12_7 0 rfl rfl dX12_count_67 ?_
    refine lv_sipush (v := 288) hx hb dX12_count_70 (by decide) ?_
    obtain ⟨hi, hf⟩ := gI_e hf
    refine x_iald C hK hP 1 rfl hi dX12_count_73 ?_
    obtain rfl := ev1 hf
    exact x_iret C hr hlk hP hD hS dX12_count_74
  have hf := if_f q_2 hf
  by_cases q_3 : a1 = (3 : Int32)
  · have hf := if_t q_3 hf
    refine lv_tableIn (tgt := 75) hx hb dX12_count_1 (by rw [q_3]; decide) (by rw [q_3]; decide) (by rw [q_3]; rfl) (by decide) ?_
    refine lv_aload_n hx hb dX12_count_75 rfl (lv_at hl 0 rfl) ?_
    refine x_get C hK hP fd_X12_7 0 rfl rfl dX12_count_76 ?_
    refine lv_sipush (v := 289) hx hb dX12_count_79 (by decide) ?_
    obtain ⟨hi, hf⟩ := gI_e hf
    refine x_iald C hK hP 1 rfl hi dX12_count_82 ?_
    obtain rfl := ev1 hf
    exact x_iret C hr hlk hP hD hS dX12_count_83
  have hf := if_f q_3 hf
  by_cases q_4 : a1 = (4 : Int32)
  · have hf := if_t q_4 hf
    refine lv_tableIn (tgt := 84) hx hb dX12_count_1 (by rw [q_4]; decide) (by rw [q_4]; decide) (by rw [q_4]; rfl) (by decide) ?_
    refine lv_aload_n hx hb dX12_count_84 rfl (lv_at hl 0 rfl) ?_
    refine x_get C hK hP fd_X12_7 0 rfl rfl dX12_count_85 ?_
    refine lv_sipush (v := 290) hx hb dX12_count_88 (by decide) ?_
    obtain ⟨hi, hf⟩ := gI_e hf
    refine x_iald C hK hP 1 rfl hi dX12_count_91 ?_
    obtain rfl := ev1 hf
    exact x_iret C hr hlk hP hD hS dX12_count_92
  have hf := if_f q_4 hf
  by_cases q_5 : a1 = (5 : Int32)
  · have hf := if_t q_5 hf
    refine lv_tableIn (tgt := 93) hx hb dX12_count_1 (by rw [q_5]; decide) (by rw [q_5]; decide) (by rw [q_5]; rfl) (by decide) ?_
    refine lv_aload_n hx hb dX12_count_93 rfl (lv_at hl 0 rfl) ?_
    refine x_get C hK hP fd_X12_242 0 rfl rfl dX12_count_94 ?_
    obtain rfl := ev1 hf
    exact x_iret C hr hlk hP hD hS dX12_count_97
  have hf := if_f q_5 hf
  by_cases q_6 : a1 = (6 : Int32)
  · have hf := if_t q_6 hf
    refine lv_tableIn (tgt := 98) hx hb dX12_count_1 (by rw [q_6]; decide) (by rw [q_6]; decide) (by rw [q_6]; rfl) (by decide) ?_
    refine lv_aload_n hx hb dX12_count_98 rfl (lv_at hl 0 rfl) ?_
    refine x_get C hK hP fd_X12_143 0 rfl rfl dX12_count_99 ?_
    obtain rfl := ev1 hf
    exact x_iret C hr hlk hP hD hS dX12_count_102
  have hf := if_f q_6 hf
  by_cases q_7 : a1 = (7 : Int32)
  · have hf := if_t q_7 hf
    refine lv_tableIn (tgt := 103) hx hb dX12_count_1 (by rw [q_7]; decide) (by rw [q_7]; decide) (by rw [q_7]; rfl) (by decide) ?_
    refine lv_aload_n hx hb dX12_count_103 rfl (lv_at hl 0 rfl) ?_
    refine x_get C hK hP fd_X12_7 0 rfl rfl dX12_count_104 ?_
    refine lv_sipush (v := 292) hx hb dX12_count_107 (by decide) ?_
    obtain ⟨hi, hf⟩ := gI_e hf
    refine x_iald C hK hP 1 rfl hi dX12_count_110 ?_
    obtain rfl := ev1 hf
    exact x_iret C hr hlk hP hD hS dX12_count_111
  have hf := if_f q_7 hf
  by_cases q_8 : a1 = (8 : Int32)
  · have hf := if_t q_8 hf
    refine lv_tableIn (tgt := 112) hx hb dX12_count_1 (by rw [q_8]; decide) (by rw [q_8]; decide) (by rw [q_8]; rfl) (by decide) ?_
    refine lv_aload_n hx hb dX12_count_112 rfl (lv_at hl 0 rfl) ?_
    refine x_get C hK hP fd_X12_300 0 rfl rfl dX12_count_113 ?_
    obtain rfl := ev1 hf
    exact x_iret C hr hlk hP hD hS dX12_count_116
  have hf := if_f q_8 hf
  have eq_0 : a1.toInt ≠ 0 := fun h => q_0 (Int32.toInt_inj.mp (h.trans (by decide)))
  have eq_1 : a1.toInt ≠ 1 := fun h => q_1 (Int32.toInt_inj.mp (h.trans (by decide)))
  have eq_2 : a1.toInt ≠ 2 := fun h => q_2 (Int32.toInt_inj.mp (h.trans (by decide)))
  have eq_3 : a1.toInt ≠ 3 := fun h => q_3 (Int32.toInt_inj.mp (h.trans (by decide)))
  have eq_4 : a1.toInt ≠ 4 := fun h => q_4 (Int32.toInt_inj.mp (h.trans (by decide)))
  have eq_5 : a1.toInt ≠ 5 := fun h => q_5 (Int32.toInt_inj.mp (h.trans (by decide)))
  have eq_6 : a1.toInt ≠ 6 := fun h => q_6 (Int32.toInt_inj.mp (h.trans (by decide)))
  have eq_7 : a1.toInt ≠ 7 := fun h => q_7 (Int32.toInt_inj.mp (h.trans (by decide)))
  have eq_8 : a1.toInt ≠ 8 := fun h => q_8 (Int32.toInt_inj.mp (h.trans (by decide)))
  refine lv_tableOut (tgt := 117) hx hb dX12_count_1 (by omega) (by decide) ?_
  refine lv_iconst (v := -1) hx hb dX12_count_117 (by decide) ?_
  obtain rfl := ev1 hf
  exact x_iret C hr hlk hP hD hS dX12_count_118
