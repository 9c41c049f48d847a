def f_X12_beadsUp (v_t_now : (Nat → Int32)) (x_t_picturesNow : Int32) : Option ((Nat → Int32) × Int32) :=
  gI 293 v_t_now (289 : Int32) (fun g1 =>
  bd1 (f_X12_min (9999 : Int32) (g1 + (1 : Int32))) (fun r2 =>
  sI 293 v_t_now (289 : Int32) r2 (fun w3 =>
  some (w3, (x_t_picturesNow + (1 : Int32))))))
set_option maxHeartbeats 4000000 in
set_option maxRecDepth 100000 in
theorem c_X12_beadsUp {l : Launch} {D : va_G} {cI cB : ClassId} {A_t A_t_now A_t_aside A_t_kept A_t_rhymeOf A_t_wasRhyme A_t_wordAt A_t_tape A_t_said A_t_waitsAt A_t_saidLetter A_t_saidFrom A_t_saidHalf A_t_saidTo A_t_codes A_t_clauseOf A_t_codeFrom A_t_codeHalf A_t_codeTo A_t_stack A_t_facts A_t_newWords A_t_roundFrom A_t_roundAt A_t_roundTimes A_t_leastFrom A_t_rowNow A_t_bornOf A_t_trainsTo A_t_trainAt : Nat} {x_t_wordMany x_t_taped x_t_place0 x_t_length0 x_t_fault x_t_number0 x_t_open x_t_codeMany x_t_waiting x_t_saidMany x_t_clauses x_t_lines x_t_newMany x_t_rounds x_t_itFrom x_t_itTimes x_t_writtenNow x_t_picturesNow x_t_usedNow x_t_chosen x_t_fearOfChosen x_t_changesNow x_t_left0 x_t_trainMany x_t_leastTries x_t_firstTrained x_t_isKept : Int32} {v_t_now : Nat → Int32} {o_x_t_picturesNow : Int32} {o_v_t_now : Nat → Int32} (hf : f_X12_beadsUp v_t_now x_t_picturesNow = some (o_v_t_now, o_x_t_picturesNow)) : CtV l D cI cB yX12_beadsUp cX12_beadsUp 1 1 21 [.ref A_t] [oX12 A_t A_t_now A_t_aside A_t_kept A_t_rhymeOf A_t_wasRhyme A_t_wordAt x_t_wordMany A_t_tape x_t_taped x_t_place0 x_t_length0 x_t_fault x_t_number0 x_t_open x_t_codeMany x_t_waiting x_t_saidMany x_t_clauses A_t_said A_t_waitsAt A_t_saidLetter A_t_saidFrom A_t_saidHalf A_t_saidTo A_t_codes A_t_clauseOf A_t_codeFrom A_t_codeHalf A_t_codeTo A_t_stack A_t_facts x_t_lines A_t_newWords A_t_roundFrom A_t_roundAt A_t_roundTimes x_t_newMany x_t_rounds x_t_itFrom x_t_itTimes x_t_writtenNow x_t_picturesNow x_t_usedNow x_t_chosen x_t_fearOfChosen A_t_leastFrom A_t_rowNow x_t_changesNow x_t_left0 A_t_bornOf A_t_trainsTo A_t_trainAt x_t_trainMany x_t_leastTries x_t_firstTrained x_t_isKept, iA cI 293 A_t_now v_t_now] [oX12 A_t A_t_now A_t_aside A_t_kept A_t_rhymeOf A_t_wasRhyme A_t_wordAt x_t_wordMany A_t_tape x_t_taped x_t_place0 x_t_length0 x_t_fault x_t_number0 x_t_open x_t_codeMany x_t_waiting x_t_saidMany x_t_clauses A_t_said A_t_waitsAt A_t_saidLetter A_t_saidFrom A_t_saidHalf A_t_saidTo A_t_codes A_t_clauseOf A_t_codeFrom A_t_codeHalf A_t_codeTo A_t_stack A_t_facts x_t_lines A_t_newWords A_t_roundFrom A_t_roundAt A_t_roundTimes x_t_newMany x_t_rounds x_t_itFrom x_t_itTimes x_t_writtenNow o_x_t_picturesNow x_t_usedNow x_t_chosen x_t_fearOfChosen A_t_leastFrom A_t_rowNow x_t_changesNow x_t_left0 A_t_bornOf A_t_trainsTo A_t_trainAt x_t_trainMany x_t_leastTries x_t_firstTrained x_t_isKept, iA cI 293 A_t_now o_v_t_now] := by
  refine x_startV (by decide) (Nat.le_of_ble_eq_true rfl) ?_
  intro p e s m below meth c A C hr hlk hA hK hP hD hS ls hl
  have hl : lv_has ls 1 [(0, .ref A_t)] := hl
  have hx := C.1
  have hb := C.2.1
  unfold f_X12_beadsUp at hf
  refine lv_aload_n hx hb dX12_beadsUp_0 rfl (lv_at hl 0 rfl) ?_
  refine x_get C hK hP fd_X12_7 0 rfl rfl dX12_beadsUp_1 ?_
  refine lv_sipush (v := 289) hx hb dX12_beadsUp_4 (by decide) ?_
  refine lv_sipush (v := 9999) hx hb dX12_beadsUp_7 (by decide) ?_
  refine lv_aload_n hx hb dX12_beadsUp_10 rfl (lv_at hl 0 rfl) ?_
  refine x_get C hK hP fd_X12_7 0 rfl rfl dX12_beadsUp_11 ?_
  refine lv_sipush (v := 289) hx hb dX12_beadsUp_14 (by decide) ?_
  obtain ⟨hi, hf⟩ := gI_e hf
  refine x_iald C hK hP 1 rfl hi dX12_beadsUp_17 ?_
  refine lv_iconst (v := 1) hx hb dX12_beadsUp_18 (by decide) ?_
  refine lv_iadd hx hb dX12_beadsUp_19 ?_
  obtain ⟨r1, hc2, hf⟩ := bd1_e hf
  refine x_callSI (ws' := [oX12 A_t A_t_now A_t_aside A_t_kept A_t_rhymeOf A_t_wasRhyme A_t_wordAt x_t_wordMany A_t_tape x_t_taped x_t_place0 x_t_length0 x_t_fault x_t_number0 x_t_open x_t_codeMany x_t_waiting x_t_saidMany x_t_clauses A_t_said A_t_waitsAt A_t_saidLetter A_t_saidFrom A_t_saidHalf A_t_saidTo A_t_codes A_t_clauseOf A_t_codeFrom A_t_codeHalf A_t_codeTo A_t_stack A_t_facts x_t_lines A_t_newWords A_t_roundFrom A_t_roundAt A_t_roundTimes x_t_newMany x_t_rounds x_t_itFrom x_t_itTimes x_t_writtenNow x_t_picturesNow x_t_usedNow x_t_chosen x_t_fearOfChosen A_t_leastFrom A_t_rowNow x_t_changesNow x_t_left0 A_t_bornOf A_t_trainsTo A_t_trainAt x_t_trainMany x_t_leastTries x_t_firstTrained x_t_isKept, iA cI 293 A_t_now v_t_now]) (rest := [.int (289 : Int32), .ref A_t_now]) C hK hP hD hS hA hl mf_X12_98 (c_X12_min hc2) [] rfl rfl rfl rfl rfl rfl rfl rfl (Nat.le_of_ble_eq_true rfl) ⟨Nat.le_of_ble_eq_true rfl, Nat.le_of_ble_eq_true rfl⟩ ⟨Nat.le_refl _, Nat.le_refl _⟩ dX12_beadsUp_20 ?_
  intro H locs hP hD hS
  obtain ⟨hi, hf⟩ := sI_e hf
  refine x_iast (ws' := [oX12 A_t A_t_now A_t_aside A_t_kept A_t_rhymeOf A_t_wasRhyme A_t_wordAt x_t_wordMany A_t_tape x_t_taped x_t_place0 x_t_length0 x_t_fault x_t_number0 x_t_open x_t_codeMany x_t_waiting x_t_saidMany x_t_clauses A_t_said A_t_waitsAt A_t_saidLetter A_t_saidFrom A_t_saidHalf A_t_saidTo A_t_codes A_t_clauseOf A_t_codeFrom A_t_codeHalf A_t_codeTo A_t_stack A_t_facts x_t_lines A_t_newWords A_t_roundFrom A_t_roundAt A_t_roundTimes x_t_newMany x_t_rounds x_t_itFrom x_t_itTimes x_t_writtenNow x_t_picturesNow x_t_usedNow x_t_chosen x_t_fearOfChosen A_t_leastFrom A_t_rowNow x_t_changesNow x_t_left0 A_t_bornOf A_t_trainsTo A_t_trainAt x_t_trainMany x_t_leastTries x_t_firstTrained x_t_isKept, iA cI 293 A_t_now (upd v_t_now (289 : Int32).toNatClampNeg r1)]) C hK hP hD hS 1 rfl hi rfl dX12_beadsUp_23 ?_
  intro H locs hP hD hS
  refine lv_aload_n hx hb dX12_beadsUp_24 rfl (lv_at hl 0 rfl) ?_
  refine lv_aload_n hx hb dX12_beadsUp_25 rfl (lv_at hl 0 rfl) ?_
  refine x_get C hK hP fd_X12_320 0 rfl rfl dX12_beadsUp_26 ?_
  refine lv_iconst (v := 1) hx hb dX12_beadsUp_29 (by decide) ?_
  refine lv_iadd hx hb dX12_beadsUp_30 ?_
  refine x_put (ws' := [oX12 A_t A_t_now A_t_aside A_t_kept A_t_rhymeOf A_t_wasRhyme A_t_wordAt x_t_wordMany A_t_tape x_t_taped x_t_place0 x_t_length0 x_t_fault x_t_number0 x_t_open x_t_codeMany x_t_waiting x_t_saidMany x_t_clauses A_t_said A_t_waitsAt A_t_saidLetter A_t_saidFrom A_t_saidHalf A_t_saidTo A_t_codes A_t_clauseOf A_t_codeFrom A_t_codeHalf A_t_codeTo A_t_stack A_t_facts x_t_lines A_t_newWords A_t_roundFrom A_t_roundAt A_t_roundTimes x_t_newMany x_t_rounds x_t_itFrom x_t_itTimes x_t_writtenNow (x_t_picturesNow + (1 : Int32)) x_t_usedNow x_t_chosen x_t_fearOfChosen A_t_leastFrom A_t_rowNow x_t_changesNow x_t_left0 A_t_bornOf A_t_trainsTo A_t_trainAt x_t_trainMany x_t_leastTries x_t_firstTrained x_t_isKept, iA cI 293 A_t_now (upd v_t_now (289 : Int32).toNatClampNeg r1)]) C hK hP hD hS fp_X12_320 0 rfl rfl rfl (Nat.le_of_ble_eq_true rfl) rfl dX12_beadsUp_31 ?_
  intro H locs hP hD hS
  obtain ⟨rfl, rfl⟩ := ev2 hf
  exact x_vret C hr hlk hP hD hS dX12_beadsUp_34
def f_X12_writes_b163 (v_t_rhymeOf : (Nat → Int32)) (a1 : Int32) (v_t_facts : (Nat → Int32)) (v_t_now : (Nat → Int32)) (v_t_stack : (Nat → Int32)) (x_t_chosen : Int32) (x_t_fearOfChosen : Int32) (x_t_picturesNow : Int32) (x_t_usedNow : Int32) (x_t_writtenNow : Int32) (l3 : Int32) : Option ((Nat → Int32) × (Nat → Int32) × (Nat → Int32) × Int32 × Int32 × Int32 × Int32 × Int32) :=
  gI 293 v_t_now ((160 : Int32) + l3) (fun g1 =>
  if (9 : Int32) ≤ g1 then
    bd1 (f_X12_isUsedTo v_t_now v_t_rhymeOf x_t_chosen a1) (fun w2 =>
    some (v_t_facts, w2, v_t_stack, x_t_chosen, x_t_fearOfChosen, x_t_picturesNow, (x_t_usedNow + (1 : Int32)), x_t_writtenNow))
  else
    some (v_t_facts, v_t_now, v_t_stack, x_t_chosen, x_t_fearOfChosen, x_t_picturesNow, x_t_usedNow, x_t_writtenNow))
def f_X12_writes (v_t_clauseOf : (Nat → Int32)) (v_t_codeFrom : (Nat → Int32)) (v_t_codeHalf : (Nat → Int32)) (v_t_codeTo : (Nat → Int32)) (v_t_codes : (Nat → Int32)) (v_t_facts : (Nat → Int32)) (v_t_now : (Nat → Int32)) (v_t_rhymeOf : (Nat → Int32)) (v_t_stack : (Nat → Int32)) (x_t_chosen : Int32) (x_t_clauses : Int32) (x_t_fearOfChosen : Int32) (x_t_picturesNow : Int32) (x_t_usedNow : Int32) (x_t_writtenNow : Int32) (a1 : Int32) (a2 : Int32) : Option ((Nat → Int32) × (Nat → Int32) × (Nat → Int32) × Int32 × Int32 × Int32 × Int32 × Int32) :=
  gI 293 v_t_now (292 : Int32) (fun g3 =>
  bd1 (f_X12_nextLot g3) (fun r4 =>
  sI 293 v_t_now (292 : Int32) r4 (fun w5 =>
  gI 293 w5 (292 : Int32) (fun g6 =>
  rI g6 (10 : Int32) (fun g7 =>
  bd4 (f_X12_choosesFor v_t_clauseOf v_t_codeFrom v_t_codeHalf v_t_codeTo v_t_codes v_t_facts w5 v_t_rhymeOf v_t_stack x_t_chosen x_t_clauses x_t_fearOfChosen a1 a2 g7) (fun w8 w9 w10 w11 =>
  if w10 = (-1 : Int32) then
    bd2 (f_X12_beadsUp w5 x_t_picturesNow) (fun w22 w23 =>
    some (w8, w22, w9, w10, w11, w23, x_t_usedNow, x_t_writtenNow))
  else
    gI 293 w5 ((24 : Int32) + w10) (fun g12 =>
    sI 293 w5 ((24 : Int32) + w10) (g12 - (1 : Int32)) (fun w13 =>
    gI 293 w13 ((160 : Int32) + (((16 : Int32) * w10) + a1)) (fun g14 =>
    sI 293 w13 ((160 : Int32) + (((16 : Int32) * w10) + a1)) (g14 + (1 : Int32)) (fun w15 =>
    gI 293 w15 (288 : Int32) (fun g16 =>
    if g16 < w11 then
      bd2 (f_X12_beadsUp w15 x_t_picturesNow) (fun w17 w18 =>
      f_X12_writes_b163 v_t_rhymeOf a1 w8 w17 w9 w10 w11 w18 x_t_usedNow x_t_writtenNow (((16 : Int32) * w10) + a1))
    else
      gI 293 w15 (290 : Int32) (fun g19 =>
      bd1 (f_X12_min (9999 : Int32) (g19 + (1 : Int32))) (fun r20 =>
      sI 293 w15 (290 : Int32) r20 (fun w21 =>
      f_X12_writes_b163 v_t_rhymeOf a1 w8 w21 w9 w10 w11 x_t_picturesNow x_t_usedNow (x_t_writtenNow + (1 : Int32)) (((16 : Int32) * w10) + a1)))))))))))))))
set_option maxHeartbeats 4000000 in
set_option maxRecDepth 100000 in
theorem c_X12_writes {l : Launch} {D : va_G} {cI cB : ClassId} {A_t A_t_now A_t_aside A_t_kept A_t_rhymeOf A_t_wasRhyme A_t_wordAt A_t_tape A_t_said A_t_waitsAt A_t_saidLetter A_t_saidFrom A_t_saidHalf A_t_saidTo A_t_codes A_t_clauseOf A_t_codeFrom A_t_codeHalf A_t_codeTo A_t_stack A_t_facts A_t_newWords A_t_roundFrom A_t_roundAt A_t_roundTimes A_t_leastFrom A_t_rowNow A_t_bornOf A_t_trainsTo A_t_trainAt : Nat} {x_t_wordMany x_t_taped x_t_place0 x_t_length0 x_t_fault x_t_number0 x_t_open x_t_codeMany x_t_waiting x_t_saidMany x_t_clauses x_t_lines x_t_newMany x_t_rounds x_t_itFrom x_t_itTimes x_t_writtenNow x_t_picturesNow x_t_usedNow x_t_chosen x_t_fearOfChosen x_t_changesNow x_t_left0 x_t_trainMany x_t_leastTries x_t_firstTrained x_t_isKept a1 a2 : Int32} {v_t_clauseOf v_t_codeFrom v_t_codeHalf v_t_codeTo v_t_codes v_t_facts v_t_now v_t_rhymeOf v_t_stack : Nat → Int32} {o_x_t_chosen o_x_t_fearOfChosen o_x_t_picturesNow o_x_t_usedNow o_x_t_writtenNow : Int32} {o_v_t_facts o_v_t_now o_v_t_stack : Nat → Int32} (hf : f_X12_writes v_t_clauseOf v_t_codeFrom v_t_codeHalf v_t_codeTo v_t_codes v_t_facts v_t_now v_t_rhymeOf v_t_stack x_t_chosen x_t_clauses x_t_fearOfChosen x_t_picturesNow x_t_usedNow x_t_writtenNow a1 a2 = some (o_v_t_facts, o_v_t_now, o_v_t_stack, o_x_t_chosen, o_x_t_fearOfChosen, o_x_t_picturesNow, o_x_t_usedNow, o_x_t_writtenNow)) : CtV l D cI cB yX12_writes cX12_writes 4 6 138 [.ref A_t, .int a1, .int a2] [oX12 A_t A_t_now A_t_aside A_t_kept A_t_rhymeOf A_t_wasRhyme A_t_wordAt x_t_wordMany A_t_tape x_t_taped x_t_place0 x_t_length0 x_t_fault x_t_number0 x_t_open x_t_codeMany x_t_waiting x_t_saidMany x_t_clauses A_t_said A_t_waitsAt A_t_saidLetter A_t_saidFrom A_t_saidHalf A_t_saidTo A_t_codes A_t_clauseOf A_t_codeFrom A_t_codeHalf A_t_codeTo A_t_stack A_t_facts x_t_lines A_t_newWords A_t_roundFrom A_t_roundAt A_t_roundTimes x_t_newMany x_t_rounds x_t_itFrom x_t_itTimes x_t_writtenNow x_t_picturesNow x_t_usedNow x_t_chosen x_t_fearOfChosen A_t_leastFrom A_t_rowNow x_t_changesNow x_t_left0 A_t_bornOf A_t_trainsTo A_t_trainAt x_t_trainMany x_t_leastTries x_t_firstTrained x_t_isKept, iA cI 16 A_t_clauseOf v_t_clauseOf, iA cI 16 A_t_codeFrom v_t_codeFrom, iA cI 16 A_t_codeHalf v_t_codeHalf, iA cI 16 A_t_codeTo v_t_codeTo, iA cI 260 A_t_codes v_t_codes, iA cI 10 A_t_facts v_t_facts, iA cI 293 A_t_now v_t_now, iA cI 16 A_t_rhymeOf v_t_rhymeOf, iA cI 260 A_t_stack v_t_stack] [oX12 A_t A_t_now A_t_aside A_t_kept A_t_rhymeOf A_t_wasRhyme A_t_wordAt x_t_wordMany A_t_tape x_t_taped x_t_place0 x_t_length0 x_t_fault x_t_number0 x_t_open x_t_codeMany x_t_waiting x_t_saidMany x_t_clauses A_t_said A_t_waitsAt A_t_saidLetter A_t_saidFrom A_t_saidHalf A_t_saidTo A_t_codes A_t_clauseOf A_t_codeFrom A_t_codeHalf A_t_codeTo A_t_stack A_t_facts x_t_lines A_t_newWords A_t_roundFrom A_t_roundAt A_t_roundTimes x_t_newMany x_t_rounds x_t_itFrom x_t_itTimes o_x_t_writtenNow o_x_t_picturesNow o_x_t_usedNow o_x_t_chosen o_x_t_fearOfChosen A_t_leastFrom A_t_rowNow x_t_changesNow x_t_left0 A_t_bornOf A_t_trainsTo A_t_trainAt x_t_trainMany x_t_leastTries x_t_firstTrained x_t_isKept, iA cI 16 A_t_clauseOf v_t_clauseOf, iA cI 16 A_t_codeFrom v_t_codeFrom, iA cI 16 A_t_codeHalf v_t_codeHalf, iA cI 16 A_t_codeTo v_t_codeTo, iA cI 260 A_t_codes v_t_codes, iA cI 10 A_t_facts o_v_t_facts, iA cI 293 A_t_now o_v_t_now, iA cI 16 A_t_rhymeOf v_t_rhymeOf, iA cI 260 A_t_stack o_v_t_stack] := by
  refine x_startV (by decide) (Nat.le_of_ble_eq_true rfl) ?_
  intro p e s m below meth c A C hr hlk hA hK hP hD hS ls hl
  have hl : lv_has ls 4 [(0, .ref A_t), (1, .int a1), (2, .int a2)] := hl
  have hx := C.1
  have hb := C.2.1
  unfold f_X12_writes at hf
  have hb_163 : ∀ (v_t_facts : (Nat → Int32)) (v_t_now : (Nat → Int32)) (v_t_stack : (Nat → Int32)) (x_t_chosen : Int32) (x_t_fearOfChosen : Int32) (x_t_picturesNow : Int32) (x_t_usedNow : Int32) (x_t_writtenNow : Int32) (l3 : Int32) (H : Heap) (locs : List Loc) (ls : Array Slot), lv_has ls 4 [(0, .ref A_t), (1, .int a1), (3, .int l3)] → va_P D vwCl [oX12 A_t A_t_now A_t_aside A_t_kept A_t_rhymeOf A_t_wasRhyme A_t_wordAt x_t_wordMany A_t_tape x_t_taped x_t_place0 x_t_length0 x_t_fault x_t_number0 x_t_open x_t_codeMany x_t_waiting x_t_saidMany x_t_clauses A_t_said A_t_waitsAt A_t_saidLetter A_t_saidFrom A_t_saidHalf A_t_saidTo A_t_codes A_t_clauseOf A_t_codeFrom A_t_codeHalf A_t_codeTo A_t_stack A_t_facts x_t_lines A_t_newWords A_t_roundFrom A_t_roundAt A_t_roundTimes x_t_newMany x_t_rounds x_t_itFrom x_t_itTimes x_t_writtenNow x_t_picturesNow x_t_usedNow x_t_chosen x_t_fearOfChosen A_t_leastFrom A_t_rowNow x_t_changesNow x_t_left0 A_t_bornOf A_t_trainsTo A_t_trainAt x_t_trainMany x_t_leastTries x_t_firstTrained x_t_isKept, iA cI 16 A_t_clauseOf v_t_clauseOf, iA cI 16 A_t_codeFrom v_t_codeFrom, iA cI 16 A_t_codeHalf v_t_codeHalf, iA cI 16 A_t_codeTo v_t_codeTo, iA cI 260 A_t_codes v_t_codes, iA cI 10 A_t_facts v_t_facts, iA cI 293 A_t_now v_t_now, iA cI 16 A_t_rhymeOf v_t_rhymeOf, iA cI 260 A_t_stack v_t_stack] H → va_D A [oX12 A_t A_t_now A_t_aside A_t_kept A_t_rhymeOf A_t_wasRhyme A_t_wordAt x_t_wordMany A_t_tape x_t_taped x_t_place0 x_t_length0 x_t_fault x_t_number0 x_t_open x_t_codeMany x_t_waiting x_t_saidMany x_t_clauses A_t_said A_t_waitsAt A_t_saidLetter A_t_saidFrom A_t_saidHalf A_t_saidTo A_t_codes A_t_clauseOf A_t_codeFrom A_t_codeHalf A_t_codeTo A_t_stack A_t_facts x_t_lines A_t_newWords A_t_roundFrom A_t_roundAt A_t_roundTimes x_t_newMany x_t_rounds x_t_itFrom x_t_itTimes x_t_writtenNow x_t_picturesNow x_t_usedNow x_t_chosen x_t_fearOfChosen A_t_leastFrom A_t_rowNow x_t_changesNow x_t_left0 A_t_bornOf A_t_trainsTo A_t_trainAt x_t_trainMany x_t_leastTries x_t_firstTrained x_t_isKept, iA cI 16 A_t_clauseOf v_t_clauseOf, iA cI 16 A_t_codeFrom v_t_codeFrom, iA cI 16 A_t_codeHalf v_t_codeHalf, iA cI 16 A_t_codeTo v_t_codeTo, iA cI 260 A_t_codes v_t_codes, iA cI 10 A_t_facts v_t_facts, iA cI 293 A_t_now v_t_now, iA cI 16 A_t_rhymeOf v_t_rhymeOf, iA cI 260 A_t_stack v_t_stack] → va_S A s.heap H locs → f_X12_writes_b163 v_t_rhymeOf a1 v_t_facts v_t_now v_t_stack x_t_chosen x_t_fearOfChosen x_t_picturesNow x_t_usedNow x_t_writtenNow l3 = some (o_v_t_facts, o_v_t_now, o_v_t_stack, o_x_t_chosen, o_x_t_fearOfChosen, o_x_t_picturesNow, o_x_t_usedNow, o_x_t_writtenNow) → W p l e { frames := 6, cells := 0, slots := 0, locals := 138 } s m ([.ref A_t, .int a1, .int a2] : List Value).toArray below meth c H locs 0 0 (MQ below (PoV D A [oX12 A_t A_t_now A_t_aside A_t_kept A_t_rhymeOf A_t_wasRhyme A_t_wordAt x_t_wordMany A_t_tape x_t_taped x_t_place0 x_t_length0 x_t_fault x_t_number0 x_t_open x_t_codeMany x_t_waiting x_t_saidMany x_t_clauses A_t_said A_t_waitsAt A_t_saidLetter A_t_saidFrom A_t_saidHalf A_t_saidTo A_t_codes A_t_clauseOf A_t_codeFrom A_t_codeHalf A_t_codeTo A_t_stack A_t_facts x_t_lines A_t_newWords A_t_roundFrom A_t_roundAt A_t_roundTimes x_t_newMany x_t_rounds x_t_itFrom x_t_itTimes o_x_t_writtenNow o_x_t_picturesNow o_x_t_usedNow o_x_t_chosen o_x_t_fearOfChosen A_t_leastFrom A_t_rowNow x_t_changesNow x_t_left0 A_t_bornOf A_t_trainsTo A_t_trainAt x_t_trainMany x_t_leastTries x_t_firstTrained x_t_isKept, iA cI 16 A_t_clauseOf v_t_clauseOf, iA cI 16 A_t_codeFrom v_t_codeFrom, iA cI 16 A_t_codeHalf v_t_codeHalf, iA cI 16 A_t_codeTo v_t_codeTo, iA cI 260 A_t_codes v_t_codes, iA cI 10 A_t_facts o_v_t_facts, iA cI 293 A_t_now o_v_t_now, iA cI 16 A_t_rhymeOf v_t_rhymeOf, iA cI 260 A_t_stack o_v_t_stack]) ([.ref A_t, .int a1, .int a2] : List Value).toArray s 0 0 A) (F0 m 163 ls []) := by
    intro v_t_facts v_t_now v_t_stack x_t_chosen x_t_fearOfChosen x_t_picturesNow x_t_usedNow x_t_writtenNow l3 H locs ls hl hP hD hS hf
    unfold f_X12_writes_b163 at hf
    refine lv_aload_n hx hb dX12_writes_163 rfl (lv_at hl 0 rfl) ?_
    refine x_get C hK hP fd_X12_7 0 rfl rfl dX12_writes_164 ?_
    refine lv_sipush (v := 160) hx hb dX12_writes_167 (by decide) ?_
    refine lv_iload_n hx hb dX12_writes_170 rfl (lv_at hl 2 rfl) ?_
    refine lv_iadd hx hb dX12_writes_171 ?_
    obtain ⟨hi, hf⟩ := gI_e hf
    refine x_iald C hK hP 7 rfl hi dX12_writes_172 ?_
    refine lv_bipush (v := 9) hx hb dX12_writes_173 (by decide) ?_
    refine lv_icmp_ge (tgt := 179) hx hb dX12_writes_175 (by decide) (fun q => ?_) (fun q => ?_)
    · have hf := if_t q hf
      refine lv_aload_n hx hb dX12_writes_179 rfl (lv_at hl 0 rfl) ?_
      refine lv_aload_n hx hb dX12_writes_180 rfl (lv_at hl 0 rfl) ?_
      refine x_get C hK hP fd_X12_303 0 rfl rfl dX12_writes_181 ?_
      refine lv_iload_n hx hb dX12_writes_184 rfl (lv_at hl 1 rfl) ?_
      obtain ⟨w1, hc2, hf⟩ := bd1_e hf
      refine x_callVV (ws' := [oX12 A_t A_t_now A_t_aside A_t_kept A_t_rhymeOf A_t_wasRhyme A_t_wordAt x_t_wordMany A_t_tape x_t_taped x_t_place0 x_t_length0 x_t_fault x_t_number0 x_t_open x_t_codeMany x_t_waiting x_t_saidMany x_t_clauses A_t_said A_t_waitsAt A_t_saidLetter A_t_saidFrom A_t_saidHalf A_t_saidTo A_t_codes A_t_clauseOf A_t_codeFrom A_t_codeHalf A_t_codeTo A_t_stack A_t_facts x_t_lines A_t_newWords A_t_roundFrom A_t_roundAt A_t_roundTimes x_t_newMany x_t_rounds x_t_itFrom x_t_itTimes x_t_writtenNow x_t_picturesNow x_t_usedNow x_t_chosen x_t_fearOfChosen A_t_leastFrom A_t_rowNow x_t_changesNow x_t_left0 A_t_bornOf A_t_trainsTo A_t_trainAt x_t_trainMany x_t_leastTries x_t_firstTrained x_t_isKept, iA cI 16 A_t_clauseOf v_t_clauseOf, iA cI 16 A_t_codeFrom v_t_codeFrom, iA cI 16 A_t_codeHalf v_t_codeHalf, iA cI 16 A_t_codeTo v_t_codeTo, iA cI 260 A_t_codes v_t_codes, iA cI 10 A_t_facts v_t_facts, iA cI 293 A_t_now w1, iA cI 16 A_t_rhymeOf v_t_rhymeOf, iA cI 260 A_t_stack v_t_stack]) (rest := []) C hK hP hD hS hA hl mf_X12_333 (c_X12_isUsedTo hc2) [0, 7, 8] 0 12 rfl rfl rfl rfl rfl rfl rfl rfl rfl rfl (Nat.le_of_ble_eq_true rfl) ⟨Nat.le_of_ble_eq_true rfl, Nat.le_of_ble_eq_true rfl⟩ ⟨Nat.le_refl _, Nat.le_refl _⟩ dX12_writes_185 ?_
      intro H locs hP hD hS
      refine lv_aload_n hx hb dX12_writes_188 rfl (lv_at hl 0 rfl) ?_
      refine lv_aload_n hx hb dX12_writes_189 rfl (lv_at hl 0 rfl) ?_
      refine x_get C hK hP fd_X12_336 0 rfl rfl dX12_writes_190 ?_
      refine lv_iconst (v := 1) hx hb dX12_writes_193 (by decide) ?_
      refine lv_iadd hx hb dX12_writes_194 ?_
      refine x_put (ws' := [oX12 A_t A_t_now A_t_aside A_t_kept A_t_rhymeOf A_t_wasRhyme A_t_wordAt x_t_wordMany A_t_tape x_t_taped x_t_place0 x_t_length0 x_t_fault x_t_number0 x_t_open x_t_codeMany x_t_waiting x_t_saidMany x_t_clauses A_t_said A_t_waitsAt A_t_saidLetter A_t_saidFrom A_t_saidHalf A_t_saidTo A_t_codes A_t_clauseOf A_t_codeFrom A_t_codeHalf A_t_codeTo A_t_stack A_t_facts x_t_lines A_t_newWords A_t_roundFrom A_t_roundAt A_t_roundTimes x_t_newMany x_t_rounds x_t_itFrom x_t_itTimes x_t_writtenNow x_t_picturesNow (x_t_usedNow + (1 : Int32)) x_t_chosen x_t_fearOfChosen A_t_leastFrom A_t_rowNow x_t_changesNow x_t_left0 A_t_bornOf A_t_trainsTo A_t_trainAt x_t_trainMany x_t_leastTries x_t_firstTrained x_t_isKept, iA cI 16 A_t_clauseOf v_t_clauseOf, iA cI 16 A_t_codeFrom v_t_codeFrom, iA cI 16 A_t_codeHalf v_t_codeHalf, iA cI 16 A_t_codeTo v_t_codeTo, iA cI 260 A_t_codes v_t_codes, iA cI 10 A_t_facts v_t_facts, iA cI 293 A_t_now w1, iA cI 16 A_t_rhymeOf v_t_rhymeOf, iA cI 260 A_t_stack v_t_stack]) C hK hP hD hS fp_X12_336 0 rfl rfl rfl (Nat.le_of_ble_eq_true rfl) rfl dX12_writes_195 ?_
      intro H locs hP hD hS
      obtain ⟨rfl, rfl, rfl, rfl, rfl, rfl, rfl, rfl⟩ := ev8 hf
      exact x_vret C hr hlk hP hD hS dX12_writes_198
    · have hf := if_f q hf
      obtain ⟨rfl, rfl, rfl, rfl, rfl, rfl, rfl, rfl⟩ := ev8 hf
      exact x_vret C hr hlk hP hD hS dX12_writes_178
  refine lv_aload_n hx hb dX12_writes_0 rfl (lv_at hl 0 rfl) ?_
  refine x_get C hK hP fd_X12_7 0 rfl rfl dX12_writes_1 ?_
  refine lv_sipush (v := 292) hx hb dX12_writes_4 (by decide) ?_
  refine lv_aload_n hx hb dX12_writes_7 rfl (lv_at hl 0 rfl) ?_
  refine x_get C hK hP fd_X12_7 0 rfl rfl dX12_writes_8 ?_
  refine lv_sipush (v := 292) hx hb dX12_writes_11 (by decide) ?_
  obtain ⟨hi, hf⟩ := gI_e hf
  refine x_iald C hK hP 7 rfl hi dX12_writes_14 ?_
  obtain ⟨r3, hc4, hf⟩ := bd1_e hf
  refine x_callSI (ws' := [oX12 A_t A_t_now A_t_aside A_t_kept A_t_rhymeOf A_t_wasRhyme A_t_wordAt x_t_wordMany A_t_tape x_t_taped x_t_place0 x_t_length0 x_t_fault x_t_number0 x_t_open x_t_codeMany x_t_waiting x_t_saidMany x_t_clauses A_t_said A_t_waitsAt A_t_saidLetter A_t_saidFrom A_t_saidHalf A_t_saidTo A_t_codes A_t_clauseOf A_t_codeFrom A_t_codeHalf A_t_codeTo A_t_stack A_t_facts x_t_lines A_t_newWords A_t_roundFrom A_t_roundAt A_t_roundTimes x_t_newMany x_t_rounds x_t_itFrom x_t_itTimes x_t_writtenNow x_t_picturesNow x_t_usedNow x_t_chosen x_t_fearOfChosen A_t_leastFrom A_t_rowNow x_t_changesNow x_t_left0 A_t_bornOf A_t_trainsTo A_t_trainAt x_t_trainMany x_t_leastTries x_t_firstTrained x_t_isKept, iA cI 16 A_t_clauseOf v_t_clauseOf, iA cI 16 A_t_codeFrom v_t_codeFrom, iA cI 16 A_t_codeHalf v_t_codeHalf, iA cI 16 A_t_codeTo v_t_codeTo, iA cI 260 A_t_codes v_t_codes, iA cI 10 A_t_facts v_t_facts, iA cI 293 A_t_now v_t_now, iA cI 16 A_t_rhymeOf v_t_rhymeOf, iA cI 260 A_t_stack v_t_stack]) (rest := [.int (292 : Int32), .ref A_t_now]) C hK hP hD hS hA hl mf_X12_137 (c_X12_nextLot hc4) [] rfl rfl rfl rfl rfl rfl rfl rfl (Nat.le_of_ble_eq_true rfl) ⟨Nat.le_of_ble_eq_true rfl, Nat.le_of_ble_eq_true rfl⟩ ⟨Nat.le_refl _, Nat.le_refl _⟩ dX12_writes_15 ?_
  intro H locs hP hD hS
  obtain ⟨hi, hf⟩ := sI_e hf
  refine x_iast (ws' := [oX12 A_t A_t_now A_t_aside A_t_kept A_t_rhymeOf A_t_wasRhyme A_t_wordAt x_t_wordMany A_t_tape x_t_taped x_t_place0 x_t_length0 x_t_fault x_t_number0 x_t_open x_t_codeMany x_t_waiting x_t_saidMany x_t_clauses A_t_said A_t_waitsAt A_t_saidLetter A_t_saidFrom A_t_saidHalf A_t_saidTo A_t_codes A_t_clauseOf A_t_codeFrom A_t_codeHalf A_t_codeTo A_t_stack A_t_facts x_t_lines A_t_newWords A_t_roundFrom A_t_roundAt A_t_roundTimes x_t_newMany x_t_rounds x_t_itFrom x_t_itTimes x_t_writtenNow x_t_picturesNow x_t_usedNow x_t_chosen x_t_fearOfChosen A_t_leastFrom A_t_rowNow x_t_changesNow x_t_left0 A_t_bornOf A_t_trainsTo A_t_trainAt x_t_trainMany x_t_leastTries x_t_firstTrained x_t_isKept, iA cI 16 A_t_clauseOf v_t_clauseOf, iA cI 16 A_t_codeFrom v_t_codeFrom, iA cI 16 A_t_codeHalf v_t_codeHalf, iA cI 16 A_t_codeTo v_t_codeTo, iA cI 260 A_t_codes v_t_codes, iA cI 10 A_t_facts v_t_facts, iA cI 293 A_t_now (upd v_t_now (292 : Int32).toNatClampNeg r3), iA cI 16 A_t_rhymeOf v_t_rhymeOf, iA cI 260 A_t_stack v_t_stack]) C hK hP hD hS 7 rfl hi rfl dX12_writes_18 ?_
  intro H locs hP hD hS
  refine lv_aload_n hx hb dX12_writes_19 rfl (lv_at hl 0 rfl) ?_
  refine lv_iload_n hx hb dX12_writes_20 rfl (lv_at hl 1 rfl) ?_
  refine lv_iload_n hx hb dX12_writes_21 rfl (lv_at hl 2 rfl) ?_
  refine lv_aload_n hx hb dX12_writes_22 rfl (lv_at hl 0 rfl) ?_
  refine x_get C hK hP fd_X12_7 0 rfl rfl dX12_writes_23 ?_
  refine lv_sipush (v := 292) hx hb dX12_writes_26 (by decide) ?_
  obtain ⟨hi, hf⟩ := gI_e hf
  refine x_iald C hK hP 7 rfl hi dX12_writes_29 ?_
  refine lv_bipush (v := 10) hx hb dX12_writes_30 (by decide) ?_
  obtain ⟨hz, hf⟩ := rI_e hf
  refine lv_irem hx hb dX12_writes_32 hz ?_
  obtain ⟨w5, w6, w7, w8, hc9, hf⟩ := bd4_e hf
  refine x_callVV (ws' := [oX12 A_t A_t_now A_t_aside A_t_kept A_t_rhymeOf A_t_wasRhyme A_t_wordAt x_t_wordMany A_t_tape x_t_taped x_t_place0 x_t_length0 x_t_fault x_t_number0 x_t_open x_t_codeMany x_t_waiting x_t_saidMany x_t_clauses A_t_said A_t_waitsAt A_t_saidLetter A_t_saidFrom A_t_saidHalf A_t_saidTo A_t_codes A_t_clauseOf A_t_codeFrom A_t_codeHalf A_t_codeTo A_t_stack A_t_facts x_t_lines A_t_newWords A_t_roundFrom A_t_roundAt A_t_roundTimes x_t_newMany x_t_rounds x_t_itFrom x_t_itTimes x_t_writtenNow x_t_picturesNow x_t_usedNow w7 w8 A_t_leastFrom A_t_rowNow x_t_changesNow x_t_left0 A_t_bornOf A_t_trainsTo A_t_trainAt x_t_trainMany x_t_leastTries x_t_firstTrained x_t_isKept, iA cI 16 A_t_clauseOf v_t_clauseOf, iA cI 16 A_t_codeFrom v_t_codeFrom, iA cI 16 A_t_codeHalf v_t_codeHalf, iA cI 16 A_t_codeTo v_t_codeTo, iA cI 260 A_t_codes v_t_codes, iA cI 10 A_t_facts w5, iA cI 293 A_t_now (upd v_t_now (292 : Int32).toNatClampNeg r3), iA cI 16 A_t_rhymeOf v_t_rhymeOf, iA cI 260 A_t_stack w6]) (rest := []) C hK hP hD hS hA hl mf_X12_323 (c_X12_choosesFor hc9) [0, 1, 2, 3, 4, 5, 6, 7, 8, 9] 0 12 rfl rfl rfl rfl rfl rfl rfl rfl rfl rfl (Nat.le_of_ble_eq_true rfl) ⟨Nat.le_of_ble_eq_true rfl, Nat.le_of_ble_eq_true rfl⟩ ⟨Nat.le_refl _, Nat.le_refl _⟩ dX12_writes_33 ?_
  intro H locs hP hD hS
  refine lv_aload_n hx hb dX12_writes_36 rfl (lv_at hl 0 rfl) ?_
  refine x_get C hK hP fd_X12_303 0 rfl rfl dX12_writes_37 ?_
  refine lv_iconst (v := -1) hx hb dX12_writes_40 (by decide) ?_
  refine lv_icmp_ne (tgt := 49) hx hb dX12_writes_41 (by decide) (fun q => ?_) (fun q => ?_)
  · have hf := if_f q hf
    refine lv_bipush (v := 16) hx hb dX12_writes_49 (by decide) ?_
    refine lv_aload_n hx hb dX12_writes_51 rfl (lv_at hl 0 rfl) ?_
    refine x_get C hK hP fd_X12_303 0 rfl rfl dX12_writes_52 ?_
    refine lv_imul hx hb dX12_writes_55 ?_
    refine lv_iload_n hx hb dX12_writes_56 rfl (lv_at hl 1 rfl) ?_
    refine lv_iadd hx hb dX12_writes_57 ?_
    refine lv_istore_n (lv' := [(3, .int (((16 : Int32) * w7) + a1)), (0, .ref A_t), (1, .int a1), (2, .int a2)]) hx hb dX12_writes_58 rfl hl (by decide) rfl (fun ls hl => ?_)
    refine lv_aload_n hx hb dX12_writes_59 rfl (lv_at hl 1 rfl) ?_
    refine x_get C hK hP fd_X12_7 0 rfl rfl dX12_writes_60 ?_
    refine lv_bipush (v := 24) hx hb dX12_writes_63 (by decide) ?_
    refine lv_aload_n hx hb dX12_writes_65 rfl (lv_at hl 1 rfl) ?_
    refine x_get C hK hP fd_X12_303 0 rfl rfl dX12_writes_66 ?_
    refine lv_iadd hx hb dX12_writes_69 ?_
    refine lv_aload_n hx hb dX12_writes_70 rfl (lv_at hl 1 rfl) ?_
    refine x_get C hK hP fd_X12_7 0 rfl rfl dX12_writes_71 ?_
    refine lv_bipush (v := 24) hx hb dX12_writes_74 (by decide) ?_
    refine lv_aload_n hx hb dX12_writes_76 rfl (lv_at hl 1 rfl) ?_
    refine x_get C hK hP fd_X12_303 0 rfl rfl dX12_writes_77 ?_
    refine lv_iadd hx hb dX12_writes_80 ?_
    obtain ⟨hi, hf⟩ := gI_e hf
    refine x_iald C hK hP 7 rfl hi dX12_writes_81 ?_
    refine lv_iconst (v := 1) hx hb dX12_writes_82 (by decide) ?_
    refine lv_isub hx hb dX12_writes_83 ?_
    obtain ⟨hi, hf⟩ := sI_e hf
    refine x_iast (ws' := [oX12 A_t A_t_now A_t_aside A_t_kept A_t_rhymeOf A_t_wasRhyme A_t_wordAt x_t_wordMany A_t_tape x_t_taped x_t_place0 x_t_length0 x_t_fault x_t_number0 x_t_open x_t_codeMany x_t_waiting x_t_saidMany x_t_clauses A_t_said A_t_waitsAt A_t_saidLetter A_t_saidFrom A_t_saidHalf A_t_saidTo A_t_codes A_t_clauseOf A_t_codeFrom A_t_codeHalf A_t_codeTo A_t_stack A_t_facts x_t_lines A_t_newWords A_t_roundFrom A_t_roundAt A_t_roundTimes x_t_newMany x_t_rounds x_t_itFrom x_t_itTimes x_t_writtenNow x_t_picturesNow x_t_usedNow w7 w8 A_t_leastFrom A_t_rowNow x_t_changesNow x_t_left0 A_t_bornOf A_t_trainsTo A_t_trainAt x_t_trainMany x_t_leastTries x_t_firstTrained x_t_isKept, iA cI 16 A_t_clauseOf v_t_clauseOf, iA cI 16 A_t_codeFrom v_t_codeFrom, iA cI 16 A_t_codeHalf v_t_codeHalf, iA cI 16 A_t_codeTo v_t_codeTo, iA cI 260 A_t_codes v_t_codes, iA cI 10 A_t_facts w5, iA cI 293 A_t_now (upd (upd v_t_now (292 : Int32).toNatClampNeg r3) ((24 : Int32) + w7).toNatClampNeg (((upd v_t_now (292 : Int32).toNatClampNeg r3) ((24 : Int32) + w7).toNatClampNeg) - (1 : Int32))), iA cI 16 A_t_rhymeOf v_t_rhymeOf, iA cI 260 A_t_stack w6]) C hK hP hD hS 7 rfl hi rfl dX12_writes_84 ?_
    intro H locs hP hD hS
    refine lv_aload_n hx hb dX12_writes_85 rfl (lv_at hl 1 rfl) ?_
    refine x_get C hK hP fd_X12_7 0 rfl rfl dX12_writes_86 ?_
    refine lv_sipush (v := 160) hx hb dX12_writes_89 (by decide) ?_
    refine lv_iload_n hx hb dX12_writes_92 rfl (lv_at hl 0 rfl) ?_
    refine lv_iadd hx hb dX12_writes_93 ?_
    refine lv_aload_n hx hb dX12_writes_94 rfl (lv_at hl 1 rfl) ?_
    refine x_get C hK hP fd_X12_7 0 rfl rfl dX12_writes_95 ?_
    refine lv_sipush (v := 160) hx hb dX12_writes_98 (by decide) ?_
    refine lv_iload_n hx hb dX12_writes_101 rfl (lv_at hl 0 rfl) ?_
    refine lv_iadd hx hb dX12_writes_102 ?_
    obtain ⟨hi, hf⟩ := gI_e hf
    refine x_iald C hK hP 7 rfl hi dX12_writes_103 ?_
    refine lv_iconst (v := 1) hx hb dX12_writes_104 (by decide) ?_
    refine lv_iadd hx hb dX12_writes_105 ?_
    obtain ⟨hi, hf⟩ := sI_e hf
    refine x_iast (ws' := [oX12 A_t A_t_now A_t_aside A_t_kept A_t_rhymeOf A_t_wasRhyme A_t_wordAt x_t_wordMany A_t_tape x_t_taped x_t_place0 x_t_length0 x_t_fault x_t_number0 x_t_open x_t_codeMany x_t_waiting x_t_saidMany x_t_clauses A_t_said A_t_waitsAt A_t_saidLetter A_t_saidFrom A_t_saidHalf A_t_saidTo A_t_codes A_t_clauseOf A_t_codeFrom A_t_codeHalf A_t_codeTo A_t_stack A_t_facts x_t_lines A_t_newWords A_t_roundFrom A_t_roundAt A_t_roundTimes x_t_newMany x_t_rounds x_t_itFrom x_t_itTimes x_t_writtenNow x_t_picturesNow x_t_usedNow w7 w8 A_t_leastFrom A_t_rowNow x_t_changesNow x_t_left0 A_t_bornOf A_t_trainsTo A_t_trainAt x_t_trainMany x_t_leastTries x_t_firstTrained x_t_isKept, iA cI 16 A_t_clauseOf v_t_clauseOf, iA cI 16 A_t_codeFrom v_t_codeFrom, iA cI 16 A_t_codeHalf v_t_codeHalf, iA cI 16 A_t_codeTo v_t_codeTo, iA cI 260 A_t_codes v_t_codes, iA cI 10 A_t_facts w5, iA cI 293 A_t_now (upd (upd (upd v_t_now (292 : Int32).toNatClampNeg r3) ((24 : Int32) + w7).toNatClampNeg (((upd v_t_now (292 : Int32).toNatClampNeg r3) ((24 : Int32) + w7).toNatClampNeg) - (1 : Int32))) ((160 : Int32) + (((16 : Int32) * w7) + a1)).toNatClampNeg (((upd (upd v_t_now (292 : Int32).toNatClampNeg r3) ((24 : Int32) + w7).toNatClampNeg (((upd v_t_now (292 : Int32).toNatClampNeg r3) ((24 : Int32) + w7).toNatClampNeg) - (1 : Int32))) ((160 : Int32) + (((16 : Int32) * w7) + a1)).toNatClampNeg) + (1 : Int32))), iA cI 16 A_t_rhymeOf v_t_rhymeOf, iA cI 260 A_t_stack w6]) C hK hP hD hS 7 rfl hi rfl dX12_writes_106 ?_
    intro H locs hP hD hS
    refine lv_aload_n hx hb dX12_writes_107 rfl (lv_at hl 1 rfl) ?_
    refine x_get C hK hP fd_X12_307 0 rfl rfl dX12_writes_108 ?_
    refine lv_aload_n hx hb dX12_writes_111 rfl (lv_at hl 1 rfl) ?_
    refine x_get C hK hP fd_X12_7 0 rfl rfl dX12_writes_112 ?_
    refine lv_sipush (v := 288) hx hb dX12_writes_115 (by decide) ?_
    obtain ⟨hi, hf⟩ := gI_e hf
    refine x_iald C hK hP 7 rfl hi dX12_writes_118 ?_
    refine lv_icmp_gt (tgt := 159) hx hb dX12_writes_119 (by decide) (fun q => ?_) (fun q => ?_)
    · have hf := if_t q hf
      refine lv_aload_n hx hb dX12_writes_159 rfl (lv_at hl 1 rfl) ?_
      obtain ⟨w10, w11, hc12, hf⟩ := bd2_e hf
      refine x_callVV (ws' := [oX12 A_t A_t_now A_t_aside A_t_kept A_t_rhymeOf A_t_wasRhyme A_t_wordAt x_t_wordMany A_t_tape x_t_taped x_t_place0 x_t_length0 x_t_fault x_t_number0 x_t_open x_t_codeMany x_t_waiting x_t_saidMany x_t_clauses A_t_said A_t_waitsAt A_t_saidLetter A_t_saidFrom A_t_saidHalf A_t_saidTo A_t_codes A_t_clauseOf A_t_codeFrom A_t_codeHalf A_t_codeTo A_t_stack A_t_facts x_t_lines A_t_newWords A_t_roundFrom A_t_roundAt A_t_roundTimes x_t_newMany x_t_rounds x_t_itFrom x_t_itTimes x_t_writtenNow w11 x_t_usedNow w7 w8 A_t_leastFrom A_t_rowNow x_t_changesNow x_t_left0 A_t_bornOf A_t_trainsTo A_t_trainAt x_t_trainMany x_t_leastTries x_t_firstTrained x_t_isKept, iA cI 16 A_t_clauseOf v_t_clauseOf, iA cI 16 A_t_codeFrom v_t_codeFrom, iA cI 16 A_t_codeHalf v_t_codeHalf, iA cI 16 A_t_codeTo v_t_codeTo, iA cI 260 A_t_codes v_t_codes, iA cI 10 A_t_facts w5, iA cI 293 A_t_now w10, iA cI 16 A_t_rhymeOf v_t_rhymeOf, iA cI 260 A_t_stack w6]) (rest := []) C hK hP hD hS hA hl mf_X12_327 (c_X12_beadsUp hc12) [0, 7] 0 12 rfl rfl rfl rfl rfl rfl rfl rfl rfl rfl (Nat.le_of_ble_eq_true rfl) ⟨Nat.le_of_ble_eq_true rfl, Nat.le_of_ble_eq_true rfl⟩ ⟨Nat.le_refl _, Nat.le_refl _⟩ dX12_writes_160 ?_
      intro H locs hP hD hS
      exact hb_163 w5 w10 w6 w7 w8 w11 x_t_usedNow x_t_writtenNow (((16 : Int32) * w7) + a1) _ _ ls (lv_sub hl [1, 2, 0] rfl) hP hD hS hf
    · have hf := if_f q hf
      refine lv_aload_n hx hb dX12_writes_122 rfl (lv_at hl 1 rfl) ?_
      refine x_get C hK hP fd_X12_7 0 rfl rfl dX12_writes_123 ?_
      refine lv_sipush (v := 290) hx hb dX12_writes_126 (by decide) ?_
      refine lv_sipush (v := 9999) hx hb dX12_writes_129 (by decide) ?_
      refine lv_aload_n hx hb dX12_writes_132 rfl (lv_at hl 1 rfl) ?_
      refine x_get C hK hP fd_X12_7 0 rfl rfl dX12_writes_133 ?_
      refine lv_sipush (v := 290) hx hb dX12_writes_136 (by decide) ?_
      obtain ⟨hi, hf⟩ := gI_e hf
      refine x_iald C hK hP 7 rfl hi dX12_writes_139 ?_
      refine lv_iconst (v := 1) hx hb dX12_writes_140 (by decide) ?_
      refine lv_iadd hx hb dX12_writes_141 ?_
      obtain ⟨r13, hc14, hf⟩ := bd1_e hf
      refine x_callSI (ws' := [oX12 A_t A_t_now A_t_aside A_t_kept A_t_rhymeOf A_t_wasRhyme A_t_wordAt x_t_wordMany A_t_tape x_t_taped x_t_place0 x_t_length0 x_t_fault x_t_number0 x_t_open x_t_codeMany x_t_waiting x_t_saidMany x_t_clauses A_t_said A_t_waitsAt A_t_saidLetter A_t_saidFrom A_t_saidHalf A_t_saidTo A_t_codes A_t_clauseOf A_t_codeFrom A_t_codeHalf A_t_codeTo A_t_stack A_t_facts x_t_lines A_t_newWords A_t_roundFrom A_t_roundAt A_t_roundTimes x_t_newMany x_t_rounds x_t_itFrom x_t_itTimes x_t_writtenNow x_t_picturesNow x_t_usedNow w7 w8 A_t_leastFrom A_t_rowNow x_t_changesNow x_t_left0 A_t_bornOf A_t_trainsTo A_t_trainAt x_t_trainMany x_t_leastTries x_t_firstTrained x_t_isKept, iA cI 16 A_t_clauseOf v_t_clauseOf, iA cI 16 A_t_codeFrom v_t_codeFrom, iA cI 16 A_t_codeHalf v_t_codeHalf, iA cI 16 A_t_codeTo v_t_codeTo, iA cI 260 A_t_codes v_t_codes, iA cI 10 A_t_facts w5, iA cI 293 A_t_now (upd (upd (upd v_t_now (292 : Int32).toNatClampNeg r3) ((24 : Int32) + w7).toNatClampNeg (((upd v_t_now (292 : Int32).toNatClampNeg r3) ((24 : Int32) + w7).toNatClampNeg) - (1 : Int32))) ((160 : Int32) + (((16 : Int32) * w7) + a1)).toNatClampNeg (((upd (upd v_t_now (292 : Int32).toNatClampNeg r3) ((24 : Int32) + w7).toNatClampNeg (((upd v_t_now (292 : Int32).toNatClampNeg r3) ((24 : Int32) + w7).toNatClampNeg) - (1 : Int32))) ((160 : Int32) + (((16 : Int32) * w7) + a1)).toNatClampNeg) + (1 : Int32))), iA cI 16 A_t_rhymeOf v_t_rhymeOf, iA cI 260 A_t_stack w6]) (rest := [.int (290 : Int32), .ref A_t_now]) C hK hP hD hS hA hl mf_X12_98 (c_X12_min hc14) [] rfl rfl rfl rfl rfl rfl rfl rfl (Nat.le_of_ble_eq_true rfl) ⟨Nat.le_of_ble_eq_true rfl, Nat.le_of_ble_eq_true rfl⟩ ⟨Nat.le_refl _, Nat.le_refl _⟩ dX12_writes_142 ?_
      intro H locs hP hD hS
      obtain ⟨hi, hf⟩ := sI_e hf
      refine x_iast (ws' := [oX12 A_t A_t_now A_t_aside A_t_kept A_t_rhymeOf A_t_wasRhyme A_t_wordAt x_t_wordMany A_t_tape x_t_taped x_t_place0 x_t_length0 x_t_fault x_t_number0 x_t_open x_t_codeMany x_t_waiting x_t_saidMany x_t_clauses A_t_said A_t_waitsAt A_t_saidLetter A_t_saidFrom A_t_saidHalf A_t_saidTo A_t_codes A_t_clauseOf A_t_codeFrom A_t_codeHalf A_t_codeTo A_t_stack A_t_facts x_t_lines A_t_newWords A_t_roundFrom A_t_roundAt A_t_roundTimes x_t_newMany x_t_rounds x_t_itFrom x_t_itTimes x_t_writtenNow x_t_picturesNow x_t_usedNow w7 w8 A_t_leastFrom A_t_rowNow x_t_changesNow x_t_left0 A_t_bornOf A_t_trainsTo A_t_trainAt x_t_trainMany x_t_leastTries x_t_firstTrained x_t_isKept, iA cI 16 A_t_clauseOf v_t_clauseOf, iA cI 16 A_t_codeFrom v_t_codeFrom, iA cI 16 A_t_codeHalf v_t_codeHalf, iA cI 16 A_t_codeTo v_t_codeTo, iA cI 260 A_t_codes v_t_codes, iA cI 10 A_t_facts w5, iA cI 293 A_t_now (upd (upd (upd (upd v_t_now (292 : Int32).toNatClampNeg r3) ((24 : Int32) + w7).toNatClampNeg (((upd v_t_now (292 : Int32).toNatClampNeg r3) ((24 : Int32) + w7).toNatClampNeg) - (1 : Int32))) ((160 : Int32) + (((16 : Int32) * w7) + a1)).toNatClampNeg (((upd (upd v_t_now (292 : Int32).toNatClampNeg r3) ((24 : Int32) + w7).toNatClampNeg (((upd v_t_now (292 : Int32).toNatClampNeg r3) ((24 : Int32) + w7).toNatClampNeg) - (1 : Int32))) ((160 : Int32) + (((16 : Int32) * w7) + a1)).toNatClampNeg) + (1 : Int32))) (290 : Int32).toNatClampNeg r13), iA cI 16 A_t_rhymeOf v_t_rhymeOf, iA cI 260 A_t_stack w6]) C hK hP hD hS 7 rfl hi rfl dX12_writes_145 ?_
      intro H locs hP hD hS
      refine lv_aload_n hx hb dX12_writes_146 rfl (lv_at hl 1 rfl) ?_
      refine lv_aload_n hx hb dX12_writes_147 rfl (lv_at hl 1 rfl) ?_
      refine x_get C hK hP fd_X12_330 0 rfl rfl dX12_writes_148 ?_
      refine lv_iconst (v := 1) hx hb dX12_writes_151 (by decide) ?_
      refine lv_iadd hx hb dX12_writes_152 ?_
      refine x_put (ws' := [oX12 A_t A_t_now A_t_aside A_t_kept A_t_rhymeOf A_t_wasRhyme A_t_wordAt x_t_wordMany A_t_tape x_t_taped x_t_place0 x_t_length0 x_t_fault x_t_number0 x_t_open x_t_codeMany x_t_waiting x_t_saidMany x_t_clauses A_t_said A_t_waitsAt A_t_saidLetter A_t_saidFrom A_t_saidHalf A_t_saidTo A_t_codes A_t_clauseOf A_t_codeFrom A_t_codeHalf A_t_codeTo A_t_stack A_t_facts x_t_lines A_t_newWords A_t_roundFrom A_t_roundAt A_t_roundTimes x_t_newMany x_t_rounds x_t_itFrom x_t_itTimes (x_t_writtenNow + (1 : Int32)) x_t_picturesNow x_t_usedNow w7 w8 A_t_leastFrom A_t_rowNow x_t_changesNow x_t_left0 A_t_bornOf A_t_trainsTo A_t_trainAt x_t_trainMany x_t_leastTries x_t_firstTrained x_t_isKept, iA cI 16 A_t_clauseOf v_t_clauseOf, iA cI 16 A_t_codeFrom v_t_codeFrom, iA cI 16 A_t_codeHalf v_t_codeHalf, iA cI 16 A_t_codeTo v_t_codeTo, iA cI 260 A_t_codes v_t_codes, iA cI 10 A_t_facts w5, iA cI 293 A_t_now (upd (upd (upd (upd v_t_now (292 : Int32).toNatClampNeg r3) ((24 : Int32) + w7).toNatClampNeg (((upd v_t_now (292 : Int32).toNatClampNeg r3) ((24 : Int32) + w7).toNatClampNeg) - (1 : Int32))) ((160 : Int32) + (((16 : Int32) * w7) + a1)).toNatClampNeg (((upd (upd v_t_now (292 : Int32).toNatClampNeg r3) ((24 : Int32) + w7).toNatClampNeg (((upd v_t_now (292 : Int32).toNatClampNeg r3) ((24 : Int32) + w7).toNatClampNeg) - (1 : Int32))) ((160 : Int32) + (((16 : Int32) * w7) + a1)).toNatClampNeg) + (1 : Int32))) (290 : Int32).toNatClampNeg r13), iA cI 16 A_t_rhymeOf v_t_rhymeOf, iA cI 260 A_t_stack w6]) C hK hP hD hS fp_X12_330 0 rfl rfl rfl (Nat.le_of_ble_eq_true rfl) rfl dX12_writes_153 ?_
      intro H locs hP hD hS
      refine lv_goto (tgt := 163) hx hb dX12_writes_156 (by decide) ?_
      exact hb_163 w5 (upd (upd (upd (upd v_t_now (292 : Int32).toNatClampNeg r3) ((24 : Int32) + w7).toNatClampNeg (((upd v_t_now (292 : Int32).toNatClampNeg r3) ((24 : Int32) + w7).toNatClampNeg) - (1 : Int32))) ((160 : Int32) + (((16 : Int32) * w7) + a1)).toNatClampNeg (((upd (upd v_t_now (292 : Int32).toNatClampNeg r3) ((24 : Int32) + w7).toNatClampNeg (((upd v_t_now (292 : Int32).toNatClampNeg r3) ((24 : Int32) + w7).toNatClampNeg) - (1 : Int32))) ((160 : Int32) + (((16 : Int32) * w7) + a1)).toNatClampNeg) + (1 : Int32))) (290 : Int32).toNatClampNeg r13) w6 w7 w8 x_t_picturesNow x_t_usedNow (x_t_writtenNow + (1 : Int32)) (((16 : Int32) * w7) + a1) _ _ ls (lv_sub hl [1, 2, 0] rfl) hP hD hS hf
  · have hf := if_t q hf
    refine lv_aload_n hx hb dX12_writes_44 rfl (lv_at hl 0 rfl) ?_
    obtain ⟨w15, w16, hc17, hf⟩ := bd2_e hf
    refine x_callVV (ws' := [oX12 A_t A_t_now A_t_aside A_t_kept A_t_rhymeOf A_t_wasRhyme A_t_wordAt x_t_wordMany A_t_tape x_t_taped x_t_place0 x_t_length0 x_t_fault x_t_number0 x_t_open x_t_codeMany x_t_waiting x_t_saidMany x_t_clauses A_t_said A_t_waitsAt A_t_saidLetter A_t_saidFrom A_t_saidHalf A_t_saidTo A_t_codes A_t_clauseOf A_t_codeFrom A_t_codeHalf A_t_codeTo A_t_stack A_t_facts x_t_lines A_t_newWords A_t_roundFrom A_t_roundAt A_t_roundTimes x_t_newMany x_t_rounds x_t_itFrom x_t_itTimes x_t_writtenNow w16 x_t_usedNow w7 w8 A_t_leastFrom A_t_rowNow x_t_changesNow x_t_left0 A_t_bornOf A_t_trainsTo A_t_trainAt x_t_trainMany x_t_leastTries x_t_firstTrained x_t_isKept, iA cI 16 A_t_clauseOf v_t_clauseOf, iA cI 16 A_t_codeFrom v_t_codeFrom, iA cI 16 A_t_codeHalf v_t_codeHalf, iA cI 16 A_t_codeTo v_t_codeTo, iA cI 260 A_t_codes v_t_codes, iA cI 10 A_t_facts w5, iA cI 293 A_t_now w15, iA cI 16 A_t_rhymeOf v_t_rhymeOf, iA cI 260 A_t_stack w6]) (rest := []) C hK hP hD hS hA hl mf_X12_327 (c_X12_beadsUp hc17) [0, 7] 0 12 rfl rfl rfl rfl rfl rfl rfl rfl rfl rfl (Nat.le_of_ble_eq_true rfl) ⟨Nat.le_of_ble_eq_true rfl, Nat.le_of_ble_eq_true rfl⟩ ⟨Nat.le_refl _, Nat.le_refl _⟩ dX12_writes_45 ?_
    intro H locs hP hD hS
    obtain ⟨rfl, rfl, rfl, rfl, rfl, rfl, rfl, rfl⟩ := ev8 hf
    exact x_vret C hr hlk hP hD hS dX12_writes_48
def f_X12_dayGoes_b2 (v_t_clauseOf : (Nat → Int32)) (v_t_codeFrom : (Nat → Int32)) (v_t_codeHalf : (Nat → Int32)) (v_t_codeTo : (Nat → Int32)) (v_t_codes : (Nat → Int32)) (v_t_rhymeOf : (Nat → Int32)) (v_t_wordAt : (Nat → Int32)) (x_t_clauses : Int32) (x_t_wordMany : Int32) : Nat → (Nat → Int32) → (Nat → Int32) → (Nat → Int32) → Int32 → Int32 → Int32 → Int32 → Int32 → Int32 → Option ((Nat → Int32) × (Nat → Int32) × (Nat → Int32) × Int32 × Int32 × Int32 × Int32 × Int32)
  | 0, _, _, _, _, _, _, _, _, _ => none
  | n + 1, v_t_facts, v_t_now, v_t_stack, x_t_chosen, x_t_fearOfChosen, x_t_picturesNow, x_t_usedNow, x_t_writtenNow, l1 =>
    if x_t_wordMany ≤ l1 then
      gI 293 v_t_now (291 : Int32) (fun g1 =>
      sI 293 v_t_now (291 : Int32) (g1 + (1 : Int32)) (fun w2 =>
      some (v_t_facts, w2, v_t_stack, x_t_chosen, x_t_fearOfChosen, x_t_picturesNow, x_t_usedNow, x_t_writtenNow)))
    else
      gI 48 v_t_wordAt l1 (fun g3 =>
      bd8 (f_X12_writes v_t_clauseOf v_t_codeFrom v_t_codeHalf v_t_codeTo v_t_codes v_t_facts v_t_now v_t_rhymeOf v_t_stack x_t_chosen x_t_clauses x_t_fearOfChosen x_t_picturesNow x_t_usedNow x_t_writtenNow g3 l1) (fun w4 w5 w6 w7 w8 w9 w10 w11 =>
      f_X12_dayGoes_b2 v_t_clauseOf v_t_codeFrom v_t_codeHalf v_t_codeTo v_t_codes v_t_rhymeOf v_t_wordAt x_t_clauses x_t_wordMany n w4 w5 w6 w7 w8 w9 w10 w11 (l1 + (1 : Int32))))
def f_X12_dayGoes (v_t_clauseOf : (Nat → Int32)) (v_t_codeFrom : (Nat → Int32)) (v_t_codeHalf : (Nat → Int32)) (v_t_codeTo : (Nat → Int32)) (v_t_codes : (Nat → Int32)) (v_t_facts : (Nat → Int32)) (v_t_now : (Nat → Int32)) (v_t_rhymeOf : (Nat → Int32)) (v_t_stack : (Nat → Int32)) (v_t_wordAt : (Nat → Int32)) (x_t_chosen : Int32) (x_t_clauses : Int32) (x_t_fearOfChosen : Int32) (x_t_picturesNow : Int32) (x_t_usedNow : Int32) (x_t_wordMany : Int32) (x_t_writtenNow : Int32) : Option ((Nat → Int32) × (Nat → Int32) × (Nat → Int32) × Int32 × Int32 × Int32 × Int32 × Int32) :=
  f_X12_dayGoes_b2 v_t_clauseOf v_t_codeFrom v_t_codeHalf v_t_codeTo v_t_codes v_t_rhymeOf v_t_wordAt x_t_clauses x_t_wordMany FU v_t_facts v_t_now v_t_stack x_t_chosen x_t_fearOfChosen x_t_picturesNow x_t_usedNow x_t_writtenNow (0 : Int32)
set_option maxHeartbeats 4000000 in
set_option maxRecDepth 100000 in
theorem c_X12_dayGoes {l : Launch} {D : va_G} {cI cB : ClassId} {A_t A_t_now A_t_aside A_t_kept A_t_rhymeOf A_t_wasRhyme A_t_wordAt A_t_tape A_t_said A_t_waitsAt A_t_saidLetter A_t_saidFrom A_t_saidHalf A_t_saidTo A_t_codes A_t_clauseOf A_t_codeFrom A_t_codeHalf A_t_codeTo A_t_stack A_t_facts A_t_newWords A_t_roundFrom A_t_roundAt A_t_roundTimes A_t_leastFrom A_t_rowNow A_t_bornOf A_t_trainsTo A_t_trainAt : Nat} {x_t_wordMany x_t_taped x_t_place0 x_t_length0 x_t_fault x_t_number0 x_t_open x_t_codeMany x_t_waiting x_t_saidMany x_t_clauses x_t_lines x_t_newMany x_t_rounds x_t_itFrom x_t_itTimes x_t_writtenNow x_t_picturesNow x_t_usedNow x_t_chosen x_t_fearOfChosen x_t_changesNow x_t_left0 x_t_trainMany x_t_leastTries x_t_firstTrained x_t_isKept : Int32} {v_t_clauseOf v_t_codeFrom v_t_codeHalf v_t_codeTo v_t_codes v_t_facts v_t_now v_t_rhymeOf v_t_stack v_t_wordAt : Nat → Int32} {o_x_t_chosen o_x_t_fearOfChosen o_x_t_picturesNow o_x_t_usedNow o_x_t_writtenNow : Int32} {o_v_t_facts o_v_t_now o_v_t_stack : Nat → Int32} (hf : f_X12_dayGoes v_t_clauseOf v_t_codeFrom v_t_codeHalf v_t_codeTo v_t_codes v_t_facts v_t_now v_t_rhymeOf v_t_stack v_t_wordAt x_t_chosen x_t_clauses x_t_fearOfChosen x_t_picturesNow x_t_usedNow x_t_wordMany x_t_writtenNow = some (o_v_t_facts, o_v_t_now, o_v_t_stack, o_x_t_chosen, o_x_t_fearOfChosen, o_x_t_picturesNow, o_x_t_usedNow, o_x_t_writtenNow)) : CtV l D cI cB yX12_dayGoes cX12_dayGoes 2 7 161 [.ref A_t] [oX12 A_t A_t_now A_t_aside A_t_kept A_t_rhymeOf A_t_wasRhyme A_t_wordAt x_t_wordMany A_t_tape x_t_taped x_t_place0 x_t_length0 x_t_fault x_t_number0 x_t_open x_t_codeMany x_t_waiting x_t_saidMany x_t_clauses A_t_said A_t_waitsAt A_t_saidLetter A_t_saidFrom A_t_saidHalf A_t_saidTo A_t_codes A_t_clauseOf A_t_codeFrom A_t_codeHalf A_t_codeTo A_t_stack A_t_facts x_t_lines A_t_newWords A_t_roundFrom A_t_roundAt A_t_roundTimes x_t_newMany x_t_rounds x_t_itFrom x_t_itTimes x_t_writtenNow x_t_picturesNow x_t_usedNow x_t_chosen x_t_fearOfChosen A_t_leastFrom A_t_rowNow x_t_changesNow x_t_left0 A_t_bornOf A_t_trainsTo A_t_trainAt x_t_trainMany x_t_leastTries x_t_firstTrained x_t_isKept, iA cI 16 A_t_clauseOf v_t_clauseOf, iA cI 16 A_t_codeFrom v_t_codeFrom, iA cI 16 A_t_codeHalf v_t_codeHalf, iA cI 16 A_t_codeTo v_t_codeTo, iA cI 260 A_t_codes v_t_codes, iA cI 10 A_t_facts v_t_facts, iA cI 293 A_t_now v_t_now, iA cI 16 A_t_rhymeOf v_t_rhymeOf, iA cI 260 A_t_stack v_t_stack, iA cI 48 A_t_wordAt v_t_wordAt] [oX12 A_t A_t_now A_t_aside A_t_kept A_t_rhymeOf A_t_wasRhyme A_t_wordAt x_t_wordMany A_t_tape x_t_taped x_t_place0 x_t_length0 x_t_fault x_t_number0 x_t_open x_t_codeMany x_t_waiting x_t_saidMany x_t_clauses A_t_said A_t_waitsAt A_t_saidLetter A_t_saidFrom A_t_saidHalf A_t_saidTo A_t_codes A_t_clauseOf A_t_codeFrom A_t_codeHalf A_t_codeTo A_t_stack A_t_facts x_t_lines A_t_newWords A_t_roundFrom A_t_roundAt A_t_roundTimes x_t_newMany x_t_rounds x_t_itFrom x_t_itTimes o_x_t_writtenNow o_x_t_picturesNow o_x_t_usedNow o_x_t_chosen o_x_t_fearOfChosen A_t_leastFrom A_t_rowNow x_t_changesNow x_t_left0 A_t_bornOf A_t_trainsTo A_t_trainAt x_t_trainMany x_t_leastTries x_t_firstTrained x_t_isKept, iA cI 16 A_t_clauseOf v_t_clauseOf, iA cI 16 A_t_codeFrom v_t_codeFrom, iA cI 16 A_t_codeHalf v_t_codeHalf, iA cI 16 A_t_codeTo v_t_codeTo, iA cI 260 A_t_codes v_t_codes, iA cI 10 A_t_facts o_v_t_facts, iA cI 293 A_t_now o_v_t_now, iA cI 16 A_t_rhymeOf v_t_rhymeOf, iA cI 260 A_t_stack o_v_t_stack, iA cI 48 A_t_wordAt v_t_wordAt] := by
  refine x_startV (by decide) (Nat.le_of_ble_eq_true rfl) ?_
  intro p e s m below meth c A C hr hlk hA hK hP hD hS ls hl
  have hl : lv_has ls 2 [(0, .ref A_t)] := hl
  have hx := C.1
  have hb := C.2.1
  unfold f_X12_dayGoes at hf
  have hb_2 : ∀ (n_2 : Nat) (v_t_facts : (Nat → Int32)) (v_t_now : (Nat → Int32)) (v_t_stack : (Nat → Int32)) (x_t_chosen : Int32) (x_t_fearOfChosen : Int32) (x_t_picturesNow : Int32) (x_t_usedNow : Int32) (x_t_writtenNow : Int32) (l1 : Int32) (H : Heap) (locs : List Loc) (ls : Array Slot), lv_has ls 2 [(0, .ref A_t), (1, .int l1)] → va_P D vwCl [oX12 A_t A_t_now A_t_aside A_t_kept A_t_rhymeOf A_t_wasRhyme A_t_wordAt x_t_wordMany A_t_tape x_t_taped x_t_place0 x_t_length0 x_t_fault x_t_number0 x_t_open x_t_codeMany x_t_waiting x_t_saidMany x_t_clauses A_t_said A_t_waitsAt A_t_saidLetter A_t_saidFrom A_t_saidHalf A_t_saidTo A_t_codes A_t_clauseOf A_t_codeFrom A_t_codeHalf A_t_codeTo A_t_stack A_t_facts x_t_lines A_t_newWords A_t_roundFrom A_t_roundAt A_t_roundTimes x_t_newMany x_t_rounds x_t_itFrom x_t_itTimes x_t_writtenNow x_t_picturesNow x_t_usedNow x_t_chosen x_t_fearOfChosen A_t_leastFrom A_t_rowNow x_t_changesNow x_t_left0 A_t_bornOf A_t_trainsTo A_t_trainAt x_t_trainMany x_t_leastTries x_t_firstTrained x_t_isKept, iA cI 16 A_t_clauseOf v_t_clauseOf, iA cI 16 A_t_codeFrom v_t_codeFrom, iA cI 16 A_t_codeHalf v_t_codeHalf, iA cI 16 A_t_codeTo v_t_codeTo, iA cI 260 A_t_codes v_t_codes, iA cI 10 A_t_facts v_t_facts, iA cI 293 A_t_now v_t_now, iA cI 16 A_t_rhymeOf v_t_rhymeOf, iA cI 260 A_t_stack v_t_stack, iA cI 48 A_t_wordAt v_t_wordAt] H → va_D A [oX12 A_t A_t_now A_t_aside A_t_kept A_t_rhymeOf A_t_wasRhyme A_t_wordAt x_t_wordMany A_t_tape x_t_taped x_t_place0 x_t_length0 x_t_fault x_t_number0 x_t_open x_t_codeMany x_t_waiting x_t_saidMany x_t_clauses A_t_said A_t_waitsAt A_t_saidLetter A_t_saidFrom A_t_saidHalf A_t_saidTo A_t_codes A_t_clauseOf A_t_codeFrom A_t_codeHalf A_t_codeTo A_t_stack A_t_facts x_t_lines A_t_newWords A_t_roundFrom A_t_roundAt A_t_roundTimes x_t_newMany x_t_rounds x_t_itFrom x_t_itTimes x_t_writtenNow x_t_picturesNow x_t_usedNow x_t_chosen x_t_fearOfChosen A_t_leastFrom A_t_rowNow x_t_changesNow x_t_left0 A_t_bornOf A_t_trainsTo A_t_trainAt x_t_trainMany x_t_leastTries x_t_firstTrained x_t_isKept, iA cI 16 A_t_clauseOf v_t_clauseOf, iA cI 16 A_t_codeFrom v_t_codeFrom, iA cI 16 A_t_codeHalf v_t_codeHalf, iA cI 16 A_t_codeTo v_t_codeTo, iA cI 260 A_t_codes v_t_codes, iA cI 10 A_t_facts v_t_facts, iA cI 293 A_t_now v_t_now, iA cI 16 A_t_rhymeOf v_t_rhymeOf, iA cI 260 A_t_stack v_t_stack, iA cI 48 A_t_wordAt v_t_wordAt] → va_S A s.heap H locs → f_X12_dayGoes_b2 v_t_clauseOf v_t_codeFrom v_t_codeHalf v_t_codeTo v_t_codes v_t_rhymeOf v_t_wordAt x_t_clauses x_t_wordMany n_2 v_t_facts v_t_now v_t_stack x_t_chosen x_t_fearOfChosen x_t_picturesNow x_t_usedNow x_t_writtenNow l1 = some (o_v_t_facts, o_v_t_now, o_v_t_stack, o_x_t_chosen, o_x_t_fearOfChosen, o_x_t_picturesNow, o_x_t_usedNow, o_x_t_writtenNow) → W p l e { frames := 7, cells := 0, slots := 0, locals := 161 } s m ([.ref A_t] : List Value).toArray below meth c H locs 0 0 (MQ below (PoV D A [oX12 A_t A_t_now A_t_aside A_t_kept A_t_rhymeOf A_t_wasRhyme A_t_wordAt x_t_wordMany A_t_tape x_t_taped x_t_place0 x_t_length0 x_t_fault x_t_number0 x_t_open x_t_codeMany x_t_waiting x_t_saidMany x_t_clauses A_t_said A_t_waitsAt A_t_saidLetter A_t_saidFrom A_t_saidHalf A_t_saidTo A_t_codes A_t_clauseOf A_t_codeFrom A_t_codeHalf A_t_codeTo A_t_stack A_t_facts x_t_lines A_t_newWords A_t_roundFrom A_t_roundAt A_t_roundTimes x_t_newMany x_t_rounds x_t_itFrom x_t_itTimes o_x_t_writtenNow o_x_t_picturesNow o_x_t_usedNow o_x_t_chosen o_x_t_fearOfChosen A_t_leastFrom A_t_rowNow x_t_changesNow x_t_left0 A_t_bornOf A_t_trainsTo A_t_trainAt x_t_trainMany x_t_leastTries x_t_firstTrained x_t_isKept, iA cI 16 A_t_clauseOf v_t_clauseOf, iA cI 16 A_t_codeFrom v_t_codeFrom, iA cI 16 A_t_codeHalf v_t_codeHalf, iA cI 16 A_t_codeTo v_t_codeTo, iA cI 260 A_t_codes v_t_codes, iA cI 10 A_t_facts o_v_t_facts, iA cI 293 A_t_now o_v_t_now, iA cI 16 A_t_rhymeOf v_t_rhymeOf, iA cI 260 A_t_stack o_v_t_stack, iA cI 48 A_t_wordAt v_t_wordAt]) ([.ref A_t] : List Value).toArray s 0 0 A) (F0 m 2 ls []) := by
    intro n_2
    induction n_2 with
    | zero =>
      intro v_t_facts v_t_now v_t_stack x_t_chosen x_t_fearOfChosen x_t_picturesNow x_t_usedNow x_t_writtenNow l1 H locs ls hl hP hD hS hf
      exact absurd hf (fun h => by rw [f_X12_dayGoes_b2] at h; cases h)
    | succ n_2 ih_2 =>
      intro v_t_facts v_t_now v_t_stack x_t_chosen x_t_fearOfChosen x_t_picturesNow x_t_usedNow x_t_writtenNow l1 H locs ls hl hP hD hS hf
      rw [f_X12_dayGoes_b2] at hf
      refine lv_iload_n hx hb dX12_dayGoes_2 rfl (lv_at hl 1 rfl) ?_
      refine lv_aload_n hx hb dX12_dayGoes_3 rfl (lv_at hl 0 rfl) ?_
      refine x_get C hK hP fd_X12_300 0 rfl rfl dX12_dayGoes_4 ?_
      refine lv_icmp_ge (tgt := 27) hx hb dX12_dayGoes_7 (by decide) (fun q => ?_) (fun q => ?_)
      · have hf := if_t q hf
        refine lv_aload_n hx hb dX12_dayGoes_27 rfl (lv_at hl 0 rfl) ?_
        refine x_get C hK hP fd_X12_7 0 rfl rfl dX12_dayGoes_28 ?_
        refine lv_sipush (v := 291) hx hb dX12_dayGoes_31 (by decide) ?_
        refine lv_aload_n hx hb dX12_dayGoes_34 rfl (lv_at hl 0 rfl) ?_
        refine x_get C hK hP fd_X12_7 0 rfl rfl dX12_dayGoes_35 ?_
        refine lv_sipush (v := 291) hx hb dX12_dayGoes_38 (by decide) ?_
        obtain ⟨hi, hf⟩ := gI_e hf
        refine x_iald C hK hP 7 rfl hi dX12_dayGoes_41 ?_
        refine lv_iconst (v := 1) hx hb dX12_dayGoes_42 (by decide) ?_
        refine lv_iadd hx hb dX12_dayGoes_43 ?_
        obtain ⟨hi, hf⟩ := sI_e hf
        refine x_iast (ws' := [oX12 A_t A_t_now A_t_aside A_t_kept A_t_rhymeOf A_t_wasRhyme A_t_wordAt x_t_wordMany A_t_tape x_t_taped x_t_place0 x_t_length0 x_t_fault x_t_number0 x_t_open x_t_codeMany x_t_waiting x_t_saidMany x_t_clauses A_t_said A_t_waitsAt A_t_saidLetter A_t_saidFrom A_t_saidHalf A_t_saidTo A_t_codes A_t_clauseOf A_t_codeFrom A_t_codeHalf A_t_codeTo A_t_stack A_t_facts x_t_lines A_t_newWords A_t_roundFrom A_t_roundAt A_t_roundTimes x_t_newMany x_t_rounds x_t_itFrom x_t_itTimes x_t_writtenNow x_t_picturesNow x_t_usedNow x_t_chosen x_t_fearOfChosen A_t_leastFrom A_t_rowNow x_t_changesNow x_t_left0 A_t_bornOf A_t_trainsTo A_t_trainAt x_t_trainMany x_t_leastTries x_t_firstTrained x_t_isKept, iA cI 16 A_t_clauseOf v_t_clauseOf, iA cI 16 A_t_codeFrom v_t_codeFrom, iA cI 16 A_t_codeHalf v_t_codeHalf, iA cI 16 A_t_codeTo v_t_codeTo, iA cI 260 A_t_codes v_t_codes, iA cI 10 A_t_facts v_t_facts, iA cI 293 A_t_now (upd v_t_now (291 : Int32).toNatClampNeg ((v_t_now (291 : Int32).toNatClampNeg) + (1 : Int32))), iA cI 16 A_t_rhymeOf v_t_rhymeOf, iA cI 260 A_t_stack v_t_stack, iA cI 48 A_t_wordAt v_t_wordAt]) C hK hP hD hS 7 rfl hi rfl dX12_dayGoes_44 ?_
        intro H locs hP hD hS
        obtain ⟨rfl, rfl, rfl, rfl, rfl, rfl, rfl, rfl⟩ := ev8 hf
        exact x_vret C hr hlk hP hD hS dX12_dayGoes_45
      · have hf := if_f q hf
        refine lv_aload_n hx hb dX12_dayGoes_10 rfl (lv_at hl 0 rfl) ?_
        refine lv_aload_n hx hb dX12_dayGoes_11 rfl (lv_at hl 0 rfl) ?_
        refine x_get C hK hP fd_X12_25 0 rfl rfl dX12_dayGoes_12 ?_
        refine lv_iload_n hx hb dX12_dayGoes_15 rfl (lv_at hl 1 rfl) ?_
        obtain ⟨hi, hf⟩ := gI_e hf
        refine x_iald C hK hP 10 rfl hi dX12_dayGoes_16 ?_
        refine lv_iload_n hx hb dX12_dayGoes_17 rfl (lv_at hl 1 rfl) ?_
        obtain ⟨w1, w2, w3, w4, w5, w6, w7, w8, hc9, hf⟩ := bd8_e hf
        refine x_callVV (ws' := [oX12 A_t A_t_now A_t_aside A_t_kept A_t_rhymeOf A_t_wasRhyme A_t_wordAt x_t_wordMany A_t_tape x_t_taped x_t_place0 x_t_length0 x_t_fault x_t_number0 x_t_open x_t_codeMany x_t_waiting x_t_saidMany x_t_clauses A_t_said A_t_waitsAt A_t_saidLetter A_t_saidFrom A_t_saidHalf A_t_saidTo A_t_codes A_t_clauseOf A_t_codeFrom A_t_codeHalf A_t_codeTo A_t_stack A_t_facts x_t_lines A_t_newWords A_t_roundFrom A_t_roundAt A_t_roundTimes x_t_newMany x_t_rounds x_t_itFrom x_t_itTimes w8 w6 w7 w4 w5 A_t_leastFrom A_t_rowNow x_t_changesNow x_t_left0 A_t_bornOf A_t_trainsTo A_t_trainAt x_t_trainMany x_t_leastTries x_t_firstTrained x_t_isKept, iA cI 16 A_t_clauseOf v_t_clauseOf, iA cI 16 A_t_codeFrom v_t_codeFrom, iA cI 16 A_t_codeHalf v_t_codeHalf, iA cI 16 A_t_codeTo v_t_codeTo, iA cI 260 A_t_codes v_t_codes, iA cI 10 A_t_facts w1, iA cI 293 A_t_now w2, iA cI 16 A_t_rhymeOf v_t_rhymeOf, iA cI 260 A_t_stack w3, iA cI 48 A_t_wordAt v_t_wordAt]) (rest := []) C hK hP hD hS hA hl mf_X12_339 (c_X12_writes hc9) [0, 1, 2, 3, 4, 5, 6, 7, 8, 9] 0 12 rfl rfl rfl rfl rfl rfl rfl rfl rfl rfl (Nat.le_of_ble_eq_true rfl) ⟨Nat.le_of_ble_eq_true rfl, Nat.le_of_ble_eq_true rfl⟩ ⟨Nat.le_refl _, Nat.le_refl _⟩ dX12_dayGoes_18 ?_
        intro H locs hP hD hS
        refine lv_iinc (v := (l1 + (1 : Int32))) (lv' := [(1, .int (l1 + (1 : Int32))), (0, .ref A_t)]) hx hb dX12_dayGoes_21 hl (k := 1) rfl rfl (by decide) rfl (fun ls hl => ?_)
        refine lv_goto (tgt := 2) hx hb dX12_dayGoes_24 (by decide) ?_
        exact ih_2 w1 w2 w3 w4 w5 w6 w7 w8 (l1 + (1 : Int32)) _ _ ls (lv_sub hl [1, 0] rfl) hP hD hS hf
  refine lv_iconst (v := 0) hx hb dX12_dayGoes_0 (by decide) ?_
  refine lv_istore_n (lv' := [(1, .int (0 : Int32)), (0, .ref A_t)]) hx hb dX12_dayGoes_1 rfl hl (by decide) rfl (fun ls hl => ?_)
  exact hb_2 FU v_t_facts v_t_now v_t_stack x_t_chosen x_t_fearOfChosen x_t_picturesNow x_t_usedNow x_t_writtenNow (0 : Int32) _ _ ls (lv_sub hl [1, 0] rfl) hP hD hS hf
def f_X12_daysGo_b46 (v_t_facts : (Nat → Int32)) (v_t_now : (Nat → Int32)) (v_t_stack : (Nat → Int32)) (x_t_chosen : Int32) (x_t_fearOfChosen : Int32) (x_t_picturesNow : Int32) (x_t_usedNow : Int32) (x_t_writtenNow : Int32) : Option ((Nat → Int32) × (Nat → Int32) × (Nat → Int32) × Int32 × Int32 × Int32 × Int32 × Int32) :=
  some (v_t_facts, v_t_now, v_t_stack, x_t_chosen, x_t_fearOfChosen, x_t_picturesNow, x_t_usedNow, x_t_writtenNow)
def f_X12_daysGo_b17 (v_t_clauseOf : (Nat → Int32)) (v_t_codeFrom : (Nat → Int32)) (v_t_codeHalf : (Nat → Int32)) (v_t_codeTo : (Nat → Int32)) (v_t_codes : (Nat → Int32)) (v_t_rhymeOf : (Nat → Int32)) (v_t_wordAt : (Nat → Int32)) (x_t_clauses : Int32) (x_t_wordMany : Int32) (a1 : Int32) : Nat → (Nat → Int32) → (Nat → Int32) → (Nat → Int32) → Int32 → Int32 → Int32 → Int32 → Int32 → Int32 → Option ((Nat → Int32) × (Nat → Int32) × (Nat → Int32) × Int32 × Int32 × Int32 × Int32 × Int32)
  | 0, _, _, _, _, _, _, _, _, _ => none
  | n + 1, v_t_facts, v_t_now, v_t_stack, x_t_chosen, x_t_fearOfChosen, x_t_picturesNow, x_t_usedNow, x_t_writtenNow, l2 =>
    if a1 ≤ l2 then
      f_X12_daysGo_b46 v_t_facts v_t_now v_t_stack x_t_chosen x_t_fearOfChosen x_t_picturesNow x_t_usedNow x_t_writtenNow
    else
      gI 293 v_t_now (291 : Int32) (fun g1 =>
      if (9999 : Int32) ≤ g1 then
        f_X12_daysGo_b46 v_t_facts v_t_now v_t_stack x_t_chosen x_t_fearOfChosen x_t_picturesNow x_t_usedNow x_t_writtenNow
      else
        bd8 (f_X12_dayGoes v_t_clauseOf v_t_codeFrom v_t_codeHalf v_t_codeTo v_t_codes v_t_facts v_t_now v_t_rhymeOf v_t_stack v_t_wordAt x_t_chosen x_t_clauses x_t_fearOfChosen x_t_picturesNow x_t_usedNow x_t_wordMany x_t_writtenNow) (fun w2 w3 w4 w5 w6 w7 w8 w9 =>
        f_X12_daysGo_b17 v_t_clauseOf v_t_codeFrom v_t_codeHalf v_t_codeTo v_t_codes v_t_rhymeOf v_t_wordAt x_t_clauses x_t_wordMany a1 n w2 w3 w4 w5 w6 w7 w8 w9 (l2 + (1 : Int32))))
def f_X12_daysGo (v_t_clauseOf : (Nat → Int32)) (v_t_codeFrom : (Nat → Int32)) (v_t_codeHalf : (Nat → Int32)) (v_t_codeTo : (Nat → Int32)) (v_t_codes : (Nat → Int32)) (v_t_facts : (Nat → Int32)) (v_t_now : (Nat → Int32)) (v_t_rhymeOf : (Nat → Int32)) (v_t_stack : (Nat → Int32)) (v_t_wordAt : (Nat → Int32)) (x_t_chosen : Int32) (x_t_clauses : Int32) (x_t_fearOfChosen : Int32) (x_t_picturesNow : Int32) (x_t_usedNow : Int32) (x_t_wordMany : Int32) (x_t_writtenNow : Int32) (a1 : Int32) : Option ((Nat → Int32) × (Nat → Int32) × (Nat → Int32) × Int32 × Int32 × Int32 × Int32 × Int32) :=
  f_X12_daysGo_b17 v_t_clauseOf v_t_codeFrom v_t_codeHalf v_t_codeTo v_t_codes v_t_rhymeOf v_t_wordAt x_t_clauses x_t_wordMany a1 FU v_t_facts v_t_now v_t_stack x_t_chosen x_t_fearOfChosen (0 : Int32) (0 : Int32) (0 : Int32) (0 : Int32)
set_option maxHeartbeats 4000000 in
set_option maxRecDepth 100000 in
theorem c_X12_daysGo {l : Launch} {D : va_G} {cI cB : ClassId} {A_t A_t_now A_t_aside A_t_kept A_t_rhymeOf A_t_wasRhyme A_t_wordAt A_t_tape A_t_said A_t_waitsAt A_t_saidLetter A_t_saidFrom A_t_saidHalf A_t_saidTo A_t_codes A_t_clauseOf A_t_codeFrom A_t_codeHalf A_t_codeTo A_t_stack A_t_facts A_t_newWords A_t_roundFrom A_t_roundAt A_t_roundTimes A_t_leastFrom A_t_rowNow A_t_bornOf A_t_trainsTo A_t_trainAt : Nat} {x_t_wordMany x_t_taped x_t_place0 x_t_length0 x_t_fault x_t_number0 x_t_open x_t_codeMany x_t_waiting x_t_saidMany x_t_clauses x_t_lines x_t_newMany x_t_rounds x_t_itFrom x_t_itTimes x_t_writtenNow x_t_picturesNow x_t_usedNow x_t_chosen x_t_fearOfChosen x_t_changesNow x_t_left0 x_t_trainMany x_t_leastTries x_t_firstTrained x_t_isKept a1 : Int32} {v_t_clauseOf v_t_codeFrom v_t_codeHalf v_t_codeTo v_t_codes v_t_facts v_t_now v_t_rhymeOf v_t_stack v_t_wordAt : Nat → Int32} {o_x_t_chosen o_x_t_fearOfChosen o_x_t_picturesNow o_x_t_usedNow o_x_t_writtenNow : Int32} {o_v_t_facts o_v_t_now o_v_t_stack : Nat → Int32} (hf : f_X12_daysGo v_t_clauseOf v_t_codeFrom v_t_codeHalf v_t_codeTo v_t_codes v_t_facts v_t_now v_t_rhymeOf v_t_stack v_t_wordAt x_t_chosen x_t_clauses x_t_fearOfChosen x_t_picturesNow x_t_usedNow x_t_wordMany x_t_writtenNow a1 = some (o_v_t_facts, o_v_t_now, o_v_t_stack, o_x_t_chosen, o_x_t_fearOfChosen, o_x_t_picturesNow, o_x_t_usedNow, o_x_t_writtenNow)) : CtV l D cI cB yX12_daysGo cX12_daysGo 3 8 182 [.ref A_t, .int a1] [oX12 A_t A_t_now A_t_aside A_t_kept A_t_rhymeOf A_t_wasRhyme A_t_wordAt x_t_wordMany A_t_tape x_t_taped x_t_place0 x_t_length0 x_t_fault x_t_number0 x_t_open x_t_codeMany x_t_waiting x_t_saidMany x_t_clauses A_t_said A_t_waitsAt A_t_saidLetter A_t_saidFrom A_t_saidHalf A_t_saidTo A_t_codes A_t_clauseOf A_t_codeFrom A_t_codeHalf A_t_codeTo A_t_stack A_t_facts x_t_lines A_t_newWords A_t_roundFrom A_t_roundAt A_t_roundTimes x_t_newMany x_t_rounds x_t_itFrom x_t_itTimes x_t_writtenNow x_t_picturesNow x_t_usedNow x_t_chosen x_t_fearOfChosen A_t_leastFrom A_t_rowNow x_t_changesNow x_t_left0 A_t_bornOf A_t_trainsTo A_t_trainAt x_t_trainMany x_t_leastTries x_t_firstTrained x_t_isKept, iA cI 16 A_t_clauseOf v_t_clauseOf, iA cI 16 A_t_codeFrom v_t_codeFrom, iA cI 16 A_t_codeHalf v_t_codeHalf, iA cI 16 A_t_codeTo v_t_codeTo, iA cI 260 A_t_codes v_t_codes, iA cI 10 A_t_facts v_t_facts, iA cI 293 A_t_now v_t_now, iA cI 16 A_t_rhymeOf v_t_rhymeOf, iA cI 260 A_t_stack v_t_stack, iA cI 48 A_t_wordAt v_t_wordAt] [oX12 A_t A_t_now A_t_aside A_t_kept A_t_rhymeOf A_t_wasRhyme A_t_wordAt x_t_wordMany A_t_tape x_t_taped x_t_place0 x_t_length0 x_t_fault x_t_number0 x_t_open x_t_codeMany x_t_waiting x_t_saidMany x_t_clauses A_t_said A_t_waitsAt A_t_saidLetter A_t_saidFrom A_t_saidHalf A_t_saidTo A_t_codes A_t_clauseOf A_t_codeFrom A_t_codeHalf A_t_codeTo A_t_stack A_t_facts x_t_lines A_t_newWords A_t_roundFrom A_t_roundAt A_t_roundTimes x_t_newMany x_t_rounds x_t_itFrom x_t_itTimes o_x_t_writtenNow o_x_t_picturesNow o_x_t_usedNow o_x_t_chosen o_x_t_fearOfChosen A_t_leastFrom A_t_rowNow x_t_changesNow x_t_left0 A_t_bornOf A_t_trainsTo A_t_trainAt x_t_trainMany x_t_leastTries x_t_firstTrained x_t_isKept, iA cI 16 A_t_clauseOf v_t_clauseOf, iA cI 16 A_t_codeFrom v_t_codeFrom, iA cI 16 A_t_codeHalf v_t_codeHalf, iA cI 16 A_t_codeTo v_t_codeTo, iA cI 260 A_t_codes v_t_codes, iA cI 10 A_t_facts o_v_t_facts, iA cI 293 A_t_now o_v_t_now, iA cI 16 A_t_rhymeOf v_t_rhymeOf, iA cI 260 A_t_stack o_v_t_stack, iA cI 48 A_t_wordAt v_t_wordAt] := by
  refine x_startV (by decide) (Nat.le_of_ble_eq_true rfl) ?_
  intro p e s m below meth c A C hr hlk hA hK hP hD hS ls hl
  have hl : lv_has ls 3 [(0, .ref A_t), (1, .int a1)] := hl
  have hx := C.1
  have hb := C.2.1
  unfold f_X12_daysGo at hf
  have hb_46 : ∀ (v_t_facts : (Nat → Int32)) (v_t_now : (Nat → Int32)) (v_t_stack : (Nat → Int32)) (x_t_chosen : Int32) (x_t_fearOfChosen : Int32) (x_t_picturesNow : Int32) (x_t_usedNow : Int32) (x_t_writtenNow : Int32) (H : Heap) (locs : List Loc) (ls : Array Slot), lv_has ls 3 [] → va_P D vwCl [oX12 A_t A_t_now A_t_aside A_t_kept A_t_rhymeOf A_t_wasRhyme A_t_wordAt x_t_wordMany A_t_tape x_t_taped x_t_place0 x_t_length0 x_t_fault x_t_number0 x_t_open x_t_codeMany x_t_waiting x_t_saidMany x_t_clauses A_t_said A_t_waitsAt A_t_saidLetter A_t_saidFrom A_t_saidHalf A_t_saidTo A_t_codes A_t_clauseOf A_t_codeFrom A_t_codeHalf A_t_codeTo A_t_stack A_t_facts x_t_lines A_t_newWords A_t_roundFrom A_t_roundAt A_t_roundTimes x_t_newMany x_t_rounds x_t_itFrom x_t_itTimes x_t_writtenNow x_t_picturesNow x_t_usedNow x_t_chosen x_t_fearOfChosen A_t_leastFrom A_t_rowNow x_t_changesNow x_t_left0 A_t_bornOf A_t_trainsTo A_t_trainAt x_t_trainMany x_t_leastTries x_t_firstTrained x_t_isKept, iA cI 16 A_t_clauseOf v_t_clauseOf, iA cI 16 A_t_codeFrom v_t_codeFrom, iA cI 16 A_t_codeHalf v_t_codeHalf, iA cI 16 A_t_codeTo v_t_codeTo, iA cI 260 A_t_codes v_t_codes, iA cI 10 A_t_facts v_t_facts, iA cI 293 A_t_now v_t_now, iA cI 16 A_t_rhymeOf v_t_rhymeOf, iA cI 260 A_t_stack v_t_stack, iA cI 48 A_t_wordAt v_t_wordAt] H → va_D A [oX12 A_t A_t_now A_t_aside A_t_kept A_t_rhymeOf A_t_wasRhyme A_t_wordAt x_t_wordMany A_t_tape x_t_taped x_t_place0 x_t_length0 x_t_fault x_t_number0 x_t_open x_t_codeMany x_t_waiting x_t_saidMany x_t_clauses A_t_said A_t_waitsAt A_t_saidLetter A_t_saidFrom A_t_saidHalf A_t_saidTo A_t_codes A_t_clauseOf A_t_codeFrom A_t_codeHalf A_t_codeTo A_t_stack A_t_facts x_t_lines A_t_newWords A_t_roundFrom A_t_roundAt A_t_roundTimes x_t_newMany x_t_rounds x_t_itFrom x_t_itTimes x_t_writtenNow x_t_picturesNow x_t_usedNow x_t_chosen x_t_fearOfChosen A_t_leastFrom A_t_rowNow x_t_changesNow x_t_left0 A_t_bornOf A_t_trainsTo A_t_trainAt x_t_trainMany x_t_leastTries x_t_firstTrained x_t_isKept, iA cI 16 A_t_clauseOf v_t_clauseOf, iA cI 16 A_t_codeFrom v_t_codeFrom, iA cI 16 A_t_codeHalf v_t_codeHalf, iA cI 16 A_t_codeTo v_t_codeTo, iA cI 260 A_t_codes v_t_codes, iA cI 10 A_t_facts v_t_facts, iA cI 293 A_t_now v_t_now, iA cI 16 A_t_rhymeOf v_t_rhymeOf, iA cI 260 A_t_stack v_t_stack, iA cI 48 A_t_wordAt v_t_wordAt] → va_S A s.heap H locs → f_X12_daysGo_b46 v_t_facts v_t_now v_t_stack x_t_chosen x_t_fearOfChosen x_t_picturesNow x_t_usedNow x_t_writtenNow = some (o_v_t_facts, o_v_t_now, o_v_t_stack, o_x_t_chosen, o_x_t_fearOfChosen, o_x_t_picturesNow, o_x_t_usedNow, o_x_t_writtenNow) → W p l e { frames := 8, cells := 0, slots := 0, locals := 182 } s m ([.ref A_t, .int a1] : List Value).toArray below meth c H locs 0 0 (MQ below (PoV D A [oX12 A_t A_t_now A_t_aside A_t_kept A_t_rhymeOf A_t_wasRhyme A_t_wordAt x_t_wordMany A_t_tape x_t_taped x_t_place0 x_t_length0 x_t_fault x_t_number0 x_t_open x_t_codeMany x_t_waiting x_t_saidMany x_t_clauses A_t_said A_t_waitsAt A_t_saidLetter A_t_saidFrom A_t_saidHalf A_t_saidTo A_t_codes A_t_clauseOf A_t_codeFrom A_t_codeHalf A_t_codeTo A_t_stack A_t_facts x_t_lines A_t_newWords A_t_roundFrom A_t_roundAt A_t_roundTimes x_t_newMany x_t_rounds x_t_itFrom x_t_itTimes o_x_t_writtenNow o_x_t_picturesNow o_x_t_usedNow o_x_t_chosen o_x_t_fearOfChosen A_t_leastFrom A_t_rowNow x_t_changesNow x_t_left0 A_t_bornOf A_t_trainsTo A_t_trainAt x_t_trainMany x_t_leastTries x_t_firstTrained x_t_isKept, iA cI 16 A_t_clauseOf v_t_clauseOf, iA cI 16 A_t_codeFrom v_t_codeFrom, iA cI 16 A_t_codeHalf v_t_codeHalf, iA cI 16 A_t_codeTo v_t_codeTo, iA cI 260 A_t_codes v_t_codes, iA cI 10 A_t_facts o_v_t_facts, iA cI 293 A_t_now o_v_t_now, iA cI 16 A_t_rhymeOf v_t_rhymeOf, iA cI 260 A_t_stack o_v_t_stack, iA cI 48 A_t_wordAt v_t_wordAt]) ([.ref A_t, .int a1] : List Value).toArray s 0 0 A) (F0 m 46 ls []) := by
    intro v_t_facts v_t_now v_t_stack x_t_chosen x_t_fearOfChosen x_t_picturesNow x_t_usedNow x_t_writtenNow H locs ls hl hP hD hS hf
    unfold f_X12_daysGo_b46 at hf
    obtain ⟨rfl, rfl, rfl, rfl, rfl, rfl, rfl, rfl⟩ := ev8 hf
    exact x_vret C hr hlk hP hD hS dX12_daysGo_46
  have hb_17 : ∀ (n_17 : Nat) (v_t_facts : (Nat → Int32)) (v_t_now : (Nat → Int32)) (v_t_stack : (Nat → Int32)) (x_t_chosen : Int32) (x_t_fearOfChosen : Int32) (x_t_picturesNow : Int32) (x_t_usedNow : Int32) (x_t_writtenNow : Int32) (l2 : Int32) (H : Heap) (locs : List Loc) (ls : Array Slot), lv_has ls 3 [(0, .ref A_t), (1, .int a1), (2, .int l2)] → va_P D vwCl [oX12 A_t A_t_now A_t_aside A_t_kept A_t_rhymeOf A_t_wasRhyme A_t_wordAt x_t_wordMany A_t_tape x_t_taped x_t_place0 x_t_length0 x_t_fault x_t_number0 x_t_open x_t_codeMany x_t_waiting x_t_saidMany x_t_clauses A_t_said A_t_waitsAt A_t_saidLetter A_t_saidFrom A_t_saidHalf A_t_saidTo A_t_codes A_t_clauseOf A_t_codeFrom A_t_codeHalf A_t_codeTo A_t_stack A_t_facts x_t_lines A_t_newWords A_t_roundFrom A_t_roundAt A_t_roundTimes x_t_newMany x_t_rounds x_t_itFrom x_t_itTimes x_t_writtenNow x_t_picturesNow x_t_usedNow x_t_chosen x_t_fearOfChosen A_t_leastFrom A_t_rowNow x_t_changesNow x_t_left0 A_t_bornOf A_t_trainsTo A_t_trainAt x_t_trainMany x_t_leastTries x_t_firstTrained x_t_isKept, iA cI 16 A_t_clauseOf v_t_clauseOf, iA cI 16 A_t_codeFrom v_t_codeFrom, iA cI 16 A_t_codeHalf v_t_codeHalf, iA cI 16 A_t_codeTo v_t_codeTo, iA cI 260 A_t_codes v_t_codes, iA cI 10 A_t_facts v_t_facts, iA cI 293 A_t_now v_t_now, iA cI 16 A_t_rhymeOf v_t_rhymeOf, iA cI 260 A_t_stack v_t_stack, iA cI 48 A_t_wordAt v_t_wordAt] H → va_D A [oX12 A_t A_t_now A_t_aside A_t_kept A_t_rhymeOf A_t_wasRhyme A_t_wordAt x_t_wordMany A_t_tape x_t_taped x_t_place0 x_t_length0 x_t_fault x_t_number0 x_t_open x_t_codeMany x_t_waiting x_t_saidMany x_t_clauses A_t_said A_t_waitsAt A_t_saidLetter A_t_saidFrom A_t_saidHalf A_t_saidTo A_t_codes A_t_clauseOf A_t_codeFrom A_t_codeHalf A_t_codeTo A_t_stack A_t_facts x_t_lines A_t_newWords A_t_roundFrom A_t_roundAt A_t_roundTimes x_t_newMany x_t_rounds x_t_itFrom x_t_itTimes x_t_writtenNow x_t_picturesNow x_t_usedNow x_t_chosen x_t_fearOfChosen A_t_leastFrom A_t_rowNow x_t_changesNow x_t_left0 A_t_bornOf A_t_trainsTo A_t_trainAt x_t_trainMany x_t_leastTries x_t_firstTrained x_t_isKept, iA cI 16 A_t_clauseOf v_t_clauseOf, iA cI 16 A_t_codeFrom v_t_codeFrom, iA cI 16 A_t_codeHalf v_t_codeHalf, iA cI 16 A_t_codeTo v_t_codeTo, iA cI 260 A_t_codes v_t_codes, iA cI 10 A_t_facts v_t_facts, iA cI 293 A_t_now v_t_now, iA cI 16 A_t_rhymeOf v_t_rhymeOf, iA cI 260 A_t_stack v_t_stack, iA cI 48 A_t_wordAt v_t_wordAt] → va_S A s.heap H locs → f_X12_daysGo_b17 v_t_clauseOf v_t_codeFrom v_t_codeHalf v_t_codeTo v_t_codes v_t_rhymeOf v_t_wordAt x_t_clauses x_t_wordMany a1 n_17 v_t_facts v_t_now v_t_stack x_t_chosen x_t_fearOfChosen x_t_picturesNow x_t_usedNow x_t_writtenNow l2 = some (o_v_t_facts, o_v_t_now, o_v_t_stack, o_x_t_chosen, o_x_t_fearOfChosen, o_x_t_picturesNow, o_x_t_usedNow, o_x_t_writtenNow) → W p l e { frames := 8, cells := 0, slots := 0, locals := 182 } s m ([.ref A_t, .int a1] : List Value).toArray below meth c H locs 0 0 (MQ below (PoV D A [oX12 A_t A_t_now A_t_aside A_t_kept A_t_rhymeOf A_t_wasRhyme A_t_wordAt x_t_wordMany A_t_tape x_t_taped x_t_place0 x_t_length0 x_t_fault x_t_number0 x_t_open x_t_codeMany x_t_waiting x_t_saidMany x_t_clauses A_t_said A_t_waitsAt A_t_saidLetter A_t_saidFrom A_t_saidHalf A_t_saidTo A_t_codes A_t_clauseOf A_t_codeFrom A_t_codeHalf A_t_codeTo A_t_stack A_t_facts x_t_lines A_t_newWords A_t_roundFrom A_t_roundAt A_t_roundTimes x_t_newMany x_t_rounds x_t_itFrom x_t_itTimes o_x_t_writtenNow o_x_t_picturesNow o_x_t_usedNow o_x_t_chosen o_x_t_fearOfChosen A_t_leastFrom A_t_rowNow x_t_changesNow x_t_left0 A_t_bornOf A_t_trainsTo A_t_trainAt x_t_trainMany x_t_leastTries x_t_firstTrained x_t_isKept, iA cI 16 A_t_clauseOf v_t_clauseOf, iA cI 16 A_t_codeFrom v_t_codeFrom, iA cI 16 A_t_codeHalf v_t_codeHalf, iA cI 16 A_t_codeTo v_t_codeTo, iA cI 260 A_t_codes v_t_codes, iA cI 10 A_t_facts o_v_t_facts, iA cI 293 A_t_now o_v_t_now, iA cI 16 A_t_rhymeOf v_t_rhymeOf, iA cI 260 A_t_stack o_v_t_stack, iA cI 48 A_t_wordAt v_t_wordAt]) ([.ref A_t, .int a1] : List Value).toArray s 0 0 A) (F0 m 17 ls []) := by
    intro n_17
    induction n_17 with
    | zero =>
      intro v_t_facts v_t_now v_t_stack x_t_chosen x_t_fearOfChosen x_t_picturesNow x_t_usedNow x_t_writtenNow l2 H locs ls hl hP hD hS hf
      exact absurd hf (fun h => by rw [f_X12_daysGo_b17] at h; cases h)
    | succ n_17 ih_17 =>
      intro v_t_facts v_t_now v_t_stack x_t_chosen x_t_fearOfChosen x_t_picturesNow x_t_usedNow x_t_writtenNow l2 H locs ls hl hP hD hS hf
      rw [f_X12_daysGo_b17] at hf
      refine lv_iload_n hx hb dX12_daysGo_17 rfl (lv_at hl 2 rfl) ?_
      refine lv_iload_n hx hb dX12_daysGo_18 rfl (lv_at hl 1 rfl) ?_
      refine lv_icmp_ge (tgt := 46) hx hb dX12_daysGo_19 (by decide) (fun q => ?_) (fun q => ?_)
      · have hf := if_t q hf
        exact hb_46 v_t_facts v_t_now v_t_stack x_t_chosen x_t_fearOfChosen x_t_picturesNow x_t_usedNow x_t_writtenNow _ _ ls (lv_sub hl [] rfl) hP hD hS hf
      · have hf := if_f q hf
        refine lv_aload_n hx hb dX12_daysGo_22 rfl (lv_at hl 0 rfl) ?_
        refine x_get C hK hP fd_X12_7 0 rfl rfl dX12_daysGo_23 ?_
        refine lv_sipush (v := 291) hx hb dX12_daysGo_26 (by decide) ?_
        obtain ⟨hi, hf⟩ := gI_e hf
        refine x_iald C hK hP 7 rfl hi dX12_daysGo_29 ?_
        refine lv_sipush (v := 9999) hx hb dX12_daysGo_30 (by decide) ?_
        refine lv_icmp_ge (tgt := 46) hx hb dX12_daysGo_33 (by decide) (fun q => ?_) (fun q => ?_)
        · have hf := if_t q hf
          exact hb_46 v_t_facts v_t_now v_t_stack x_t_chosen x_t_fearOfChosen x_t_picturesNow x_t_usedNow x_t_writtenNow _ _ ls (lv_sub hl [] rfl) hP hD hS hf
        · have hf := if_f q hf
          refine lv_aload_n hx hb dX12_daysGo_36 rfl (lv_at hl 0 rfl) ?_
          obtain ⟨w1, w2, w3, w4, w5, w6, w7, w8, hc9, hf⟩ := bd8_e hf
          refine x_callVV (ws' := [oX12 A_t A_t_now A_t_aside A_t_kept A_t_rhymeOf A_t_wasRhyme A_t_wordAt x_t_wordMany A_t_tape x_t_taped x_t_place0 x_t_length0 x_t_fault x_t_number0 x_t_open x_t_codeMany x_t_waiting x_t_saidMany x_t_clauses A_t_said A_t_waitsAt A_t_saidLetter A_t_saidFrom A_t_saidHalf A_t_saidTo A_t_codes A_t_clauseOf A_t_codeFrom A_t_codeHalf A_t_codeTo A_t_stack A_t_facts x_t_lines A_t_newWords A_t_roundFrom A_t_roundAt A_t_roundTimes x_t_newMany x_t_rounds x_t_itFrom x_t_itTimes w8 w6 w7 w4 w5 A_t_leastFrom A_t_rowNow x_t_changesNow x_t_left0 A_t_bornOf A_t_trainsTo A_t_trainAt x_t_trainMany x_t_leastTries x_t_firstTrained x_t_isKept, iA cI 16 A_t_clauseOf v_t_clauseOf, iA cI 16 A_t_codeFrom v_t_codeFrom, iA cI 16 A_t_codeHalf v_t_codeHalf, iA cI 16 A_t_codeTo v_t_codeTo, iA cI 260 A_t_codes v_t_codes, iA cI 10 A_t_facts w1, iA cI 293 A_t_now w2, iA cI 16 A_t_rhymeOf v_t_rhymeOf, iA cI 260 A_t_stack w3, iA cI 48 A_t_wordAt v_t_wordAt]) (rest := []) C hK hP hD hS hA hl mf_X12_342 (c_X12_dayGoes hc9) [0, 1, 2, 3, 4, 5, 6, 7, 8, 9, 10] 0 12 rfl rfl rfl rfl rfl rfl rfl rfl rfl rfl (Nat.le_of_ble_eq_true rfl) ⟨Nat.le_of_ble_eq_true rfl, Nat.le_of_ble_eq_true rfl⟩ ⟨Nat.le_refl _, Nat.le_refl _⟩ dX12_daysGo_37 ?_
          intro H locs hP hD hS
          refine lv_iinc (v := (l2 + (1 : Int32))) (lv' := [(2, .int (l2 + (1 : Int32))), (0, .ref A_t), (1, .int a1)]) hx hb dX12_daysGo_40 hl (k := 2) rfl rfl (by decide) rfl (fun ls hl => ?_)
          refine lv_goto (tgt := 17) hx hb dX12_daysGo_43 (by decide) ?_
          exact ih_17 w1 w2 w3 w4 w5 w6 w7 w8 (l2 + (1 : Int32)) _ _ ls (lv_sub hl [1, 2, 0] rfl) hP hD hS hf
  refine lv_aload_n hx hb dX12_daysGo_0 rfl (lv_at hl 0 rfl) ?_
  refine lv_iconst (v := 0) hx hb dX12_daysGo_1 (by decide) ?_
  refine x_put (ws' := [oX12 A_t A_t_now A_t_aside A_t_kept A_t_rhymeOf A_t_wasRhyme A_t_wordAt x_t_wordMany A_t_tape x_t_taped x_t_place0 x_t_length0 x_t_fault x_t_number0 x_t_open x_t_codeMany x_t_waiting x_t_saidMany x_t_clauses A_t_said A_t_waitsAt A_t_saidLetter A_t_saidFrom A_t_saidHalf A_t_saidTo A_t_codes A_t_clauseOf A_t_codeFrom A_t_codeHalf A_t_codeTo A_t_stack A_t_facts x_t_lines A_t_newWords A_t_roundFrom A_t_roundAt A_t_roundTimes x_t_newMany x_t_rounds x_t_itFrom x_t_itTimes (0 : Int32) x_t_picturesNow x_t_usedNow x_t_chosen x_t_fearOfChosen A_t_leastFrom A_t_rowNow x_t_changesNow x_t_left0 A_t_bornOf A_t_trainsTo A_t_trainAt x_t_trainMany x_t_leastTries x_t_firstTrained x_t_isKept, iA cI 16 A_t_clauseOf v_t_clauseOf, iA cI 16 A_t_codeFrom v_t_codeFrom, iA cI 16 A_t_codeHalf v_t_codeHalf, iA cI 16 A_t_codeTo v_t_codeTo, iA cI 260 A_t_codes v_t_codes, iA cI 10 A_t_facts v_t_facts, iA cI 293 A_t_now v_t_now, iA cI 16 A_t_rhymeOf v_t_rhymeOf, iA cI 260 A_t_stack v_t_stack, iA cI 48 A_t_wordAt v_t_wordAt]) C hK hP hD hS fp_X12_330 0 rfl rfl rfl (Nat.le_of_ble_eq_true rfl) rfl dX12_daysGo_2 ?_
  intro H locs hP hD hS
  refine lv_aload_n hx hb dX12_daysGo_5 rfl (lv_at hl 0 rfl) ?_
  refine lv_iconst (v := 0) hx hb dX12_daysGo_6 (by decide) ?_
  refine x_put (ws' := [oX12 A_t A_t_now A_t_aside A_t_kept A_t_rhymeOf A_t_wasRhyme A_t_wordAt x_t_wordMany A_t_tape x_t_taped x_t_place0 x_t_length0 x_t_fault x_t_number0 x_t_open x_t_codeMany x_t_waiting x_t_saidMany x_t_clauses A_t_said A_t_waitsAt A_t_saidLetter A_t_saidFrom A_t_saidHalf A_t_saidTo A_t_codes A_t_clauseOf A_t_codeFrom A_t_codeHalf A_t_codeTo A_t_stack A_t_facts x_t_lines A_t_newWords A_t_roundFrom A_t_roundAt A_t_roundTimes x_t_newMany x_t_rounds x_t_itFrom x_t_itTimes (0 : Int32) (0 : Int32) x_t_usedNow x_t_chosen x_t_fearOfChosen A_t_leastFrom A_t_rowNow x_t_changesNow x_t_left0 A_t_bornOf A_t_trainsTo A_t_trainAt x_t_trainMany x_t_leastTries x_t_firstTrained x_t_isKept, iA cI 16 A_t_clauseOf v_t_clauseOf, iA cI 16 A_t_codeFrom v_t_codeFrom, iA cI 16 A_t_codeHalf v_t_codeHalf, iA cI 16 A_t_codeTo v_t_codeTo, iA cI 260 A_t_codes v_t_codes, iA cI 10 A_t_facts v_t_facts, iA cI 293 A_t_now v_t_now, iA cI 16 A_t_rhymeOf v_t_rhymeOf, iA cI 260 A_t_stack v_t_stack, iA cI 48 A_t_wordAt v_t_wordAt]) C hK hP hD hS fp_X12_320 0 rfl rfl rfl (Nat.le_of_ble_eq_true rfl) rfl dX12_daysGo_7 ?_
  intro H locs hP hD hS
  refine lv_aload_n hx hb dX12_daysGo_10 rfl (lv_at hl 0 rfl) ?_
  refine lv_iconst (v := 0) hx hb dX12_daysGo_11 (by decide) ?_
  refine x_put (ws' := [oX12 A_t A_t_now A_t_aside A_t_kept A_t_rhymeOf A_t_wasRhyme A_t_wordAt x_t_wordMany A_t_tape x_t_taped x_t_place0 x_t_length0 x_t_fault x_t_number0 x_t_open x_t_codeMany x_t_waiting x_t_saidMany x_t_clauses A_t_said A_t_waitsAt A_t_saidLetter A_t_saidFrom A_t_saidHalf A_t_saidTo A_t_codes A_t_clauseOf A_t_codeFrom A_t_codeHalf A_t_codeTo A_t_stack A_t_facts x_t_lines A_t_newWords A_t_roundFrom A_t_roundAt A_t_roundTimes x_t_newMany x_t_rounds x_t_itFrom x_t_itTimes (0 : Int32) (0 : Int32) (0 : Int32) x_t_chosen x_t_fearOfChosen A_t_leastFrom A_t_rowNow x_t_changesNow x_t_left0 A_t_bornOf A_t_trainsTo A_t_trainAt x_t_trainMany x_t_leastTries x_t_firstTrained x_t_isKept, iA cI 16 A_t_clauseOf v_t_clauseOf, iA cI 16 A_t_codeFrom v_t_codeFrom, iA cI 16 A_t_codeHalf v_t_codeHalf, iA cI 16 A_t_codeTo v_t_codeTo, iA cI 260 A_t_codes v_t_codes, iA cI 10 A_t_facts v_t_facts, iA cI 293 A_t_now v_t_now, iA cI 16 A_t_rhymeOf v_t_rhymeOf, iA cI 260 A_t_stack v_t_stack, iA cI 48 A_t_wordAt v_t_wordAt]) C hK hP hD hS fp_X12_336 0 rfl rfl rfl (Nat.le_of_ble_eq_true rfl) rfl dX12_daysGo_12 ?_
  intro H locs hP hD hS
  refine lv_iconst (v := 0) hx hb dX12_daysGo_15 (by decide) ?_
  refine lv_istore_n (lv' := [(2, .int (0 : Int32)), (0, .ref A_t), (1, .int a1)]) hx hb dX12_daysGo_16 rfl hl (by decide) rfl (fun ls hl => ?_)
  exact hb_17 FU v_t_facts v_t_now v_t_stack x_t_chosen x_t_fearOfChosen (0 : Int32) (0 : Int32) (0 : Int32) (0 : Int32) _ _ ls (lv_sub hl [1, 2, 0] rfl) hP hD hS hf
def f_X12_days (v_t_clauseOf : (Nat → Int32)) (v_t_codeFrom : (Nat → Int32)) (v_t_codeHalf : (Nat → Int32)) (v_t_codeTo : (Nat → Int32)) (v_t_codes : (Nat → Int32)) (v_t_facts : (Nat → Int32)) (v_t_now : (Nat → Int32)) (v_t_rhymeOf : (Nat → Int32)) (v_t_stack : (Nat → Int32)) (v_t_wordAt : (Nat → Int32)) (x_t_chosen : Int32) (x_t_clauses : Int32) (x_t_fearOfChosen : Int32) (x_t_picturesNow : Int32) (x_t_usedNow : Int32) (x_t_wordMany : Int32) (x_t_writtenNow : Int32) (a1 : Int32) : Option (Int32 × (Nat → Int32) × (Nat → Int32) × (Nat → Int32) × Int32 × Int32 × Int32 × Int32 × Int32) :=
  bd1 (f_X12_in a1 (1 : Int32) (60 : Int32)) (fun r1 =>
  if r1 = 0 then
    some ((-1 : Int32), v_t_facts, v_t_now, v_t_stack, x_t_chosen, x_t_fearOfChosen, x_t_picturesNow, x_t_usedNow, x_t_writtenNow)
  else
    bd8 (f_X12_daysGo v_t_clauseOf v_t_codeFrom v_t_codeHalf v_t_codeTo v_t_codes v_t_facts v_t_now v_t_rhymeOf v_t_stack v_t_wordAt x_t_chosen x_t_clauses x_t_fearOfChosen x_t_picturesNow x_t_usedNow x_t_wordMany x_t_writtenNow a1) (fun w2 w3 w4 w5 w6 w7 w8 w9 =>
    some (w9, w2, w3, w4, w5, w6, w7, w8, w9)))
set_option maxHeartbeats 4000000 in
set_option maxRecDepth 100000 in
theorem c_X12_days {l : Launch} {D : va_G} {cI cB : ClassId} {A_t A_t_now A_t_aside A_t_kept A_t_rhymeOf A_t_wasRhyme A_t_wordAt A_t_tape A_t_said A_t_waitsAt A_t_saidLetter A_t_saidFrom A_t_saidHalf A_t_saidTo A_t_codes A_t_clauseOf A_t_codeFrom A_t_codeHalf A_t_codeTo A_t_stack A_t_facts A_t_newWords A_t_roundFrom A_t_roundAt A_t_roundTimes A_t_leastFrom A_t_rowNow A_t_bornOf A_t_trainsTo A_t_trainAt : Nat} {x_t_wordMany x_t_taped x_t_place0 x_t_length0 x_t_fault x_t_number0 x_t_open x_t_codeMany x_t_waiting x_t_saidMany x_t_clauses x_t_lines x_t_newMany x_t_rounds x_t_itFrom x_t_itTimes x_t_writtenNow x_t_picturesNow x_t_usedNow x_t_chosen x_t_fearOfChosen x_t_changesNow x_t_left0 x_t_trainMany x_t_leastTries x_t_firstTrained x_t_isKept a1 : Int32} {v_t_clauseOf v_t_codeFrom v_t_codeHalf v_t_codeTo v_t_codes v_t_facts v_t_now v_t_rhymeOf v_t_stack v_t_wordAt : Nat → Int32} {o_r o_x_t_chosen o_x_t_fearOfChosen o_x_t_picturesNow o_x_t_usedNow o_x_t_writtenNow : Int32} {o_v_t_facts o_v_t_now o_v_t_stack : Nat → Int32} (hf : f_X12_days v_t_clauseOf v_t_codeFrom v_t_codeHalf v_t_codeTo v_t_codes v_t_facts v_t_now v_t_rhymeOf v_t_stack v_t_wordAt x_t_chosen x_t_clauses x_t_fearOfChosen x_t_picturesNow x_t_usedNow x_t_wordMany x_t_writtenNow a1 = some (o_r, o_v_t_facts, o_v_t_now, o_v_t_stack, o_x_t_chosen, o_x_t_fearOfChosen, o_x_t_picturesNow, o_x_t_usedNow, o_x_t_writtenNow)) : CtI l D cI cB yX12_days cX12_days 2 (some .int) 9 204 [.ref A_t, .int a1] [oX12 A_t A_t_now A_t_aside A_t_kept A_t_rhymeOf A_t_wasRhyme A_t_wordAt x_t_wordMany A_t_tape x_t_taped x_t_place0 x_t_length0 x_t_fault x_t_number0 x_t_open x_t_codeMany x_t_waiting x_t_saidMany x_t_clauses A_t_said A_t_waitsAt A_t_saidLetter A_t_saidFrom A_t_saidHalf A_t_saidTo A_t_codes A_t_clauseOf A_t_codeFrom A_t_codeHalf A_t_codeTo A_t_stack A_t_facts x_t_lines A_t_newWords A_t_roundFrom A_t_roundAt A_t_roundTimes x_t_newMany x_t_rounds x_t_itFrom x_t_itTimes x_t_writtenNow x_t_picturesNow x_t_usedNow x_t_chosen x_t_fearOfChosen A_t_leastFrom A_t_rowNow x_t_changesNow x_t_left0 A_t_bornOf A_t_trainsTo A_t_trainAt x_t_trainMany x_t_leastTries x_t_firstTrained x_t_isKept, iA cI 16 A_t_clauseOf v_t_clauseOf, iA cI 16 A_t_codeFrom v_t_codeFrom, iA cI 16 A_t_codeHalf v_t_codeHalf, iA cI 16 A_t_codeTo v_t_codeTo, iA cI 260 A_t_codes v_t_codes, iA cI 10 A_t_facts v_t_facts, iA cI 293 A_t_now v_t_now, iA cI 16 A_t_rhymeOf v_t_rhymeOf, iA cI 260 A_t_stack v_t_stack, iA cI 48 A_t_wordAt v_t_wordAt] [oX12 A_t A_t_now A_t_aside A_t_kept A_t_rhymeOf A_t_wasRhyme A_t_wordAt x_t_wordMany A_t_tape x_t_taped x_t_place0 x_t_length0 x_t_fault x_t_number0 x_t_open x_t_codeMany x_t_waiting x_t_saidMany x_t_clauses A_t_said A_t_waitsAt A_t_saidLetter A_t_saidFrom A_t_saidHalf A_t_saidTo A_t_codes A_t_clauseOf A_t_codeFrom A_t_codeHalf A_t_codeTo A_t_stack A_t_facts x_t_lines A_t_newWords A_t_roundFrom A_t_roundAt A_t_roundTimes x_t_newMany x_t_rounds x_t_itFrom x_t_itTimes o_x_t_writtenNow o_x_t_picturesNow o_x_t_usedNow o_x_t_chosen o_x_t_fearOfChosen A_t_leastFrom A_t_rowNow x_t_changesNow x_t_left0 A_t_bornOf A_t_trainsTo A_t_trainAt x_t_trainMany x_t_leastTries x_t_firstTrained x_t_isKept, iA cI 16 A_t_clauseOf v_t_clauseOf, iA cI 16 A_t_codeFrom v_t_codeFrom, iA cI 16 A_t_codeHalf v_t_codeHalf, iA cI 16 A_t_codeTo v_t_codeTo, iA cI 260 A_t_codes v_t_codes, iA cI 10 A_t_facts o_v_t_facts, iA cI 293 A_t_now o_v_t_now, iA cI 16 A_t_rhymeOf v_t_rhymeOf, iA cI 260 A_t_stack o_v_t_stack, iA cI 48 A_t_wordAt v_t_wordAt] o_r := by
  refine x_startI (by decide) (Nat.le_of_ble_eq_true rfl) ?_
  intro p e s m below meth c A C hr hlk hA hK hP hD hS ls hl
  have hl : lv_has ls 2 [(0, .ref A_t), (1, .int a1)] := hl
  have hx := C.1
  have hb := C.2.1
  unfold f_X12_days at hf
  refine lv_iload_n hx hb dX12_days_0 rfl (lv_at hl 1 rfl) ?_
  refine lv_iconst (v := 1) hx hb dX12_days_1 (by decide) ?_
  refine lv_bipush (v := 60) hx hb dX12_days_2 (by decide) ?_
  obtain ⟨r1, hc2, hf⟩ := bd1_e hf
  refine x_callSI (ws' := [oX12 A_t A_t_now A_t_aside A_t_kept A_t_rhymeOf A_t_wasRhyme A_t_wordAt x_t_wordMany A_t_tape x_t_taped x_t_place0 x_t_length0 x_t_fault x_t_number0 x_t_open x_t_codeMany x_t_waiting x_t_saidMany x_t_clauses A_t_said A_t_waitsAt A_t_saidLetter A_t_saidFrom A_t_saidHalf A_t_saidTo A_t_codes A_t_clauseOf A_t_codeFrom A_t_codeHalf A_t_codeTo A_t_stack A_t_facts x_t_lines A_t_newWords A_t_roundFrom A_t_roundAt A_t_roundTimes x_t_newMany x_t_rounds x_t_itFrom x_t_itTimes x_t_writtenNow x_t_picturesNow x_t_usedNow x_t_chosen x_t_fearOfChosen A_t_leastFrom A_t_rowNow x_t_changesNow x_t_left0 A_t_bornOf A_t_trainsTo A_t_trainAt x_t_trainMany x_t_leastTries x_t_firstTrained x_t_isKept, iA cI 16 A_t_clauseOf v_t_clauseOf, iA cI 16 A_t_codeFrom v_t_codeFrom, iA cI 16 A_t_codeHalf v_t_codeHalf, iA cI 16 A_t_codeTo v_t_codeTo, iA cI 260 A_t_codes v_t_codes, iA cI 10 A_t_facts v_t_facts, iA cI 293 A_t_now v_t_now, iA cI 16 A_t_rhymeOf v_t_rhymeOf, iA cI 260 A_t_stack v_t_stack, iA cI 48 A_t_wordAt v_t_wordAt]) (rest := []) C hK hP hD hS hA hl mf_X12_105 (c_X12_in hc2) [] rfl rfl rfl rfl rfl rfl rfl rfl (Nat.le_of_ble_eq_true rfl) ⟨Nat.le_of_ble_eq_true rfl, Nat.le_of_ble_eq_true rfl⟩ ⟨Nat.le_refl _, Nat.le_refl _⟩ dX12_days_4 ?_
  intro H locs hP hD hS
  refine lv_if_ne (tgt := 12) hx hb dX12_days_7 (by decide) (fun q => ?_) (fun q => ?_)
  · have hf := if_f q hf
    refine lv_aload_n hx hb dX12_days_12 rfl (lv_at hl 0 rfl) ?_
    refine lv_iload_n hx hb dX12_days_13 rfl (lv_at hl 1 rfl) ?_
    obtain ⟨w3, w4, w5, w6, w7, w8, w9, w10, hc11, hf⟩ := bd8_e hf
    refine x_callVV (ws' := [oX12 A_t A_t_now A_t_aside A_t_kept A_t_rhymeOf A_t_wasRhyme A_t_wordAt x_t_wordMany A_t_tape x_t_taped x_t_place0 x_t_length0 x_t_fault x_t_number0 x_t_open x_t_codeMany x_t_waiting x_t_saidMany x_t_clauses A_t_said A_t_waitsAt A_t_saidLetter A_t_saidFrom A_t_saidHalf A_t_saidTo A_t_codes A_t_clauseOf A_t_codeFrom A_t_codeHalf A_t_codeTo A_t_stack A_t_facts x_t_lines A_t_newWords A_t_roundFrom A_t_roundAt A_t_roundTimes x_t_newMany x_t_rounds x_t_itFrom x_t_itTimes w10 w8 w9 w6 w7 A_t_leastFrom A_t_rowNow x_t_changesNow x_t_left0 A_t_bornOf A_t_trainsTo A_t_trainAt x_t_trainMany x_t_leastTries x_t_firstTrained x_t_isKept, iA cI 16 A_t_clauseOf v_t_clauseOf, iA cI 16 A_t_codeFrom v_t_codeFrom, iA cI 16 A_t_codeHalf v_t_codeHalf, iA cI 16 A_t_codeTo v_t_codeTo, iA cI 260 A_t_codes v_t_codes, iA cI 10 A_t_facts w3, iA cI 293 A_t_now w4, iA cI 16 A_t_rhymeOf v_t_rhymeOf, iA cI 260 A_t_stack w5, iA cI 48 A_t_wordAt v_t_wordAt]) (rest := []) C hK hP hD hS hA hl mf_X12_345 (c_X12_daysGo hc11) [0, 1, 2, 3, 4, 5, 6, 7, 8, 9, 10] 0 12 rfl rfl rfl rfl rfl rfl rfl rfl rfl rfl (Nat.le_of_ble_eq_true rfl) ⟨Nat.le_of_ble_eq_true rfl, Nat.le_of_ble_eq_true rfl⟩ ⟨Nat.le_refl _, Nat.le_refl _⟩ dX12_days_14 ?_
    intro H locs hP hD hS
    refine lv_aload_n hx hb dX12_days_17 rfl (lv_at hl 0 rfl) ?_
    refine x_get C hK hP fd_X12_330 0 rfl rfl dX12_days_18 ?_
    obtain ⟨rfl, rfl, rfl, rfl, rfl, rfl, rfl, rfl, rfl⟩ := ev9 hf
    exact x_iret C hr hlk hP hD hS dX12_days_21
  · have hf := if_t q hf
    refine lv_iconst (v := -1) hx hb dX12_days_10 (by decide) ?_
    obtain ⟨rfl, rfl, rfl, rfl, rfl, rfl, rfl, rfl, rfl⟩ := ev9 hf
    exact x_iret C hr hlk hP hD hS dX12_days_11
def f_X12_tried_b42 (v_t_aside : (Nat → Int32)) (v_t_facts : (Nat → Int32)) (v_t_now : (Nat → Int32)) (v_t_stack : (Nat → Int32)) (x_t_chosen : Int32) (x_t_fearOfChosen : Int32) (x_t_picturesNow : Int32) (x_t_usedNow : Int32) (x_t_writtenNow : Int32) : Option (Int32 × (Nat → Int32) × (Nat → Int32) × (Nat → Int32) × (Nat → Int32) × Int32 × Int32 × Int32 × Int32 × Int32) :=
  some ((-1 : Int32), v_t_aside, v_t_facts, v_t_now, v_t_stack, x_t_chosen, x_t_fearOfChosen, x_t_picturesNow, x_t_usedNow, x_t_writtenNow)
def f_X12_tried_b144 (v_t_aside : (Nat → Int32)) (v_t_facts : (Nat → Int32)) (v_t_now : (Nat → Int32)) (v_t_stack : (Nat → Int32)) (x_t_chosen : Int32) (x_t_fearOfChosen : Int32) (x_t_picturesNow : Int32) (x_t_usedNow : Int32) (x_t_writtenNow : Int32) (l3 : Int32) : Option (Int32 × (Nat → Int32) × (Nat → Int32) × (Nat → Int32) × (Nat → Int32) × Int32 × Int32 × Int32 × Int32 × Int32) :=
  bd1 (f_X12_copies v_t_aside v_t_now) (fun w1 =>
  some (l3, v_t_aside, v_t_facts, w1, v_t_stack, x_t_chosen, x_t_fearOfChosen, x_t_picturesNow, x_t_usedNow, x_t_writtenNow))
def f_X12_tried_b143 (v_t_aside : (Nat → Int32)) (v_t_facts : (Nat → Int32)) (v_t_now : (Nat → Int32)) (v_t_stack : (Nat → Int32)) (x_t_chosen : Int32) (x_t_fearOfChosen : Int32) (x_t_picturesNow : Int32) (x_t_usedNow : Int32) (x_t_writtenNow : Int32) (s0 : Int32) : Option (Int32 × (Nat → Int32) × (Nat → Int32) × (Nat → Int32) × (Nat → Int32) × Int32 × Int32 × Int32 × Int32 × Int32) :=
  f_X12_tried_b144 v_t_aside v_t_facts v_t_now v_t_stack x_t_chosen x_t_fearOfChosen x_t_picturesNow x_t_usedNow x_t_writtenNow s0
def f_X12_tried_b44 (v_t_clauseOf : (Nat → Int32)) (v_t_codeFrom : (Nat → Int32)) (v_t_codeHalf : (Nat → Int32)) (v_t_codeTo : (Nat → Int32)) (v_t_codes : (Nat → Int32)) (v_t_rhymeOf : (Nat → Int32)) (v_t_wordAt : (Nat → Int32)) (x_t_clauses : Int32) (x_t_wordMany : Int32) (a1 : Int32) (a2 : Int32) (v_t_aside : (Nat → Int32)) (v_t_facts : (Nat → Int32)) (v_t_now : (Nat → Int32)) (v_t_stack : (Nat → Int32)) (x_t_chosen : Int32) (x_t_fearOfChosen : Int32) (x_t_picturesNow : Int32) (x_t_usedNow : Int32) (x_t_writtenNow : Int32) : Option (Int32 × (Nat → Int32) × (Nat → Int32) × (Nat → Int32) × (Nat → Int32) × Int32 × Int32 × Int32 × Int32 × Int32) :=
  bd1 (f_X12_copies v_t_now v_t_aside) (fun w1 =>
  bd8 (f_X12_daysGo v_t_clauseOf v_t_codeFrom v_t_codeHalf v_t_codeTo v_t_codes v_t_facts v_t_now v_t_rhymeOf v_t_stack v_t_wordAt x_t_chosen x_t_clauses x_t_fearOfChosen x_t_picturesNow x_t_usedNow x_t_wordMany x_t_writtenNow a1) (fun w2 w3 w4 w5 w6 w7 w8 w9 =>
  if a2 = (0 : Int32) then
    f_X12_tried_b144 w1 w2 w3 w4 w5 w6 w7 w8 w9 w9
  else
  if a2 = (1 : Int32) then
    f_X12_tried_b144 w1 w2 w3 w4 w5 w6 w7 w8 w9 w7
  else
  if a2 = (2 : Int32) then
    f_X12_tried_b144 w1 w2 w3 w4 w5 w6 w7 w8 w9 w8
  else
    if (200 : Int32) ≤ a2 then
      bd1 (f_X12_dreadSum w3 (a2 - (200 : Int32))) (fun r10 =>
      f_X12_tried_b143 w1 w2 w3 w4 w5 w6 w7 w8 w9 r10)
    else
      gI 293 w3 (((24 : Int32) + a2) - (100 : Int32)) (fun g11 =>
      f_X12_tried_b143 w1 w2 w3 w4 w5 w6 w7 w8 w9 g11)))
def f_X12_tried (v_t_aside : (Nat → Int32)) (v_t_clauseOf : (Nat → Int32)) (v_t_codeFrom : (Nat → Int32)) (v_t_codeHalf : (Nat → Int32)) (v_t_codeTo : (Nat → Int32)) (v_t_codes : (Nat → Int32)) (v_t_facts : (Nat → Int32)) (v_t_now : (Nat → Int32)) (v_t_rhymeOf : (Nat → Int32)) (v_t_stack : (Nat → Int32)) (v_t_wordAt : (Nat → Int32)) (x_t_chosen : Int32) (x_t_clauses : Int32) (x_t_fearOfChosen : Int32) (x_t_picturesNow : Int32) (x_t_usedNow : Int32) (x_t_wordMany : Int32) (x_t_writtenNow : Int32) (a1 : Int32) (a2 : Int32) : Option (Int32 × (Nat → Int32) × (Nat → Int32) × (Nat → Int32) × (Nat → Int32) × Int32 × Int32 × Int32 × Int32 × Int32) :=
  bd1 (f_X12_in a1 (1 : Int32) (60 : Int32)) (fun r12 =>
  if r12 = 0 then
    f_X12_tried_b42 v_t_aside v_t_facts v_t_now v_t_stack x_t_chosen x_t_fearOfChosen x_t_picturesNow x_t_usedNow x_t_writtenNow
  else
    bd1 (f_X12_in a2 (0 : Int32) (2 : Int32)) (fun r13 =>
    if r13 = 0 then
      bd1 (f_X12_isTold v_t_now (a2 - (100 : Int32))) (fun r14 =>
      if r14 = 0 then
        bd1 (f_X12_isTold v_t_now (a2 - (200 : Int32))) (fun r15 =>
        if r15 = 0 then
          f_X12_tried_b42 v_t_aside v_t_facts v_t_now v_t_stack x_t_chosen x_t_fearOfChosen x_t_picturesNow x_t_usedNow x_t_writtenNow
        else
          f_X12_tried_b44 v_t_clauseOf v_t_codeFrom v_t_codeHalf v_t_codeTo v_t_codes v_t_rhymeOf v_t_wordAt x_t_clauses x_t_wordMany a1 a2 v_t_aside v_t_facts v_t_now v_t_stack x_t_chosen x_t_fearOfChosen x_t_picturesNow x_t_usedNow x_t_writtenNow)
      else
        f_X12_tried_b44 v_t_clauseOf v_t_codeFrom v_t_codeHalf v_t_codeTo v_t_codes v_t_rhymeOf v_t_wordAt x_t_clauses x_t_wordMany a1 a2 v_t_aside v_t_facts v_t_now v_t_stack x_t_chosen x_t_fearOfChosen x_t_picturesNow x_t_usedNow x_t_writtenNow)
    else
      f_X12_tried_b44 v_t_clauseOf v_t_codeFrom v_t_codeHalf v_t_codeTo v_t_codes v_t_rhymeOf v_t_wordAt x_t_clauses x_t_wordMany a1 a2 v_t_aside v_t_facts v_t_now v_t_stack x_t_chosen x_t_fearOfChosen x_t_picturesNow x_t_usedNow x_t_writtenNow))
set_option maxHeartbeats 4000000 in
set_option maxRecDepth 100000 in
theorem c_X12_tried {l : Launch} {D : va_G} {cI cB : ClassId} {A_t A_t_now A_t_aside A_t_kept A_t_rhymeOf A_t_wasRhyme A_t_wordAt A_t_tape A_t_said A_t_waitsAt A_t_saidLetter A_t_saidFrom A_t_saidHalf A_t_saidTo A_t_codes A_t_clauseOf A_t_codeFrom A_t_codeHalf A_t_codeTo A_t_stack A_t_facts A_t_newWords A_t_roundFrom A_t_roundAt A_t_roundTimes A_t_leastFrom A_t_rowNow A_t_bornOf A_t_trainsTo A_t_trainAt : Nat} {x_t_wordMany x_t_taped x_t_place0 x_t_length0 x_t_fault x_t_number0 x_t_open x_t_codeMany x_t_waiting x_t_saidMany x_t_clauses x_t_lines x_t_newMany x_t_rounds x_t_itFrom x_t_itTimes x_t_writtenNow x_t_picturesNow x_t_usedNow x_t_chosen x_t_fearOfChosen x_t_changesNow x_t_left0 x_t_trainMany x_t_leastTries x_t_firstTrained x_t_isKept a1 a2 : Int32} {v_t_aside v_t_clauseOf v_t_codeFrom v_t_codeHalf v_t_codeTo v_t_codes v_t_facts v_t_now v_t_rhymeOf v_t_stack v_t_wordAt : Nat → Int32} {o_r o_x_t_chosen o_x_t_fearOfChosen o_x_t_picturesNow o_x_t_usedNow o_x_t_writtenNow : Int32} {o_v_t_aside o_v_t_facts o_v_t_now o_v_t_stack : Nat → Int32} (hf : f_X12_tried v_t_aside v_t_clauseOf v_t_codeFrom v_t_codeHalf v_t_codeTo v_t_codes v_t_facts v_t_now v_t_rhymeOf v_t_stack v_t_wordAt x_t_chosen x_t_clauses x_t_fearOfChosen x_t_picturesNow x_t_usedNow x_t_wordMany x_t_writtenNow a1 a2 = some (o_r, o_v_t_aside, o_v_t_facts, o_v_t_now, o_v_t_stack, o_x_t_chosen, o_x_t_fearOfChosen, o_x_t_picturesNow, o_x_t_usedNow, o_x_t_writtenNow)) : CtI l D cI cB yX12_tried cX12_tried 4 (some .int) 9 204 [.ref A_t, .int a1, .int a2] [oX12 A_t A_t_now A_t_aside A_t_kept A_t_rhymeOf A_t_wasRhyme A_t_wordAt x_t_wordMany A_t_tape x_t_taped x_t_place0 x_t_length0 x_t_fault x_t_number0 x_t_open x_t_codeMany x_t_waiting x_t_saidMany x_t_clauses A_t_said A_t_waitsAt A_t_saidLetter A_t_saidFrom A_t_saidHalf A_t_saidTo A_t_codes A_t_clauseOf A_t_codeFrom A_t_codeHalf A_t_codeTo A_t_stack A_t_facts x_t_lines A_t_newWords A_t_roundFrom A_t_roundAt A_t_roundTimes x_t_newMany x_t_rounds x_t_itFrom x_t_itTimes x_t_writtenNow x_t_picturesNow x_t_usedNow x_t_chosen x_t_fearOfChosen A_t_leastFrom A_t_rowNow x_t_changesNow x_t_left0 A_t_bornOf A_t_trainsTo A_t_trainAt x_t_trainMany x_t_leastTries x_t_firstTrained x_t_isKept, iA cI 293 A_t_aside v_t_aside, iA cI 16 A_t_clauseOf v_t_clauseOf, iA cI 16 A_t_codeFrom v_t_codeFrom, iA cI 16 A_t_codeHalf v_t_codeHalf, iA cI 16 A_t_codeTo v_t_codeTo, iA cI 260 A_t_codes v_t_codes, iA cI 10 A_t_facts v_t_facts, iA cI 293 A_t_now v_t_now, iA cI 16 A_t_rhymeOf v_t_rhymeOf, iA cI 260 A_t_stack v_t_stack, iA cI 48 A_t_wordAt v_t_wordAt] [oX12 A_t A_t_now A_t_aside A_t_kept A_t_rhymeOf A_t_wasRhyme A_t_wordAt x_t_wordMany A_t_tape x_t_taped x_t_place0 x_t_length0 x_t_fault x_t_number0 x_t_open x_t_codeMany x_t_waiting x_t_saidMany x_t_clauses A_t_said A_t_waitsAt A_t_saidLetter A_t_saidFrom A_t_saidHalf A_t_saidTo A_t_codes A_t_clauseOf A_t_codeFrom A_t_codeHalf A_t_codeTo A_t_stack A_t_facts x_t_lines A_t_newWords A_t_roundFrom A_t_roundAt A_t_roundTimes x_t_newMany x_t_rounds x_t_itFrom x_t_itTimes o_x_t_writtenNow o_x_t_picturesNow o_x_t_usedNow o_x_t_chosen o_x_t_fearOfChosen A_t_leastFrom A_t_rowNow x_t_changesNow x_t_left0 A_t_bornOf A_t_trainsTo A_t_trainAt x_t_trainMany x_t_leastTries x_t_firstTrained x_t_isKept, iA cI 293 A_t_aside o_v_t_aside, iA cI 16 A_t_clauseOf v_t_clauseOf, iA cI 16 A_t_codeFrom v_t_codeFrom, iA cI 16 A_t_codeHalf v_t_codeHalf, iA cI 16 A_t_codeTo v_t_codeTo, iA cI 260 A_t_codes v_t_codes, iA cI 10 A_t_facts o_v_t_facts, iA cI 293 A_t_now o_v_t_now, iA cI 16 A_t_rhymeOf v_t_rhymeOf, iA cI 260 A_t_stack o_v_t_stack, iA cI 48 A_t_wordAt v_t_wordAt] o_r := by
  refine x_startI (by decide) (Nat.le_of_ble_eq_true rfl) ?_
  intro p e s m below meth c A C hr hlk hA hK hP hD hS ls hl
  have hl : lv_has ls 4 [(0, .ref A_t), (1, .int a1), (2, .int a2)] := hl
  have hx := C.1
  have hb := C.2.1
  unfold f_X12_tried at hf
  have hb_42 : ∀ (v_t_aside : (Nat → Int32)) (v_t_facts : (Nat → Int32)) (v_t_now : (Nat → Int32)) (v_t_stack : (Nat → Int32)) (x_t_chosen : Int32) (x_t_fearOfChosen : Int32) (x_t_picturesNow : Int32) (x_t_usedNow : Int32) (x_t_writtenNow : Int32) (H : Heap) (locs : List Loc) (ls : Array Slot), lv_has ls 4 [] → va_P D vwCl [oX12 A_t A_t_now A_t_aside A_t_kept A_t_rhymeOf A_t_wasRhyme A_t_wordAt x_t_wordMany A_t_tape x_t_taped x_t_place0 x_t_length0 x_t_fault x_t_number0 x_t_open x_t_codeMany x_t_waiting x_t_saidMany x_t_clauses A_t_said A_t_waitsAt A_t_saidLetter A_t_saidFrom A_t_saidHalf A_t_saidTo A_t_codes A_t_clauseOf A_t_codeFrom A_t_codeHalf A_t_codeTo A_t_stack A_t_facts x_t_lines A_t_newWords A_t_roundFrom A_t_roundAt A_t_roundTimes x_t_newMany x_t_rounds x_t_itFrom x_t_itTimes x_t_writtenNow x_t_picturesNow x_t_usedNow x_t_chosen x_t_fearOfChosen A_t_leastFrom A_t_rowNow x_t_changesNow x_t_left0 A_t_bornOf A_t_trainsTo A_t_trainAt x_t_trainMany x_t_leastTries x_t_firstTrained x_t_isKept, iA cI 293 A_t_aside v_t_aside, iA cI 16 A_t_clauseOf v_t_clauseOf, iA cI 16 A_t_codeFrom v_t_codeFrom, iA cI 16 A_t_codeHalf v_t_codeHalf, iA cI 16 A_t_codeTo v_t_codeTo, iA cI 260 A_t_codes v_t_codes, iA cI 10 A_t_facts v_t_facts, iA cI 293 A_t_now v_t_now, iA cI 16 A_t_rhymeOf v_t_rhymeOf, iA cI 260 A_t_stack v_t_stack, iA cI 48 A_t_wordAt v_t_wordAt] H → va_D A [oX12 A_t A_t_now A_t_aside A_t_kept A_t_rhymeOf A_t_wasRhyme A_t_wordAt x_t_wordMany A_t_tape x_t_taped x_t_place0 x_t_length0 x_t_fault x_t_number0 x_t_open x_t_codeMany x_t_waiting x_t_saidMany x_t_clauses A_t_said A_t_waitsAt A_t_saidLetter A_t_saidFrom A_t_saidHalf A_t_saidTo A_t_codes A_t_clauseOf A_t_codeFrom A_t_codeHalf A_t_codeTo A_t_stack A_t_facts x_t_lines A_t_newWords A_t_roundFrom A_t_roundAt A_t_roundTimes x_t_newMany x_t_rounds x_t_itFrom x_t_itTimes x_t_writtenNow x_t_picturesNow x_t_usedNow x_t_chosen x_t_fearOfChosen A_t_leastFrom A_t_rowNow x_t_changesNow x_t_left0 A_t_bornOf A_t_trainsTo A_t_trainAt x_t_trainMany x_t_leastTries x_t_firstTrained x_t_isKept, iA cI 293 A_t_aside v_t_aside, iA cI 16 A_t_clauseOf v_t_clauseOf, iA cI 16 A_t_codeFrom v_t_codeFrom, iA cI 16 A_t_codeHalf v_t_codeHalf, iA cI 16 A_t_codeTo v_t_codeTo, iA cI 260 A_t_codes v_t_codes, iA cI 10 A_t_facts v_t_facts, iA cI 293 A_t_now v_t_now, iA cI 16 A_t_rhymeOf v_t_rhymeOf, iA cI 260 A_t_stack v_t_stack, iA cI 48 A_t_wordAt v_t_wordAt] → va_S A s.heap H locs → f_X12_tried_b42 v_t_aside v_t_facts v_t_now v_t_stack x_t_chosen x_t_fearOfChosen x_t_picturesNow x_t_usedNow x_t_writtenNow = some (o_r, o_v_t_aside, o_v_t_facts, o_v_t_now, o_v_t_stack, o_x_t_chosen, o_x_t_fearOfChosen, o_x_t_picturesNow, o_x_t_usedNow, o_x_t_writtenNow) → W p l e { frames := 9, cells := 0, slots := 0, locals := 204 } s m ([.ref A_t, .int a1, .int a2] : List Value).toArray below meth c H locs 0 0 (MQ below (PoI D A [oX12 A_t A_t_now A_t_aside A_t_kept A_t_rhymeOf A_t_wasRhyme A_t_wordAt x_t_wordMany A_t_tape x_t_taped x_t_place0 x_t_length0 x_t_fault x_t_number0 x_t_open x_t_codeMany x_t_waiting x_t_saidMany x_t_clauses A_t_said A_t_waitsAt A_t_saidLetter A_t_saidFrom A_t_saidHalf A_t_saidTo A_t_codes A_t_clauseOf A_t_codeFrom A_t_codeHalf A_t_codeTo A_t_stack A_t_facts x_t_lines A_t_newWords A_t_roundFrom A_t_roundAt A_t_roundTimes x_t_newMany x_t_rounds x_t_itFrom x_t_itTimes o_x_t_writtenNow o_x_t_picturesNow o_x_t_usedNow o_x_t_chosen o_x_t_fearOfChosen A_t_leastFrom A_t_rowNow x_t_changesNow x_t_left0 A_t_bornOf A_t_trainsTo A_t_trainAt x_t_trainMany x_t_leastTries x_t_firstTrained x_t_isKept, iA cI 293 A_t_aside o_v_t_aside, iA cI 16 A_t_clauseOf v_t_clauseOf, iA cI 16 A_t_codeFrom v_t_codeFrom, iA cI 16 A_t_codeHalf v_t_codeHalf, iA cI 16 A_t_codeTo v_t_codeTo, iA cI 260 A_t_codes v_t_codes, iA cI 10 A_t_facts o_v_t_facts, iA cI 293 A_t_now o_v_t_now, iA cI 16 A_t_rhymeOf v_t_rhymeOf, iA cI 260 A_t_stack o_v_t_stack, iA cI 48 A_t_wordAt v_t_wordAt] o_r) ([.ref A_t, .int a1, .int a2] : List Value).toArray s 0 0 A) (F0 m 42 ls []) := by
    intro v_t_aside v_t_facts v_t_now v_t_stack x_t_chosen x_t_fearOfChosen x_t_picturesNow x_t_usedNow x_t_writtenNow H locs ls hl hP hD hS hf
    unfold f_X12_tried_b42 at hf
    refine lv_iconst (v := -1) hx hb dX12_tried_42 (by decide) ?_
    obtain ⟨rfl, rfl, rfl, rfl, rfl, rfl, rfl, rfl, rfl, rfl⟩ := ev10 hf
    exact x_iret C hr hlk hP hD hS dX12_tried_43
  have hb_144 : ∀ (v_t_aside : (Nat → Int32)) (v_t_facts : (Nat → Int32)) (v_t_now : (Nat → Int32)) (v_t_stack : (Nat → Int32)) (x_t_chosen : Int32) (x_t_fearOfChosen : Int32) (x_t_picturesNow : Int32) (x_t_usedNow : Int32) (x_t_writtenNow : Int32) (l3 : Int32) (H : Heap) (locs : List Loc) (ls : Array Slot), lv_has ls 4 [(0, .ref A_t), (3, .int l3)] → va_P D vwCl [oX12 A_t A_t_now A_t_aside A_t_kept A_t_rhymeOf A_t_wasRhyme A_t_wordAt x_t_wordMany A_t_tape x_t_taped x_t_place0 x_t_length0 x_t_fault x_t_number0 x_t_open x_t_codeMany x_t_waiting x_t_saidMany x_t_clauses A_t_said A_t_waitsAt A_t_saidLetter A_t_saidFrom A_t_saidHalf A_t_saidTo A_t_codes A_t_clauseOf A_t_codeFrom A_t_codeHalf A_t_codeTo A_t_stack A_t_facts x_t_lines A_t_newWords A_t_roundFrom A_t_roundAt A_t_roundTimes x_t_newMany x_t_rounds x_t_itFrom x_t_itTimes x_t_writtenNow x_t_picturesNow x_t_usedNow x_t_chosen x_t_fearOfChosen A_t_leastFrom A_t_rowNow x_t_changesNow x_t_left0 A_t_bornOf A_t_trainsTo A_t_trainAt x_t_trainMany x_t_leastTries x_t_firstTrained x_t_isKept, iA cI 293 A_t_aside v_t_aside, iA cI 16 A_t_clauseOf v_t_clauseOf, iA cI 16 A_t_codeFrom v_t_codeFrom, iA cI 16 A_t_codeHalf v_t_codeHalf, iA cI 16 A_t_codeTo v_t_codeTo, iA cI 260 A_t_codes v_t_codes, iA cI 10 A_t_facts v_t_facts, iA cI 293 A_t_now v_t_now, iA cI 16 A_t_rhymeOf v_t_rhymeOf, iA cI 260 A_t_stack v_t_stack, iA cI 48 A_t_wordAt v_t_wordAt] H → va_D A [oX12 A_t A_t_now A_t_aside A_t_kept A_t_rhymeOf A_t_wasRhyme A_t_wordAt x_t_wordMany A_t_tape x_t_taped x_t_place0 x_t_length0 x_t_fault x_t_number0 x_t_open x_t_codeMany x_t_waiting x_t_saidMany x_t_clauses A_t_said A_t_waitsAt A_t_saidLetter A_t_saidFrom A_t_saidHalf A_t_saidTo A_t_codes A_t_clauseOf A_t_codeFrom A_t_codeHalf A_t_codeTo A_t_stack A_t_facts x_t_lines A_t_newWords A_t_roundFrom A_t_roundAt A_t_roundTimes x_t_newMany x_t_rounds x_t_itFrom x_t_itTimes x_t_writtenNow x_t_picturesNow x_t_usedNow x_t_chosen x_t_fearOfChosen A_t_leastFrom A_t_rowNow x_t_changesNow x_t_left0 A_t_bornOf A_t_trainsTo A_t_trainAt x_t_trainMany x_t_leastTries x_t_firstTrained x_t_isKept, iA cI 293 A_t_aside v_t_aside, iA cI 16 A_t_clauseOf v_t_clauseOf, iA cI 16 A_t_codeFrom v_t_codeFrom, iA cI 16 A_t_codeHalf v_t_codeHalf, iA cI 16 A_t_codeTo v_t_codeTo, iA cI 260 A_t_codes v_t_codes, iA cI 10 A_t_facts v_t_facts, iA cI 293 A_t_now v_t_now, iA cI 16 A_t_rhymeOf v_t_rhymeOf, iA cI 260 A_t_stack v_t_stack, iA cI 48 A_t_wordAt v_t_wordAt] → va_S A s.heap H locs → f_X12_tried_b144 v_t_aside v_t_facts v_t_now v_t_stack x_t_chosen x_t_fearOfChosen x_t_picturesNow x_t_usedNow x_t_writtenNow l3 = some (o_r, o_v_t_aside, o_v_t_facts, o_v_t_now, o_v_t_stack, o_x_t_chosen, o_x_t_fearOfChosen, o_x_t_picturesNow, o_x_t_usedNow, o_x_t_writtenNow) → W p l e { frames := 9, cells := 0, slots := 0, locals := 204 } s m ([.ref A_t, .int a1, .int a2] : List Value).toArray below meth c H locs 0 0 (MQ below (PoI D A [oX12 A_t A_t_now A_t_aside A_t_kept A_t_rhymeOf A_t_wasRhyme A_t_wordAt x_t_wordMany A_t_tape x_t_taped x_t_place0 x_t_length0 x_t_fault x_t_number0 x_t_open x_t_codeMany x_t_waiting x_t_saidMany x_t_clauses A_t_said A_t_waitsAt A_t_saidLetter A_t_saidFrom A_t_saidHalf A_t_saidTo A_t_codes A_t_clauseOf A_t_codeFrom A_t_codeHalf A_t_codeTo A_t_stack A_t_facts x_t_lines A_t_newWords A_t_roundFrom A_t_roundAt A_t_roundTimes x_t_newMany x_t_rounds x_t_itFrom x_t_itTimes o_x_t_writtenNow o_x_t_picturesNow o_x_t_usedNow o_x_t_chosen o_x_t_fearOfChosen A_t_leastFrom A_t_rowNow x_t_changesNow x_t_left0 A_t_bornOf A_t_trainsTo A_t_trainAt x_t_trainMany x_t_leastTries x_t_firstTrained x_t_isKept, iA cI 293 A_t_aside o_v_t_aside, iA cI 16 A_t_clauseOf v_t_clauseOf, iA cI 16 A_t_codeFrom v_t_codeFrom, iA cI 16 A_t_codeHalf v_t_codeHalf, iA cI 16 A_t_codeTo v_t_codeTo, iA cI 260 A_t_codes v_t_codes, iA cI 10 A_t_facts o_v_t_facts, iA cI 293 A_t_now o_v_t_now, iA cI 16 A_t_rhymeOf v_t_rhymeOf, iA cI 260 A_t_stack o_v_t_stack, iA cI 48 A_t_wordAt v_t_wordAt] o_r) ([.ref A_t, .int a1, .int a2] : List Value).toArray s 0 0 A) (F0 m 144 ls []) := by
    intro v_t_aside v_t_facts v_t_now v_t_stack x_t_chosen x_t_fearOfChosen x_t_picturesNow x_t_usedNow x_t_writtenNow l3 H locs ls hl hP hD hS hf
    unfold f_X12_tried_b144 at hf
    refine lv_aload_n hx hb dX12_tried_144 rfl (lv_at hl 0 rfl) ?_
    refine x_get C hK hP fd_X12_13 0 rfl rfl dX12_tried_145 ?_
    refine lv_aload_n hx hb dX12_tried_148 rfl (lv_at hl 0 rfl) ?_
    refine x_get C hK hP fd_X12_7 0 rfl rfl dX12_tried_149 ?_
    obtain ⟨w1, hc2, hf⟩ := bd1_e hf
    refine x_callSV (ws' := [oX12 A_t A_t_now A_t_aside A_t_kept A_t_rhymeOf A_t_wasRhyme A_t_wordAt x_t_wordMany A_t_tape x_t_taped x_t_place0 x_t_length0 x_t_fault x_t_number0 x_t_open x_t_codeMany x_t_waiting x_t_saidMany x_t_clauses A_t_said A_t_waitsAt A_t_saidLetter A_t_saidFrom A_t_saidHalf A_t_saidTo A_t_codes A_t_clauseOf A_t_codeFrom A_t_codeHalf A_t_codeTo A_t_stack A_t_facts x_t_lines A_t_newWords A_t_roundFrom A_t_roundAt A_t_roundTimes x_t_newMany x_t_rounds x_t_itFrom x_t_itTimes x_t_writtenNow x_t_picturesNow x_t_usedNow x_t_chosen x_t_fearOfChosen A_t_leastFrom A_t_rowNow x_t_changesNow x_t_left0 A_t_bornOf A_t_trainsTo A_t_trainAt x_t_trainMany x_t_leastTries x_t_firstTrained x_t_isKept, iA cI 293 A_t_aside v_t_aside, iA cI 16 A_t_clauseOf v_t_clauseOf, iA cI 16 A_t_codeFrom v_t_codeFrom, iA cI 16 A_t_codeHalf v_t_codeHalf, iA cI 16 A_t_codeTo v_t_codeTo, iA cI 260 A_t_codes v_t_codes, iA cI 10 A_t_facts v_t_facts, iA cI 293 A_t_now w1, iA cI 16 A_t_rhymeOf v_t_rhymeOf, iA cI 260 A_t_stack v_t_stack, iA cI 48 A_t_wordAt v_t_wordAt]) (rest := []) C hK hP hD hS hA hl mf_X12_272 (c_X12_copies hc2) [1, 8] rfl rfl rfl rfl rfl rfl rfl rfl (Nat.le_of_ble_eq_true rfl) ⟨Nat.le_of_ble_eq_true rfl, Nat.le_of_ble_eq_true rfl⟩ ⟨Nat.le_refl _, Nat.le_refl _⟩ dX12_tried_152 ?_
    intro H locs hP hD hS
    refine lv_iload_n hx hb dX12_tried_155 rfl (lv_at hl 1 rfl) ?_
    obtain ⟨rfl, rfl, rfl, rfl, rfl, rfl, rfl, rfl, rfl, rfl⟩ := ev10 hf
    exact x_iret C hr hlk hP hD hS dX12_tried_156
  have hb_143 : ∀ (v_t_aside : (Nat → Int32)) (v_t_facts : (Nat → Int32)) (v_t_now : (Nat → Int32)) (v_t_stack : (Nat → Int32)) (x_t_chosen : Int32) (x_t_fearOfChosen : Int32) (x_t_picturesNow : Int32) (x_t_usedNow : Int32) (x_t_writtenNow : Int32) (s0 : Int32) (H : Heap) (locs : List Loc) (ls : Array Slot), lv_has ls 4 [(0, .ref A_t)] → va_P D vwCl [oX12 A_t A_t_now A_t_aside A_t_kept A_t_rhymeOf A_t_wasRhyme A_t_wordAt x_t_wordMany A_t_tape x_t_taped x_t_place0 x_t_length0 x_t_fault x_t_number0 x_t_open x_t_codeMany x_t_waiting x_t_saidMany x_t_clauses A_t_said A_t_waitsAt A_t_saidLetter A_t_saidFrom A_t_saidHalf A_t_saidTo A_t_codes A_t_clauseOf A_t_codeFrom A_t_codeHalf A_t_codeTo A_t_stack A_t_facts x_t_lines A_t_newWords A_t_roundFrom A_t_roundAt A_t_roundTimes x_t_newMany x_t_rounds x_t_itFrom x_t_itTimes x_t_writtenNow x_t_picturesNow x_t_usedNow x_t_chosen x_t_fearOfChosen A_t_leastFrom A_t_rowNow x_t_changesNow x_t_left0 A_t_bornOf A_t_trainsTo A_t_trainAt x_t_trainMany x_t_leastTries x_t_firstTrained x_t_isKept, iA cI 293 A_t_aside v_t_aside, iA cI 16 A_t_clauseOf v_t_clauseOf, iA cI 16 A_t_codeFrom v_t_codeFrom, iA cI 16 A_t_codeHalf v_t_codeHalf, iA cI 16 A_t_codeTo v_t_codeTo, iA cI 260 A_t_codes v_t_codes, iA cI 10 A_t_facts v_t_facts, iA cI 293 A_t_now v_t_now, iA cI 16 A_t_rhymeOf v_t_rhymeOf, iA cI 260 A_t_stack v_t_stack, iA cI 48 A_t_wordAt v_t_wordAt] H → va_D A [oX12 A_t A_t_now A_t_aside A_t_kept A_t_rhymeOf A_t_wasRhyme A_t_wordAt x_t_wordMany A_t_tape x_t_taped x_t_place0 x_t_length0 x_t_fault x_t_number0 x_t_open x_t_codeMany x_t_waiting x_t_saidMany x_t_clauses A_t_said A_t_waitsAt A_t_saidLetter A_t_saidFrom A_t_saidHalf A_t_saidTo A_t_codes A_t_clauseOf A_t_codeFrom A_t_codeHalf A_t_codeTo A_t_stack A_t_facts x_t_lines A_t_newWords A_t_roundFrom A_t_roundAt A_t_roundTimes x_t_newMany x_t_rounds x_t_itFrom x_t_itTimes x_t_writtenNow x_t_picturesNow x_t_usedNow x_t_chosen x_t_fearOfChosen A_t_leastFrom A_t_rowNow x_t_changesNow x_t_left0 A_t_bornOf A_t_trainsTo A_t_trainAt x_t_trainMany x_t_leastTries x_t_firstTrained x_t_isKept, iA cI 293 A_t_aside v_t_aside, iA cI 16 A_t_clauseOf v_t_clauseOf, iA cI 16 A_t_codeFrom v_t_codeFrom, iA cI 16 A_t_codeHalf v_t_codeHalf, iA cI 16 A_t_codeTo v_t_codeTo, iA cI 260 A_t_codes v_t_codes, iA cI 10 A_t_facts v_t_facts, iA cI 293 A_t_now v_t_now, iA cI 16 A_t_rhymeOf v_t_rhymeOf, iA cI 260 A_t_stack v_t_stack, iA cI 48 A_t_wordAt v_t_wordAt] → va_S A s.heap H locs → f_X12_tried_b143 v_t_aside v_t_facts v_t_now v_t_stack x_t_chosen x_t_fearOfChosen x_t_picturesNow x_t_usedNow x_t_writtenNow s0 = some (o_r, o_v_t_aside, o_v_t_facts, o_v_t_now, o_v_t_stack, o_x_t_chosen, o_x_t_fearOfChosen, o_x_t_picturesNow, o_x_t_usedNow, o_x_t_writtenNow) → W p l e { frames := 9, cells := 0, slots := 0, locals := 204 } s m ([.ref A_t, .int a1, .int a2] : List Value).toArray below meth c H locs 0 0 (MQ below (PoI D A [oX12 A_t A_t_now A_t_aside A_t_kept A_t_rhymeOf A_t_wasRhyme A_t_wordAt x_t_wordMany A_t_tape x_t_taped x_t_place0 x_t_length0 x_t_fault x_t_number0 x_t_open x_t_codeMany x_t_waiting x_t_saidMany x_t_clauses A_t_said A_t_waitsAt A_t_saidLetter A_t_saidFrom A_t_saidHalf A_t_saidTo A_t_codes A_t_clauseOf A_t_codeFrom A_t_codeHalf A_t_codeTo A_t_stack A_t_facts x_t_lines A_t_newWords A_t_roundFrom A_t_roundAt A_t_roundTimes x_t_newMany x_t_rounds x_t_itFrom x_t_itTimes o_x_t_writtenNow o_x_t_picturesNow o_x_t_usedNow o_x_t_chosen o_x_t_fearOfChosen A_t_leastFrom A_t_rowNow x_t_changesNow x_t_left0 A_t_bornOf A_t_trainsTo A_t_trainAt x_t_trainMany x_t_leastTries x_t_firstTrained x_t_isKept, iA cI 293 A_t_aside o_v_t_aside, iA cI 16 A_t_clauseOf v_t_clauseOf, iA cI 16 A_t_codeFrom v_t_codeFrom, iA cI 16 A_t_codeHalf v_t_codeHalf, iA cI 16 A_t_codeTo v_t_codeTo, iA cI 260 A_t_codes v_t_codes, iA cI 10 A_t_facts o_v_t_facts, iA cI 293 A_t_now o_v_t_now, iA cI 16 A_t_rhymeOf v_t_rhymeOf, iA cI 260 A_t_stack o_v_t_stack, iA cI 48 A_t_wordAt v_t_wordAt] o_r) ([.ref A_t, .int a1, .int a2] : List Value).toArray s 0 0 A) (F0 m 143 ls [.int s0]) := by
    intro v_t_aside v_t_facts v_t_now v_t_stack x_t_chosen x_t_fearOfChosen x_t_picturesNow x_t_usedNow x_t_writtenNow s0 H locs ls hl hP hD hS hf
    unfold f_X12_tried_b143 at hf
    refine lv_istore_n (lv' := [(3, .int s0), (0, .ref A_t)]) hx hb dX12_tried_143 rfl hl (by decide) rfl (fun ls hl => ?_)
    exact hb_144 v_t_aside v_t_facts v_t_now v_t_stack x_t_chosen x_t_fearOfChosen x_t_picturesNow x_t_usedNow x_t_writtenNow s0 _ _ ls (lv_sub hl [1, 0] rfl) hP hD hS hf
  have hb_44 : ∀ (v_t_aside : (Nat → Int32)) (v_t_facts : (Nat → Int32)) (v_t_now : (Nat → Int32)) (v_t_stack : (Nat → Int32)) (x_t_chosen : Int32) (x_t_fearOfChosen : Int32) (x_t_picturesNow : Int32) (x_t_usedNow : Int32) (x_t_writtenNow : Int32) (H : Heap) (locs : List Loc) (ls : Array Slot), lv_has ls 4 [(0, .ref A_t), (1, .int a1), (2, .int a2)] → va_P D vwCl [oX12 A_t A_t_now A_t_aside A_t_kept A_t_rhymeOf A_t_wasRhyme A_t_wordAt x_t_wordMany A_t_tape x_t_taped x_t_place0 x_t_length0 x_t_fault x_t_number0 x_t_open x_t_codeMany x_t_waiting x_t_saidMany x_t_clauses A_t_said A_t_waitsAt A_t_saidLetter A_t_saidFrom A_t_saidHalf A_t_saidTo A_t_codes A_t_clauseOf A_t_codeFrom A_t_codeHalf A_t_codeTo A_t_stack A_t_facts x_t_lines A_t_newWords A_t_roundFrom A_t_roundAt A_t_roundTimes x_t_newMany x_t_rounds x_t_itFrom x_t_itTimes x_t_writtenNow x_t_picturesNow x_t_usedNow x_t_chosen x_t_fearOfChosen A_t_leastFrom A_t_rowNow x_t_changesNow x_t_left0 A_t_bornOf A_t_trainsTo A_t_trainAt x_t_trainMany x_t_leastTries x_t_firstTrained x_t_isKept, iA cI 293 A_t_aside v_t_aside, iA cI 16 A_t_clauseOf v_t_clauseOf, iA cI 16 A_t_codeFrom v_t_codeFrom, iA cI 16 A_t_codeHalf v_t_codeHalf, iA cI 16 A_t_codeTo v_t_codeTo, iA cI 260 A_t_codes v_t_codes, iA cI 10 A_t_facts v_t_facts, iA cI 293 A_t_now v_t_now, iA cI 16 A_t_rhymeOf v_t_rhymeOf, iA cI 260 A_t_stack v_t_stack, iA cI 48 A_t_wordAt v_t_wordAt] H → va_D A [oX12 A_t A_t_now A_t_aside A_t_kept A_t_rhymeOf A_t_wasRhyme A_t_wordAt x_t_wordMany A_t_tape x_t_taped x_t_place0 x_t_length0 x_t_fault x_t_number0 x_t_open x_t_codeMany x_t_waiting x_t_saidMany x_t_clauses A_t_said A_t_waitsAt A_t_saidLetter A_t_saidFrom A_t_saidHalf A_t_saidTo A_t_codes A_t_clauseOf A_t_codeFrom A_t_codeHalf A_t_codeTo A_t_stack A_t_facts x_t_lines A_t_newWords A_t_roundFrom A_t_roundAt A_t_roundTimes x_t_newMany x_t_rounds x_t_itFrom x_t_itTimes x_t_writtenNow x_t_picturesNow x_t_usedNow x_t_chosen x_t_fearOfChosen A_t_leastFrom A_t_rowNow x_t_changesNow x_t_left0 A_t_bornOf A_t_trainsTo A_t_trainAt x_t_trainMany x_t_leastTries x_t_firstTrained x_t_isKept, iA cI 293 A_t_aside v_t_aside, iA cI 16 A_t_clauseOf v_t_clauseOf, iA cI 16 A_t_codeFrom v_t_codeFrom, iA cI 16 A_t_codeHalf v_t_codeHalf, iA cI 16 A_t_codeTo v_t_codeTo, iA cI 260 A_t_codes v_t_codes, iA cI 10 A_t_facts v_t_facts, iA cI 293 A_t_now v_t_now, iA cI 16 A_t_rhymeOf v_t_rhymeOf, iA cI 260 A_t_stack v_t_stack, iA cI 48 A_t_wordAt v_t_wordAt] → va_S A s.heap H locs → f_X12_tried_b44 v_t_clauseOf v_t_codeFrom v_t_codeHalf v_t_codeTo v_t_codes v_t_rhymeOf v_t_wordAt x_t_clauses x_t_wordMany a1 a2 v_t_aside v_t_facts v_t_now v_t_stack x_t_chosen x_t_fearOfChosen x_t_picturesNow x_t_usedNow x_t_writtenNow = some (o_r, o_v_t_aside, o_v_t_facts, o_v_t_now, o_v_t_stack, o_x_t_chosen, o_x_t_fearOfChosen, o_x_t_picturesNow, o_x_t_usedNow, o_x_t_writtenNow) → W p l e { frames := 9, cells := 0, slots := 0, locals := 204 } s m ([.ref A_t, .int a1, .int a2] : List Value).toArray below meth c H locs 0 0 (MQ below (PoI D A [oX12 A_t A_t_now A_t_aside A_t_kept A_t_rhymeOf A_t_wasRhyme A_t_wordAt x_t_wordMany A_t_tape x_t_taped x_t_place0 x_t_length0 x_t_fault x_t_number0 x_t_open x_t_codeMany x_t_waiting x_t_saidMany x_t_clauses A_t_said A_t_waitsAt A_t_saidLetter A_t_saidFrom A_t_saidHalf A_t_saidTo A_t_codes A_t_clauseOf A_t_codeFrom A_t_codeHalf A_t_codeTo A_t_stack A_t_facts x_t_lines A_t_newWords A_t_roundFrom A_t_roundAt A_t_roundTimes x_t_newMany x_t_rounds x_t_itFrom x_t_itTimes o_x_t_writtenNow o_x_t_picturesNow o_x_t_usedNow o_x_t_chosen o_x_t_fearOfChosen A_t_leastFrom A_t_rowNow x_t_changesNow x_t_left0 A_t_bornOf A_t_trainsTo A_t_trainAt x_t_trainMany x_t_leastTries x_t_firstTrained x_t_isKept, iA cI 293 A_t_aside o_v_t_aside, iA cI 16 A_t_clauseOf v_t_clauseOf, iA cI 16 A_t_codeFrom v_t_codeFrom, iA cI 16 A_t_codeHalf v_t_codeHalf, iA cI 16 A_t_codeTo v_t_codeTo, iA cI 260 A_t_codes v_t_codes, iA cI 10 A_t_facts o_v_t_facts, iA cI 293 A_t_now o_v_t_now, iA cI 16 A_t_rhymeOf v_t_rhymeOf, iA cI 260 A_t_stack o_v_t_stack, iA cI 48 A_t_wordAt v_t_wordAt] o_r) ([.ref A_t, .int a1, .int a2] : List Value).toArray s 0 0 A) (F0 m 44 ls []) := by
    intro v_t_aside v_t_facts v_t_now v_t_stack x_t_chosen x_t_fearOfChosen x_t_picturesNow x_t_usedNow x_t_writtenNow H locs ls hl hP hD hS hf
    unfold f_X12_tried_b44 at hf
    refine lv_aload_n hx hb dX12_tried_44 rfl (lv_at hl 0 rfl) ?_
    refine x_get C hK hP fd_X12_7 0 rfl rfl dX12_tried_45 ?_
    refine lv_aload_n hx hb dX12_tried_48 rfl (lv_at hl 0 rfl) ?_
    refine x_get C hK hP fd_X12_13 0 rfl rfl dX12_tried_49 ?_
    obtain ⟨w3, hc4, hf⟩ := bd1_e hf
    refine x_callSV (ws' := [oX12 A_t A_t_now A_t_aside A_t_kept A_t_rhymeOf A_t_wasRhyme A_t_wordAt x_t_wordMany A_t_tape x_t_taped x_t_place0 x_t_length0 x_t_fault x_t_number0 x_t_open x_t_codeMany x_t_waiting x_t_saidMany x_t_clauses A_t_said A_t_waitsAt A_t_saidLetter A_t_saidFrom A_t_saidHalf A_t_saidTo A_t_codes A_t_clauseOf A_t_codeFrom A_t_codeHalf A_t_codeTo A_t_stack A_t_facts x_t_lines A_t_newWords A_t_roundFrom A_t_roundAt A_t_roundTimes x_t_newMany x_t_rounds x_t_itFrom x_t_itTimes x_t_writtenNow x_t_picturesNow x_t_usedNow x_t_chosen x_t_fearOfChosen A_t_leastFrom A_t_rowNow x_t_changesNow x_t_left0 A_t_bornOf A_t_trainsTo A_t_trainAt x_t_trainMany x_t_leastTries x_t_firstTrained x_t_isKept, iA cI 293 A_t_aside w3, iA cI 16 A_t_clauseOf v_t_clauseOf, iA cI 16 A_t_codeFrom v_t_codeFrom, iA cI 16 A_t_codeHalf v_t_codeHalf, iA cI 16 A_t_codeTo v_t_codeTo, iA cI 260 A_t_codes v_t_codes, iA cI 10 A_t_facts v_t_facts, iA cI 293 A_t_now v_t_now, iA cI 16 A_t_rhymeOf v_t_rhymeOf, iA cI 260 A_t_stack v_t_stack, iA cI 48 A_t_wordAt v_t_wordAt]) (rest := []) C hK hP hD hS hA hl mf_X12_272 (c_X12_copies hc4) [8, 1] rfl rfl rfl rfl rfl rfl rfl rfl (Nat.le_of_ble_eq_true rfl) ⟨Nat.le_of_ble_eq_true rfl, Nat.le_of_ble_eq_true rfl⟩ ⟨Nat.le_refl _, Nat.le_refl _⟩ dX12_tried_52 ?_
    intro H locs hP hD hS
    refine lv_aload_n hx hb dX12_tried_55 rfl (lv_at hl 0 rfl) ?_
    refine lv_iload_n hx hb dX12_tried_56 rfl (lv_at hl 1 rfl) ?_
    obtain ⟨w5, w6, w7, w8, w9, w10, w11, w12, hc13, hf⟩ := bd8_e hf
    refine x_callVV (ws' := [oX12 A_t A_t_now A_t_aside A_t_kept A_t_rhymeOf A_t_wasRhyme A_t_wordAt x_t_wordMany A_t_tape x_t_taped x_t_place0 x_t_length0 x_t_fault x_t_number0 x_t_open x_t_codeMany x_t_waiting x_t_saidMany x_t_clauses A_t_said A_t_waitsAt A_t_saidLetter A_t_saidFrom A_t_saidHalf A_t_saidTo A_t_codes A_t_clauseOf A_t_codeFrom A_t_codeHalf A_t_codeTo A_t_stack A_t_facts x_t_lines A_t_newWords A_t_roundFrom A_t_roundAt A_t_roundTimes x_t_newMany x_t_rounds x_t_itFrom x_t_itTimes w12 w10 w11 w8 w9 A_t_leastFrom A_t_rowNow x_t_changesNow x_t_left0 A_t_bornOf A_t_trainsTo A_t_trainAt x_t_trainMany x_t_leastTries x_t_firstTrained x_t_isKept, iA cI 293 A_t_aside w3, iA cI 16 A_t_clauseOf v_t_clauseOf, iA cI 16 A_t_codeFrom v_t_codeFrom, iA cI 16 A_t_codeHalf v_t_codeHalf, iA cI 16 A_t_codeTo v_t_codeTo, iA cI 260 A_t_codes v_t_codes, iA cI 10 A_t_facts w5, iA cI 293 A_t_now w6, iA cI 16 A_t_rhymeOf v_t_rhymeOf, iA cI 260 A_t_stack w7, iA cI 48 A_t_wordAt v_t_wordAt]) (rest := []) C hK hP hD hS hA hl mf_X12_345 (c_X12_daysGo hc13) [0, 2, 3, 4, 5, 6, 7, 8, 9, 10, 11] 0 12 rfl rfl rfl rfl rfl rfl rfl rfl rfl rfl (Nat.le_of_ble_eq_true rfl) ⟨Nat.le_of_ble_eq_true rfl, Nat.le_of_ble_eq_true rfl⟩ ⟨Nat.le_refl _, Nat.le_refl _⟩ dX12_tried_57 ?_
    intro H locs hP hD hS
    refine lv_iload_n hx hb dX12_tried_60 rfl (lv_at hl 2 rfl) ?_
    by_cases q_0 : a2 = (0 : Int32)
    · have hf := if_t q_0 hf
      refine lv_tableIn (tgt := 88) hx hb dX12_tried_61 (by rw [q_0]; decide) (by rw [q_0]; decide) (by rw [q_0]; rfl) (by decide) ?_
      refine lv_aload_n hx hb dX12_tried_88 rfl (lv_at hl 0 rfl) ?_
      refine x_get C hK hP fd_X12_330 0 rfl rfl dX12_tried_89 ?_
      refine lv_istore_n (lv' := [(3, .int w12), (0, .ref A_t), (1, .int a1), (2, .int a2)]) hx hb dX12_tried_92 rfl hl (by decide) rfl (fun ls hl => ?_)
      refine lv_goto (tgt := 144) hx hb dX12_tried_93 (by decide) ?_
      exact hb_144 w3 w5 w6 w7 w8 w9 w10 w11 w12 w12 _ _ ls (lv_sub hl [1, 0] rfl) hP hD hS hf
    have hf := if_f q_0 hf
    by_cases q_1 : a2 = (1 : Int32)
    · have hf := if_t q_1 hf
      refine lv_tableIn (tgt := 96) hx hb dX12_tried_61 (by rw [q_1]; decide) (by rw [q_1]; decide) (by rw [q_1]; rfl) (by decide) ?_
      refine lv_aload_n hx hb dX12_tried_96 rfl (lv_at hl 0 rfl) ?_
      refine x_get C hK hP fd_X12_320 0 rfl rfl dX12_tried_97 ?_
      refine lv_istore_n (lv' := [(3, .int w10), (0, .ref A_t), (1, .int a1), (2, .int a2)]) hx hb dX12_tried_100 rfl hl (by decide) rfl (fun ls hl => ?_)
      refine lv_goto (tgt := 144) hx hb dX12_tried_101 (by decide) ?_
      exact hb_144 w3 w5 w6 w7 w8 w9 w10 w11 w12 w10 _ _ ls (lv_sub hl [1, 0] rfl) hP hD hS hf
    have hf := if_f q_1 hf
    by_cases q_2 : a2 = (2 : Int32)
    · have hf := if_t q_2 hf
      refine lv_tableIn (tgt := 104) hx hb dX12_tried_61 (by rw [q_2]; decide) (by rw [q_2]; decide) (by rw [q_2]; rfl) (by decide) ?_
      refine lv_aload_n hx hb dX12_tried_104 rfl (lv_at hl 0 rfl) ?_
      refine x_get C hK hP fd_X12_336 0 rfl rfl dX12_tried_105 ?_
      refine lv_istore_n (lv' := [(3, .int w11), (0, .ref A_t), (1, .int a1), (2, .int a2)]) hx hb dX12_tried_108 rfl hl (by decide) rfl (fun ls hl => ?_)
      refine lv_goto (tgt := 144) hx hb dX12_tried_109 (by decide) ?_
      exact hb_144 w3 w5 w6 w7 w8 w9 w10 w11 w12 w11 _ _ ls (lv_sub hl [1, 0] rfl) hP hD hS hf
    have hf := if_f q_2 hf
    have eq_0 : a2.toInt ≠ 0 := fun h => q_0 (Int32.toInt_inj.mp (h.trans (by decide)))
    have eq_1 : a2.toInt ≠ 1 := fun h => q_1 (Int32.toInt_inj.mp (h.trans (by decide)))
    have eq_2 : a2.toInt ≠ 2 := fun h => q_2 (Int32.toInt_inj.mp (h.trans (by decide)))
    refine lv_tableOut (tgt := 112) hx hb dX12_tried_61 (by omega) (by decide) ?_
    refine lv_iload_n hx hb dX12_tried_112 rfl (lv_at hl 2 rfl) ?_
    refine lv_sipush (v := 200) hx hb dX12_tried_113 (by decide) ?_
    refine lv_icmp_ge (tgt := 134) hx hb dX12_tried_116 (by decide) (fun q => ?_) (fun q => ?_)
    · have hf := if_t q hf
      refine lv_aload_n hx hb dX12_tried_134 rfl (lv_at hl 0 rfl) ?_
      refine lv_iload_n hx hb dX12_tried_135 rfl (lv_at hl 2 rfl) ?_
      refine lv_sipush (v := 200) hx hb dX12_tried_136 (by decide) ?_
      refine lv_isub hx hb dX12_tried_139 ?_
      obtain ⟨r14, hc15, hf⟩ := bd1_e hf
      refine x_callVI (ws' := [oX12 A_t A_t_now A_t_aside A_t_kept A_t_rhymeOf A_t_wasRhyme A_t_wordAt x_t_wordMany A_t_tape x_t_taped x_t_place0 x_t_length0 x_t_fault x_t_number0 x_t_open x_t_codeMany x_t_waiting x_t_saidMany x_t_clauses A_t_said A_t_waitsAt A_t_saidLetter A_t_saidFrom A_t_saidHalf A_t_saidTo A_t_codes A_t_clauseOf A_t_codeFrom A_t_codeHalf A_t_codeTo A_t_stack A_t_facts x_t_lines A_t_newWords A_t_roundFrom A_t_roundAt A_t_roundTimes x_t_newMany x_t_rounds x_t_itFrom x_t_itTimes w12 w10 w11 w8 w9 A_t_leastFrom A_t_rowNow x_t_changesNow x_t_left0 A_t_bornOf A_t_trainsTo A_t_trainAt x_t_trainMany x_t_leastTries x_t_firstTrained x_t_isKept, iA cI 293 A_t_aside w3, iA cI 16 A_t_clauseOf v_t_clauseOf, iA cI 16 A_t_codeFrom v_t_codeFrom, iA cI 16 A_t_codeHalf v_t_codeHalf, iA cI 16 A_t_codeTo v_t_codeTo, iA cI 260 A_t_codes v_t_codes, iA cI 10 A_t_facts w5, iA cI 293 A_t_now w6, iA cI 16 A_t_rhymeOf v_t_rhymeOf, iA cI 260 A_t_stack w7, iA cI 48 A_t_wordAt v_t_wordAt]) (rest := []) C hK hP hD hS hA hl mf_X12_140 (c_X12_dreadSum hc15) [0, 8] 0 12 rfl rfl rfl rfl rfl rfl rfl rfl rfl rfl (Nat.le_of_ble_eq_true rfl) ⟨Nat.le_of_ble_eq_true rfl, Nat.le_of_ble_eq_true rfl⟩ ⟨Nat.le_refl _, Nat.le_refl _⟩ dX12_tried_140 ?_
      intro H locs hP hD hS
      exact hb_143 w3 w5 w6 w7 w8 w9 w10 w11 w12 r14 _ _ ls (lv_sub hl [0] rfl) hP hD hS hf
    · have hf := if_f q hf
      refine lv_aload_n hx hb dX12_tried_119 rfl (lv_at hl 0 rfl) ?_
      refine x_get C hK hP fd_X12_7 0 rfl rfl dX12_tried_120 ?_
      refine lv_bipush (v := 24) hx hb dX12_tried_123 (by decide) ?_
      refine lv_iload_n hx hb dX12_tried_125 rfl (lv_at hl 2 rfl) ?_
      refine lv_iadd hx hb dX12_tried_126 ?_
      refine lv_bipush (v := 100) hx hb dX12_tried_127 (by decide) ?_
      refine lv_isub hx hb dX12_tried_129 ?_
      obtain ⟨hi, hf⟩ := gI_e hf
      refine x_iald C hK hP 8 rfl hi dX12_tried_130 ?_
      refine lv_goto (tgt := 143) hx hb dX12_tried_131 (by decide) ?_
      exact hb_143 w3 w5 w6 w7 w8 w9 w10 w11 w12 (w6 (((24 : Int32) + a2) - (100 : Int32)).toNatClampNeg) _ _ ls (lv_sub hl [0] rfl) hP hD hS hf
  refine lv_iload_n hx hb dX12_tried_0 rfl (lv_at hl 1 rfl) ?_
  refine lv_iconst (v := 1) hx hb dX12_tried_1 (by decide) ?_
  refine lv_bipush (v := 60) hx hb dX12_tried_2 (by decide) ?_
  obtain ⟨r16, hc17, hf⟩ := bd1_e hf
  refine x_callSI (ws' := [oX12 A_t A_t_now A_t_aside A_t_kept A_t_rhymeOf A_t_wasRhyme A_t_wordAt x_t_wordMany A_t_tape x_t_taped x_t_place0 x_t_length0 x_t_fault x_t_number0 x_t_open x_t_codeMany x_t_waiting x_t_saidMany x_t_clauses A_t_said A_t_waitsAt A_t_saidLetter A_t_saidFrom A_t_saidHalf A_t_saidTo A_t_codes A_t_clauseOf A_t_codeFrom A_t_codeHalf A_t_codeTo A_t_stack A_t_facts x_t_lines A_t_newWords A_t_roundFrom A_t_roundAt A_t_roundTimes x_t_newMany x_t_rounds x_t_itFrom x_t_itTimes x_t_writtenNow x_t_picturesNow x_t_usedNow x_t_chosen x_t_fearOfChosen A_t_leastFrom A_t_rowNow x_t_changesNow x_t_left0 A_t_bornOf A_t_trainsTo A_t_trainAt x_t_trainMany x_t_leastTries x_t_firstTrained x_t_isKept, iA cI 293 A_t_aside v_t_aside, iA cI 16 A_t_clauseOf v_t_clauseOf, iA cI 16 A_t_codeFrom v_t_codeFrom, iA cI 16 A_t_codeHalf v_t_codeHalf, iA cI 16 A_t_codeTo v_t_codeTo, iA cI 260 A_t_codes v_t_codes, iA cI 10 A_t_facts v_t_facts, iA cI 293 A_t_now v_t_now, iA cI 16 A_t_rhymeOf v_t_rhymeOf, iA cI 260 A_t_stack v_t_stack, iA cI 48 A_t_wordAt v_t_wordAt]) (rest := []) C hK hP hD hS hA hl mf_X12_105 (c_X12_in hc17) [] rfl rfl rfl rfl rfl rfl rfl rfl (Nat.le_of_ble_eq_true rfl) ⟨Nat.le_of_ble_eq_true rfl, Nat.le_of_ble_eq_true rfl⟩ ⟨Nat.le_refl _, Nat.le_refl _⟩ dX12_tried_4 ?_
  intro H locs hP hD hS
  refine lv_if_eq (tgt := 42) hx hb dX12_tried_7 (by decide) (fun q => ?_) (fun q => ?_)
  · have hf := if_t q hf
    exact hb_42 v_t_aside v_t_facts v_t_now v_t_stack x_t_chosen x_t_fearOfChosen x_t_picturesNow x_t_usedNow x_t_writtenNow _ _ ls (lv_sub hl [] rfl) hP hD hS hf
  · have hf := if_f q hf
    refine lv_iload_n hx hb dX12_tried_10 rfl (lv_at hl 2 rfl) ?_
    refine lv_iconst (v := 0) hx hb dX12_tried_11 (by decide) ?_
    refine lv_iconst (v := 2) hx hb dX12_tried_12 (by decide) ?_
    obtain ⟨r18, hc19, hf⟩ := bd1_e hf
    refine x_callSI (ws' := [oX12 A_t A_t_now A_t_aside A_t_kept A_t_rhymeOf A_t_wasRhyme A_t_wordAt x_t_wordMany A_t_tape x_t_taped x_t_place0 x_t_length0 x_t_fault x_t_number0 x_t_open x_t_codeMany x_t_waiting x_t_saidMany x_t_clauses A_t_said A_t_waitsAt A_t_saidLetter A_t_saidFrom A_t_saidHalf A_t_saidTo A_t_codes A_t_clauseOf A_t_codeFrom A_t_codeHalf A_t_codeTo A_t_stack A_t_facts x_t_lines A_t_newWords A_t_roundFrom A_t_roundAt A_t_roundTimes x_t_newMany x_t_rounds x_t_itFrom x_t_itTimes x_t_writtenNow x_t_picturesNow x_t_usedNow x_t_chosen x_t_fearOfChosen A_t_leastFrom A_t_rowNow x_t_changesNow x_t_left0 A_t_bornOf A_t_trainsTo A_t_trainAt x_t_trainMany x_t_leastTries x_t_firstTrained x_t_isKept, iA cI 293 A_t_aside v_t_aside, iA cI 16 A_t_clauseOf v_t_clauseOf, iA cI 16 A_t_codeFrom v_t_codeFrom, iA cI 16 A_t_codeHalf v_t_codeHalf, iA cI 16 A_t_codeTo v_t_codeTo, iA cI 260 A_t_codes v_t_codes, iA cI 10 A_t_facts v_t_facts, iA cI 293 A_t_now v_t_now, iA cI 16 A_t_rhymeOf v_t_rhymeOf, iA cI 260 A_t_stack v_t_stack, iA cI 48 A_t_wordAt v_t_wordAt]) (rest := []) C hK hP hD hS hA hl mf_X12_105 (c_X12_in hc19) [] rfl rfl rfl rfl rfl rfl rfl rfl (Nat.le_of_ble_eq_true rfl) ⟨Nat.le_of_ble_eq_true rfl, Nat.le_of_ble_eq_true rfl⟩ ⟨Nat.le_refl _, Nat.le_refl _⟩ dX12_tried_13 ?_
    intro H locs hP hD hS
    refine lv_if_ne (tgt := 44) hx hb dX12_tried_16 (by decide) (fun q => ?_) (fun q => ?_)
    · have hf := if_f q hf
      exact hb_44 v_t_aside v_t_facts v_t_now v_t_stack x_t_chosen x_t_fearOfChosen x_t_picturesNow x_t_usedNow x_t_writtenNow _ _ ls (lv_sub hl [0, 1, 2] rfl) hP hD hS hf
    · have hf := if_t q hf
      refine lv_aload_n hx hb dX12_tried_19 rfl (lv_at hl 0 rfl) ?_
      refine lv_iload_n hx hb dX12_tried_20 rfl (lv_at hl 2 rfl) ?_
      refine lv_bipush (v := 100) hx hb dX12_tried_21 (by decide) ?_
      refine lv_isub hx hb dX12_tried_23 ?_
      obtain ⟨r20, hc21, hf⟩ := bd1_e hf
      refine x_callVI (ws' := [oX12 A_t A_t_now A_t_aside A_t_kept A_t_rhymeOf A_t_wasRhyme A_t_wordAt x_t_wordMany A_t_tape x_t_taped x_t_place0 x_t_length0 x_t_fault x_t_number0 x_t_open x_t_codeMany x_t_waiting x_t_saidMany x_t_clauses A_t_said A_t_waitsAt A_t_saidLetter A_t_saidFrom A_t_saidHalf A_t_saidTo A_t_codes A_t_clauseOf A_t_codeFrom A_t_codeHalf A_t_codeTo A_t_stack A_t_facts x_t_lines A_t_newWords A_t_roundFrom A_t_roundAt A_t_roundTimes x_t_newMany x_t_rounds x_t_itFrom x_t_itTimes x_t_writtenNow x_t_picturesNow x_t_usedNow x_t_chosen x_t_fearOfChosen A_t_leastFrom A_t_rowNow x_t_changesNow x_t_left0 A_t_bornOf A_t_trainsTo A_t_trainAt x_t_trainMany x_t_leastTries x_t_firstTrained x_t_isKept, iA cI 293 A_t_aside v_t_aside, iA cI 16 A_t_clauseOf v_t_clauseOf, iA cI 16 A_t_codeFrom v_t_codeFrom, iA cI 16 A_t_codeHalf v_t_codeHalf, iA cI 16 A_t_codeTo v_t_codeTo, iA cI 260 A_t_codes v_t_codes, iA cI 10 A_t_facts v_t_facts, iA cI 293 A_t_now v_t_now, iA cI 16 A_t_rhymeOf v_t_rhymeOf, iA cI 260 A_t_stack v_t_stack, iA cI 48 A_t_wordAt v_t_wordAt]) (rest := []) C hK hP hD hS hA hl mf_X12_109 (c_X12_isTold hc21) [0, 8] 0 12 rfl rfl rfl rfl rfl rfl rfl rfl rfl rfl (Nat.le_of_ble_eq_true rfl) ⟨Nat.le_of_ble_eq_true rfl, Nat.le_of_ble_eq_true rfl⟩ ⟨Nat.le_refl _, Nat.le_refl _⟩ dX12_tried_24 ?_
      intro H locs hP hD hS
      refine lv_if_ne (tgt := 44) hx hb dX12_tried_27 (by decide) (fun q => ?_) (fun q => ?_)
      · have hf := if_f q hf
        exact hb_44 v_t_aside v_t_facts v_t_now v_t_stack x_t_chosen x_t_fearOfChosen x_t_picturesNow x_t_usedNow x_t_writtenNow _ _ ls (lv_sub hl [0, 1, 2] rfl) hP hD hS hf
      · have hf := if_t q hf
        refine lv_aload_n hx hb dX12_tried_30 rfl (lv_at hl 0 rfl) ?_
        refine lv_iload_n hx hb dX12_tried_31 rfl (lv_at hl 2 rfl) ?_
        refine lv_sipush (v := 200) hx hb dX12_tried_32 (by decide) ?_
        refine lv_isub hx hb dX12_tried_35 ?_
        obtain ⟨r22, hc23, hf⟩ := bd1_e hf
        refine x_callVI (ws' := [oX12 A_t A_t_now A_t_aside A_t_kept A_t_rhymeOf A_t_wasRhyme A_t_wordAt x_t_wordMany A_t_tape x_t_taped x_t_place0 x_t_length0 x_t_fault x_t_number0 x_t_open x_t_codeMany x_t_waiting x_t_saidMany x_t_clauses A_t_said A_t_waitsAt A_t_saidLetter A_t_saidFrom A_t_saidHalf A_t_saidTo A_t_codes A_t_clauseOf A_t_codeFrom A_t_codeHalf A_t_codeTo A_t_stack A_t_facts x_t_lines A_t_newWords A_t_roundFrom A_t_roundAt A_t_roundTimes x_t_newMany x_t_rounds x_t_itFrom x_t_itTimes x_t_writtenNow x_t_picturesNow x_t_usedNow x_t_chosen x_t_fearOfChosen A_t_leastFrom A_t_rowNow x_t_changesNow x_t_left0 A_t_bornOf A_t_trainsTo A_t_trainAt x_t_trainMany x_t_leastTries x_t_firstTrained x_t_isKept, iA cI 293 A_t_aside v_t_aside, iA cI 16 A_t_clauseOf v_t_clauseOf, iA cI 16 A_t_codeFrom v_t_codeFrom, iA cI 16 A_t_codeHalf v_t_codeHalf, iA cI 16 A_t_codeTo v_t_codeTo, iA cI 260 A_t_codes v_t_codes, iA cI 10 A_t_facts v_t_facts, iA cI 293 A_t_now v_t_now, iA cI 16 A_t_rhymeOf v_t_rhymeOf, iA cI 260 A_t_stack v_t_stack, iA cI 48 A_t_wordAt v_t_wordAt]) (rest := []) C hK hP hD hS hA hl mf_X12_109 (c_X12_isTold hc23) [0, 8] 0 12 rfl rfl rfl rfl rfl rfl rfl rfl rfl rfl (Nat.le_of_ble_eq_true rfl) ⟨Nat.le_of_ble_eq_true rfl, Nat.le_of_ble_eq_true rfl⟩ ⟨Nat.le_refl _, Nat.le_refl _⟩ dX12_tried_36 ?_
        intro H locs hP hD hS
        refine lv_if_ne (tgt := 44) hx hb dX12_tried_39 (by decide) (fun q => ?_) (fun q => ?_)
        · have hf := if_f q hf
          exact hb_44 v_t_aside v_t_facts v_t_now v_t_stack x_t_chosen x_t_fearOfChosen x_t_picturesNow x_t_usedNow x_t_writtenNow _ _ ls (lv_sub hl [0, 1, 2] rfl) hP hD hS hf
        · have hf := if_t q hf
          exact hb_42 v_t_aside v_t_facts v_t_now v_t_stack x_t_chosen x_t_fearOfChosen x_t_picturesNow x_t_usedNow x_t_writtenNow _ _ ls (lv_sub hl [] rfl) hP hD hS hf
def f_X12_bottleIs (v_t_now : (Nat → Int32)) (v_t_rhymeOf : (Nat → Int32)) (a1 : Int32) (a2 : Int32) : Option (Int32) :=
  bd1 (f_X12_isTold v_t_now a1) (fun r1 =>
  if r1 = 0 then
    some (-1 : Int32)
  else
    if a2 = (0 : Int32) then
      gI 293 v_t_now ((8 : Int32) + a1) (fun g2 =>
      some g2)
    else
    if a2 = (1 : Int32) then
      gI 293 v_t_now ((16 : Int32) + a1) (fun g3 =>
      some g3)
    else
    if a2 = (2 : Int32) then
      gI 293 v_t_now ((24 : Int32) + a1) (fun g4 =>
      some g4)
    else
    if a2 = (3 : Int32) then
      bd1 (f_X12_bornBy v_t_now v_t_rhymeOf a1) (fun r5 =>
      some r5)
    else
    if a2 = (4 : Int32) then
      bd1 (f_X12_dreadSum v_t_now a1) (fun r6 =>
      some r6)
    else
      some (-1 : Int32))
set_option maxHeartbeats 4000000 in
set_option maxRecDepth 100000 in
theorem c_X12_bottleIs {l : Launch} {D : va_G} {cI cB : ClassId} {A_t A_t_now A_t_aside A_t_kept A_t_rhymeOf A_t_wasRhyme A_t_wordAt A_t_tape A_t_said A_t_waitsAt A_t_saidLetter A_t_saidFrom A_t_saidHalf A_t_saidTo A_t_codes A_t_clauseOf A_t_codeFrom A_t_codeHalf A_t_codeTo A_t_stack A_t_facts A_t_newWords A_t_roundFrom A_t_roundAt A_t_roundTimes A_t_leastFrom A_t_rowNow A_t_bornOf A_t_trainsTo A_t_trainAt : Nat} {x_t_wordMany x_t_taped x_t_place0 x_t_length0 x_t_fault x_t_number0 x_t_open x_t_codeMany x_t_waiting x_t_saidMany x_t_clauses x_t_lines x_t_newMany x_t_rounds x_t_itFrom x_t_itTimes x_t_writtenNow x_t_picturesNow x_t_usedNow x_t_chosen x_t_fearOfChosen x_t_changesNow x_t_left0 x_t_trainMany x_t_leastTries x_t_firstTrained x_t_isKept a1 a2 : Int32} {v_t_now v_t_rhymeOf : Nat → Int32} {o_r : Int32} (hf : f_X12_bottleIs v_t_now v_t_rhymeOf a1 a2 = some o_r) : CtI l D cI cB yX12_bottleIs cX12_bottleIs 3 (some .int) 6 132 [.ref A_t, .int a1, .int a2] [oX12 A_t A_t_now A_t_aside A_t_kept A_t_rhymeOf A_t_wasRhyme A_t_wordAt x_t_wordMany A_t_tape x_t_taped x_t_place0 x_t_length0 x_t_fault x_t_number0 x_t_open x_t_codeMany x_t_waiting x_t_saidMany x_t_clauses A_t_said A_t_waitsAt A_t_saidLetter A_t_saidFrom A_t_saidHalf A_t_saidTo A_t_codes A_t_clauseOf A_t_codeFrom A_t_codeHalf A_t_codeTo A_t_stack A_t_facts x_t_lines A_t_newWords A_t_roundFrom A_t_roundAt A_t_roundTimes x_t_newMany x_t_rounds x_t_itFrom x_t_itTimes x_t_writtenNow x_t_picturesNow x_t_usedNow x_t_chosen x_t_fearOfChosen A_t_leastFrom A_t_rowNow x_t_changesNow x_t_left0 A_t_bornOf A_t_trainsTo A_t_trainAt x_t_trainMany x_t_leastTries x_t_firstTrained x_t_isKept, iA cI 293 A_t_now v_t_now, iA cI 16 A_t_rhymeOf v_t_rhymeOf] [oX12 A_t A_t_now A_t_aside A_t_kept A_t_rhymeOf A_t_wasRhyme A_t_wordAt x_t_wordMany A_t_tape x_t_taped x_t_place0 x_t_length0 x_t_fault x_t_number0 x_t_open x_t_codeMany x_t_waiting x_t_saidMany x_t_clauses A_t_said A_t_waitsAt A_t_saidLetter A_t_saidFrom A_t_saidHalf A_t_saidTo A_t_codes A_t_clauseOf A_t_codeFrom A_t_codeHalf A_t_codeTo A_t_stack A_t_facts x_t_lines A_t_newWords A_t_roundFrom A_t_roundAt A_t_roundTimes x_t_newMany x_t_rounds x_t_itFrom x_t_itTimes x_t_writtenNow x_t_picturesNow x_t_usedNow x_t_chosen x_t_fearOfChosen A_t_leastFrom A_t_rowNow x_t_changesNow x_t_left0 A_t_bornOf A_t_trainsTo A_t_trainAt x_t_trainMany x_t_leastTries x_t_firstTrained x_t_isKept, iA cI 293 A_t_now v_t_now, iA cI 16 A_t_rhymeOf v_t_rhymeOf] o_r := by
  refine x_startI (by decide) (Nat.le_of_ble_eq_true rfl) ?_
  intro p e s m below meth c A C hr hlk hA hK hP hD hS ls hl
  have hl : lv_has ls 3 [(0, .ref A_t), (1, .int a1), (2, .int a2)] := hl
  have hx := C.1
  have hb := C.2.1
  unfold f_X12_bottleIs at hf
  refine lv_aload_n hx hb dX12_bottleIs_0 rfl (lv_at hl 0 rfl) ?_
  refine lv_iload_n hx hb dX12_bottleIs_1 rfl (lv_at hl 1 rfl) ?_
  obtain ⟨r1, hc2, hf⟩ := bd1_e hf
  refine x_callVI (ws' := [oX12 A_t A_t_now A_t_aside A_t_kept A_t_rhymeOf A_t_wasRhyme A_t_wordAt x_t_wordMany A_t_tape x_t_taped x_t_place0 x_t_length0 x_t_fault x_t_number0 x_t_open x_t_codeMany x_t_waiting x_t_saidMany x_t_clauses A_t_said A_t_waitsAt A_t_saidLetter A_t_saidFrom A_t_saidHalf A_t_saidTo A_t_codes A_t_clauseOf A_t_codeFrom A_t_codeHalf A_t_codeTo A_t_stack A_t_facts x_t_lines A_t_newWords A_t_roundFrom A_t_roundAt A_t_roundTimes x_t_newMany x_t_rounds x_t_itFrom x_t_itTimes x_t_writtenNow x_t_picturesNow x_t_usedNow x_t_chosen x_t_fearOfChosen A_t_leastFrom A_t_rowNow x_t_changesNow x_t_left0 A_t_bornOf A_t_trainsTo A_t_trainAt x_t_trainMany x_t_leastTries x_t_firstTrained x_t_isKept, iA cI 293 A_t_now v_t_now, iA cI 16 A_t_rhymeOf v_t_rhymeOf]) (rest := []) C hK hP hD hS hA hl mf_X12_109 (c_X12_isTold hc2) [0, 1] 0 12 rfl rfl rfl rfl rfl rfl rfl rfl rfl rfl (Nat.le_of_ble_eq_true rfl) ⟨Nat.le_of_ble_eq_true rfl, Nat.le_of_ble_eq_true rfl⟩ ⟨Nat.le_refl _, Nat.le_refl _⟩ dX12_bottleIs_2 ?_
  intro H locs hP hD hS
  refine lv_if_ne (tgt := 10) hx hb dX12_bottleIs_5 (by decide) (fun q => ?_) (fun q => ?_)
  · have hf := if_f q hf
    refine lv_iload_n hx hb dX12_bottleIs_10 rfl (lv_at hl 2 rfl) ?_
    by_cases q_0 : a2 = (0 : Int32)
    · have hf := if_t q_0 hf
      refine lv_tableIn (tgt := 44) hx hb dX12_bottleIs_11 (by rw [q_0]; decide) (by rw [q_0]; decide) (by rw [q_0]; rfl) (by decide) ?_
      refine lv_aload_n hx hb dX12_bottleIs_44 rfl (lv_at hl 0 rfl) ?_
      refine x_get C hK hP fd_X12_7 0 rfl rfl dX12_bottleIs_45 ?_
      refine lv_bipush (v := 8) hx hb dX12_bottleIs_48 (by decide) ?_
      refine lv_iload_n hx hb dX12_bottleIs_50 rfl (lv_at hl 1 rfl) ?_
      refine lv_iadd hx hb dX12_bottleIs_51 ?_
      obtain ⟨hi, hf⟩ := gI_e hf
      refine x_iald C hK hP 1 rfl hi dX12_bottleIs_52 ?_
      obtain rfl := ev1 hf
      exact x_iret C hr hlk hP hD hS dX12_bottleIs_53
    have hf := if_f q_0 hf
    by_cases q_1 : a2 = (1 : Int32)
    · have hf := if_t q_1 hf
      refine lv_tableIn (tgt := 54) hx hb dX12_bottleIs_11 (by rw [q_1]; decide) (by rw [q_1]; decide) (by rw [q_1]; rfl) (by decide) ?_
      refine lv_aload_n hx hb dX12_bottleIs_54 rfl (lv_at hl 0 rfl) ?_
      refine x_get C hK hP fd_X12_7 0 rfl rfl dX12_bottleIs_55 ?_
      refine lv_bipush (v := 16) hx hb dX12_bottleIs_58 (by decide) ?_
      refine lv_iload_n hx hb dX12_bottleIs_60 rfl (lv_at hl 1 rfl) ?_
      refine lv_iadd hx hb dX12_bottleIs_61 ?_
      obtain ⟨hi, hf⟩ := gI_e hf
      refine x_iald C hK hP 1 rfl hi dX12_bottleIs_62 ?_
      obtain rfl := ev1 hf
      exact x_iret C hr hlk hP hD hS dX12_bottleIs_63
    have hf := if_f q_1 hf
    by_cases q_2 : a2 = (2 : Int32)
    · have hf := if_t q_2 hf
      refine lv_tableIn (tgt := 64) hx hb dX12_bottleIs_11 (by rw [q_2]; decide) (by rw [q_2]; decide) (by rw [q_2]; rfl) (by decide) ?_
      refine lv_aload_n hx hb dX12_bottleIs_64 rfl (lv_at hl 0 rfl) ?_
      refine x_get C hK hP fd_X12_7 0 rfl rfl dX12_bottleIs_65 ?_
      refine lv_bipush (v := 24) hx hb dX12_bottleIs_68 (by decide) ?_
      refine lv_iload_n hx hb dX12_bottleIs_70 rfl (lv_at hl 1 rfl) ?_
      refine lv_iadd hx hb dX12_bottleIs_71 ?_
      obtain ⟨hi, hf⟩ := gI_e hf
      refine x_iald C hK hP 1 rfl hi dX12_bottleIs_72 ?_
      obtain rfl := ev1 hf
      exact x_iret C hr hlk hP hD hS dX12_bottleIs_73
    have hf := if_f q_2 hf
    by_cases q_3 : a2 = (3 : Int32)
    · have hf := if_t q_3 hf
      refine lv_tableIn (tgt := 74) hx hb dX12_bottleIs_11 (by rw [q_3]; decide) (by rw [q_3]; decide) (by rw [q_3]; rfl) (by decide) ?_
      refine lv_aload_n hx hb dX12_bottleIs_74 rfl (lv_at hl 0 rfl) ?_
      refine lv_iload_n hx hb dX12_bottleIs_75 rfl (lv_at hl 1 rfl) ?_
      obtain ⟨r3, hc4, hf⟩ := bd1_e hf
      refine x_callVI (ws' := [oX12 A_t A_t_now A_t_aside A_t_kept A_t_rhymeOf A_t_wasRhyme A_t_wordAt x_t_wordMany A_t_tape x_t_taped x_t_place0 x_t_length0 x_t_fault x_t_number0 x_t_open x_t_codeMany x_t_waiting x_t_saidMany x_t_clauses A_t_said A_t_waitsAt A_t_saidLetter A_t_saidFrom A_t_saidHalf A_t_saidTo A_t_codes A_t_clauseOf A_t_codeFrom A_t_codeHalf A_t_codeTo A_t_stack A_t_facts x_t_lines A_t_newWords A_t_roundFrom A_t_roundAt A_t_roundTimes x_t_newMany x_t_rounds x_t_itFrom x_t_itTimes x_t_writtenNow x_t_picturesNow x_t_usedNow x_t_chosen x_t_fearOfChosen A_t_leastFrom A_t_rowNow x_t_changesNow x_t_left0 A_t_bornOf A_t_trainsTo A_t_trainAt x_t_trainMany x_t_leastTries x_t_firstTrained x_t_isKept, iA cI 293 A_t_now v_t_now, iA cI 16 A_t_rhymeOf v_t_rhymeOf]) (rest := []) C hK hP hD hS hA hl mf_X12_348 (c_X12_bornBy hc4) [0, 1, 2] 0 12 rfl rfl rfl rfl rfl rfl rfl rfl rfl rfl (Nat.le_of_ble_eq_true rfl) ⟨Nat.le_of_ble_eq_true rfl, Nat.le_of_ble_eq_true rfl⟩ ⟨Nat.le_refl _, Nat.le_refl _⟩ dX12_bottleIs_76 ?_
      intro H locs hP hD hS
      obtain rfl := ev1 hf
      exact x_iret C hr hlk hP hD hS dX12_bottleIs_79
    have hf := if_f q_3 hf
    by_cases q_4 : a2 = (4 : Int32)
    · have hf := if_t q_4 hf
      refine lv_tableIn (tgt := 80) hx hb dX12_bottleIs_11 (by rw [q_4]; decide) (by rw [q_4]; decide) (by rw [q_4]; rfl) (by decide) ?_
      refine lv_aload_n hx hb dX12_bottleIs_80 rfl (lv_at hl 0 rfl) ?_
      refine lv_iload_n hx hb dX12_bottleIs_81 rfl (lv_at hl 1 rfl) ?_
      obtain ⟨r5, hc6, hf⟩ := bd1_e hf
      refine x_callVI (ws' := [oX12 A_t A_t_now A_t_aside A_t_kept A_t_rhymeOf A_t_wasRhyme A_t_wordAt x_t_wordMany A_t_tape x_t_taped x_t_place0 x_t_length0 x_t_fault x_t_number0 x_t_open x_t_codeMany x_t_waiting x_t_saidMany x_t_clauses A_t_said A_t_waitsAt A_t_saidLetter A_t_saidFrom A_t_saidHalf A_t_saidTo A_t_codes A_t_clauseOf A_t_codeFrom A_t_codeHalf A_t_codeTo A_t_stack A_t_facts x_t_lines A_t_newWords A_t_roundFrom A_t_roundAt A_t_roundTimes x_t_newMany x_t_rounds x_t_itFrom x_t_itTimes x_t_writtenNow x_t_picturesNow x_t_usedNow x_t_chosen x_t_fearOfChosen A_t_leastFrom A_t_rowNow x_t_changesNow x_t_left0 A_t_bornOf A_t_trainsTo A_t_trainAt x_t_trainMany x_t_leastTries x_t_firstTrained x_t_isKept, iA cI 293 A_t_now v_t_now, iA cI 16 A_t_rhymeOf v_t_rhymeOf]) (rest := []) C hK hP hD hS hA hl mf_X12_140 (c_X12_dreadSum hc6) [0, 1] 0 12 rfl rfl rfl rfl rfl rfl rfl rfl rfl rfl (Nat.le_of_ble_eq_true rfl) ⟨Nat.le_of_ble_eq_true rfl, Nat.le_of_ble_eq_true rfl⟩ ⟨Nat.le_refl _, Nat.le_refl _⟩ dX12_bottleIs_82 ?_
      intro H locs hP hD hS
      obtain rfl := ev1 hf
      exact x_iret C hr hlk hP hD hS dX12_bottleIs_85
    have hf := if_f q_4 hf
    have eq_0 : a2.toInt ≠ 0 := fun h => q_0 (Int32.toInt_inj.mp (h.trans (by decide)))
    have eq_1 : a2.toInt ≠ 1 := fun h => q_1 (Int32.toInt_inj.mp (h.trans (by decide)))
    have eq_2 : a2.toInt ≠ 2 := fun h => q_2 (Int32.toInt_inj.mp (h.trans (by decide)))
    have eq_3 : a2.toInt ≠ 3 := fun h => q_3 (Int32.toInt_inj.mp (h.trans (by decide)))
    have eq_4 : a2.toInt ≠ 4 := fun h => q_4 (Int32.toInt_inj.mp (h.trans (by decide)))
    refine lv_tableOut (tgt := 86) hx hb dX12_bottleIs_11 (by omega) (by decide) ?_
    refine lv_iconst (v := -1) hx hb dX12_bottleIs_86 (by decide) ?_
    obtain rfl := ev1 hf
    exact x_iret C hr hlk hP hD hS dX12_bottleIs_87
  · have hf := if_t q hf
    refine lv_iconst (v := -1) hx hb dX12_bottleIs_8 (by decide) ?_
    obtain rfl := ev1 hf
    exact x_iret C hr hlk hP hD hS dX12_bottleIs_9
def f_X12_fear_b24 : Option (Int32) :=
  some (-1 : Int32)
def f_X12_fear_b68 (s0 : Int32) : Option (Int32) :=
  some s0
def f_X12_fear (v_t_now : (Nat → Int32)) (v_t_rhymeOf : (Nat → Int32)) (a1 : Int32) (a2 : Int32) (a3 : Int32) : Option (Int32) :=
  bd1 (f_X12_isTold v_t_now a1) (fun r1 =>
  if r1 = 0 then
    f_X12_fear_b24
  else
    bd1 (f_X12_isWord a2) (fun r2 =>
    if r2 = 0 then
      f_X12_fear_b24
    else
      bd1 (f_X12_in a3 (0 : Int32) (2 : Int32)) (fun r3 =>
      if r3 = 0 then
        f_X12_fear_b24
      else
        if a3 = 0 then
          bd1 (f_X12_dreadOf v_t_now a1 a2) (fun r6 =>
          f_X12_fear_b68 r6)
        else
          if a3 = (1 : Int32) then
            gI 293 v_t_now (((160 : Int32) + ((16 : Int32) * a1)) + a2) (fun g5 =>
            f_X12_fear_b68 g5)
          else
            bd1 (f_X12_shrinking v_t_now v_t_rhymeOf a1 a2) (fun r4 =>
            f_X12_fear_b68 r4))))
set_option maxHeartbeats 4000000 in
set_option maxRecDepth 100000 in
theorem c_X12_fear {l : Launch} {D : va_G} {cI cB : ClassId} {A_t A_t_now A_t_aside A_t_kept A_t_rhymeOf A_t_wasRhyme A_t_wordAt A_t_tape A_t_said A_t_waitsAt A_t_saidLetter A_t_saidFrom A_t_saidHalf A_t_saidTo A_t_codes A_t_clauseOf A_t_codeFrom A_t_codeHalf A_t_codeTo A_t_stack A_t_facts A_t_newWords A_t_roundFrom A_t_roundAt A_t_roundTimes A_t_leastFrom A_t_rowNow A_t_bornOf A_t_trainsTo A_t_trainAt : Nat} {x_t_wordMany x_t_taped x_t_place0 x_t_length0 x_t_fault x_t_number0 x_t_open x_t_codeMany x_t_waiting x_t_saidMany x_t_clauses x_t_lines x_t_newMany x_t_rounds x_t_itFrom x_t_itTimes x_t_writtenNow x_t_picturesNow x_t_usedNow x_t_chosen x_t_fearOfChosen x_t_changesNow x_t_left0 x_t_trainMany x_t_leastTries x_t_firstTrained x_t_isKept a1 a2 a3 : Int32} {v_t_now v_t_rhymeOf : Nat → Int32} {o_r : Int32} (hf : f_X12_fear v_t_now v_t_rhymeOf a1 a2 a3 = some o_r) : CtI l D cI cB yX12_fear cX12_fear 4 (some .int) 4 87 [.ref A_t, .int a1, .int a2, .int a3] [oX12 A_t A_t_now A_t_aside A_t_kept A_t_rhymeOf A_t_wasRhyme A_t_wordAt x_t_wordMany A_t_tape x_t_taped x_t_place0 x_t_length0 x_t_fault x_t_number0 x_t_open x_t_codeMany x_t_waiting x_t_saidMany x_t_clauses A_t_said A_t_waitsAt A_t_saidLetter A_t_saidFrom A_t_saidHalf A_t_saidTo A_t_codes A_t_clauseOf A_t_codeFrom A_t_codeHalf A_t_codeTo A_t_stack A_t_facts x_t_lines A_t_newWords A_t_roundFrom A_t_roundAt A_t_roundTimes x_t_newMany x_t_rounds x_t_itFrom x_t_itTimes x_t_writtenNow x_t_picturesNow x_t_usedNow x_t_chosen x_t_fearOfChosen A_t_leastFrom A_t_rowNow x_t_changesNow x_t_left0 A_t_bornOf A_t_trainsTo A_t_trainAt x_t_trainMany x_t_leastTries x_t_firstTrained x_t_isKept, iA cI 293 A_t_now v_t_now, iA cI 16 A_t_rhymeOf v_t_rhymeOf] [oX12 A_t A_t_now A_t_aside A_t_kept A_t_rhymeOf A_t_wasRhyme A_t_wordAt x_t_wordMany A_t_tape x_t_taped x_t_place0 x_t_length0 x_t_fault x_t_number0 x_t_open x_t_codeMany x_t_waiting x_t_saidMany x_t_clauses A_t_said A_t_waitsAt A_t_saidLetter A_t_saidFrom A_t_saidHalf A_t_saidTo A_t_codes A_t_clauseOf A_t_codeFrom A_t_codeHalf A_t_codeTo A_t_stack A_t_facts x_t_lines A_t_newWords A_t_roundFrom A_t_roundAt A_t_roundTimes x_t_newMany x_t_rounds x_t_itFrom x_t_itTimes x_t_writtenNow x_t_picturesNow x_t_usedNow x_t_chosen x_t_fearOfChosen A_t_leastFrom A_t_rowNow x_t_changesNow x_t_left0 A_t_bornOf A_t_trainsTo A_t_trainAt x_t_trainMany x_t_leastTries x_t_firstTrained x_t_isKept, iA cI 293 A_t_now v_t_now, iA cI 16 A_t_rhymeOf v_t_rhymeOf] o_r := by
  refine x_startI (by decide) (Nat.le_of_ble_eq_true rfl) ?_
  intro p e s m below meth c A C hr hlk hA hK hP hD hS ls hl
  have hl : lv_has ls 4 [(0, .ref A_t), (1, .int a1), (2, .int a2), (3, .int a3)] := hl
  have hx := C.1
  have hb := C.2.1
  unfold f_X12_fear at hf
  have hb_24 : ∀ (H : Heap) (locs : List Loc) (ls : Array Slot), lv_has ls 4 [] → va_P D vwCl [oX12 A_t A_t_now A_t_aside A_t_kept A_t_rhymeOf A_t_wasRhyme A_t_wordAt x_t_wordMany A_t_tape x_t_taped x_t_place0 x_t_length0 x_t_fault x_t_number0 x_t_open x_t_codeMany x_t_waiting x_t_saidMany x_t_clauses A_t_said A_t_waitsAt A_t_saidLetter A_t_saidFrom A_t_saidHalf A_t_saidTo A_t_codes A_t_clauseOf A_t_codeFrom A_t_codeHalf A_t_codeTo A_t_stack A_t_facts x_t_lines A_t_newWords A_t_roundFrom A_t_roundAt A_t_roundTimes x_t_newMany x_t_rounds x_t_itFrom x_t_itTimes x_t_writtenNow x_t_picturesNow x_t_usedNow x_t_chosen x_t_fearOfChosen A_t_leastFrom A_t_rowNow x_t_changesNow x_t_left0 A_t_bornOf A_t_trainsTo A_t_trainAt x_t_trainMany x_t_leastTries x_t_firstTrained x_t_isKept, iA cI 293 A_t_now v_t_now, iA cI 16 A_t_rhymeOf v_t_rhymeOf] H → va_D A [oX12 A_t A_t_now A_t_aside A_t_kept A_t_rhymeOf A_t_wasRhyme A_t_wordAt x_t_wordMany A_t_tape x_t_taped x_t_place0 x_t_length0 x_t_fault x_t_number0 x_t_open x_t_codeMany x_t_waiting x_t_saidMany x_t_clauses A_t_said A_t_waitsAt A_t_saidLetter A_t_saidFrom A_t_saidHalf A_t_saidTo A_t_codes A_t_clauseOf A_t_codeFrom A_t_codeHalf A_t_codeTo A_t_stack A_t_facts x_t_lines A_t_newWords A_t_roundFrom A_t_roundAt A_t_roundTimes x_t_newMany x_t_rounds x_t_itFrom x_t_itTimes x_t_writtenNow x_t_picturesNow x_t_usedNow x_t_chosen x_t_fearOfChosen A_t_leastFrom A_t_rowNow x_t_changesNow x_t_left0 A_t_bornOf A_t_trainsTo A_t_trainAt x_t_trainMany x_t_leastTries x_t_firstTrained x_t_isKept, iA cI 293 A_t_now v_t_now, iA cI 16 A_t_rhymeOf v_t_rhymeOf] → va_S A s.heap H locs → f_X12_fear_b24 = some o_r → W p l e { frames := 4, cells := 0, slots := 0, locals := 87 } s m ([.ref A_t, .int a1, .int a2, .int a3] : List Value).toArray below meth c H locs 0 0 (MQ below (PoI D A [oX12 A_t A_t_now A_t_aside A_t_kept A_t_rhymeOf A_t_wasRhyme A_t_wordAt x_t_wordMany A_t_tape x_t_taped x_t_place0 x_t_length0 x_t_fault x_t_number0 x_t_open x_t_codeMany x_t_waiting x_t_saidMany x_t_clauses A_t_said A_t_waitsAt A_t_saidLetter A_t_saidFrom A_t_saidHalf A_t_saidTo A_t_codes A_t_clauseOf A_t_codeFrom A_t_codeHalf A_t_codeTo A_t_stack A_t_facts x_t_lines A_t_newWords A_t_roundFrom A_t_roundAt A_t_roundTimes x_t_newMany x_t_rounds x_t_itFrom x_t_itTimes x_t_writtenNow x_t_picturesNow x_t_usedNow x_t_chosen x_t_fearOfChosen A_t_leastFrom A_t_rowNow x_t_changesNow x_t_left0 A_t_bornOf A_t_trainsTo A_t_trainAt x_t_trainMany x_t_leastTries x_t_firstTrained x_t_isKept, iA cI 293 A_t_now v_t_now, iA cI 16 A_t_rhymeOf v_t_rhymeOf] o_r) ([.ref A_t, .int a1, .int a2, .int a3] : List Value).toArray s 0 0 A) (F0 m 24 ls []) := by
    intro H locs ls hl hP hD hS hf
    unfold f_X12_fear_b24 at hf
    refine lv_iconst (v := -1) hx hb dX12_fear_24 (by decide) ?_
    obtain rfl := ev1 hf
    exact x_iret C hr hlk hP hD hS dX12_fear_25
  have hb_68 : ∀ (s0 : Int32) (H : Heap) (locs : List Loc) (ls : Array Slot), lv_has ls 4 [] → va_P D vwCl [oX12 A_t A_t_now A_t_aside A_t_kept A_t_rhymeOf A_t_wasRhyme A_t_wordAt x_t_wordMany A_t_tape x_t_taped x_t_place0 x_t_length0 x_t_fault x_t_number0 x_t_open x_t_codeMany x_t_waiting x_t_saidMany x_t_clauses A_t_said A_t_waitsAt A_t_saidLetter A_t_saidFrom A_t_saidHalf A_t_saidTo A_t_codes A_t_clauseOf A_t_codeFrom A_t_codeHalf A_t_codeTo A_t_stack A_t_facts x_t_lines A_t_newWords A_t_roundFrom A_t_roundAt A_t_roundTimes x_t_newMany x_t_rounds x_t_itFrom x_t_itTimes x_t_writtenNow x_t_picturesNow x_t_usedNow x_t_chosen x_t_fearOfChosen A_t_leastFrom A_t_rowNow x_t_changesNow x_t_left0 A_t_bornOf A_t_trainsTo A_t_trainAt x_t_trainMany x_t_leastTries x_t_firstTrained x_t_isKept, iA cI 293 A_t_now v_t_now, iA cI 16 A_t_rhymeOf v_t_rhymeOf] H → va_D A [oX12 A_t A_t_now A_t_aside A_t_kept A_t_rhymeOf A_t_wasRhyme A_t_wordAt x_t_wordMany A_t_tape x_t_taped x_t_place0 x_t_length0 x_t_fault x_t_number0 x_t_open x_t_codeMany x_t_waiting x_t_saidMany x_t_clauses A_t_said A_t_waitsAt A_t_saidLetter A_t_saidFrom A_t_saidHalf A_t_saidTo A_t_codes A_t_clauseOf A_t_codeFrom A_t_codeHalf A_t_codeTo A_t_stack A_t_facts x_t_lines A_t_newWords A_t_roundFrom A_t_roundAt A_t_roundTimes x_t_newMany x_t_rounds x_t_itFrom x_t_itTimes x_t_writtenNow x_t_picturesNow x_t_usedNow x_t_chosen x_t_fearOfChosen A_t_leastFrom A_t_rowNow x_t_changesNow x_t_left0 A_t_bornOf A_t_trainsTo A_t_trainAt x_t_trainMany x_t_leastTries x_t_firstTrained x_t_isKept, iA cI 293 A_t_now v_t_now, iA cI 16 A_t_rhymeOf v_t_rhymeOf] → va_S A s.heap H locs → f_X12_fear_b68 s0 = some o_r → W p l e { frames := 4, cells := 0, slots := 0, locals := 87 } s m ([.ref A_t, .int a1, .int a2, .int a3] : List Value).toArray below meth c H locs 0 0 (MQ below (PoI D A [oX12 A_t A_t_now A_t_aside A_t_kept A_t_rhymeOf A_t_wasRhyme A_t_wordAt x_t_wordMany A_t_tape x_t_taped x_t_place0 x_t_length0 x_t_fault x_t_number0 x_t_open x_t_codeMany x_t_waiting x_t_saidMany x_t_clauses A_t_said A_t_waitsAt A_t_saidLetter A_t_saidFrom A_t_saidHalf A_t_saidTo A_t_codes A_t_clauseOf A_t_codeFrom A_t_codeHalf A_t_codeTo A_t_stack A_t_facts x_t_lines A_t_newWords A_t_roundFrom A_t_roundAt A_t_roundTimes x_t_newMany x_t_rounds x_t_itFrom x_t_itTimes x_t_writtenNow x_t_picturesNow x_t_usedNow x_t_chosen x_t_fearOfChosen A_t_leastFrom A_t_rowNow x_t_changesNow x_t_left0 A_t_bornOf A_t_trainsTo A_t_trainAt x_t_trainMany x_t_leastTries x_t_firstTrained x_t_isKept, iA cI 293 A_t_now v_t_now, iA cI 16 A_t_rhymeOf v_t_rhymeOf] o_r) ([.ref A_t, .int a1, .int a2, .int a3] : List Value).toArray s 0 0 A) (F0 m 68 ls [.int s0]) := by
    intro s0 H locs ls hl hP hD hS hf
    unfold f_X12_fear_b68 at hf
    obtain rfl := ev1 hf
    exact x_iret C hr hlk hP hD hS dX12_fear_68
  refine lv_aload_n hx hb dX12_fear_0 rfl (lv_at hl 0 rfl) ?_
  refine lv_iload_n hx hb dX12_fear_1 rfl (lv_at hl 1 rfl) ?_
  obtain ⟨r1, hc2, hf⟩ := bd1_e hf
  refine x_callVI (ws' := [oX12 A_t A_t_now A_t_aside A_t_kept A_t_rhymeOf A_t_wasRhyme A_t_wordAt x_t_wordMany A_t_tape x_t_taped x_t_place0 x_t_length0 x_t_fault x_t_number0 x_t_open x_t_codeMany x_t_waiting x_t_saidMany x_t_clauses A_t_said A_t_waitsAt A_t_saidLetter A_t_saidFrom A_t_saidHalf A_t_saidTo A_t_codes A_t_clauseOf A_t_codeFrom A_t_codeHalf A_t_codeTo A_t_stack A_t_facts x_t_lines A_t_newWords A_t_roundFrom A_t_roundAt A_t_roundTimes x_t_newMany x_t_rounds x_t_itFrom x_t_itTimes x_t_writtenNow x_t_picturesNow x_t_usedNow x_t_chosen x_t_fearOfChosen A_t_leastFrom A_t_rowNow x_t_changesNow x_t_left0 A_t_bornOf A_t_trainsTo A_t_trainAt x_t_trainMany x_t_leastTries x_t_firstTrained x_t_isKept, iA cI 293 A_t_now v_t_now, iA cI 16 A_t_rhymeOf v_t_rhymeOf]) (rest := []) C hK hP hD hS hA hl mf_X12_109 (c_X12_isTold hc2) [0, 1] 0 12 rfl rfl rfl rfl rfl rfl rfl rfl rfl rfl (Nat.le_of_ble_eq_true rfl) ⟨Nat.le_of_ble_eq_true rfl, Nat.le_of_ble_eq_true rfl⟩ ⟨Nat.le_refl _, Nat.le_refl _⟩ dX12_fear_2 ?_
  intro H locs hP hD hS
  refine lv_if_eq (tgt := 24) hx hb dX12_fear_5 (by decide) (fun q => ?_) (fun q => ?_)
  · have hf := if_t q hf
    exact hb_24 _ _ ls (lv_sub hl [] rfl) hP hD hS hf
  · have hf := if_f q hf
    refine lv_iload_n hx hb dX12_fear_8 rfl (lv_at hl 2 rfl) ?_
    obtain ⟨r3, hc4, hf⟩ := bd1_e hf
    refine x_callSI (ws' := [oX12 A_t A_t_now A_t_aside A_t_kept A_t_rhymeOf A_t_wasRhyme A_t_wordAt x_t_wordMany A_t_tape x_t_taped x_t_place0 x_t_length0 x_t_fault x_t_number0 x_t_open x_t_codeMany x_t_waiting x_t_saidMany x_t_clauses A_t_said A_t_waitsAt A_t_saidLetter A_t_saidFrom A_t_saidHalf A_t_saidTo A_t_codes A_t_clauseOf A_t_codeFrom A_t_codeHalf A_t_codeTo A_t_stack A_t_facts x_t_lines A_t_newWords A_t_roundFrom A_t_roundAt A_t_roundTimes x_t_newMany x_t_rounds x_t_itFrom x_t_itTimes x_t_writtenNow x_t_picturesNow x_t_usedNow x_t_chosen x_t_fearOfChosen A_t_leastFrom A_t_rowNow x_t_changesNow x_t_left0 A_t_bornOf A_t_trainsTo A_t_trainAt x_t_trainMany x_t_leastTries x_t_firstTrained x_t_isKept, iA cI 293 A_t_now v_t_now, iA cI 16 A_t_rhymeOf v_t_rhymeOf]) (rest := []) C hK hP hD hS hA hl mf_X12_351 (c_X12_isWord hc4) [] rfl rfl rfl rfl rfl rfl rfl rfl (Nat.le_of_ble_eq_true rfl) ⟨Nat.le_of_ble_eq_true rfl, Nat.le_of_ble_eq_true rfl⟩ ⟨Nat.le_refl _, Nat.le_refl _⟩ dX12_fear_9 ?_
    intro H locs hP hD hS
    refine lv_if_eq (tgt := 24) hx hb dX12_fear_12 (by decide) (fun q => ?_) (fun q => ?_)
    · have hf := if_t q hf
      exact hb_24 _ _ ls (lv_sub hl [] rfl) hP hD hS hf
    · have hf := if_f q hf
      refine lv_iload_n hx hb dX12_fear_15 rfl (lv_at hl 3 rfl) ?_
      refine lv_iconst (v := 0) hx hb dX12_fear_16 (by decide) ?_
      refine lv_iconst (v := 2) hx hb dX12_fear_17 (by decide) ?_
      obtain ⟨r5, hc6, hf⟩ := bd1_e hf
      refine x_callSI (ws' := [oX12 A_t A_t_now A_t_aside A_t_kept A_t_rhymeOf A_t_wasRhyme A_t_wordAt x_t_wordMany A_t_tape x_t_taped x_t_place0 x_t_length0 x_t_fault x_t_number0 x_t_open x_t_codeMany x_t_waiting x_t_saidMany x_t_clauses A_t_said A_t_waitsAt A_t_saidLetter A_t_saidFrom A_t_saidHalf A_t_saidTo A_t_codes A_t_clauseOf A_t_codeFrom A_t_codeHalf A_t_codeTo A_t_stack A_t_facts x_t_lines A_t_newWords A_t_roundFrom A_t_roundAt A_t_roundTimes x_t_newMany x_t_rounds x_t_itFrom x_t_itTimes x_t_writtenNow x_t_picturesNow x_t_usedNow x_t_chosen x_t_fearOfChosen A_t_leastFrom A_t_rowNow x_t_changesNow x_t_left0 A_t_bornOf A_t_trainsTo A_t_trainAt x_t_trainMany x_t_leastTries x_t_firstTrained x_t_isKept, iA cI 293 A_t_now v_t_now, iA cI 16 A_t_rhymeOf v_t_rhymeOf]) (rest := []) C hK hP hD hS hA hl mf_X12_105 (c_X12_in hc6) [] rfl rfl rfl rfl rfl rfl rfl rfl (Nat.le_of_ble_eq_true rfl) ⟨Nat.le_of_ble_eq_true rfl, Nat.le_of_ble_eq_true rfl⟩ ⟨Nat.le_refl _, Nat.le_refl _⟩ dX12_fear_18 ?_
      intro H locs hP hD hS
      refine lv_if_ne (tgt := 26) hx hb dX12_fear_21 (by decide) (fun q => ?_) (fun q => ?_)
      · have hf := if_f q hf
        refine lv_iload_n hx hb dX12_fear_26 rfl (lv_at hl 3 rfl) ?_
        refine lv_if_ne (tgt := 39) hx hb dX12_fear_27 (by decide) (fun q => ?_) (fun q => ?_)
        · have hf := if_f q hf
          refine lv_iload_n hx hb dX12_fear_39 rfl (lv_at hl 3 rfl) ?_
          refine lv_iconst (v := 1) hx hb dX12_fear_40 (by decide) ?_
          refine lv_icmp_ne (tgt := 62) hx hb dX12_fear_41 (by decide) (fun q => ?_) (fun q => ?_)
          · have hf := if_f q hf
            refine lv_aload_n hx hb dX12_fear_62 rfl (lv_at hl 0 rfl) ?_
            refine lv_iload_n hx hb dX12_fear_63 rfl (lv_at hl 1 rfl) ?_
            refine lv_iload_n hx hb dX12_fear_64 rfl (lv_at hl 2 rfl) ?_
            obtain ⟨r7, hc8, hf⟩ := bd1_e hf
            refine x_callVI (ws' := [oX12 A_t A_t_now A_t_aside A_t_kept A_t_rhymeOf A_t_wasRhyme A_t_wordAt x_t_wordMany A_t_tape x_t_taped x_t_place0 x_t_length0 x_t_fault x_t_number0 x_t_open x_t_codeMany x_t_waiting x_t_saidMany x_t_clauses A_t_said A_t_waitsAt A_t_saidLetter A_t_saidFrom A_t_saidHalf A_t_saidTo A_t_codes A_t_clauseOf A_t_codeFrom A_t_codeHalf A_t_codeTo A_t_stack A_t_facts x_t_lines A_t_newWords A_t_roundFrom A_t_roundAt A_t_roundTimes x_t_newMany x_t_rounds x_t_itFrom x_t_itTimes x_t_writtenNow x_t_picturesNow x_t_usedNow x_t_chosen x_t_fearOfChosen A_t_leastFrom A_t_rowNow x_t_changesNow x_t_left0 A_t_bornOf A_t_trainsTo A_t_trainAt x_t_trainMany x_t_leastTries x_t_firstTrained x_t_isKept, iA cI 293 A_t_now v_t_now, iA cI 16 A_t_rhymeOf v_t_rhymeOf]) (rest := []) C hK hP hD hS hA hl mf_X12_124 (c_X12_shrinking hc8) [0, 1, 2] 0 12 rfl rfl rfl rfl rfl rfl rfl rfl rfl rfl (Nat.le_of_ble_eq_true rfl) ⟨Nat.le_of_ble_eq_true rfl, Nat.le_of_ble_eq_true rfl⟩ ⟨Nat.le_refl _, Nat.le_refl _⟩ dX12_fear_65 ?_
            intro H locs hP hD hS
            exact hb_68 r7 _ _ ls (lv_sub hl [] rfl) hP hD hS hf
          · have hf := if_t q hf
            refine lv_aload_n hx hb dX12_fear_44 rfl (lv_at hl 0 rfl) ?_
            refine x_get C hK hP fd_X12_7 0 rfl rfl dX12_fear_45 ?_
            refine lv_sipush (v := 160) hx hb dX12_fear_48 (by decide) ?_
            refine lv_bipush (v := 16) hx hb dX12_fear_51 (by decide) ?_
            refine lv_iload_n hx hb dX12_fear_53 rfl (lv_at hl 1 rfl) ?_
            refine lv_imul hx hb dX12_fear_54 ?_
            refine lv_iadd hx hb dX12_fear_55 ?_
            refine lv_iload_n hx hb dX12_fear_56 rfl (lv_at hl 2 rfl) ?_
            refine lv_iadd hx hb dX12_fear_57 ?_
            obtain ⟨hi, hf⟩ := gI_e hf
            refine x_iald C hK hP 1 rfl hi dX12_fear_58 ?_
            refine lv_goto (tgt := 68) hx hb dX12_fear_59 (by decide) ?_
            exact hb_68 (v_t_now (((160 : Int32) + ((16 : Int32) * a1)) + a2).toNatClampNeg) _ _ ls (lv_sub hl [] rfl) hP hD hS hf
        · have hf := if_t q hf
          refine lv_aload_n hx hb dX12_fear_30 rfl (lv_at hl 0 rfl) ?_
          refine lv_iload_n hx hb dX12_fear_31 rfl (lv_at hl 1 rfl) ?_
          refine lv_iload_n hx hb dX12_fear_32 rfl (lv_at hl 2 rfl) ?_
          obtain ⟨r9, hc10, hf⟩ := bd1_e hf
          refine x_callVI (ws' := [oX12 A_t A_t_now A_t_aside A_t_kept A_t_rhymeOf A_t_wasRhyme A_t_wordAt x_t_wordMany A_t_tape x_t_taped x_t_place0 x_t_length0 x_t_fault x_t_number0 x_t_open x_t_codeMany x_t_waiting x_t_saidMany x_t_clauses A_t_said A_t_waitsAt A_t_saidLetter A_t_saidFrom A_t_saidHalf A_t_saidTo A_t_codes A_t_clauseOf A_t_codeFrom A_t_codeHalf A_t_codeTo A_t_stack A_t_facts x_t_lines A_t_newWords A_t_roundFrom A_t_roundAt A_t_roundTimes x_t_newMany x_t_rounds x_t_itFrom x_t_itTimes x_t_writtenNow x_t_picturesNow x_t_usedNow x_t_chosen x_t_fearOfChosen A_t_leastFrom A_t_rowNow x_t_changesNow x_t_left0 A_t_bornOf A_t_trainsTo A_t_trainAt x_t_trainMany x_t_leastTries x_t_firstTrained x_t_isKept, iA cI 293 A_t_now v_t_now, iA cI 16 A_t_rhymeOf v_t_rhymeOf]) (rest := []) C hK hP hD hS hA hl mf_X12_113 (c_X12_dreadOf hc10) [0, 1] 0 12 rfl rfl rfl rfl rfl rfl rfl rfl rfl rfl (Nat.le_of_ble_eq_true rfl) ⟨Nat.le_of_ble_eq_true rfl, Nat.le_of_ble_eq_true rfl⟩ ⟨Nat.le_refl _, Nat.le_refl _⟩ dX12_fear_33 ?_
          intro H locs hP hD hS
          refine lv_goto (tgt := 68) hx hb dX12_fear_36 (by decide) ?_
          exact hb_68 r9 _ _ ls (lv_sub hl [] rfl) hP hD hS hf
      · have hf := if_t q hf
        exact hb_24 _ _ ls (lv_sub hl [] rfl) hP hD hS hf
def f_X12_rhyme_b17 (s0 : Int32) : Option (Int32) :=
  some s0
def f_X12_rhyme (v_t_rhymeOf : (Nat → Int32)) (a1 : Int32) : Option (Int32) :=
  bd1 (f_X12_isWord a1) (fun r1 =>
  if r1 = 0 then
    f_X12_rhyme_b17 (-1 : Int32)
  else
    gI 16 v_t_rhymeOf a1 (fun g2 =>
    f_X12_rhyme_b17 g2))
set_option maxHeartbeats 4000000 in
set_option maxRecDepth 100000 in
theorem c_X12_rhyme {l : Launch} {D : va_G} {cI cB : ClassId} {A_t A_t_now A_t_aside A_t_kept A_t_rhymeOf A_t_wasRhyme A_t_wordAt A_t_tape A_t_said A_t_waitsAt A_t_saidLetter A_t_saidFrom A_t_saidHalf A_t_saidTo A_t_codes A_t_clauseOf A_t_codeFrom A_t_codeHalf A_t_codeTo A_t_stack A_t_facts A_t_newWords A_t_roundFrom A_t_roundAt A_t_roundTimes A_t_leastFrom A_t_rowNow A_t_bornOf A_t_trainsTo A_t_trainAt : Nat} {x_t_wordMany x_t_taped x_t_place0 x_t_length0 x_t_fault x_t_number0 x_t_open x_t_codeMany x_t_waiting x_t_saidMany x_t_clauses x_t_lines x_t_newMany x_t_rounds x_t_itFrom x_t_itTimes x_t_writtenNow x_t_picturesNow x_t_usedNow x_t_chosen x_t_fearOfChosen x_t_changesNow x_t_left0 x_t_trainMany x_t_leastTries x_t_firstTrained x_t_isKept a1 : Int32} {v_t_rhymeOf : Nat → Int32} {o_r : Int32} (hf : f_X12_rhyme v_t_rhymeOf a1 = some o_r) : CtI l D cI cB yX12_rhyme cX12_rhyme 2 (some .int) 2 42 [.ref A_t, .int a1] [oX12 A_t A_t_now A_t_aside A_t_kept A_t_rhymeOf A_t_wasRhyme A_t_wordAt x_t_wordMany A_t_tape x_t_taped x_t_place0 x_t_length0 x_t_fault x_t_number0 x_t_open x_t_codeMany x_t_waiting x_t_saidMany x_t_clauses A_t_said A_t_waitsAt A_t_saidLetter A_t_saidFrom A_t_saidHalf A_t_saidTo A_t_codes A_t_clauseOf A_t_codeFrom A_t_codeHalf A_t_codeTo A_t_stack A_t_facts x_t_lines A_t_newWords A_t_roundFrom A_t_roundAt A_t_roundTimes x_t_newMany x_t_rounds x_t_itFrom x_t_itTimes x_t_writtenNow x_t_picturesNow x_t_usedNow x_t_chosen x_t_fearOfChosen A_t_leastFrom A_t_rowNow x_t_changesNow x_t_left0 A_t_bornOf A_t_trainsTo A_t_trainAt x_t_trainMany x_t_leastTries x_t_firstTrained x_t_isKept, iA cI 16 A_t_rhymeOf v_t_rhymeOf] [oX12 A_t A_t_now A_t_aside A_t_kept A_t_rhymeOf A_t_wasRhyme A_t_wordAt x_t_wordMany A_t_tape x_t_taped x_t_place0 x_t_length0 x_t_fault x_t_number0 x_t_open x_t_codeMany x_t_waiting x_t_saidMany x_t_clauses A_t_said A_t_waitsAt A_t_saidLetter A_t_saidFrom A_t_saidHalf A_t_saidTo A_t_codes A_t_clauseOf A_t_codeFrom A_t_codeHalf A_t_codeTo A_t_stack A_t_facts x_t_lines A_t_newWords A_t_roundFrom A_t_roundAt A_t_roundTimes x_t_newMany x_t_rounds x_t_itFrom x_t_itTimes x_t_writtenNow x_t_picturesNow x_t_usedNow x_t_chosen x_t_fearOfChosen A_t_leastFrom A_t_rowNow x_t_changesNow x_t_left0 A_t_bornOf A_t_trainsTo A_t_trainAt x_t_trainMany x_t_leastTries x_t_firstTrained x_t_isKept, iA cI 16 A_t_rhymeOf v_t_rhymeOf] o_r := by
  refine x_startI (by decide) (Nat.le_of_ble_eq_true rfl) ?_
  intro p e s m below meth c A C hr hlk hA hK hP hD hS ls hl
  have hl : lv_has ls 2 [(0, .ref A_t), (1, .int a1)] := hl
  have hx := C.1
  have hb := C.2.1
  unfold f_X12_rhyme at hf
  have hb_17 : ∀ (s0 : Int32) (H : Heap) (locs : List Loc) (ls : Array Slot), lv_has ls 2 [] → va_P D vwCl [oX12 A_t A_t_now A_t_aside A_t_kept A_t_rhymeOf A_t_wasRhyme A_t_wordAt x_t_wordMany A_t_tape x_t_taped x_t_place0 x_t_length0 x_t_fault x_t_number0 x_t_open x_t_codeMany x_t_waiting x_t_saidMany x_t_clauses A_t_said A_t_waitsAt A_t_saidLetter A_t_saidFrom A_t_saidHalf A_t_saidTo A_t_codes A_t_clauseOf A_t_codeFrom A_t_codeHalf A_t_codeTo A_t_stack A_t_facts x_t_lines A_t_newWords A_t_roundFrom A_t_roundAt A_t_roundTimes x_t_newMany x_t_rounds x_t_itFrom x_t_itTimes x_t_writtenNow x_t_picturesNow x_t_usedNow x_t_chosen x_t_fearOfChosen A_t_leastFrom A_t_rowNow x_t_changesNow x_t_left0 A_t_bornOf A_t_trainsTo A_t_trainAt x_t_trainMany x_t_leastTries x_t_firstTrained x_t_isKept, iA cI 16 A_t_rhymeOf v_t_rhymeOf] H → va_D A [oX12 A_t A_t_now A_t_aside A_t_kept A_t_rhymeOf A_t_wasRhyme A_t_wordAt x_t_wordMany A_t_tape x_t_taped x_t_place0 x_t_length0 x_t_fault x_t_number0 x_t_open x_t_codeMany x_t_waiting x_t_saidMany x_t_clauses A_t_said A_t_waitsAt A_t_saidLetter A_t_saidFrom A_t_saidHalf A_t_saidTo A_t_codes A_t_clauseOf A_t_codeFrom A_t_codeHalf A_t_codeTo A_t_stack A_t_facts x_t_lines A_t_newWords A_t_roundFrom A_t_roundAt A_t_roundTimes x_t_newMany x_t_rounds x_t_itFrom x_t_itTimes x_t_writtenNow x_t_picturesNow x_t_usedNow x_t_chosen x_t_fearOfChosen A_t_leastFrom A_t_rowNow x_t_changesNow x_t_left0 A_t_bornOf A_t_trainsTo A_t_trainAt x_t_trainMany x_t_leastTries x_t_firstTrained x_t_isKept, iA cI 16 A_t_rhymeOf v_t_rhymeOf] → va_S A s.heap H locs → f_X12_rhyme_b17 s0 = some o_r → W p l e { frames := 2, cells := 0, slots := 0, locals := 42 } s m ([.ref A_t, .int a1] : List Value).toArray below meth c H locs 0 0 (MQ below (PoI D A [oX12 A_t A_t_now A_t_aside A_t_kept A_t_rhymeOf A_t_wasRhyme A_t_wordAt x_t_wordMany A_t_tape x_t_taped x_t_place0 x_t_length0 x_t_fault x_t_number0 x_t_open x_t_codeMany x_t_waiting x_t_saidMany x_t_clauses A_t_said A_t_waitsAt A_t_saidLetter A_t_saidFrom A_t_saidHalf A_t_saidTo A_t_codes A_t_clauseOf A_t_codeFrom A_t_codeHalf A_t_codeTo A_t_stack A_t_facts x_t_lines A_t_newWords A_t_roundFrom A_t_roundAt A_t_roundTimes x_t_newMany x_t_rounds x_t_itFrom x_t_itTimes x_t_writtenNow x_t_picturesNow x_t_usedNow x_t_chosen x_t_fearOfChosen A_t_leastFrom A_t_rowNow x_t_changesNow x_t_left0 A_t_bornOf A_t_trainsTo A_t_trainAt x_t_trainMany x_t_leastTries x_t_firstTrained x_t_isKept, iA cI 16 A_t_rhymeOf v_t_rhymeOf] o_r) ([.ref A_t, .int a1] : List Value).toArray s 0 0 A) (F0 m 17 ls [.int s0]) := by
    intro s0 H locs ls hl hP hD hS hf
    unfold f_X12_rhyme_b17 at hf
    obtain rfl := ev1 hf
    exact x_iret C hr hlk hP hD hS dX12_rhyme_17
  refine lv_iload_n hx hb dX12_rhyme_0 rfl (lv_at hl 1 rfl) ?_
  obtain ⟨r1, hc2, hf⟩ := bd1_e hf
  refine x_callSI (ws' := [oX12 A_t A_t_now A_t_aside A_t_kept A_t_rhymeOf A_t_wasRhyme A_t_wordAt x_t_wordMany A_t_tape x_t_taped x_t_place0 x_t_length0 x_t_fault x_t_number0 x_t_open x_t_codeMany x_t_waiting x_t_saidMany x_t_clauses A_t_said A_t_waitsAt A_t_saidLetter A_t_saidFrom A_t_saidHalf A_t_saidTo A_t_codes A_t_clauseOf A_t_codeFrom A_t_codeHalf A_t_codeTo A_t_stack A_t_facts x_t_lines A_t_newWords A_t_roundFrom A_t_roundAt A_t_roundTimes x_t_newMany x_t_rounds x_t_itFrom x_t_itTimes x_t_writtenNow x_t_picturesNow x_t_usedNow x_t_chosen x_t_fearOfChosen A_t_leastFrom A_t_rowNow x_t_changesNow x_t_left0 A_t_bornOf A_t_trainsTo A_t_trainAt x_t_trainMany x_t_leastTries x_t_firstTrained x_t_isKept, iA cI 16 A_t_rhymeOf v_t_rhymeOf]) (rest := []) C hK hP hD hS hA hl mf_X12_351 (c_X12_isWord hc2) [] rfl rfl rfl rfl rfl rfl rfl rfl (Nat.le_of_ble_eq_true rfl) ⟨Nat.le_of_ble_eq_true rfl, Nat.le_of_ble_eq_true rfl⟩ ⟨Nat.le_refl _, Nat.le_refl _⟩ dX12_rhyme_1 ?_
  intro H locs hP hD hS
  refine lv_if_eq (tgt := 16) hx hb dX12_rhyme_4 (by decide) (fun q => ?_) (fun q => ?_)
  · have hf := if_t q hf
    refine lv_iconst (v := -1) hx hb dX12_rhyme_16 (by decide) ?_
    exact hb_17 (-1 : Int32) _ _ ls (lv_sub hl [] rfl) hP hD hS hf
  · have hf := if_f q hf
    refine lv_aload_n hx hb dX12_rhyme_7 rfl (lv_at hl 0 rfl) ?_
    refine x_get C hK hP fd_X12_19 0 rfl rfl dX12_rhyme_8 ?_
    refine lv_iload_n hx hb dX12_rhyme_11 rfl (lv_at hl 1 rfl) ?_
    obtain ⟨hi, hf⟩ := gI_e hf
    refine x_iald C hK hP 1 rfl hi dX12_rhyme_12 ?_
    refine lv_goto (tgt := 17) hx hb dX12_rhyme_13 (by decide) ?_
    exact hb_17 (v_t_rhymeOf a1.toNatClampNeg) _ _ ls (lv_sub hl [] rfl) hP hD hS hf
def f_X12_used_b25 (v_t_aside : (Nat → Int32)) (v_t_facts : (Nat → Int32)) (v_t_now : (Nat → Int32)) (v_t_stack : (Nat → Int32)) (x_t_chosen : Int32) (x_t_fearOfChosen : Int32) (x_t_picturesNow : Int32) (x_t_usedNow : Int32) (x_t_writtenNow : Int32) : Option (Int32 × (Nat → Int32) × (Nat → Int32) × (Nat → Int32) × (Nat → Int32) × Int32 × Int32 × Int32 × Int32 × Int32) :=
  some ((-1 : Int32), v_t_aside, v_t_facts, v_t_now, v_t_stack, x_t_chosen, x_t_fearOfChosen, x_t_picturesNow, x_t_usedNow, x_t_writtenNow)
def f_X12_used_b114 (v_t_aside : (Nat → Int32)) (v_t_facts : (Nat → Int32)) (v_t_now : (Nat → Int32)) (v_t_stack : (Nat → Int32)) (x_t_chosen : Int32) (x_t_fearOfChosen : Int32) (x_t_picturesNow : Int32) (x_t_usedNow : Int32) (x_t_writtenNow : Int32) (s0 : Int32) : Option (Int32 × (Nat → Int32) × (Nat → Int32) × (Nat → Int32) × (Nat → Int32) × Int32 × Int32 × Int32 × Int32 × Int32) :=
  some (s0, v_t_aside, v_t_facts, v_t_now, v_t_stack, x_t_chosen, x_t_fearOfChosen, x_t_picturesNow, x_t_usedNow, x_t_writtenNow)
def f_X12_used_b83 (v_t_rhymeOf : (Nat → Int32)) (a1 : Int32) (a2 : Int32) (v_t_aside : (Nat → Int32)) (v_t_facts : (Nat → Int32)) (v_t_now : (Nat → Int32)) (v_t_stack : (Nat → Int32)) (x_t_chosen : Int32) (x_t_fearOfChosen : Int32) (x_t_picturesNow : Int32) (x_t_usedNow : Int32) (x_t_writtenNow : Int32) (l4 : Int32) : Option (Int32 × (Nat → Int32) × (Nat → Int32) × (Nat → Int32) × (Nat → Int32) × Int32 × Int32 × Int32 × Int32 × Int32) :=
  bd1 (f_X12_bears v_t_now v_t_rhymeOf a1 a2) (fun r1 =>
  bd1 (f_X12_copies v_t_aside v_t_now) (fun w2 =>
  if r1 = 0 then
    f_X12_used_b114 v_t_aside v_t_facts w2 v_t_stack x_t_chosen x_t_fearOfChosen x_t_picturesNow x_t_usedNow x_t_writtenNow (-2 : Int32)
  else
    f_X12_used_b114 v_t_aside v_t_facts w2 v_t_stack x_t_chosen x_t_fearOfChosen x_t_picturesNow x_t_usedNow x_t_writtenNow l4))
def f_X12_used_b41 (v_t_clauseOf : (Nat → Int32)) (v_t_codeFrom : (Nat → Int32)) (v_t_codeHalf : (Nat → Int32)) (v_t_codeTo : (Nat → Int32)) (v_t_codes : (Nat → Int32)) (v_t_rhymeOf : (Nat → Int32)) (v_t_wordAt : (Nat → Int32)) (x_t_clauses : Int32) (x_t_wordMany : Int32) (a1 : Int32) (a2 : Int32) (a3 : Int32) : Nat → (Nat → Int32) → (Nat → Int32) → (Nat → Int32) → (Nat → Int32) → Int32 → Int32 → Int32 → Int32 → Int32 → Int32 → Option (Int32 × (Nat → Int32) × (Nat → Int32) × (Nat → Int32) × (Nat → Int32) × Int32 × Int32 × Int32 × Int32 × Int32)
  | 0, _, _, _, _, _, _, _, _, _, _ => none
  | n + 1, v_t_aside, v_t_facts, v_t_now, v_t_stack, x_t_chosen, x_t_fearOfChosen, x_t_picturesNow, x_t_usedNow, x_t_writtenNow, l4 =>
    bd1 (f_X12_bears v_t_now v_t_rhymeOf a1 a2) (fun r1 =>
    if r1 = 0 then
      if a3 ≤ l4 then
        f_X12_used_b83 v_t_rhymeOf a1 a2 v_t_aside v_t_facts v_t_now v_t_stack x_t_chosen x_t_fearOfChosen x_t_picturesNow x_t_usedNow x_t_writtenNow l4
      else
        gI 293 v_t_now (291 : Int32) (fun g2 =>
        if (9999 : Int32) ≤ g2 then
          f_X12_used_b83 v_t_rhymeOf a1 a2 v_t_aside v_t_facts v_t_now v_t_stack x_t_chosen x_t_fearOfChosen x_t_picturesNow x_t_usedNow x_t_writtenNow l4
        else
          bd8 (f_X12_dayGoes v_t_clauseOf v_t_codeFrom v_t_codeHalf v_t_codeTo v_t_codes v_t_facts v_t_now v_t_rhymeOf v_t_stack v_t_wordAt x_t_chosen x_t_clauses x_t_fearOfChosen x_t_picturesNow x_t_usedNow x_t_wordMany x_t_writtenNow) (fun w3 w4 w5 w6 w7 w8 w9 w10 =>
          f_X12_used_b41 v_t_clauseOf v_t_codeFrom v_t_codeHalf v_t_codeTo v_t_codes v_t_rhymeOf v_t_wordAt x_t_clauses x_t_wordMany a1 a2 a3 n v_t_aside w3 w4 w5 w6 w7 w8 w9 w10 (l4 + (1 : Int32))))
    else
      f_X12_used_b83 v_t_rhymeOf a1 a2 v_t_aside v_t_facts v_t_now v_t_stack x_t_chosen x_t_fearOfChosen x_t_picturesNow x_t_usedNow x_t_writtenNow l4)
def f_X12_used (v_t_aside : (Nat → Int32)) (v_t_clauseOf : (Nat → Int32)) (v_t_codeFrom : (Nat → Int32)) (v_t_codeHalf : (Nat → Int32)) (v_t_codeTo : (Nat → Int32)) (v_t_codes : (Nat → Int32)) (v_t_facts : (Nat → Int32)) (v_t_now : (Nat → Int32)) (v_t_rhymeOf : (Nat → Int32)) (v_t_stack : (Nat → Int32)) (v_t_wordAt : (Nat → Int32)) (x_t_chosen : Int32) (x_t_clauses : Int32) (x_t_fearOfChosen : Int32) (x_t_picturesNow : Int32) (x_t_usedNow : Int32) (x_t_wordMany : Int32) (x_t_writtenNow : Int32) (a1 : Int32) (a2 : Int32) (a3 : Int32) : Option (Int32 × (Nat → Int32) × (Nat → Int32) × (Nat → Int32) × (Nat → Int32) × Int32 × Int32 × Int32 × Int32 × Int32) :=
  bd1 (f_X12_isTold v_t_now a1) (fun r11 =>
  if r11 = 0 then
    f_X12_used_b25 v_t_aside v_t_facts v_t_now v_t_stack x_t_chosen x_t_fearOfChosen x_t_picturesNow x_t_usedNow x_t_writtenNow
  else
    bd1 (f_X12_isWord a2) (fun r12 =>
    if r12 = 0 then
      f_X12_used_b25 v_t_aside v_t_facts v_t_now v_t_stack x_t_chosen x_t_fearOfChosen x_t_picturesNow x_t_usedNow x_t_writtenNow
    else
      bd1 (f_X12_in a3 (1 : Int32) (60 : Int32)) (fun r13 =>
      if r13 = 0 then
        f_X12_used_b25 v_t_aside v_t_facts v_t_now v_t_stack x_t_chosen x_t_fearOfChosen x_t_picturesNow x_t_usedNow x_t_writtenNow
      else
        bd1 (f_X12_copies v_t_now v_t_aside) (fun w14 =>
        f_X12_used_b41 v_t_clauseOf v_t_codeFrom v_t_codeHalf v_t_codeTo v_t_codes v_t_rhymeOf v_t_wordAt x_t_clauses x_t_wordMany a1 a2 a3 FU w14 v_t_facts v_t_now v_t_stack x_t_chosen x_t_fearOfChosen x_t_picturesNow x_t_usedNow x_t_writtenNow (0 : Int32)))))
set_option maxHeartbeats 4000000 in
set_option maxRecDepth 100000 in
theorem c_X12_used {l : Launch} {D : va_G} {cI cB : ClassId} {A_t A_t_now A_t_aside A_t_kept A_t_rhymeOf A_t_wasRhyme A_t_wordAt A_t_tape A_t_said A_t_waitsAt A_t_saidLetter A_t_saidFrom A_t_saidHalf A_t_saidTo A_t_codes A_t_clauseOf A_t_codeFrom A_t_codeHalf A_t_codeTo A_t_stack A_t_facts A_t_newWords A_t_roundFrom A_t_roundAt A_t_roundTimes A_t_leastFrom A_t_rowNow A_t_bornOf A_t_trainsTo A_t_trainAt : Nat} {x_t_wordMany x_t_taped x_t_place0 x_t_length0 x_t_fault x_t_number0 x_t_open x_t_codeMany x_t_waiting x_t_saidMany x_t_clauses x_t_lines x_t_newMany x_t_rounds x_t_itFrom x_t_itTimes x_t_writtenNow x_t_picturesNow x_t_usedNow x_t_chosen x_t_fearOfChosen x_t_changesNow x_t_left0 x_t_trainMany x_t_leastTries x_t_firstTrained x_t_isKept a1 a2 a3 : Int32} {v_t_aside v_t_clauseOf v_t_codeFrom v_t_codeHalf v_t_codeTo v_t_codes v_t_facts v_t_now v_t_rhymeOf v_t_stack v_t_wordAt : Nat → Int32} {o_r o_x_t_chosen o_x_t_fearOfChosen o_x_t_picturesNow o_x_t_usedNow o_x_t_writtenNow : Int32} {o_v_t_aside o_v_t_facts o_v_t_now o_v_t_stack : Nat → Int32} (hf : f_X12_used v_t_aside v_t_clauseOf v_t_codeFrom v_t_codeHalf v_t_codeTo v_t_codes v_t_facts v_t_now v_t_rhymeOf v_t_stack v_t_wordAt x_t_chosen x_t_clauses x_t_fearOfChosen x_t_picturesNow x_t_usedNow x_t_wordMany x_t_writtenNow a1 a2 a3 = some (o_r, o_v_t_aside, o_v_t_facts, o_v_t_now, o_v_t_stack, o_x_t_chosen, o_x_t_fearOfChosen, o_x_t_picturesNow, o_x_t_usedNow, o_x_t_writtenNow)) : CtI l D cI cB yX12_used cX12_used 6 (some .int) 8 182 [.ref A_t, .int a1, .int a2, .int a3] [oX12 A_t A_t_now A_t_aside A_t_kept A_t_rhymeOf A_t_wasRhyme A_t_wordAt x_t_wordMany A_t_tape x_t_taped x_t_place0 x_t_length0 x_t_fault x_t_number0 x_t_open x_t_codeMany x_t_waiting x_t_saidMany x_t_clauses A_t_said A_t_waitsAt A_t_saidLetter A_t_saidFrom A_t_saidHalf A_t_saidTo A_t_codes A_t_clauseOf A_t_codeFrom A_t_codeHalf A_t_codeTo A_t_stack A_t_facts x_t_lines A_t_newWords A_t_roundFrom A_t_roundAt A_t_roundTimes x_t_newMany x_t_rounds x_t_itFrom x_t_itTimes x_t_writtenNow x_t_picturesNow x_t_usedNow x_t_chosen x_t_fearOfChosen A_t_leastFrom A_t_rowNow x_t_changesNow x_t_left0 A_t_bornOf A_t_trainsTo A_t_trainAt x_t_trainMany x_t_leastTries x_t_firstTrained x_t_isKept, iA cI 293 A_t_aside v_t_aside, iA cI 16 A_t_clauseOf v_t_clauseOf, iA cI 16 A_t_codeFrom v_t_codeFrom, iA cI 16 A_t_codeHalf v_t_codeHalf, iA cI 16 A_t_codeTo v_t_codeTo, iA cI 260 A_t_codes v_t_codes, iA cI 10 A_t_facts v_t_facts, iA cI 293 A_t_now v_t_now, iA cI 16 A_t_rhymeOf v_t_rhymeOf, iA cI 260 A_t_stack v_t_stack, iA cI 48 A_t_wordAt v_t_wordAt] [oX12 A_t A_t_now A_t_aside A_t_kept A_t_rhymeOf A_t_wasRhyme A_t_wordAt x_t_wordMany A_t_tape x_t_taped x_t_place0 x_t_length0 x_t_fault x_t_number0 x_t_open x_t_codeMany x_t_waiting x_t_saidMany x_t_clauses A_t_said A_t_waitsAt A_t_saidLetter A_t_saidFrom A_t_saidHalf A_t_saidTo A_t_codes A_t_clauseOf A_t_codeFrom A_t_codeHalf A_t_codeTo A_t_stack A_t_facts x_t_lines A_t_newWords A_t_roundFrom A_t_roundAt A_t_roundTimes x_t_newMany x_t_rounds x_t_itFrom x_t_itTimes o_x_t_writtenNow o_x_t_picturesNow o_x_t_usedNow o_x_t_chosen o_x_t_fearOfChosen A_t_leastFrom A_t_rowNow x_t_changesNow x_t_left0 A_t_bornOf A_t_trainsTo A_t_trainAt x_t_trainMany x_t_leastTries x_t_firstTrained x_t_isKept, iA cI 293 A_t_aside o_v_t_aside, iA cI 16 A_t_clauseOf v_t_clauseOf, iA cI 16 A_t_codeFrom v_t_codeFrom, iA cI 16 A_t_codeHalf v_t_codeHalf, iA cI 16 A_t_codeTo v_t_codeTo, iA cI 260 A_t_codes v_t_codes, iA cI 10 A_t_facts o_v_t_facts, iA cI 293 A_t_now o_v_t_now, iA cI 16 A_t_rhymeOf v_t_rhymeOf, iA cI 260 A_t_stack o_v_t_stack, iA cI 48 A_t_wordAt v_t_wordAt] o_r := by
  refine x_startI (by decide) (Nat.le_of_ble_eq_true rfl) ?_
  intro p e s m below meth c A C hr hlk hA hK hP hD hS ls hl
  have hl : lv_has ls 6 [(0, .ref A_t), (1, .int a1), (2, .int a2), (3, .int a3)] := hl
  have hx := C.1
  have hb := C.2.1
  unfold f_X12_used at hf
  have hb_25 : ∀ (v_t_aside : (Nat → Int32)) (v_t_facts : (Nat → Int32)) (v_t_now : (Nat → Int32)) (v_t_stack : (Nat → Int32)) (x_t_chosen : Int32) (x_t_fearOfChosen : Int32) (x_t_picturesNow : Int32) (x_t_usedNow : Int32) (x_t_writtenNow : Int32) (H : Heap) (locs : List Loc) (ls : Array Slot), lv_has ls 6 [] → va_P D vwCl [oX12 A_t A_t_now A_t_aside A_t_kept A_t_rhymeOf A_t_wasRhyme A_t_wordAt x_t_wordMany A_t_tape x_t_taped x_t_place0 x_t_length0 x_t_fault x_t_number0 x_t_open x_t_codeMany x_t_waiting x_t_saidMany x_t_clauses A_t_said A_t_waitsAt A_t_saidLetter A_t_saidFrom A_t_saidHalf A_t_saidTo A_t_codes A_t_clauseOf A_t_codeFrom A_t_codeHalf A_t_codeTo A_t_stack A_t_facts x_t_lines A_t_newWords A_t_roundFrom A_t_roundAt A_t_roundTimes x_t_newMany x_t_rounds x_t_itFrom x_t_itTimes x_t_writtenNow x_t_picturesNow x_t_usedNow x_t_chosen x_t_fearOfChosen A_t_leastFrom A_t_rowNow x_t_changesNow x_t_left0 A_t_bornOf A_t_trainsTo A_t_trainAt x_t_trainMany x_t_leastTries x_t_firstTrained x_t_isKept, iA cI 293 A_t_aside v_t_aside, iA cI 16 A_t_clauseOf v_t_clauseOf, iA cI 16 A_t_codeFrom v_t_codeFrom, iA cI 16 A_t_codeHalf v_t_codeHalf, iA cI 16 A_t_codeTo v_t_codeTo, iA cI 260 A_t_codes v_t_codes, iA cI 10 A_t_facts v_t_facts, iA cI 293 A_t_now v_t_now, iA cI 16 A_t_rhymeOf v_t_rhymeOf, iA cI 260 A_t_stack v_t_stack, iA cI 48 A_t_wordAt v_t_wordAt] H → va_D A [oX12 A_t A_t_now A_t_aside A_t_kept A_t_rhymeOf A_t_wasRhyme A_t_wordAt x_t_wordMany A_t_tape x_t_taped x_t_place0 x_t_length0 x_t_fault x_t_number0 x_t_open x_t_codeMany x_t_waiting x_t_saidMany x_t_clauses A_t_said A_t_waitsAt A_t_saidLetter A_t_saidFrom A_t_saidHalf A_t_saidTo A_t_codes A_t_clauseOf A_t_codeFrom A_t_codeHalf A_t_codeTo A_t_stack A_t_facts x_t_lines A_t_newWords A_t_roundFrom A_t_roundAt A_t_roundTimes x_t_newMany x_t_rounds x_t_itFrom x_t_itTimes x_t_writtenNow x_t_picturesNow x_t_usedNow x_t_chosen x_t_fearOfChosen A_t_leastFrom A_t_rowNow x_t_changesNow x_t_left0 A_t_bornOf A_t_trainsTo A_t_trainAt x_t_trainMany x_t_leastTries x_t_firstTrained x_t_isKept, iA cI 293 A_t_aside v_t_aside, iA cI 16 A_t_clauseOf v_t_clauseOf, iA cI 16 A_t_codeFrom v_t_codeFrom, iA cI 16 A_t_codeHalf v_t_codeHalf, iA cI 16 A_t_codeTo v_t_codeTo, iA cI 260 A_t_codes v_t_codes, iA cI 10 A_t_facts v_t_facts, iA cI 293 A_t_now v_t_now, iA cI 16 A_t_rhymeOf v_t_rhymeOf, iA cI 260 A_t_stack v_t_stack, iA cI 48 A_t_wordAt v_t_wordAt] → va_S A s.heap H locs → f_X12_used_b25 v_t_aside v_t_facts v_t_now v_t_stack x_t_chosen x_t_fearOfChosen x_t_picturesNow x_t_usedNow x_t_writtenNow = some (o_r, o_v_t_aside, o_v_t_facts, o_v_t_now, o_v_t_stack, o_x_t_chosen, o_x_t_fearOfChosen, o_x_t_picturesNow, o_x_t_usedNow, o_x_t_writtenNow) → W p l e { frames := 8, cells := 0, slots := 0, locals := 182 } s m ([.ref A_t, .int a1, .int a2, .int a3] : List Value).toArray below meth c H locs 0 0 (MQ below (PoI D A [oX12 A_t A_t_now A_t_aside A_t_kept A_t_rhymeOf A_t_wasRhyme A_t_wordAt x_t_wordMany A_t_tape x_t_taped x_t_place0 x_t_length0 x_t_fault x_t_number0 x_t_open x_t_codeMany x_t_waiting x_t_saidMany x_t_clauses A_t_said A_t_waitsAt A_t_saidLetter A_t_saidFrom A_t_saidHalf A_t_saidTo A_t_codes A_t_clauseOf A_t_codeFrom A_t_codeHalf A_t_codeTo A_t_stack A_t_facts x_t_lines A_t_newWords A_t_roundFrom A_t_roundAt A_t_roundTimes x_t_newMany x_t_rounds x_t_itFrom x_t_itTimes o_x_t_writtenNow o_x_t_picturesNow o_x_t_usedNow o_x_t_chosen o_x_t_fearOfChosen A_t_leastFrom A_t_rowNow x_t_changesNow x_t_left0 A_t_bornOf A_t_trainsTo A_t_trainAt x_t_trainMany x_t_leastTries x_t_firstTrained x_t_isKept, iA cI 293 A_t_aside o_v_t_aside, iA cI 16 A_t_clauseOf v_t_clauseOf, iA cI 16 A_t_codeFrom v_t_codeFrom, iA cI 16 A_t_codeHalf v_t_codeHalf, iA cI 16 A_t_codeTo v_t_codeTo, iA cI 260 A_t_codes v_t_codes, iA cI 10 A_t_facts o_v_t_facts, iA cI 293 A_t_now o_v_t_now, iA cI 16 A_t_rhymeOf v_t_rhymeOf, iA cI 260 A_t_stack o_v_t_stack, iA cI 48 A_t_wordAt v_t_wordAt] o_r) ([.ref A_t, .int a1, .int a2, .int a3] : List Value).toArray s 0 0 A) (F0 m 25 ls []) := by
    intro v_t_aside v_t_facts v_t_now v_t_stack x_t_chosen x_t_fearOfChosen x_t_picturesNow x_t_usedNow x_t_writtenNow H locs ls hl hP hD hS hf
    unfold f_X12_used_b25 at hf
    refine lv_iconst (v := -1) hx hb dX12_used_25 (by decide) ?_
    obtain ⟨rfl, rfl, rfl, rfl, rfl, rfl, rfl, rfl, rfl, rfl⟩ := ev10 hf
    exact x_iret C hr hlk hP hD hS dX12_used_26
  have hb_114 : ∀ (v_t_aside : (Nat → Int32)) (v_t_facts : (Nat → Int32)) (v_t_now : (Nat → Int32)) (v_t_stack : (Nat → Int32)) (x_t_chosen : Int32) (x_t_fearOfChosen : Int32) (x_t_picturesNow : Int32) (x_t_usedNow : Int32) (x_t_writtenNow : Int32) (s0 : Int32) (H : Heap) (locs : List Loc) (ls : Array Slot), lv_has ls 6 [] → va_P D vwCl [oX12 A_t A_t_now A_t_aside A_t_kept A_t_rhymeOf A_t_wasRhyme A_t_wordAt x_t_wordMany A_t_tape x_t_taped x_t_place0 x_t_length0 x_t_fault x_t_number0 x_t_open x_t_codeMany x_t_waiting x_t_saidMany x_t_clauses A_t_said A_t_waitsAt A_t_saidLetter A_t_saidFrom A_t_saidHalf A_t_saidTo A_t_codes A_t_clauseOf A_t_codeFrom A_t_codeHalf A_t_codeTo A_t_stack A_t_facts x_t_lines A_t_newWords A_t_roundFrom A_t_roundAt A_t_roundTimes x_t_newMany x_t_rounds x_t_itFrom x_t_itTimes x_t_writtenNow x_t_picturesNow x_t_usedNow x_t_chosen x_t_fearOfChosen A_t_leastFrom A_t_rowNow x_t_changesNow x_t_left0 A_t_bornOf A_t_trainsTo A_t_trainAt x_t_trainMany x_t_leastTries x_t_firstTrained x_t_isKept, iA cI 293 A_t_aside v_t_aside, iA cI 16 A_t_clauseOf v_t_clauseOf, iA cI 16 A_t_codeFrom v_t_codeFrom, iA cI 16 A_t_codeHalf v_t_codeHalf, iA cI 16 A_t_codeTo v_t_codeTo, iA cI 260 A_t_codes v_t_codes, iA cI 10 A_t_facts v_t_facts, iA cI 293 A_t_now v_t_now, iA cI 16 A_t_rhymeOf v_t_rhymeOf, iA cI 260 A_t_stack v_t_stack, iA cI 48 A_t_wordAt v_t_wordAt] H → va_D A [oX12 A_t A_t_now A_t_aside A_t_kept A_t_rhymeOf A_t_wasRhyme A_t_wordAt x_t_wordMany A_t_tape x_t_taped x_t_place0 x_t_length0 x_t_fault x_t_number0 x_t_open x_t_codeMany x_t_waiting x_t_saidMany x_t_clauses A_t_said A_t_waitsAt A_t_saidLetter A_t_saidFrom A_t_saidHalf A_t_saidTo A_t_codes A_t_clauseOf A_t_codeFrom A_t_codeHalf A_t_codeTo A_t_stack A_t_facts x_t_lines A_t_newWords A_t_roundFrom A_t_roundAt A_t_roundTimes x_t_newMany x_t_rounds x_t_itFrom x_t_itTimes x_t_writtenNow x_t_picturesNow x_t_usedNow x_t_chosen x_t_fearOfChosen A_t_leastFrom A_t_rowNow x_t_changesNow x_t_left0 A_t_bornOf A_t_trainsTo A_t_trainAt x_t_trainMany x_t_leastTries x_t_firstTrained x_t_isKept, iA cI 293 A_t_aside v_t_aside, iA cI 16 A_t_clauseOf v_t_clauseOf, iA cI 16 A_t_codeFrom v_t_codeFrom, iA cI 16 A_t_codeHalf v_t_codeHalf, iA cI 16 A_t_codeTo v_t_codeTo, iA cI 260 A_t_codes v_t_codes, iA cI 10 A_t_facts v_t_facts, iA cI 293 A_t_now v_t_now, iA cI 16 A_t_rhymeOf v_t_rhymeOf, iA cI 260 A_t_stack v_t_stack, iA cI 48 A_t_wordAt v_t_wordAt] → va_S A s.heap H locs → f_X12_used_b114 v_t_aside v_t_facts v_t_now v_t_stack x_t_chosen x_t_fearOfChosen x_t_picturesNow x_t_usedNow x_t_writtenNow s0 = some (o_r, o_v_t_aside, o_v_t_facts, o_v_t_now, o_v_t_stack, o_x_t_chosen, o_x_t_fearOfChosen, o_x_t_picturesNow, o_x_t_usedNow, o_x_t_writtenNow) → W p l e { frames := 8, cells := 0, slots := 0, locals := 182 } s m ([.ref A_t, .int a1, .int a2, .int a3] : List Value).toArray below meth c H locs 0 0 (MQ below (PoI D A [oX12 A_t A_t_now A_t_aside A_t_kept A_t_rhymeOf A_t_wasRhyme A_t_wordAt x_t_wordMany A_t_tape x_t_taped x_t_place0 x_t_length0 x_t_fault x_t_number0 x_t_open x_t_codeMany x_t_waiting x_t_saidMany x_t_clauses A_t_said A_t_waitsAt A_t_saidLetter A_t_saidFrom A_t_saidHalf A_t_saidTo A_t_codes A_t_clauseOf A_t_codeFrom A_t_codeHalf A_t_codeTo A_t_stack A_t_facts x_t_lines A_t_newWords A_t_roundFrom A_t_roundAt A_t_roundTimes x_t_newMany x_t_rounds x_t_itFrom x_t_itTimes o_x_t_writtenNow o_x_t_picturesNow o_x_t_usedNow o_x_t_chosen o_x_t_fearOfChosen A_t_leastFrom A_t_rowNow x_t_changesNow x_t_left0 A_t_bornOf A_t_trainsTo A_t_trainAt x_t_trainMany x_t_leastTries x_t_firstTrained x_t_isKept, iA cI 293 A_t_aside o_v_t_aside, iA cI 16 A_t_clauseOf v_t_clauseOf, iA cI 16 A_t_codeFrom v_t_codeFrom, iA cI 16 A_t_codeHalf v_t_codeHalf, iA cI 16 A_t_codeTo v_t_codeTo, iA cI 260 A_t_codes v_t_codes, iA cI 10 A_t_facts o_v_t_facts, iA cI 293 A_t_now o_v_t_now, iA cI 16 A_t_rhymeOf v_t_rhymeOf, iA cI 260 A_t_stack o_v_t_stack, iA cI 48 A_t_wordAt v_t_wordAt] o_r) ([.ref A_t, .int a1, .int a2, .int a3] : List Value).toArray s 0 0 A) (F0 m 114 ls [.int s0]) := by
    intro v_t_aside v_t_facts v_t_now v_t_stack x_t_chosen x_t_fearOfChosen x_t_picturesNow x_t_usedNow x_t_writtenNow s0 H locs ls hl hP hD hS hf
    unfold f_X12_used_b114 at hf
    obtain ⟨rfl, rfl, rfl, rfl, rfl, rfl, rfl, rfl, rfl, rfl⟩ := ev10 hf
    exact x_iret C hr hlk hP hD hS dX12_used_114
  have hb_83 : ∀ (v_t_aside : (Nat → Int32)) (v_t_facts : (Nat → Int32)) (v_t_now : (Nat → Int32)) (v_t_stack : (Nat → Int32)) (x_t_chosen : Int32) (x_t_fearOfChosen : Int32) (x_t_picturesNow : Int32) (x_t_usedNow : Int32) (x_t_writtenNow : Int32) (l4 : Int32) (H : Heap) (locs : List Loc) (ls : Array Slot), lv_has ls 6 [(0, .ref A_t), (1, .int a1), (2, .int a2), (4, .int l4)] → va_P D vwCl [oX12 A_t A_t_now A_t_aside A_t_kept A_t_rhymeOf A_t_wasRhyme A_t_wordAt x_t_wordMany A_t_tape x_t_taped x_t_place0 x_t_length0 x_t_fault x_t_number0 x_t_open x_t_codeMany x_t_waiting x_t_saidMany x_t_clauses A_t_said A_t_waitsAt A_t_saidLetter A_t_saidFrom A_t_saidHalf A_t_saidTo A_t_codes A_t_clauseOf A_t_codeFrom A_t_codeHalf A_t_codeTo A_t_stack A_t_facts x_t_lines A_t_newWords A_t_roundFrom A_t_roundAt A_t_roundTimes x_t_newMany x_t_rounds x_t_itFrom x_t_itTimes x_t_writtenNow x_t_picturesNow x_t_usedNow x_t_chosen x_t_fearOfChosen A_t_leastFrom A_t_rowNow x_t_changesNow x_t_left0 A_t_bornOf A_t_trainsTo A_t_trainAt x_t_trainMany x_t_leastTries x_t_firstTrained x_t_isKept, iA cI 293 A_t_aside v_t_aside, iA cI 16 A_t_clauseOf v_t_clauseOf, iA cI 16 A_t_codeFrom v_t_codeFrom, iA cI 16 A_t_codeHalf v_t_codeHalf, iA cI 16 A_t_codeTo v_t_codeTo, iA cI 260 A_t_codes v_t_codes, iA cI 10 A_t_facts v_t_facts, iA cI 293 A_t_now v_t_now, iA cI 16 A_t_rhymeOf v_t_rhymeOf, iA cI 260 A_t_stack v_t_stack, iA cI 48 A_t_wordAt v_t_wordAt] H → va_D A [oX12 A_t A_t_now A_t_aside A_t_kept A_t_rhymeOf A_t_wasRhyme A_t_wordAt x_t_wordMany A_t_tape x_t_taped x_t_place0 x_t_length0 x_t_fault x_t_number0 x_t_open x_t_codeMany x_t_waiting x_t_saidMany x_t_clauses A_t_said A_t_waitsAt A_t_saidLetter A_t_saidFrom A_t_saidHalf A_t_saidTo A_t_codes A_t_clauseOf A_t_codeFrom A_t_codeHalf A_t_codeTo A_t_stack A_t_facts x_t_lines A_t_newWords A_t_roundFrom A_t_roundAt A_t_roundTimes x_t_newMany x_t_rounds x_t_itFrom x_t_itTimes x_t_writtenNow x_t_picturesNow x_t_usedNow x_t_chosen x_t_fearOfChosen A_t_leastFrom A_t_rowNow x_t_changesNow x_t_left0 A_t_bornOf A_t_trainsTo A_t_trainAt x_t_trainMany x_t_leastTries x_t_firstTrained x_t_isKept, iA cI 293 A_t_aside v_t_aside, iA cI 16 A_t_clauseOf v_t_clauseOf, iA cI 16 A_t_codeFrom v_t_codeFrom, iA cI 16 A_t_codeHalf v_t_codeHalf, iA cI 16 A_t_codeTo v_t_codeTo, iA cI 260 A_t_codes v_t_codes, iA cI 10 A_t_facts v_t_facts, iA cI 293 A_t_now v_t_now, iA cI 16 A_t_rhymeOf v_t_rhymeOf, iA cI 260 A_t_stack v_t_stack, iA cI 48 A_t_wordAt v_t_wordAt] → va_S A s.heap H locs → f_X12_used_b83 v_t_rhymeOf a1 a2 v_t_aside v_t_facts v_t_now v_t_stack x_t_chosen x_t_fearOfChosen x_t_picturesNow x_t_usedNow x_t_writtenNow l4 = some (o_r, o_v_t_aside, o_v_t_facts, o_v_t_now, o_v_t_stack, o_x_t_chosen, o_x_t_fearOfChosen, o_x_t_picturesNow, o_x_t_usedNow, o_x_t_writtenNow) → W p l e { frames := 8, cells := 0, slots := 0, locals := 182 } s m ([.ref A_t, .int a1, .int a2, .int a3] : List Value).toArray below meth c H locs 0 0 (MQ below (PoI D A [oX12 A_t A_t_now A_t_aside A_t_kept A_t_rhymeOf A_t_wasRhyme A_t_wordAt x_t_wordMany A_t_tape x_t_taped x_t_place0 x_t_length0 x_t_fault x_t_number0 x_t_open x_t_codeMany x_t_waiting x_t_saidMany x_t_clauses A_t_said A_t_waitsAt A_t_saidLetter A_t_saidFrom A_t_saidHalf A_t_saidTo A_t_codes A_t_clauseOf A_t_codeFrom A_t_codeHalf A_t_codeTo A_t_stack A_t_facts x_t_lines A_t_newWords A_t_roundFrom A_t_roundAt A_t_roundTimes x_t_newMany x_t_rounds x_t_itFrom x_t_itTimes o_x_t_writtenNow o_x_t_picturesNow o_x_t_usedNow o_x_t_chosen o_x_t_fearOfChosen A_t_leastFrom A_t_rowNow x_t_changesNow x_t_left0 A_t_bornOf A_t_trainsTo A_t_trainAt x_t_trainMany x_t_leastTries x_t_firstTrained x_t_isKept, iA cI 293 A_t_aside o_v_t_aside, iA cI 16 A_t_clauseOf v_t_clauseOf, iA cI 16 A_t_codeFrom v_t_codeFrom, iA cI 16 A_t_codeHalf v_t_codeHalf, iA cI 16 A_t_codeTo v_t_codeTo, iA cI 260 A_t_codes v_t_codes, iA cI 10 A_t_facts o_v_t_facts, iA cI 293 A_t_now o_v_t_now, iA cI 16 A_t_rhymeOf v_t_rhymeOf, iA cI 260 A_t_stack o_v_t_stack, iA cI 48 A_t_wordAt v_t_wordAt] o_r) ([.ref A_t, .int a1, .int a2, .int a3] : List Value).toArray s 0 0 A) (F0 m 83 ls []) := by
    intro v_t_aside v_t_facts v_t_now v_t_stack x_t_chosen x_t_fearOfChosen x_t_picturesNow x_t_usedNow x_t_writtenNow l4 H locs ls hl hP hD hS hf
    unfold f_X12_used_b83 at hf
    refine lv_aload_n hx hb dX12_used_83 rfl (lv_at hl 0 rfl) ?_
    refine lv_iload_n hx hb dX12_used_84 rfl (lv_at hl 1 rfl) ?_
    refine lv_iload_n hx hb dX12_used_85 rfl (lv_at hl 2 rfl) ?_
    obtain ⟨r1, hc2, hf⟩ := bd1_e hf
    refine x_callVI (ws' := [oX12 A_t A_t_now A_t_aside A_t_kept A_t_rhymeOf A_t_wasRhyme A_t_wordAt x_t_wordMany A_t_tape x_t_taped x_t_place0 x_t_length0 x_t_fault x_t_number0 x_t_open x_t_codeMany x_t_waiting x_t_saidMany x_t_clauses A_t_said A_t_waitsAt A_t_saidLetter A_t_saidFrom A_t_saidHalf A_t_saidTo A_t_codes A_t_clauseOf A_t_codeFrom A_t_codeHalf A_t_codeTo A_t_stack A_t_facts x_t_lines A_t_newWords A_t_roundFrom A_t_roundAt A_t_roundTimes x_t_newMany x_t_rounds x_t_itFrom x_t_itTimes x_t_writtenNow x_t_picturesNow x_t_usedNow x_t_chosen x_t_fearOfChosen A_t_leastFrom A_t_rowNow x_t_changesNow x_t_left0 A_t_bornOf A_t_trainsTo A_t_trainAt x_t_trainMany x_t_leastTries x_t_firstTrained x_t_isKept, iA cI 293 A_t_aside v_t_aside, iA cI 16 A_t_clauseOf v_t_clauseOf, iA cI 16 A_t_codeFrom v_t_codeFrom, iA cI 16 A_t_codeHalf v_t_codeHalf, iA cI 16 A_t_codeTo v_t_codeTo, iA cI 260 A_t_codes v_t_codes, iA cI 10 A_t_facts v_t_facts, iA cI 293 A_t_now v_t_now, iA cI 16 A_t_rhymeOf v_t_rhymeOf, iA cI 260 A_t_stack v_t_stack, iA cI 48 A_t_wordAt v_t_wordAt]) (rest := []) C hK hP hD hS hA hl mf_X12_127 (c_X12_bears hc2) [0, 8, 9] 0 12 rfl rfl rfl rfl rfl rfl rfl rfl rfl rfl (Nat.le_of_ble_eq_true rfl) ⟨Nat.le_of_ble_eq_true rfl, Nat.le_of_ble_eq_true rfl⟩ ⟨Nat.le_refl _, Nat.le_refl _⟩ dX12_used_86 ?_
    intro H locs hP hD hS
    refine lv_istore (lv' := [(5, .int r1), (0, .ref A_t), (1, .int a1), (2, .int a2), (4, .int l4)]) hx hb dX12_used_89 hl (by decide) rfl (fun ls hl => ?_)
    refine lv_aload_n hx hb dX12_used_91 rfl (lv_at hl 1 rfl) ?_
    refine x_get C hK hP fd_X12_13 0 rfl rfl dX12_used_92 ?_
    refine lv_aload_n hx hb dX12_used_95 rfl (lv_at hl 1 rfl) ?_
    refine x_get C hK hP fd_X12_7 0 rfl rfl dX12_used_96 ?_
    obtain ⟨w3, hc4, hf⟩ := bd1_e hf
    refine x_callSV (ws' := [oX12 A_t A_t_now A_t_aside A_t_kept A_t_rhymeOf A_t_wasRhyme A_t_wordAt x_t_wordMany A_t_tape x_t_taped x_t_place0 x_t_length0 x_t_fault x_t_number0 x_t_open x_t_codeMany x_t_waiting x_t_saidMany x_t_clauses A_t_said A_t_waitsAt A_t_saidLetter A_t_saidFrom A_t_saidHalf A_t_saidTo A_t_codes A_t_clauseOf A_t_codeFrom A_t_codeHalf A_t_codeTo A_t_stack A_t_facts x_t_lines A_t_newWords A_t_roundFrom A_t_roundAt A_t_roundTimes x_t_newMany x_t_rounds x_t_itFrom x_t_itTimes x_t_writtenNow x_t_picturesNow x_t_usedNow x_t_chosen x_t_fearOfChosen A_t_leastFrom A_t_rowNow x_t_changesNow x_t_left0 A_t_bornOf A_t_trainsTo A_t_trainAt x_t_trainMany x_t_leastTries x_t_firstTrained x_t_isKept, iA cI 293 A_t_aside v_t_aside, iA cI 16 A_t_clauseOf v_t_clauseOf, iA cI 16 A_t_codeFrom v_t_codeFrom, iA cI 16 A_t_codeHalf v_t_codeHalf, iA cI 16 A_t_codeTo v_t_codeTo, iA cI 260 A_t_codes v_t_codes, iA cI 10 A_t_facts v_t_facts, iA cI 293 A_t_now w3, iA cI 16 A_t_rhymeOf v_t_rhymeOf, iA cI 260 A_t_stack v_t_stack, iA cI 48 A_t_wordAt v_t_wordAt]) (rest := []) C hK hP hD hS hA hl mf_X12_272 (c_X12_copies hc4) [1, 8] rfl rfl rfl rfl rfl rfl rfl rfl (Nat.le_of_ble_eq_true rfl) ⟨Nat.le_of_ble_eq_true rfl, Nat.le_of_ble_eq_true rfl⟩ ⟨Nat.le_refl _, Nat.le_refl _⟩ dX12_used_99 ?_
    intro H locs hP hD hS
    refine lv_iload hx hb dX12_used_102 (lv_at hl 0 rfl) ?_
    refine lv_if_eq (tgt := 112) hx hb dX12_used_104 (by decide) (fun q => ?_) (fun q => ?_)
    · have hf := if_t q hf
      refine lv_bipush (v := -2) hx hb dX12_used_112 (by decide) ?_
      exact hb_114 v_t_aside v_t_facts w3 v_t_stack x_t_chosen x_t_fearOfChosen x_t_picturesNow x_t_usedNow x_t_writtenNow (-2 : Int32) _ _ ls (lv_sub hl [] rfl) hP hD hS hf
    · have hf := if_f q hf
      refine lv_iload hx hb dX12_used_107 (lv_at hl 4 rfl) ?_
      refine lv_goto (tgt := 114) hx hb dX12_used_109 (by decide) ?_
      exact hb_114 v_t_aside v_t_facts w3 v_t_stack x_t_chosen x_t_fearOfChosen x_t_picturesNow x_t_usedNow x_t_writtenNow l4 _ _ ls (lv_sub hl [] rfl) hP hD hS hf
  have hb_41 : ∀ (n_41 : Nat) (v_t_aside : (Nat → Int32)) (v_t_facts : (Nat → Int32)) (v_t_now : (Nat → Int32)) (v_t_stack : (Nat → Int32)) (x_t_chosen : Int32) (x_t_fearOfChosen : Int32) (x_t_picturesNow : Int32) (x_t_usedNow : Int32) (x_t_writtenNow : Int32) (l4 : Int32) (H : Heap) (locs : List Loc) (ls : Array Slot), lv_has ls 6 [(0, .ref A_t), (1, .int a1), (2, .int a2), (3, .int a3), (4, .int l4)] → va_P D vwCl [oX12 A_t A_t_now A_t_aside A_t_kept A_t_rhymeOf A_t_wasRhyme A_t_wordAt x_t_wordMany A_t_tape x_t_taped x_t_place0 x_t_length0 x_t_fault x_t_number0 x_t_open x_t_codeMany x_t_waiting x_t_saidMany x_t_clauses A_t_said A_t_waitsAt A_t_saidLetter A_t_saidFrom A_t_saidHalf A_t_saidTo A_t_codes A_t_clauseOf A_t_codeFrom A_t_codeHalf A_t_codeTo A_t_stack A_t_facts x_t_lines A_t_newWords A_t_roundFrom A_t_roundAt A_t_roundTimes x_t_newMany x_t_rounds x_t_itFrom x_t_itTimes x_t_writtenNow x_t_picturesNow x_t_usedNow x_t_chosen x_t_fearOfChosen A_t_leastFrom A_t_rowNow x_t_changesNow x_t_left0 A_t_bornOf A_t_trainsTo A_t_trainAt x_t_trainMany x_t_leastTries x_t_firstTrained x_t_isKept, iA cI 293 A_t_aside v_t_aside, iA cI 16 A_t_clauseOf v_t_clauseOf, iA cI 16 A_t_codeFrom v_t_codeFrom, iA cI 16 A_t_codeHalf v_t_codeHalf, iA cI 16 A_t_codeTo v_t_codeTo, iA cI 260 A_t_codes v_t_codes, iA cI 10 A_t_facts v_t_facts, iA cI 293 A_t_now v_t_now, iA cI 16 A_t_rhymeOf v_t_rhymeOf, iA cI 260 A_t_stack v_t_stack, iA cI 48 A_t_wordAt v_t_wordAt] H → va_D A [oX12 A_t A_t_now A_t_aside A_t_kept A_t_rhymeOf A_t_wasRhyme A_t_wordAt x_t_wordMany A_t_tape x_t_taped x_t_place0 x_t_length0 x_t_fault x_t_number0 x_t_open x_t_codeMany x_t_waiting x_t_saidMany x_t_clauses A_t_said A_t_waitsAt A_t_saidLetter A_t_saidFrom A_t_saidHalf A_t_saidTo A_t_codes A_t_clauseOf A_t_codeFrom A_t_codeHalf A_t_codeTo A_t_stack A_t_facts x_t_lines A_t_newWords A_t_roundFrom A_t_roundAt A_t_roundTimes x_t_newMany x_t_rounds x_t_itFrom x_t_itTimes x_t_writtenNow x_t_picturesNow x_t_usedNow x_t_chosen x_t_fearOfChosen A_t_leastFrom A_t_rowNow x_t_changesNow x_t_left0 A_t_bornOf A_t_trainsTo A_t_trainAt x_t_trainMany x_t_leastTries x_t_firstTrained x_t_isKept, iA cI 293 A_t_aside v_t_aside, iA cI 16 A_t_clauseOf v_t_clauseOf, iA cI 16 A_t_codeFrom v_t_codeFrom, iA cI 16 A_t_codeHalf v_t_codeHalf, iA cI 16 A_t_codeTo v_t_codeTo, iA cI 260 A_t_codes v_t_codes, iA cI 10 A_t_facts v_t_facts, iA cI 293 A_t_now v_t_now, iA cI 16 A_t_rhymeOf v_t_rhymeOf, iA cI 260 A_t_stack v_t_stack, iA cI 48 A_t_wordAt v_t_wordAt] → va_S A s.heap H locs → f_X12_used_b41 v_t_clauseOf v_t_codeFrom v_t_codeHalf v_t_codeTo v_t_codes v_t_rhymeOf v_t_wordAt x_t_clauses x_t_wordMany a1 a2 a3 n_41 v_t_aside v_t_facts v_t_now v_t_stack x_t_chosen x_t_fearOfChosen x_t_picturesNow x_t_usedNow x_t_writtenNow l4 = some (o_r, o_v_t_aside, o_v_t_facts, o_v_t_now, o_v_t_stack, o_x_t_chosen, o_x_t_fearOfChosen, o_x_t_picturesNow, o_x_t_usedNow, o_x_t_writtenNow) → W p l e { frames := 8, cells := 0, slots := 0, locals := 182 } s m ([.ref A_t, .int a1, .int a2, .int a3] : List Value).toArray below meth c H locs 0 0 (MQ below (PoI D A [oX12 A_t A_t_now A_t_aside A_t_kept A_t_rhymeOf A_t_wasRhyme A_t_wordAt x_t_wordMany A_t_tape x_t_taped x_t_place0 x_t_length0 x_t_fault x_t_number0 x_t_open x_t_codeMany x_t_waiting x_t_saidMany x_t_clauses A_t_said A_t_waitsAt A_t_saidLetter A_t_saidFrom A_t_saidHalf A_t_saidTo A_t_codes A_t_clauseOf A_t_codeFrom A_t_codeHalf A_t_codeTo A_t_stack A_t_facts x_t_lines A_t_newWords A_t_roundFrom A_t_roundAt A_t_roundTimes x_t_newMany x_t_rounds x_t_itFrom x_t_itTimes o_x_t_writtenNow o_x_t_picturesNow o_x_t_usedNow o_x_t_chosen o_x_t_fearOfChosen A_t_leastFrom A_t_rowNow x_t_changesNow x_t_left0 A_t_bornOf A_t_trainsTo A_t_trainAt x_t_trainMany x_t_leastTries x_t_firstTrained x_t_isKept, iA cI 293 A_t_aside o_v_t_aside, iA cI 16 A_t_clauseOf v_t_clauseOf, iA cI 16 A_t_codeFrom v_t_codeFrom, iA cI 16 A_t_codeHalf v_t_codeHalf, iA cI 16 A_t_codeTo v_t_codeTo, iA cI 260 A_t_codes v_t_codes, iA cI 10 A_t_facts o_v_t_facts, iA cI 293 A_t_now o_v_t_now, iA cI 16 A_t_rhymeOf v_t_rhymeOf, iA cI 260 A_t_stack o_v_t_stack, iA cI 48 A_t_wordAt v_t_wordAt] o_r) ([.ref A_t, .int a1, .int a2, .int a3] : List Value).toArray s 0 0 A) (F0 m 41 ls []) := by
    intro n_41
    induction n_41 with
    | zero =>
      intro v_t_aside v_t_facts v_t_now v_t_stack x_t_chosen x_t_fearOfChosen x_t_picturesNow x_t_usedNow x_t_writtenNow l4 H locs ls hl hP hD hS hf
      exact absurd hf (fun h => by rw [f_X12_used_b41] at h; cases h)
    | succ n_41 ih_41 =>
      intro v_t_aside v_t_facts v_t_now v_t_stack x_t_chosen x_t_fearOfChosen x_t_picturesNow x_t_usedNow x_t_writtenNow l4 H locs ls hl hP hD hS hf
      rw [f_X12_used_b41] at hf
      refine lv_aload_n hx hb dX12_used_41 rfl (lv_at hl 0 rfl) ?_
      refine lv_iload_n hx hb dX12_used_42 rfl (lv_at hl 1 rfl) ?_
      refine lv_iload_n hx hb dX12_used_43 rfl (lv_at hl 2 rfl) ?_
      obtain ⟨r5, hc6, hf⟩ := bd1_e hf
      refine x_callVI (ws' := [oX12 A_t A_t_now A_t_aside A_t_kept A_t_rhymeOf A_t_wasRhyme A_t_wordAt x_t_wordMany A_t_tape x_t_taped x_t_place0 x_t_length0 x_t_fault x_t_number0 x_t_open x_t_codeMany x_t_waiting x_t_saidMany x_t_clauses A_t_said A_t_waitsAt A_t_saidLetter A_t_saidFrom A_t_saidHalf A_t_saidTo A_t_codes A_t_clauseOf A_t_codeFrom A_t_codeHalf A_t_codeTo A_t_stack A_t_facts x_t_lines A_t_newWords A_t_roundFrom A_t_roundAt A_t_roundTimes x_t_newMany x_t_rounds x_t_itFrom x_t_itTimes x_t_writtenNow x_t_picturesNow x_t_usedNow x_t_chosen x_t_fearOfChosen A_t_leastFrom A_t_rowNow x_t_changesNow x_t_left0 A_t_bornOf A_t_trainsTo A_t_trainAt x_t_trainMany x_t_leastTries x_t_firstTrained x_t_isKept, iA cI 293 A_t_aside v_t_aside, iA cI 16 A_t_clauseOf v_t_clauseOf, iA cI 16 A_t_codeFrom v_t_codeFrom, iA cI 16 A_t_codeHalf v_t_codeHalf, iA cI 16 A_t_codeTo v_t_codeTo, iA cI 260 A_t_codes v_t_codes, iA cI 10 A_t_facts v_t_facts, iA cI 293 A_t_now v_t_now, iA cI 16 A_t_rhymeOf v_t_rhymeOf, iA cI 260 A_t_stack v_t_stack, iA cI 48 A_t_wordAt v_t_wordAt]) (rest := []) C hK hP hD hS hA hl mf_X12_127 (c_X12_bears hc6) [0, 8, 9] 0 12 rfl rfl rfl rfl rfl rfl rfl rfl rfl rfl (Nat.le_of_ble_eq_true rfl) ⟨Nat.le_of_ble_eq_true rfl, Nat.le_of_ble_eq_true rfl⟩ ⟨Nat.le_refl _, Nat.le_refl _⟩ dX12_used_44 ?_
      intro H locs hP hD hS
      refine lv_if_ne (tgt := 83) hx hb dX12_used_47 (by decide) (fun q => ?_) (fun q => ?_)
      · have hf := if_f q hf
        exact hb_83 v_t_aside v_t_facts v_t_now v_t_stack x_t_chosen x_t_fearOfChosen x_t_picturesNow x_t_usedNow x_t_writtenNow l4 _ _ ls (lv_sub hl [0, 1, 2, 4] rfl) hP hD hS hf
      · have hf := if_t q hf
        refine lv_iload hx hb dX12_used_50 (lv_at hl 4 rfl) ?_
        refine lv_iload_n hx hb dX12_used_52 rfl (lv_at hl 3 rfl) ?_
        refine lv_icmp_ge (tgt := 83) hx hb dX12_used_53 (by decide) (fun q => ?_) (fun q => ?_)
        · have hf := if_t q hf
          exact hb_83 v_t_aside v_t_facts v_t_now v_t_stack x_t_chosen x_t_fearOfChosen x_t_picturesNow x_t_usedNow x_t_writtenNow l4 _ _ ls (lv_sub hl [0, 1, 2, 4] rfl) hP hD hS hf
        · have hf := if_f q hf
          refine lv_aload_n hx hb dX12_used_56 rfl (lv_at hl 0 rfl) ?_
          refine x_get C hK hP fd_X12_7 0 rfl rfl dX12_used_57 ?_
          refine lv_sipush (v := 291) hx hb dX12_used_60 (by decide) ?_
          obtain ⟨hi, hf⟩ := gI_e hf
          refine x_iald C hK hP 8 rfl hi dX12_used_63 ?_
          refine lv_sipush (v := 9999) hx hb dX12_used_64 (by decide) ?_
          refine lv_icmp_ge (tgt := 83) hx hb dX12_used_67 (by decide) (fun q => ?_) (fun q => ?_)
          · have hf := if_t q hf
            exact hb_83 v_t_aside v_t_facts v_t_now v_t_stack x_t_chosen x_t_fearOfChosen x_t_picturesNow x_t_usedNow x_t_writtenNow l4 _ _ ls (lv_sub hl [0, 1, 2, 4] rfl) hP hD hS hf
          · have hf := if_f q hf
            refine lv_aload_n hx hb dX12_used_70 rfl (lv_at hl 0 rfl) ?_
            obtain ⟨w7, w8, w9, w10, w11, w12, w13, w14, hc15, hf⟩ := bd8_e hf
            refine x_callVV (ws' := [oX12 A_t A_t_now A_t_aside A_t_kept A_t_rhymeOf A_t_wasRhyme A_t_wordAt x_t_wordMany A_t_tape x_t_taped x_t_place0 x_t_length0 x_t_fault x_t_number0 x_t_open x_t_codeMany x_t_waiting x_t_saidMany x_t_clauses A_t_said A_t_waitsAt A_t_saidLetter A_t_saidFrom A_t_saidHalf A_t_saidTo A_t_codes A_t_clauseOf A_t_codeFrom A_t_codeHalf A_t_codeTo A_t_stack A_t_facts x_t_lines A_t_newWords A_t_roundFrom A_t_roundAt A_t_roundTimes x_t_newMany x_t_rounds x_t_itFrom x_t_itTimes w14 w12 w13 w10 w11 A_t_leastFrom A_t_rowNow x_t_changesNow x_t_left0 A_t_bornOf A_t_trainsTo A_t_trainAt x_t_trainMany x_t_leastTries x_t_firstTrained x_t_isKept, iA cI 293 A_t_aside v_t_aside, iA cI 16 A_t_clauseOf v_t_clauseOf, iA cI 16 A_t_codeFrom v_t_codeFrom, iA cI 16 A_t_codeHalf v_t_codeHalf, iA cI 16 A_t_codeTo v_t_codeTo, iA cI 260 A_t_codes v_t_codes, iA cI 10 A_t_facts w7, iA cI 293 A_t_now w8, iA cI 16 A_t_rhymeOf v_t_rhymeOf, iA cI 260 A_t_stack w9, iA cI 48 A_t_wordAt v_t_wordAt]) (rest := []) C hK hP hD hS hA hl mf_X12_342 (c_X12_dayGoes hc15) [0, 2, 3, 4, 5, 6, 7, 8, 9, 10, 11] 0 12 rfl rfl rfl rfl rfl rfl rfl rfl rfl rfl (Nat.le_of_ble_eq_true rfl) ⟨Nat.le_of_ble_eq_true rfl, Nat.le_of_ble_eq_true rfl⟩ ⟨Nat.le_refl _, Nat.le_refl _⟩ dX12_used_71 ?_
            intro H locs hP hD hS
            refine lv_iload hx hb dX12_used_74 (lv_at hl 4 rfl) ?_
            refine lv_iconst (v := 1) hx hb dX12_used_76 (by decide) ?_
            refine lv_iadd hx hb dX12_used_77 ?_
            refine lv_istore (lv' := [(4, .int (l4 + (1 : Int32))), (0, .ref A_t), (1, .int a1), (2, .int a2), (3, .int a3)]) hx hb dX12_used_78 hl (by decide) rfl (fun ls hl => ?_)
            refine lv_goto (tgt := 41) hx hb dX12_used_80 (by decide) ?_
            exact ih_41 v_t_aside w7 w8 w9 w10 w11 w12 w13 w14 (l4 + (1 : Int32)) _ _ ls (lv_sub hl [1, 2, 3, 4, 0] rfl) hP hD hS hf
  refine lv_aload_n hx hb dX12_used_0 rfl (lv_at hl 0 rfl) ?_
  refine lv_iload_n hx hb dX12_used_1 rfl (lv_at hl 1 rfl) ?_
  obtain ⟨r16, hc17, hf⟩ := bd1_e hf
  refine x_callVI (ws' := [oX12 A_t A_t_now A_t_aside A_t_kept A_t_rhymeOf A_t_wasRhyme A_t_wordAt x_t_wordMany A_t_tape x_t_taped x_t_place0 x_t_length0 x_t_fault x_t_number0 x_t_open x_t_codeMany x_t_waiting x_t_saidMany x_t_clauses A_t_said A_t_waitsAt A_t_saidLetter A_t_saidFrom A_t_saidHalf A_t_saidTo A_t_codes A_t_clauseOf A_t_codeFrom A_t_codeHalf A_t_codeTo A_t_stack A_t_facts x_t_lines A_t_newWords A_t_roundFrom A_t_roundAt A_t_roundTimes x_t_newMany x_t_rounds x_t_itFrom x_t_itTimes x_t_writtenNow x_t_picturesNow x_t_usedNow x_t_chosen x_t_fearOfChosen A_t_leastFrom A_t_rowNow x_t_changesNow x_t_left0 A_t_bornOf A_t_trainsTo A_t_trainAt x_t_trainMany x_t_leastTries x_t_firstTrained x_t_isKept, iA cI 293 A_t_aside v_t_aside, iA cI 16 A_t_clauseOf v_t_clauseOf, iA cI 16 A_t_codeFrom v_t_codeFrom, iA cI 16 A_t_codeHalf v_t_codeHalf, iA cI 16 A_t_codeTo v_t_codeTo, iA cI 260 A_t_codes v_t_codes, iA cI 10 A_t_facts v_t_facts, iA cI 293 A_t_now v_t_now, iA cI 16 A_t_rhymeOf v_t_rhymeOf, iA cI 260 A_t_stack v_t_stack, iA cI 48 A_t_wordAt v_t_wordAt]) (rest := []) C hK hP hD hS hA hl mf_X12_109 (c_X12_isTold hc17) [0, 8] 0 12 rfl rfl rfl rfl rfl rfl rfl rfl rfl rfl (Nat.le_of_ble_eq_true rfl) ⟨Nat.le_of_ble_eq_true rfl, Nat.le_of_ble_eq_true rfl⟩ ⟨Nat.le_refl _, Nat.le_refl _⟩ dX12_used_2 ?_
  intro H locs hP hD hS
  refine lv_if_eq (tgt := 25) hx hb dX12_used_5 (by decide) (fun q => ?_) (fun q => ?_)
  · have hf := if_t q hf
    exact hb_25 v_t_aside v_t_facts v_t_now v_t_stack x_t_chosen x_t_fearOfChosen x_t_picturesNow x_t_usedNow x_t_writtenNow _ _ ls (lv_sub hl [] rfl) hP hD hS hf
  · have hf := if_f q hf
    refine lv_iload_n hx hb dX12_used_8 rfl (lv_at hl 2 rfl) ?_
    obtain ⟨r18, hc19, hf⟩ := bd1_e hf
    refine x_callSI (ws' := [oX12 A_t A_t_now A_t_aside A_t_kept A_t_rhymeOf A_t_wasRhyme A_t_wordAt x_t_wordMany A_t_tape x_t_taped x_t_place0 x_t_length0 x_t_fault x_t_number0 x_t_open x_t_codeMany x_t_waiting x_t_saidMany x_t_clauses A_t_said A_t_waitsAt A_t_saidLetter A_t_saidFrom A_t_saidHalf A_t_saidTo A_t_codes A_t_clauseOf A_t_codeFrom A_t_codeHalf A_t_codeTo A_t_stack A_t_facts x_t_lines A_t_newWords A_t_roundFrom A_t_roundAt A_t_roundTimes x_t_newMany x_t_rounds x_t_itFrom x_t_itTimes x_t_writtenNow x_t_picturesNow x_t_usedNow x_t_chosen x_t_fearOfChosen A_t_leastFrom A_t_rowNow x_t_changesNow x_t_left0 A_t_bornOf A_t_trainsTo A_t_trainAt x_t_trainMany x_t_leastTries x_t_firstTrained x_t_isKept, iA cI 293 A_t_aside v_t_aside, iA cI 16 A_t_clauseOf v_t_clauseOf, iA cI 16 A_t_codeFrom v_t_codeFrom, iA cI 16 A_t_codeHalf v_t_codeHalf, iA cI 16 A_t_codeTo v_t_codeTo, iA cI 260 A_t_codes v_t_codes, iA cI 10 A_t_facts v_t_facts, iA cI 293 A_t_now v_t_now, iA cI 16 A_t_rhymeOf v_t_rhymeOf, iA cI 260 A_t_stack v_t_stack, iA cI 48 A_t_wordAt v_t_wordAt]) (rest := []) C hK hP hD hS hA hl mf_X12_351 (c_X12_isWord hc19) [] rfl rfl rfl rfl rfl rfl rfl rfl (Nat.le_of_ble_eq_true rfl) ⟨Nat.le_of_ble_eq_true rfl, Nat.le_of_ble_eq_true rfl⟩ ⟨Nat.le_refl _, Nat.le_refl _⟩ dX12_used_9 ?_
    intro H locs hP hD hS
    refine lv_if_eq (tgt := 25) hx hb dX12_used_12 (by decide) (fun q => ?_) (fun q => ?_)
    · have hf := if_t q hf
      exact hb_25 v_t_aside v_t_facts v_t_now v_t_stack x_t_chosen x_t_fearOfChosen x_t_picturesNow x_t_usedNow x_t_writtenNow _ _ ls (lv_sub hl [] rfl) hP hD hS hf
    · have hf := if_f q hf
      refine lv_iload_n hx hb dX12_used_15 rfl (lv_at hl 3 rfl) ?_
      refine lv_iconst (v := 1) hx hb dX12_used_16 (by decide) ?_
      refine lv_bipush (v := 60) hx hb dX12_used_17 (by decide) ?_
      obtain ⟨r20, hc21, hf⟩ := bd1_e hf
      refine x_callSI (ws' := [oX12 A_t A_t_now A_t_aside A_t_kept A_t_rhymeOf A_t_wasRhyme A_t_wordAt x_t_wordMany A_t_tape x_t_taped x_t_place0 x_t_length0 x_t_fault x_t_number0 x_t_open x_t_codeMany x_t_waiting x_t_saidMany x_t_clauses A_t_said A_t_waitsAt A_t_saidLetter A_t_saidFrom A_t_saidHalf A_t_saidTo A_t_codes A_t_clauseOf A_t_codeFrom A_t_codeHalf A_t_codeTo A_t_stack A_t_facts x_t_lines A_t_newWords A_t_roundFrom A_t_roundAt A_t_roundTimes x_t_newMany x_t_rounds x_t_itFrom x_t_itTimes x_t_writtenNow x_t_picturesNow x_t_usedNow x_t_chosen x_t_fearOfChosen A_t_leastFrom A_t_rowNow x_t_changesNow x_t_left0 A_t_bornOf A_t_trainsTo A_t_trainAt x_t_trainMany x_t_leastTries x_t_firstTrained x_t_isKept, iA cI 293 A_t_aside v_t_aside, iA cI 16 A_t_clauseOf v_t_clauseOf, iA cI 16 A_t_codeFrom v_t_codeFrom, iA cI 16 A_t_codeHalf v_t_codeHalf, iA cI 16 A_t_codeTo v_t_codeTo, iA cI 260 A_t_codes v_t_codes, iA cI 10 A_t_facts v_t_facts, iA cI 293 A_t_now v_t_now, iA cI 16 A_t_rhymeOf v_t_rhymeOf, iA cI 260 A_t_stack v_t_stack, iA cI 48 A_t_wordAt v_t_wordAt]) (rest := []) C hK hP hD hS hA hl mf_X12_105 (c_X12_in hc21) [] rfl rfl rfl rfl rfl rfl rfl rfl (Nat.le_of_ble_eq_true rfl) ⟨Nat.le_of_ble_eq_true rfl, Nat.le_of_ble_eq_true rfl⟩ ⟨Nat.le_refl _, Nat.le_refl _⟩ dX12_used_19 ?_
      intro H locs hP hD hS
      refine lv_if_ne (tgt := 27) hx hb dX12_used_22 (by decide) (fun q => ?_) (fun q => ?_)
      · have hf := if_f q hf
        refine lv_aload_n hx hb dX12_used_27 rfl (lv_at hl 0 rfl) ?_
        refine x_get C hK hP fd_X12_7 0 rfl rfl dX12_used_28 ?_
        refine lv_aload_n hx hb dX12_used_31 rfl (lv_at hl 0 rfl) ?_
        refine x_get C hK hP fd_X12_13 0 rfl rfl dX12_used_32 ?_
        obtain ⟨w22, hc23, hf⟩ := bd1_e hf
        refine x_callSV (ws' := [oX12 A_t A_t_now A_t_aside A_t_kept A_t_rhymeOf A_t_wasRhyme A_t_wordAt x_t_wordMany A_t_tape x_t_taped x_t_place0 x_t_length0 x_t_fault x_t_number0 x_t_open x_t_codeMany x_t_waiting x_t_saidMany x_t_clauses A_t_said A_t_waitsAt A_t_saidLetter A_t_saidFrom A_t_saidHalf A_t_saidTo A_t_codes A_t_clauseOf A_t_codeFrom A_t_codeHalf A_t_codeTo A_t_stack A_t_facts x_t_lines A_t_newWords A_t_roundFrom A_t_roundAt A_t_roundTimes x_t_newMany x_t_rounds x_t_itFrom x_t_itTimes x_t_writtenNow x_t_picturesNow x_t_usedNow x_t_chosen x_t_fearOfChosen A_t_leastFrom A_t_rowNow x_t_changesNow x_t_left0 A_t_bornOf A_t_trainsTo A_t_trainAt x_t_trainMany x_t_leastTries x_t_firstTrained x_t_isKept, iA cI 293 A_t_aside w22, iA cI 16 A_t_clauseOf v_t_clauseOf, iA cI 16 A_t_codeFrom v_t_codeFrom, iA cI 16 A_t_codeHalf v_t_codeHalf, iA cI 16 A_t_codeTo v_t_codeTo, iA cI 260 A_t_codes v_t_codes, iA cI 10 A_t_facts v_t_facts, iA cI 293 A_t_now v_t_now, iA cI 16 A_t_rhymeOf v_t_rhymeOf, iA cI 260 A_t_stack v_t_stack, iA cI 48 A_t_wordAt v_t_wordAt]) (rest := []) C hK hP hD hS hA hl mf_X12_272 (c_X12_copies hc23) [8, 1] rfl rfl rfl rfl rfl rfl rfl rfl (Nat.le_of_ble_eq_true rfl) ⟨Nat.le_of_ble_eq_true rfl, Nat.le_of_ble_eq_true rfl⟩ ⟨Nat.le_refl _, Nat.le_refl _⟩ dX12_used_35 ?_
        intro H locs hP hD hS
        refine lv_iconst (v := 0) hx hb dX12_used_38 (by decide) ?_
        refine lv_istore (lv' := [(4, .int (0 : Int32)), (0, .ref A_t), (1, .int a1), (2, .int a2), (3, .int a3)]) hx hb dX12_used_39 hl (by decide) rfl (fun ls hl => ?_)
        exact hb_41 FU w22 v_t_facts v_t_now v_t_stack x_t_chosen x_t_fearOfChosen x_t_picturesNow x_t_usedNow x_t_writtenNow (0 : Int32) _ _ ls (lv_sub hl [1, 2, 3, 4, 0] rfl) hP hD hS hf
      · have hf := if_t q hf
        exact hb_25 v_t_aside v_t_facts v_t_now v_t_stack x_t_chosen x_t_fearOfChosen x_t_picturesNow x_t_usedNow x_t_writtenNow _ _ ls (lv_sub hl [] rfl) hP hD hS hf
def f_X12_anyBears_b27 (a1 : Int32) (k2 : Int32 → Option (Int32)) (l2 : Int32) : Option (Int32) :=
  k2 (l2 + (1 : Int32))
def f_X12_anyBears_b2 (v_t_now : (Nat → Int32)) (v_t_rhymeOf : (Nat → Int32)) (a1 : Int32) : Nat → Int32 → Option (Int32)
  | 0, _ => none
  | n + 1, l2 =>
    if (8 : Int32) ≤ l2 then
      some (0 : Int32)
    else
      bd1 (f_X12_isTold v_t_now l2) (fun r1 =>
      if r1 = 0 then
        f_X12_anyBears_b27 a1 (f_X12_anyBears_b2 v_t_now v_t_rhymeOf a1 n) l2
      else
        bd1 (f_X12_bears v_t_now v_t_rhymeOf l2 a1) (fun r2 =>
        if r2 = 0 then
          f_X12_anyBears_b27 a1 (f_X12_anyBears_b2 v_t_now v_t_rhymeOf a1 n) l2
        else
          some (1 : Int32)))
def f_X12_anyBears (v_t_now : (Nat → Int32)) (v_t_rhymeOf : (Nat → Int32)) (a1 : Int32) : Option (Int32) :=
  f_X12_anyBears_b2 v_t_now v_t_rhymeOf a1 FU (0 : Int32)
set_option maxHeartbeats 4000000 in
set_option maxRecDepth 100000 in
theorem c_X12_anyBears {l : Launch} {D : va_G} {cI cB : ClassId} {A_t A_t_now A_t_aside A_t_kept A_t_rhymeOf A_t_wasRhyme A_t_wordAt A_t_tape A_t_said A_t_waitsAt A_t_saidLetter A_t_saidFrom A_t_saidHalf A_t_saidTo A_t_codes A_t_clauseOf A_t_codeFrom A_t_codeHalf A_t_codeTo A_t_stack A_t_facts A_t_newWords A_t_roundFrom A_t_roundAt A_t_roundTimes A_t_leastFrom A_t_rowNow A_t_bornOf A_t_trainsTo A_t_trainAt : Nat} {x_t_wordMany x_t_taped x_t_place0 x_t_length0 x_t_fault x_t_number0 x_t_open x_t_codeMany x_t_waiting x_t_saidMany x_t_clauses x_t_lines x_t_newMany x_t_rounds x_t_itFrom x_t_itTimes x_t_writtenNow x_t_picturesNow x_t_usedNow x_t_chosen x_t_fearOfChosen x_t_changesNow x_t_left0 x_t_trainMany x_t_leastTries x_t_firstTrained x_t_isKept a1 : Int32} {v_t_now v_t_rhymeOf : Nat → Int32} {o_r : Int32} (hf : f_X12_anyBears v_t_now v_t_rhymeOf a1 = some o_r) : CtI l D cI cB yX12_anyBears cX12_anyBears 3 (some .boolean) 5 109 [.ref A_t, .int a1] [oX12 A_t A_t_now A_t_aside A_t_kept A_t_rhymeOf A_t_wasRhyme A_t_wordAt x_t_wordMany A_t_tape x_t_taped x_t_place0 x_t_length0 x_t_fault x_t_number0 x_t_open x_t_codeMany x_t_waiting x_t_saidMany x_t_clauses A_t_said A_t_waitsAt A_t_saidLetter A_t_saidFrom A_t_saidHalf A_t_saidTo A_t_codes A_t_clauseOf A_t_codeFrom A_t_codeHalf A_t_codeTo A_t_stack A_t_facts x_t_lines A_t_newWords A_t_roundFrom A_t_roundAt A_t_roundTimes x_t_newMany x_t_rounds x_t_itFrom x_t_itTimes x_t_writtenNow x_t_picturesNow x_t_usedNow x_t_chosen x_t_fearOfChosen A_t_leastFrom A_t_rowNow x_t_changesNow x_t_left0 A_t_bornOf A_t_trainsTo A_t_trainAt x_t_trainMany x_t_leastTries x_t_firstTrained x_t_isKept, iA cI 293 A_t_now v_t_now, iA cI 16 A_t_rhymeOf v_t_rhymeOf] [oX12 A_t A_t_now A_t_aside A_t_kept A_t_rhymeOf A_t_wasRhyme A_t_wordAt x_t_wordMany A_t_tape x_t_taped x_t_place0 x_t_length0 x_t_fault x_t_number0 x_t_open x_t_codeMany x_t_waiting x_t_saidMany x_t_clauses A_t_said A_t_waitsAt A_t_saidLetter A_t_saidFrom A_t_saidHalf A_t_saidTo A_t_codes A_t_clauseOf A_t_codeFrom A_t_codeHalf A_t_codeTo A_t_stack A_t_facts x_t_lines A_t_newWords A_t_roundFrom A_t_roundAt A_t_roundTimes x_t_newMany x_t_rounds x_t_itFrom x_t_itTimes x_t_writtenNow x_t_picturesNow x_t_usedNow x_t_chosen x_t_fearOfChosen A_t_leastFrom A_t_rowNow x_t_changesNow x_t_left0 A_t_bornOf A_t_trainsTo A_t_trainAt x_t_trainMany x_t_leastTries x_t_firstTrained x_t_isKept, iA cI 293 A_t_now v_t_now, iA cI 16 A_t_rhymeOf v_t_rhymeOf] o_r := by
  refine x_startI (by decide) (Nat.le_of_ble_eq_true rfl) ?_
  intro p e s m below meth c A C hr hlk hA hK hP hD hS ls hl
  have hl : lv_has ls 3 [(0, .ref A_t), (1, .int a1)] := hl
  have hx := C.1
  have hb := C.2.1
  unfold f_X12_anyBears at hf
  have hb_2 : ∀ (n_2 : Nat) (l2 : Int32) (H : Heap) (locs : List Loc) (ls : Array Slot), lv_has ls 3 [(0, .ref A_t), (1, .int a1), (2, .int l2)] → va_P D vwCl [oX12 A_t A_t_now A_t_aside A_t_kept A_t_rhymeOf A_t_wasRhyme A_t_wordAt x_t_wordMany A_t_tape x_t_taped x_t_place0 x_t_length0 x_t_fault x_t_number0 x_t_open x_t_codeMany x_t_waiting x_t_saidMany x_t_clauses A_t_said A_t_waitsAt A_t_saidLetter A_t_saidFrom A_t_saidHalf A_t_saidTo A_t_codes A_t_clauseOf A_t_codeFrom A_t_codeHalf A_t_codeTo A_t_stack A_t_facts x_t_lines A_t_newWords A_t_roundFrom A_t_roundAt A_t_roundTimes x_t_newMany x_t_rounds x_t_itFrom x_t_itTimes x_t_writtenNow x_t_picturesNow x_t_usedNow x_t_chosen x_t_fearOfChosen A_t_leastFrom A_t_rowNow x_t_changesNow x_t_left0 A_t_bornOf A_t_trainsTo A_t_trainAt x_t_trainMany x_t_leastTries x_t_firstTrained x_t_isKept, iA cI 293 A_t_now v_t_now, iA cI 16 A_t_rhymeOf v_t_rhymeOf] H → va_D A [oX12 A_t A_t_now A_t_aside A_t_kept A_t_rhymeOf A_t_wasRhyme A_t_wordAt x_t_wordMany A_t_tape x_t_taped x_t_place0 x_t_length0 x_t_fault x_t_number0 x_t_open x_t_codeMany x_t_waiting x_t_saidMany x_t_clauses A_t_said A_t_waitsAt A_t_saidLetter A_t_saidFrom A_t_saidHalf A_t_saidTo A_t_codes A_t_clauseOf A_t_codeFrom A_t_codeHalf A_t_codeTo A_t_stack A_t_facts x_t_lines A_t_newWords A_t_roundFrom A_t_roundAt A_t_roundTimes x_t_newMany x_t_rounds x_t_itFrom x_t_itTimes x_t_writtenNow x_t_picturesNow x_t_usedNow x_t_chosen x_t_fearOfChosen A_t_leastFrom A_t_rowNow x_t_changesNow x_t_left0 A_t_bornOf A_t_trainsTo A_t_trainAt x_t_trainMany x_t_leastTries x_t_firstTrained x_t_isKept, iA cI 293 A_t_now v_t_now, iA cI 16 A_t_rhymeOf v_t_rhymeOf] → va_S A s.heap H locs → f_X12_anyBears_b2 v_t_now v_t_rhymeOf a1 n_2 l2 = some o_r → W p l e { frames := 5, cells := 0, slots := 0, locals := 109 } s m ([.ref A_t, .int a1] : List Value).toArray below meth c H locs 0 0 (MQ below (PoI D A [oX12 A_t A_t_now A_t_aside A_t_kept A_t_rhymeOf A_t_wasRhyme A_t_wordAt x_t_wordMany A_t_tape x_t_taped x_t_place0 x_t_length0 x_t_fault x_t_number0 x_t_open x_t_codeMany x_t_waiting x_t_saidMany x_t_clauses A_t_said A_t_waitsAt A_t_saidLetter A_t_saidFrom A_t_saidHalf A_t_saidTo A_t_codes A_t_clauseOf A_t_codeFrom A_t_codeHalf A_t_codeTo A_t_stack A_t_facts x_t_lines A_t_newWords A_t_roundFrom A_t_roundAt A_t_roundTimes x_t_newMany x_t_rounds x_t_itFrom x_t_itTimes x_t_writtenNow x_t_picturesNow x_t_usedNow x_t_chosen x_t_fearOfChosen A_t_leastFrom A_t_rowNow x_t_changesNow x_t_left0 A_t_bornOf A_t_trainsTo A_t_trainAt x_t_trainMany x_t_leastTries x_t_firstTrained x_t_isKept, iA cI 293 A_t_now v_t_now, iA cI 16 A_t_rhymeOf v_t_rhymeOf] o_r) ([.ref A_t, .int a1] : List Value).toArray s 0 0 A) (F0 m 2 ls []) := by
    intro n_2
    induction n_2 with
    | zero =>
      intro l2 H locs ls hl hP hD hS hf
      exact absurd hf (fun h => by rw [f_X12_anyBears_b2] at h; cases h)
    | succ n_2 ih_2 =>
      have hb_27 : ∀ (l2 : Int32) (H : Heap) (locs : List Loc) (ls : Array Slot), lv_has ls 3 [(0, .ref A_t), (1, .int a1), (2, .int l2)] → va_P D vwCl [oX12 A_t A_t_now A_t_aside A_t_kept A_t_rhymeOf A_t_wasRhyme A_t_wordAt x_t_wordMany A_t_tape x_t_taped x_t_place0 x_t_length0 x_t_fault x_t_number0 x_t_open x_t_codeMany x_t_waiting x_t_saidMany x_t_clauses A_t_said A_t_waitsAt A_t_saidLetter A_t_saidFrom A_t_saidHalf A_t_saidTo A_t_codes A_t_clauseOf A_t_codeFrom A_t_codeHalf A_t_codeTo A_t_stack A_t_facts x_t_lines A_t_newWords A_t_roundFrom A_t_roundAt A_t_roundTimes x_t_newMany x_t_rounds x_t_itFrom x_t_itTimes x_t_writtenNow x_t_picturesNow x_t_usedNow x_t_chosen x_t_fearOfChosen A_t_leastFrom A_t_rowNow x_t_changesNow x_t_left0 A_t_bornOf A_t_trainsTo A_t_trainAt x_t_trainMany x_t_leastTries x_t_firstTrained x_t_isKept, iA cI 293 A_t_now v_t_now, iA cI 16 A_t_rhymeOf v_t_rhymeOf] H → va_D A [oX12 A_t A_t_now A_t_aside A_t_kept A_t_rhymeOf A_t_wasRhyme A_t_wordAt x_t_wordMany A_t_tape x_t_taped x_t_place0 x_t_length0 x_t_fault x_t_number0 x_t_open x_t_codeMany x_t_waiting x_t_saidMany x_t_clauses A_t_said A_t_waitsAt A_t_saidLetter A_t_saidFrom A_t_saidHalf A_t_saidTo A_t_codes A_t_clauseOf A_t_codeFrom A_t_codeHalf A_t_codeTo A_t_stack A_t_facts x_t_lines A_t_newWords A_t_roundFrom A_t_roundAt A_t_roundTimes x_t_newMany x_t_rounds x_t_itFrom x_t_itTimes x_t_writtenNow x_t_picturesNow x_t_usedNow x_t_chosen x_t_fearOfChosen A_t_leastFrom A_t_rowNow x_t_changesNow x_t_left0 A_t_bornOf A_t_trainsTo A_t_trainAt x_t_trainMany x_t_leastTries x_t_firstTrained x_t_isKept, iA cI 293 A_t_now v_t_now, iA cI 16 A_t_rhymeOf v_t_rhymeOf] → va_S A s.heap H locs → f_X12_anyBears_b27 a1 (f_X12_anyBears_b2 v_t_now v_t_rhymeOf a1 n_2) l2 = some o_r → W p l e { frames := 5, cells := 0, slots := 0, locals := 109 } s m ([.ref A_t, .int a1] : List Value).toArray below meth c H locs 0 0 (MQ below (PoI D A [oX12 A_t A_t_now A_t_aside A_t_kept A_t_rhymeOf A_t_wasRhyme A_t_wordAt x_t_wordMany A_t_tape x_t_taped x_t_place0 x_t_length0 x_t_fault x_t_number0 x_t_open x_t_codeMany x_t_waiting x_t_saidMany x_t_clauses A_t_said A_t_waitsAt A_t_saidLetter A_t_saidFrom A_t_saidHalf A_t_saidTo A_t_codes A_t_clauseOf A_t_codeFrom A_t_codeHalf A_t_codeTo A_t_stack A_t_facts x_t_lines A_t_newWords A_t_roundFrom A_t_roundAt A_t_roundTimes x_t_newMany x_t_rounds x_t_itFrom x_t_itTimes x_t_writtenNow x_t_picturesNow x_t_usedNow x_t_chosen x_t_fearOfChosen A_t_leastFrom A_t_rowNow x_t_changesNow x_t_left0 A_t_bornOf A_t_trainsTo A_t_trainAt x_t_trainMany x_t_leastTries x_t_firstTrained x_t_isKept, iA cI 293 A_t_now v_t_now, iA cI 16 A_t_rhymeOf v_t_rhymeOf] o_r) ([.ref A_t, .int a1] : List Value).toArray s 0 0 A) (F0 m 27 ls []) := by
        intro l2 H locs ls hl hP hD hS hf
        unfold f_X12_anyBears_b27 at hf
        refine lv_iinc (v := (l2 + (1 : Int32))) (lv' := [(2, .int (l2 + (1 : Int32))), (0, .ref A_t), (1, .int a1)]) hx hb dX12_anyBears_27 hl (k := 2) rfl rfl (by decide) rfl (fun ls hl => ?_)
        refine lv_goto (tgt := 2) hx hb dX12_anyBears_30 (by decide) ?_
        exact ih_2 (l2 + (1 : Int32)) _ _ ls (lv_sub hl [1, 2, 0] rfl) hP hD hS hf
      intro l2 H locs ls hl hP hD hS hf
      rw [f_X12_anyBears_b2] at hf
      refine lv_iload_n hx hb dX12_anyBears_2 rfl (lv_at hl 2 rfl) ?_
      refine lv_bipush (v := 8) hx hb dX12_anyBears_3 (by decide) ?_
      refine lv_icmp_ge (tgt := 33) hx hb dX12_anyBears_5 (by decide) (fun q => ?_) (fun q => ?_)
      · have hf := if_t q hf
        refine lv_iconst (v := 0) hx hb dX12_anyBears_33 (by decide) ?_
        obtain rfl := ev1 hf
        exact x_zret C hr hlk (Or.inl rfl) hP hD hS dX12_anyBears_34
      · have hf := if_f q hf
        refine lv_aload_n hx hb dX12_anyBears_8 rfl (lv_at hl 0 rfl) ?_
        refine lv_iload_n hx hb dX12_anyBears_9 rfl (lv_at hl 2 rfl) ?_
        obtain ⟨r1, hc2, hf⟩ := bd1_e hf
        refine x_callVI (ws' := [oX12 A_t A_t_now A_t_aside A_t_kept A_t_rhymeOf A_t_wasRhyme A_t_wordAt x_t_wordMany A_t_tape x_t_taped x_t_place0 x_t_length0 x_t_fault x_t_number0 x_t_open x_t_codeMany x_t_waiting x_t_saidMany x_t_clauses A_t_said A_t_waitsAt A_t_saidLetter A_t_saidFrom A_t_saidHalf A_t_saidTo A_t_codes A_t_clauseOf A_t_codeFrom A_t_codeHalf A_t_codeTo A_t_stack A_t_facts x_t_lines A_t_newWords A_t_roundFrom A_t_roundAt A_t_roundTimes x_t_newMany x_t_rounds x_t_itFrom x_t_itTimes x_t_writtenNow x_t_picturesNow x_t_usedNow x_t_chosen x_t_fearOfChosen A_t_leastFrom A_t_rowNow x_t_changesNow x_t_left0 A_t_bornOf A_t_trainsTo A_t_trainAt x_t_trainMany x_t_leastTries x_t_firstTrained x_t_isKept, iA cI 293 A_t_now v_t_now, iA cI 16 A_t_rhymeOf v_t_rhymeOf]) (rest := []) C hK hP hD hS hA hl mf_X12_109 (c_X12_isTold hc2) [0, 1] 0 12 rfl rfl rfl rfl rfl rfl rfl rfl rfl rfl (Nat.le_of_ble_eq_true rfl) ⟨Nat.le_of_ble_eq_true rfl, Nat.le_of_ble_eq_true rfl⟩ ⟨Nat.le_refl _, Nat.le_refl _⟩ dX12_anyBears_10 ?_
        intro H locs hP hD hS
        refine lv_if_eq (tgt := 27) hx hb dX12_anyBears_13 (by decide) (fun q => ?_) (fun q => ?_)
        · have hf := if_t q hf
          exact hb_27 l2 _ _ ls (lv_sub hl [0, 1, 2] rfl) hP hD hS hf
        · have hf := if_f q hf
          refine lv_aload_n hx hb dX12_anyBears_16 rfl (lv_at hl 0 rfl) ?_
          refine lv_iload_n hx hb dX12_anyBears_17 rfl (lv_at hl 2 rfl) ?_
          refine lv_iload_n hx hb dX12_anyBears_18 rfl (lv_at hl 1 rfl) ?_
          obtain ⟨r3, hc4, hf⟩ := bd1_e hf
          refine x_callVI (ws' := [oX12 A_t A_t_now A_t_aside A_t_kept A_t_rhymeOf A_t_wasRhyme A_t_wordAt x_t_wordMany A_t_tape x_t_taped x_t_place0 x_t_length0 x_t_fault x_t_number0 x_t_open x_t_codeMany x_t_waiting x_t_saidMany x_t_clauses A_t_said A_t_waitsAt A_t_saidLetter A_t_saidFrom A_t_saidHalf A_t_saidTo A_t_codes A_t_clauseOf A_t_codeFrom A_t_codeHalf A_t_codeTo A_t_stack A_t_facts x_t_lines A_t_newWords A_t_roundFrom A_t_roundAt A_t_roundTimes x_t_newMany x_t_rounds x_t_itFrom x_t_itTimes x_t_writtenNow x_t_picturesNow x_t_usedNow x_t_chosen x_t_fearOfChosen A_t_leastFrom A_t_rowNow x_t_changesNow x_t_left0 A_t_bornOf A_t_trainsTo A_t_trainAt x_t_trainMany x_t_leastTries x_t_firstTrained x_t_isKept, iA cI 293 A_t_now v_t_now, iA cI 16 A_t_rhymeOf v_t_rhymeOf]) (rest := []) C hK hP hD hS hA hl mf_X12_127 (c_X12_bears hc4) [0, 1, 2] 0 12 rfl rfl rfl rfl rfl rfl rfl rfl rfl rfl (Nat.le_of_ble_eq_true rfl) ⟨Nat.le_of_ble_eq_true rfl, Nat.le_of_ble_eq_true rfl⟩ ⟨Nat.le_refl _, Nat.le_refl _⟩ dX12_anyBears_19 ?_
          intro H locs hP hD hS
          refine lv_if_eq (tgt := 27) hx hb dX12_anyBears_22 (by decide) (fun q => ?_) (fun q => ?_)
          · have hf := if_t q hf
            exact hb_27 l2 _ _ ls (lv_sub hl [0, 1, 2] rfl) hP hD hS hf
          · have hf := if_f q hf
            refine lv_iconst (v := 1) hx hb dX12_anyBears_25 (by decide) ?_
            obtain rfl := ev1 hf
            exact x_zret C hr hlk (Or.inr rfl) hP hD hS dX12_anyBears_26
  refine lv_iconst (v := 0) hx hb dX12_anyBears_0 (by decide) ?_
  refine lv_istore_n (lv' := [(2, .int (0 : Int32)), (0, .ref A_t), (1, .int a1)]) hx hb dX12_anyBears_1 rfl hl (by decide) rfl (fun ls hl => ?_)
  exact hb_2 FU (0 : Int32) _ _ ls (lv_sub hl [1, 2, 0] rfl) hP hD hS hf
def f_X12_leastAt_b6 (v_t_leastFrom : (Nat → Int32)) (a1 : Int32) : Nat → Int32 → Int32 → Option (Int32)
  | 0, _, _ => none
  | n + 1, l2, l3 =>
    if (8 : Int32) ≤ l3 then
      some l2
    else
      gI 392 v_t_leastFrom (((8 : Int32) * a1) + l3) (fun g1 =>
      bd1 (f_X12_min l2 g1) (fun r2 =>
      f_X12_leastAt_b6 v_t_leastFrom a1 n r2 (l3 + (1 : Int32))))
def f_X12_leastAt (v_t_leastFrom : (Nat → Int32)) (a1 : Int32) : Option (Int32) :=
  f_X12_leastAt_b6 v_t_leastFrom a1 FU (1000000 : Int32) (0 : Int32)
set_option maxHeartbeats 4000000 in
set_option maxRecDepth 100000 in
theorem c_X12_leastAt {l : Launch} {D : va_G} {cI cB : ClassId} {A_t A_t_now A_t_aside A_t_kept A_t_rhymeOf A_t_wasRhyme A_t_wordAt A_t_tape A_t_said A_t_waitsAt A_t_saidLetter A_t_saidFrom A_t_saidHalf A_t_saidTo A_t_codes A_t_clauseOf A_t_codeFrom A_t_codeHalf A_t_codeTo A_t_stack A_t_facts A_t_newWords A_t_roundFrom A_t_roundAt A_t_roundTimes A_t_leastFrom A_t_rowNow A_t_bornOf A_t_trainsTo A_t_trainAt : Nat} {x_t_wordMany x_t_taped x_t_place0 x_t_length0 x_t_fault x_t_number0 x_t_open x_t_codeMany x_t_waiting x_t_saidMany x_t_clauses x_t_lines x_t_newMany x_t_rounds x_t_itFrom x_t_itTimes x_t_writtenNow x_t_picturesNow x_t_usedNow x_t_chosen x_t_fearOfChosen x_t_changesNow x_t_left0 x_t_trainMany x_t_leastTries x_t_firstTrained x_t_isKept a1 : Int32} {v_t_leastFrom : Nat → Int32} {o_r : Int32} (hf : f_X12_leastAt v_t_leastFrom a1 = some o_r) : CtI l D cI cB yX12_leastAt cX12_leastAt 4 (some .int) 1 21 [.ref A_t, .int a1] [oX12 A_t A_t_now A_t_aside A_t_kept A_t_rhymeOf A_t_wasRhyme A_t_wordAt x_t_wordMany A_t_tape x_t_taped x_t_place0 x_t_length0 x_t_fault x_t_number0 x_t_open x_t_codeMany x_t_waiting x_t_saidMany x_t_clauses A_t_said A_t_waitsAt A_t_saidLetter A_t_saidFrom A_t_saidHalf A_t_saidTo A_t_codes A_t_clauseOf A_t_codeFrom A_t_codeHalf A_t_codeTo A_t_stack A_t_facts x_t_lines A_t_newWords A_t_roundFrom A_t_roundAt A_t_roundTimes x_t_newMany x_t_rounds x_t_itFrom x_t_itTimes x_t_writtenNow x_t_picturesNow x_t_usedNow x_t_chosen x_t_fearOfChosen A_t_leastFrom A_t_rowNow x_t_changesNow x_t_left0 A_t_bornOf A_t_trainsTo A_t_trainAt x_t_trainMany x_t_leastTries x_t_firstTrained x_t_isKept, iA cI 392 A_t_leastFrom v_t_leastFrom] [oX12 A_t A_t_now A_t_aside A_t_kept A_t_rhymeOf A_t_wasRhyme A_t_wordAt x_t_wordMany A_t_tape x_t_taped x_t_place0 x_t_length0 x_t_fault x_t_number0 x_t_open x_t_codeMany x_t_waiting x_t_saidMany x_t_clauses A_t_said A_t_waitsAt A_t_saidLetter A_t_saidFrom A_t_saidHalf A_t_saidTo A_t_codes A_t_clauseOf A_t_codeFrom A_t_codeHalf A_t_codeTo A_t_stack A_t_facts x_t_lines A_t_newWords A_t_roundFrom A_t_roundAt A_t_roundTimes x_t_newMany x_t_rounds x_t_itFrom x_t_itTimes x_t_writtenNow x_t_picturesNow x_t_usedNow x_t_chosen x_t_fearOfChosen A_t_leastFrom A_t_rowNow x_t_changesNow x_t_left0 A_t_bornOf A_t_trainsTo A_t_trainAt x_t_trainMany x_t_leastTries x_t_firstTrained x_t_isKept, iA cI 392 A_t_leastFrom v_t_leastFrom] o_r := by
  refine x_startI (by decide) (Nat.le_of_ble_eq_true rfl) ?_
  intro p e s m below meth c A C hr hlk hA hK hP hD hS ls hl
  have hl : lv_has ls 4 [(0, .ref A_t), (1, .int a1)] := hl
  have hx := C.1
  have hb := C.2.1
  unfold f_X12_leastAt at hf
  have hb_6 : ∀ (n_6 : Nat) (l2 : Int32) (l3 : Int32) (H : Heap) (locs : List Loc) (ls : Array Slot), lv_has ls 4 [(0, .ref A_t), (1, .int a1), (2, .int l2), (3, .int l3)] → va_P D vwCl [oX12 A_t A_t_now A_t_aside A_t_kept A_t_rhymeOf A_t_wasRhyme A_t_wordAt x_t_wordMany A_t_tape x_t_taped x_t_place0 x_t_length0 x_t_fault x_t_number0 x_t_open x_t_codeMany x_t_waiting x_t_saidMany x_t_clauses A_t_said A_t_waitsAt A_t_saidLetter A_t_saidFrom A_t_saidHalf A_t_saidTo A_t_codes A_t_clauseOf A_t_codeFrom A_t_codeHalf A_t_codeTo A_t_stack A_t_facts x_t_lines A_t_newWords A_t_roundFrom A_t_roundAt A_t_roundTimes x_t_newMany x_t_rounds x_t_itFrom x_t_itTimes x_t_writtenNow x_t_picturesNow x_t_usedNow x_t_chosen x_t_fearOfChosen A_t_leastFrom A_t_rowNow x_t_changesNow x_t_left0 A_t_bornOf A_t_trainsTo A_t_trainAt x_t_trainMany x_t_leastTries x_t_firstTrained x_t_isKept, iA cI 392 A_t_leastFrom v_t_leastFrom] H → va_D A [oX12 A_t A_t_now A_t_aside A_t_kept A_t_rhymeOf A_t_wasRhyme A_t_wordAt x_t_wordMany A_t_tape x_t_taped x_t_place0 x_t_length0 x_t_fault x_t_number0 x_t_open x_t_codeMany x_t_waiting x_t_saidMany x_t_clauses A_t_said A_t_waitsAt A_t_saidLetter A_t_saidFrom A_t_saidHalf A_t_saidTo A_t_codes A_t_clauseOf A_t_codeFrom A_t_codeHalf A_t_codeTo A_t_stack A_t_facts x_t_lines A_t_newWords A_t_roundFrom A_t_roundAt A_t_roundTimes x_t_newMany x_t_rounds x_t_itFrom x_t_itTimes x_t_writtenNow x_t_picturesNow x_t_usedNow x_t_chosen x_t_fearOfChosen A_t_leastFrom A_t_rowNow x_t_changesNow x_t_left0 A_t_bornOf A_t_trainsTo A_t_trainAt x_t_trainMany x_t_leastTries x_t_firstTrained x_t_isKept, iA cI 392 A_t_leastFrom v_t_leastFrom] → va_S A s.heap H locs → f_X12_leastAt_b6 v_t_leastFrom a1 n_6 l2 l3 = some o_r → W p l e { frames := 1, cells := 0, slots := 0, locals := 21 } s m ([.ref A_t, .int a1] : List Value).toArray below meth c H locs 0 0 (MQ below (PoI D A [oX12 A_t A_t_now A_t_aside A_t_kept A_t_rhymeOf A_t_wasRhyme A_t_wordAt x_t_wordMany A_t_tape x_t_taped x_t_place0 x_t_length0 x_t_fault x_t_number0 x_t_open x_t_codeMany x_t_waiting x_t_saidMany x_t_clauses A_t_said A_t_waitsAt A_t_saidLetter A_t_saidFrom A_t_saidHalf A_t_saidTo A_t_codes A_t_clauseOf A_t_codeFrom A_t_codeHalf A_t_codeTo A_t_stack A_t_facts x_t_lines A_t_newWords A_t_roundFrom A_t_roundAt A_t_roundTimes x_t_newMany x_t_rounds x_t_itFrom x_t_itTimes x_t_writtenNow x_t_picturesNow x_t_usedNow x_t_chosen x_t_fearOfChosen A_t_leastFrom A_t_rowNow x_t_changesNow x_t_left0 A_t_bornOf A_t_trainsTo A_t_trainAt x_t_trainMany x_t_leastTries x_t_firstTrained x_t_isKept, iA cI 392 A_t_leastFrom v_t_leastFrom] o_r) ([.ref A_t, .int a1] : List Value).toArray s 0 0 A) (F0 m 6 ls []) := by
    intro n_6
    induction n_6 with
    | zero =>
      intro l2 l3 H locs ls hl hP hD hS hf
      exact absurd hf (fun h => by rw [f_X12_leastAt_b6] at h; cases h)
    | succ n_6 ih_6 =>
      intro l2 l3 H locs ls hl hP hD hS hf
      rw [f_X12_leastAt_b6] at hf
      refine lv_iload_n hx hb dX12_leastAt_6 rfl (lv_at hl 3 rfl) ?_
      refine lv_bipush (v := 8) hx hb dX12_leastAt_7 (by decide) ?_
      refine lv_icmp_ge (tgt := 34) hx hb dX12_leastAt_9 (by decide) (fun q => ?_) (fun q => ?_)
      · have hf := if_t q hf
        refine lv_iload_n hx hb dX12_leastAt_34 rfl (lv_at hl 2 rfl) ?_
        obtain rfl := ev1 hf
        exact x_iret C hr hlk hP hD hS dX12_leastAt_35
      · have hf := if_f q hf
        refine lv_iload_n hx hb dX12_leastAt_12 rfl (lv_at hl 2 rfl) ?_
        refine lv_aload_n hx hb dX12_leastAt_13 rfl (lv_at hl 0 rfl) ?_
        refine x_get C hK hP fd_X12_83 0 rfl rfl dX12_leastAt_14 ?_
        refine lv_bipush (v := 8) hx hb dX12_leastAt_17 (by decide) ?_
        refine lv_iload_n hx hb dX12_leastAt_19 rfl (lv_at hl 1 rfl) ?_
        refine lv_imul hx hb dX12_leastAt_20 ?_
        refine lv_iload_n hx hb dX12_leastAt_21 rfl (lv_at hl 3 rfl) ?_
        refine lv_iadd hx hb dX12_leastAt_22 ?_
        obtain ⟨hi, hf⟩ := gI_e hf
        refine x_iald C hK hP 1 rfl hi dX12_leastAt_23 ?_
        obtain ⟨r1, hc2, hf⟩ := bd1_e hf
        refine x_callSI (ws' := [oX12 A_t A_t_now A_t_aside A_t_kept A_t_rhymeOf A_t_wasRhyme A_t_wordAt x_t_wordMany A_t_tape x_t_taped x_t_place0 x_t_length0 x_t_fault x_t_number0 x_t_open x_t_codeMany x_t_waiting x_t_saidMany x_t_clauses A_t_said A_t_waitsAt A_t_saidLetter A_t_saidFrom A_t_saidHalf A_t_saidTo A_t_codes A_t_clauseOf A_t_codeFrom A_t_codeHalf A_t_codeTo A_t_stack A_t_facts x_t_lines A_t_newWords A_t_roundFrom A_t_roundAt A_t_roundTimes x_t_newMany x_t_rounds x_t_itFrom x_t_itTimes x_t_writtenNow x_t_picturesNow x_t_usedNow x_t_chosen x_t_fearOfChosen A_t_leastFrom A_t_rowNow x_t_changesNow x_t_left0 A_t_bornOf A_t_trainsTo A_t_trainAt x_t_trainMany x_t_leastTries x_t_firstTrained x_t_isKept, iA cI 392 A_t_leastFrom v_t_leastFrom]) (rest := []) C hK hP hD hS hA hl mf_X12_98 (c_X12_min hc2) [] rfl rfl rfl rfl rfl rfl rfl rfl (Nat.le_of_ble_eq_true rfl) ⟨Nat.le_of_ble_eq_true rfl, Nat.le_of_ble_eq_true rfl⟩ ⟨Nat.le_refl _, Nat.le_refl _⟩ dX12_leastAt_24 ?_
        intro H locs hP hD hS
        refine lv_istore_n (lv' := [(2, .int r1), (0, .ref A_t), (1, .int a1), (3, .int l3)]) hx hb dX12_leastAt_27 rfl hl (by decide) rfl (fun ls hl => ?_)
        refine lv_iinc (v := (l3 + (1 : Int32))) (lv' := [(3, .int (l3 + (1 : Int32))), (2, .int r1), (0, .ref A_t), (1, .int a1)]) hx hb dX12_leastAt_28 hl (k := 3) rfl rfl (by decide) rfl (fun ls hl => ?_)
        refine lv_goto (tgt := 6) hx hb dX12_leastAt_31 (by decide) ?_
        exact ih_6 r1 (l3 + (1 : Int32)) _ _ ls (lv_sub hl [2, 3, 1, 0] rfl) hP hD hS hf
  refine x_ldcw C kc_X12_306 dX12_leastAt_0 ?_
  refine lv_istore_n (lv' := [(2, .int (1000000 : Int32)), (0, .ref A_t), (1, .int a1)]) hx hb dX12_leastAt_3 rfl hl (by decide) rfl (fun ls hl => ?_)
  refine lv_iconst (v := 0) hx hb dX12_leastAt_4 (by decide) ?_
  refine lv_istore_n (lv' := [(3, .int (0 : Int32)), (2, .int (1000000 : Int32)), (0, .ref A_t), (1, .int a1)]) hx hb dX12_leastAt_5 rfl hl (by decide) rfl (fun ls hl => ?_)
  exact hb_6 FU (1000000 : Int32) (0 : Int32) _ _ ls (lv_sub hl [2, 3, 1, 0] rfl) hP hD hS hf
def f_X12_laysChanges_b178 (k41 : (Nat → Int32) → Int32 → Int32 → Option ((Nat → Int32) × Int32)) (k81 : (Nat → Int32) → Int32 → Int32 → Int32 → Int32 → Int32 → Option ((Nat → Int32) × Int32)) (v_t_leastFrom : (Nat → Int32)) (x_t_left0 : Int32) (s1 : Int32) (s2 : Int32) (l1 : Int32) (l2 : Int32) (l3 : Int32) (l4 : Int32) : Option ((Nat → Int32) × Int32) :=
  sI 392 v_t_leastFrom s1 s2 (fun w1 =>
  k81 w1 x_t_left0 l1 l2 l3 (l4 + (1 : Int32)))
def f_X12_laysChanges_b137 (k41 : (Nat → Int32) → Int32 → Int32 → Option ((Nat → Int32) × Int32)) (k81 : (Nat → Int32) → Int32 → Int32 → Int32 → Int32 → Int32 → Option ((Nat → Int32) × Int32)) (v_t_leastFrom : (Nat → Int32)) (x_t_left0 : Int32) (s0 : Int32) (l1 : Int32) (l2 : Int32) (l3 : Int32) (l4 : Int32) (l5 : Int32) : Option ((Nat → Int32) × Int32) :=
  if l2 = 0 then
    f_X12_laysChanges_b178 k41 k81 v_t_leastFrom x_t_left0 (((8 : Int32) * l1) + l4) l5 l1 l2 l3 l4
  else
    if s0 = 0 then
      f_X12_laysChanges_b178 k41 k81 v_t_leastFrom x_t_left0 (((8 : Int32) * l1) + l4) (1000000 : Int32) l1 l2 l3 l4
    else
      bd1 (f_X12_min l5 (l3 + (1 : Int32))) (fun r1 =>
      f_X12_laysChanges_b178 k41 k81 v_t_leastFrom x_t_left0 (((8 : Int32) * l1) + l4) r1 l1 l2 l3 l4)
def f_X12_laysChanges_b132 (k41 : (Nat → Int32) → Int32 → Int32 → Option ((Nat → Int32) × Int32)) (k81 : (Nat → Int32) → Int32 → Int32 → Int32 → Int32 → Int32 → Option ((Nat → Int32) × Int32)) (v_t_leastFrom : (Nat → Int32)) (x_t_left0 : Int32) (l1 : Int32) (l2 : Int32) (l3 : Int32) (l4 : Int32) (l5 : Int32) : Option ((Nat → Int32) × Int32) :=
  f_X12_laysChanges_b137 k41 k81 v_t_leastFrom x_t_left0 (1 : Int32) l1 l2 l3 l4 l5
def f_X12_laysChanges_b136 (k41 : (Nat → Int32) → Int32 → Int32 → Option ((Nat → Int32) × Int32)) (k81 : (Nat → Int32) → Int32 → Int32 → Int32 → Int32 → Int32 → Option ((Nat → Int32) × Int32)) (v_t_leastFrom : (Nat → Int32)) (x_t_left0 : Int32) (l1 : Int32) (l2 : Int32) (l3 : Int32) (l4 : Int32) (l5 : Int32) : Option ((Nat → Int32) × Int32) :=
  f_X12_laysChanges_b137 k41 k81 v_t_leastFrom x_t_left0 (0 : Int32) l1 l2 l3 l4 l5
def f_X12_laysChanges_b81 (v_t_now : (Nat → Int32)) (v_t_rhymeOf : (Nat → Int32)) (v_t_wordAt : (Nat → Int32)) (k41 : (Nat → Int32) → Int32 → Int32 → Option ((Nat → Int32) × Int32)) : Nat → (Nat → Int32) → Int32 → Int32 → Int32 → Int32 → Int32 → Option ((Nat → Int32) × Int32)
  | 0, _, _, _, _, _, _ => none
  | n + 1, v_t_leastFrom, x_t_left0, l1, l2, l3, l4 =>
    if (8 : Int32) ≤ l4 then
      k41 v_t_leastFrom x_t_left0 (l1 + (-1 : Int32))
    else
      gI 392 v_t_leastFrom (((8 : Int32) * (l1 + (1 : Int32))) + l4) (fun g1 =>
      if l2 = 0 then
        f_X12_laysChanges_b132 k41 (f_X12_laysChanges_b81 v_t_now v_t_rhymeOf v_t_wordAt k41 n) v_t_leastFrom x_t_left0 l1 l2 l3 l4 g1
      else
        bd1 (f_X12_isTold v_t_now l4) (fun r2 =>
        if r2 = 0 then
          f_X12_laysChanges_b136 k41 (f_X12_laysChanges_b81 v_t_now v_t_rhymeOf v_t_wordAt k41 n) v_t_leastFrom x_t_left0 l1 l2 l3 l4 g1
        else
          gI 48 v_t_wordAt l1 (fun g3 =>
          bd1 (f_X12_bears v_t_now v_t_rhymeOf l4 g3) (fun r4 =>
          if r4 = 0 then
            f_X12_laysChanges_b136 k41 (f_X12_laysChanges_b81 v_t_now v_t_rhymeOf v_t_wordAt k41 n) v_t_leastFrom x_t_left0 l1 l2 l3 l4 g1
          else
            f_X12_laysChanges_b132 k41 (f_X12_laysChanges_b81 v_t_now v_t_rhymeOf v_t_wordAt k41 n) v_t_leastFrom x_t_left0 l1 l2 l3 l4 g1))))
def f_X12_laysChanges_b70 (v_t_now : (Nat → Int32)) (v_t_rhymeOf : (Nat → Int32)) (v_t_wordAt : (Nat → Int32)) (k41 : (Nat → Int32) → Int32 → Int32 → Option ((Nat → Int32) × Int32)) (v_t_leastFrom : (Nat → Int32)) (x_t_left0 : Int32) (l1 : Int32) (l2 : Int32) : Option ((Nat → Int32) × Int32) :=
  bd1 (f_X12_leastAt v_t_leastFrom (l1 + (1 : Int32))) (fun r1 =>
  f_X12_laysChanges_b81 v_t_now v_t_rhymeOf v_t_wordAt k41 FU v_t_leastFrom x_t_left0 l1 l2 r1 (0 : Int32))
def f_X12_laysChanges_b41 (v_t_now : (Nat → Int32)) (v_t_rhymeOf : (Nat → Int32)) (v_t_wordAt : (Nat → Int32)) : Nat → (Nat → Int32) → Int32 → Int32 → Option ((Nat → Int32) × Int32)
  | 0, _, _, _ => none
  | n + 1, v_t_leastFrom, x_t_left0, l1 =>
    if l1 < 0 then
      some (v_t_leastFrom, x_t_left0)
    else
      gI 48 v_t_wordAt l1 (fun g1 =>
      bd1 (f_X12_anyBears v_t_now v_t_rhymeOf g1) (fun r2 =>
      if r2 = 0 then
        f_X12_laysChanges_b70 v_t_now v_t_rhymeOf v_t_wordAt (f_X12_laysChanges_b41 v_t_now v_t_rhymeOf v_t_wordAt n) v_t_leastFrom (x_t_left0 + (1 : Int32)) l1 r2
      else
        f_X12_laysChanges_b70 v_t_now v_t_rhymeOf v_t_wordAt (f_X12_laysChanges_b41 v_t_now v_t_rhymeOf v_t_wordAt n) v_t_leastFrom x_t_left0 l1 r2))
def f_X12_laysChanges_b7 (v_t_now : (Nat → Int32)) (v_t_rhymeOf : (Nat → Int32)) (v_t_wordAt : (Nat → Int32)) (x_t_wordMany : Int32) : Nat → (Nat → Int32) → Int32 → Int32 → Option ((Nat → Int32) × Int32)
  | 0, _, _, _ => none
  | n + 1, v_t_leastFrom, x_t_left0, l1 =>
    if (8 : Int32) ≤ l1 then
      f_X12_laysChanges_b41 v_t_now v_t_rhymeOf v_t_wordAt FU v_t_leastFrom x_t_left0 (x_t_wordMany - (1 : Int32))
    else
      sI 392 v_t_leastFrom (((8 : Int32) * x_t_wordMany) + l1) (0 : Int32) (fun w1 =>
      f_X12_laysChanges_b7 v_t_now v_t_rhymeOf v_t_wordAt x_t_wordMany n w1 x_t_left0 (l1 + (1 : Int32)))
def f_X12_laysChanges (v_t_leastFrom : (Nat → Int32)) (v_t_now : (Nat → Int32)) (v_t_rhymeOf : (Nat → Int32)) (v_t_wordAt : (Nat → Int32)) (x_t_left0 : Int32) (x_t_wordMany : Int32) : Option ((Nat → Int32) × Int32) :=
  f_X12_laysChanges_b7 v_t_now v_t_rhymeOf v_t_wordAt x_t_wordMany FU v_t_leastFrom (0 : Int32) (0 : Int32)
set_option maxHeartbeats 4000000 in
set_option maxRecDepth 100000 in
theorem c_X12_laysChanges {l : Launch} {D : va_G} {cI cB : ClassId} {A_t A_t_now A_t_aside A_t_kept A_t_rhymeOf A_t_wasRhyme A_t_wordAt A_t_tape A_t_said A_t_waitsAt A_t_saidLetter A_t_saidFrom A_t_saidHalf A_t_saidTo A_t_codes A_t_clauseOf A_t_codeFrom A_t_codeHalf A_t_codeTo A_t_stack A_t_facts A_t_newWords A_t_roundFrom A_t_roundAt A_t_roundTimes A_t_leastFrom A_t_rowNow A_t_bornOf A_t_trainsTo A_t_trainAt : Nat} {x_t_wordMany x_t_taped x_t_place0 x_t_length0 x_t_fault x_t_number0 x_t_open x_t_codeMany x_t_waiting x_t_saidMany x_t_clauses x_t_lines x_t_newMany x_t_rounds x_t_itFrom x_t_itTimes x_t_writtenNow x_t_picturesNow x_t_usedNow x_t_chosen x_t_fearOfChosen x_t_changesNow x_t_left0 x_t_trainMany x_t_leastTries x_t_firstTrained x_t_isKept : Int32} {v_t_leastFrom v_t_now v_t_rhymeOf v_t_wordAt : Nat → Int32} {o_x_t_left0 : Int32} {o_v_t_leastFrom : Nat → Int32} (hf : f_X12_laysChanges v_t_leastFrom v_t_now v_t_rhymeOf v_t_wordAt x_t_left0 x_t_wordMany = some (o_v_t_leastFrom, o_x_t_left0)) : CtV l D cI cB yX12_laysChanges cX12_laysChanges 7 6 131 [.ref A_t] [oX12 A_t A_t_now A_t_aside A_t_kept A_t_rhymeOf A_t_wasRhyme A_t_wordAt x_t_wordMany A_t_tape x_t_taped x_t_place0 x_t_length0 x_t_fault x_t_number0 x_t_open x_t_codeMany x_t_waiting x_t_saidMany x_t_clauses A_t_said A_t_waitsAt A_t_saidLetter A_t_saidFrom A_t_saidHalf A_t_saidTo A_t_codes A_t_clauseOf A_t_codeFrom A_t_codeHalf A_t_codeTo A_t_stack A_t_facts x_t_lines A_t_newWords A_t_roundFrom A_t_roundAt A_t_roundTimes x_t_newMany x_t_rounds x_t_itFrom x_t_itTimes x_t_writtenNow x_t_picturesNow x_t_usedNow x_t_chosen x_t_fearOfChosen A_t_leastFrom A_t_rowNow x_t_changesNow x_t_left0 A_t_bornOf A_t_trainsTo A_t_trainAt x_t_trainMany x_t_leastTries x_t_firstTrained x_t_isKept, iA cI 392 A_t_leastFrom v_t_leastFrom, iA cI 293 A_t_now v_t_now, iA cI 16 A_t_rhymeOf v_t_rhymeOf, iA cI 48 A_t_wordAt v_t_wordAt] [oX12 A_t A_t_now A_t_aside A_t_kept A_t_rhymeOf A_t_wasRhyme A_t_wordAt x_t_wordMany A_t_tape x_t_taped x_t_place0 x_t_length0 x_t_fault x_t_number0 x_t_open x_t_codeMany x_t_waiting x_t_saidMany x_t_clauses A_t_said A_t_waitsAt A_t_saidLetter A_t_saidFrom A_t_saidHalf A_t_saidTo A_t_codes A_t_clauseOf A_t_codeFrom A_t_codeHalf A_t_codeTo A_t_stack A_t_facts x_t_lines A_t_newWords A_t_roundFrom A_t_roundAt A_t_roundTimes x_t_newMany x_t_rounds x_t_itFrom x_t_itTimes x_t_writtenNow x_t_picturesNow x_t_usedNow x_t_chosen x_t_fearOfChosen A_t_leastFrom A_t_rowNow x_t_changesNow o_x_t_left0 A_t_bornOf A_t_trainsTo A_t_trainAt x_t_trainMany x_t_leastTries x_t_firstTrained x_t_isKept, iA cI 392 A_t_leastFrom o_v_t_leastFrom, iA cI 293 A_t_now v_t_now, iA cI 16 A_t_rhymeOf v_t_rhymeOf, iA cI 48 A_t_wordAt v_t_wordAt] := by
  refine x_startV (by decide) (Nat.le_of_ble_eq_true rfl) ?_
  intro p e s m below meth c A C hr hlk hA hK hP hD hS ls hl
  have hl : lv_has ls 7 [(0, .ref A_t)] := hl
  have hx := C.1
  have hb := C.2.1
  unfold f_X12_laysChanges at hf
  have hb_41 : ∀ (n_41 : Nat) (v_t_leastFrom : (Nat → Int32)) (x_t_left0 : Int32) (l1 : Int32) (H : Heap) (locs : List Loc) (ls : Array Slot), lv_has ls 7 [(0, .ref A_t), (1, .int l1)] → va_P D vwCl [oX12 A_t A_t_now A_t_aside A_t_kept A_t_rhymeOf A_t_wasRhyme A_t_wordAt x_t_wordMany A_t_tape x_t_taped x_t_place0 x_t_length0 x_t_fault x_t_number0 x_t_open x_t_codeMany x_t_waiting x_t_saidMany x_t_clauses A_t_said A_t_waitsAt A_t_saidLetter A_t_saidFrom A_t_saidHalf A_t_saidTo A_t_codes A_t_clauseOf A_t_codeFrom A_t_codeHalf A_t_codeTo A_t_stack A_t_facts x_t_lines A_t_newWords A_t_roundFrom A_t_roundAt A_t_roundTimes x_t_newMany x_t_rounds x_t_itFrom x_t_itTimes x_t_writtenNow x_t_picturesNow x_t_usedNow x_t_chosen x_t_fearOfChosen A_t_leastFrom A_t_rowNow x_t_changesNow x_t_left0 A_t_bornOf A_t_trainsTo A_t_trainAt x_t_trainMany x_t_leastTries x_t_firstTrained x_t_isKept, iA cI 392 A_t_leastFrom v_t_leastFrom, iA cI 293 A_t_now v_t_now, iA cI 16 A_t_rhymeOf v_t_rhymeOf, iA cI 48 A_t_wordAt v_t_wordAt] H → va_D A [oX12 A_t A_t_now A_t_aside A_t_kept A_t_rhymeOf A_t_wasRhyme A_t_wordAt x_t_wordMany A_t_tape x_t_taped x_t_place0 x_t_length0 x_t_fault x_t_number0 x_t_open x_t_codeMany x_t_waiting x_t_saidMany x_t_clauses A_t_said A_t_waitsAt A_t_saidLetter A_t_saidFrom A_t_saidHalf A_t_saidTo A_t_codes A_t_clauseOf A_t_codeFrom A_t_codeHalf A_t_codeTo A_t_stack A_t_facts x_t_lines A_t_newWords A_t_roundFrom A_t_roundAt A_t_roundTimes x_t_newMany x_t_rounds x_t_itFrom x_t_itTimes x_t_writtenNow x_t_picturesNow x_t_usedNow x_t_chosen x_t_fearOfChosen A_t_leastFrom A_t_rowNow x_t_changesNow x_t_left0 A_t_bornOf A_t_trainsTo A_t_trainAt x_t_trainMany x_t_leastTries x_t_firstTrained x_t_isKept, iA cI 392 A_t_leastFrom v_t_leastFrom, iA cI 293 A_t_now v_t_now, iA cI 16 A_t_rhymeOf v_t_rhymeOf, iA cI 48 A_t_wordAt v_t_wordAt] → va_S A s.heap H locs → f_X12_laysChanges_b41 v_t_now v_t_rhymeOf v_t_wordAt n_41 v_t_leastFrom x_t_left0 l1 = some (o_v_t_leastFrom, o_x_t_left0) → W p l e { frames := 6, cells := 0, slots := 0, locals := 131 } s m ([.ref A_t] : List Value).toArray below meth c H locs 0 0 (MQ below (PoV D A [oX12 A_t A_t_now A_t_aside A_t_kept A_t_rhymeOf A_t_wasRhyme A_t_wordAt x_t_wordMany A_t_tape x_t_taped x_t_place0 x_t_length0 x_t_fault x_t_number0 x_t_open x_t_codeMany x_t_waiting x_t_saidMany x_t_clauses A_t_said A_t_waitsAt A_t_saidLetter A_t_saidFrom A_t_saidHalf A_t_saidTo A_t_codes A_t_clauseOf A_t_codeFrom A_t_codeHalf A_t_codeTo A_t_stack A_t_facts x_t_lines A_t_newWords A_t_roundFrom A_t_roundAt A_t_roundTimes x_t_newMany x_t_rounds x_t_itFrom x_t_itTimes x_t_writtenNow x_t_picturesNow x_t_usedNow x_t_chosen x_t_fearOfChosen A_t_leastFrom A_t_rowNow x_t_changesNow o_x_t_left0 A_t_bornOf A_t_trainsTo A_t_trainAt x_t_trainMany x_t_leastTries x_t_firstTrained x_t_isKept, iA cI 392 A_t_leastFrom o_v_t_leastFrom, iA cI 293 A_t_now v_t_now, iA cI 16 A_t_rhymeOf v_t_rhymeOf, iA cI 48 A_t_wordAt v_t_wordAt]) ([.ref A_t] : List Value).toArray s 0 0 A) (F0 m 41 ls []) := by
    intro n_41
    induction n_41 with
    | zero =>
      intro v_t_leastFrom x_t_left0 l1 H locs ls hl hP hD hS hf
      exact absurd hf (fun h => by rw [f_X12_laysChanges_b41] at h; cases h)
    | succ n_41 ih_41 =>
      have hb_81 : ∀ (n_81 : Nat) (v_t_leastFrom : (Nat → Int32)) (x_t_left0 : Int32) (l1 : Int32) (l2 : Int32) (l3 : Int32) (l4 : Int32) (H : Heap) (locs : List Loc) (ls : Array Slot), lv_has ls 7 [(0, .ref A_t), (1, .int l1), (2, .int l2), (3, .int l3), (4, .int l4)] → va_P D vwCl [oX12 A_t A_t_now A_t_aside A_t_kept A_t_rhymeOf A_t_wasRhyme A_t_wordAt x_t_wordMany A_t_tape x_t_taped x_t_place0 x_t_length0 x_t_fault x_t_number0 x_t_open x_t_codeMany x_t_waiting x_t_saidMany x_t_clauses A_t_said A_t_waitsAt A_t_saidLetter A_t_saidFrom A_t_saidHalf A_t_saidTo A_t_codes A_t_clauseOf A_t_codeFrom A_t_codeHalf A_t_codeTo A_t_stack A_t_facts x_t_lines A_t_newWords A_t_roundFrom A_t_roundAt A_t_roundTimes x_t_newMany x_t_rounds x_t_itFrom x_t_itTimes x_t_writtenNow x_t_picturesNow x_t_usedNow x_t_chosen x_t_fearOfChosen A_t_leastFrom A_t_rowNow x_t_changesNow x_t_left0 A_t_bornOf A_t_trainsTo A_t_trainAt x_t_trainMany x_t_leastTries x_t_firstTrained x_t_isKept, iA cI 392 A_t_leastFrom v_t_leastFrom, iA cI 293 A_t_now v_t_now, iA cI 16 A_t_rhymeOf v_t_rhymeOf, iA cI 48 A_t_wordAt v_t_wordAt] H → va_D A [oX12 A_t A_t_now A_t_aside A_t_kept A_t_rhymeOf A_t_wasRhyme A_t_wordAt x_t_wordMany A_t_tape x_t_taped x_t_place0 x_t_length0 x_t_fault x_t_number0 x_t_open x_t_codeMany x_t_waiting x_t_saidMany x_t_clauses A_t_said A_t_waitsAt A_t_saidLetter A_t_saidFrom A_t_saidHalf A_t_saidTo A_t_codes A_t_clauseOf A_t_codeFrom A_t_codeHalf A_t_codeTo A_t_stack A_t_facts x_t_lines A_t_newWords A_t_roundFrom A_t_roundAt A_t_roundTimes x_t_newMany x_t_rounds x_t_itFrom x_t_itTimes x_t_writtenNow x_t_picturesNow x_t_usedNow x_t_chosen x_t_fearOfChosen A_t_leastFrom A_t_rowNow x_t_changesNow x_t_left0 A_t_bornOf A_t_trainsTo A_t_trainAt x_t_trainMany x_t_leastTries x_t_firstTrained x_t_isKept, iA cI 392 A_t_leastFrom v_t_leastFrom, iA cI 293 A_t_now v_t_now, iA cI 16 A_t_rhymeOf v_t_rhymeOf, iA cI 48 A_t_wordAt v_t_wordAt] → va_S A s.heap H locs → f_X12_laysChanges_b81 v_t_now v_t_rhymeOf v_t_wordAt (f_X12_laysChanges_b41 v_t_now v_t_rhymeOf v_t_wordAt n_41) n_81 v_t_leastFrom x_t_left0 l1 l2 l3 l4 = some (o_v_t_leastFrom, o_x_t_left0) → W p l e { frames := 6, cells := 0, slots := 0, locals := 131 } s m ([.ref A_t] : List Value).toArray below meth c H locs 0 0 (MQ below (PoV D A [oX12 A_t A_t_now A_t_aside A_t_kept A_t_rhymeOf A_t_wasRhyme A_t_wordAt x_t_wordMany A_t_tape x_t_taped x_t_place0 x_t_length0 x_t_fault x_t_number0 x_t_open x_t_codeMany x_t_waiting x_t_saidMany x_t_clauses A_t_said A_t_waitsAt A_t_saidLetter A_t_saidFrom A_t_saidHalf A_t_saidTo A_t_codes A_t_clauseOf A_t_codeFrom A_t_codeHalf A_t_codeTo A_t_stack A_t_facts x_t_lines A_t_newWords A_t_roundFrom A_t_roundAt A_t_roundTimes x_t_newMany x_t_rounds x_t_itFrom x_t_itTimes x_t_writtenNow x_t_picturesNow x_t_usedNow x_t_chosen x_t_fearOfChosen A_t_leastFrom A_t_rowNow x_t_changesNow o_x_t_left0 A_t_bornOf A_t_trainsTo A_t_trainAt x_t_trainMany x_t_leastTries x_t_firstTrained x_t_isKept, iA cI 392 A_t_leastFrom o_v_t_leastFrom, iA cI 293 A_t_now v_t_now, iA cI 16 A_t_rhymeOf v_t_rhymeOf, iA cI 48 A_t_wordAt v_t_wordAt]) ([.ref A_t] : List Value).toArray s 0 0 A) (F0 m 81 ls []) := by
        intro n_81
        induction n_81 with
        | zero =>
          intro v_t_leastFrom x_t_left0 l1 l2 l3 l4 H locs ls hl hP hD hS hf
          exact absurd hf (fun h => by rw [f_X12_laysChanges_b81] at h; cases h)
        | succ n_81 ih_81 =>
          have hb_178 : ∀ (v_t_leastFrom : (Nat → Int32)) (x_t_left0 : Int32) (s1 : Int32) (s2 : Int32) (l1 : Int32) (l2 : Int32) (l3 : Int32) (l4 : Int32) (H : Heap) (locs : List Loc) (ls : Array Slot), lv_has ls 7 [(0, .ref A_t), (1, .int l1), (2, .int l2), (3, .int l3), (4, .int l4)] → va_P D vwCl [oX12 A_t A_t_now A_t_aside A_t_kept A_t_rhymeOf A_t_wasRhyme A_t_wordAt x_t_wordMany A_t_tape x_t_taped x_t_place0 x_t_length0 x_t_fault x_t_number0 x_t_open x_t_codeMany x_t_waiting x_t_saidMany x_t_clauses A_t_said A_t_waitsAt A_t_saidLetter A_t_saidFrom A_t_saidHalf A_t_saidTo A_t_codes A_t_clauseOf A_t_codeFrom A_t_codeHalf A_t_codeTo A_t_stack A_t_facts x_t_lines A_t_newWords A_t_roundFrom A_t_roundAt A_t_roundTimes x_t_newMany x_t_rounds x_t_itFrom x_t_itTimes x_t_writtenNow x_t_picturesNow x_t_usedNow x_t_chosen x_t_fearOfChosen A_t_leastFrom A_t_rowNow x_t_changesNow x_t_left0 A_t_bornOf A_t_trainsTo A_t_trainAt x_t_trainMany x_t_leastTries x_t_firstTrained x_t_isKept, iA cI 392 A_t_leastFrom v_t_leastFrom, iA cI 293 A_t_now v_t_now, iA cI 16 A_t_rhymeOf v_t_rhymeOf, iA cI 48 A_t_wordAt v_t_wordAt] H → va_D A [oX12 A_t A_t_now A_t_aside A_t_kept A_t_rhymeOf A_t_wasRhyme A_t_wordAt x_t_wordMany A_t_tape x_t_taped x_t_place0 x_t_length0 x_t_fault x_t_number0 x_t_open x_t_codeMany x_t_waiting x_t_saidMany x_t_clauses A_t_said A_t_waitsAt A_t_saidLetter A_t_saidFrom A_t_saidHalf A_t_saidTo A_t_codes A_t_clauseOf A_t_codeFrom A_t_codeHalf A_t_codeTo A_t_stack A_t_facts x_t_lines A_t_newWords A_t_roundFrom A_t_roundAt A_t_roundTimes x_t_newMany x_t_rounds x_t_itFrom x_t_itTimes x_t_writtenNow x_t_picturesNow x_t_usedNow x_t_chosen x_t_fearOfChosen A_t_leastFrom A_t_rowNow x_t_changesNow x_t_left0 A_t_bornOf A_t_trainsTo A_t_trainAt x_t_trainMany x_t_leastTries x_t_firstTrained x_t_isKept, iA cI 392 A_t_leastFrom v_t_leastFrom, iA cI 293 A_t_now v_t_now, iA cI 16 A_t_rhymeOf v_t_rhymeOf, iA cI 48 A_t_wordAt v_t_wordAt] → va_S A s.heap H locs → f_X12_laysChanges_b178 (f_X12_laysChanges_b41 v_t_now v_t_rhymeOf v_t_wordAt n_41) (f_X12_laysChanges_b81 v_t_now v_t_rhymeOf v_t_wordAt (f_X12_laysChanges_b41 v_t_now v_t_rhymeOf v_t_wordAt n_41) n_81) v_t_leastFrom x_t_left0 s1 s2 l1 l2 l3 l4 = some (o_v_t_leastFrom, o_x_t_left0) → W p l e { frames := 6, cells := 0, slots := 0, locals := 131 } s m ([.ref A_t] : List Value).toArray below meth c H locs 0 0 (MQ below (PoV D A [oX12 A_t A_t_now A_t_aside A_t_kept A_t_rhymeOf A_t_wasRhyme A_t_wordAt x_t_wordMany A_t_tape x_t_taped x_t_place0 x_t_length0 x_t_fault x_t_number0 x_t_open x_t_codeMany x_t_waiting x_t_saidMany x_t_clauses A_t_said A_t_waitsAt A_t_saidLetter A_t_saidFrom A_t_saidHalf A_t_saidTo A_t_codes A_t_clauseOf A_t_codeFrom A_t_codeHalf A_t_codeTo A_t_stack A_t_facts x_t_lines A_t_newWords A_t_roundFrom A_t_roundAt A_t_roundTimes x_t_newMany x_t_rounds x_t_itFrom x_t_itTimes x_t_writtenNow x_t_picturesNow x_t_usedNow x_t_chosen x_t_fearOfChosen A_t_leastFrom A_t_rowNow x_t_changesNow o_x_t_left0 A_t_bornOf A_t_trainsTo A_t_trainAt x_t_trainMany x_t_leastTries x_t_firstTrained x_t_isKept, iA cI 392 A_t_leastFrom o_v_t_leastFrom, iA cI 293 A_t_now v_t_now, iA cI 16 A_t_rhymeOf v_t_rhymeOf, iA cI 48 A_t_wordAt v_t_wordAt]) ([.ref A_t] : List Value).toArray s 0 0 A) (F0 m 178 ls [.int s2, .int s1, .ref A_t_leastFrom]) := by
            intro v_t_leastFrom x_t_left0 s1 s2 l1 l2 l3 l4 H locs ls hl hP hD hS hf
            unfold f_X12_laysChanges_b178 at hf
            obtain ⟨hi, hf⟩ := sI_e hf
            refine x_iast (ws' := [oX12 A_t A_t_now A_t_aside A_t_kept A_t_rhymeOf A_t_wasRhyme A_t_wordAt x_t_wordMany A_t_tape x_t_taped x_t_place0 x_t_length0 x_t_fault x_t_number0 x_t_open x_t_codeMany x_t_waiting x_t_saidMany x_t_clauses A_t_said A_t_waitsAt A_t_saidLetter A_t_saidFrom A_t_saidHalf A_t_saidTo A_t_codes A_t_clauseOf A_t_codeFrom A_t_codeHalf A_t_codeTo A_t_stack A_t_facts x_t_lines A_t_newWords A_t_roundFrom A_t_roundAt A_t_roundTimes x_t_newMany x_t_rounds x_t_itFrom x_t_itTimes x_t_writtenNow x_t_picturesNow x_t_usedNow x_t_chosen x_t_fearOfChosen A_t_leastFrom A_t_rowNow x_t_changesNow x_t_left0 A_t_bornOf A_t_trainsTo A_t_trainAt x_t_trainMany x_t_leastTries x_t_firstTrained x_t_isKept, iA cI 392 A_t_leastFrom (upd v_t_leastFrom s1.toNatClampNeg s2), iA cI 293 A_t_now v_t_now, iA cI 16 A_t_rhymeOf v_t_rhymeOf, iA cI 48 A_t_wordAt v_t_wordAt]) C hK hP hD hS 1 rfl hi rfl dX12_laysChanges_178 ?_
            intro H locs hP hD hS
            refine lv_iinc (v := (l4 + (1 : Int32))) (lv' := [(4, .int (l4 + (1 : Int32))), (0, .ref A_t), (1, .int l1), (2, .int l2), (3, .int l3)]) hx hb dX12_laysChanges_179 hl (k := 4) rfl rfl (by decide) rfl (fun ls hl => ?_)
            refine lv_goto (tgt := 81) hx hb dX12_laysChanges_182 (by decide) ?_
            exact ih_81 (upd v_t_leastFrom s1.toNatClampNeg s2) x_t_left0 l1 l2 l3 (l4 + (1 : Int32)) _ _ ls (lv_sub hl [1, 2, 3, 4, 0] rfl) hP hD hS hf
          have hb_137 : ∀ (v_t_leastFrom : (Nat → Int32)) (x_t_left0 : Int32) (s0 : Int32) (l1 : Int32) (l2 : Int32) (l3 : Int32) (l4 : Int32) (l5 : Int32) (H : Heap) (locs : List Loc) (ls : Array Slot), lv_has ls 7 [(0, .ref A_t), (1, .int l1), (2, .int l2), (3, .int l3), (4, .int l4), (5, .int l5)] → va_P D vwCl [oX12 A_t A_t_now A_t_aside A_t_kept A_t_rhymeOf A_t_wasRhyme A_t_wordAt x_t_wordMany A_t_tape x_t_taped x_t_place0 x_t_length0 x_t_fault x_t_number0 x_t_open x_t_codeMany x_t_waiting x_t_saidMany x_t_clauses A_t_said A_t_waitsAt A_t_saidLetter A_t_saidFrom A_t_saidHalf A_t_saidTo A_t_codes A_t_clauseOf A_t_codeFrom A_t_codeHalf A_t_codeTo A_t_stack A_t_facts x_t_lines A_t_newWords A_t_roundFrom A_t_roundAt A_t_roundTimes x_t_newMany x_t_rounds x_t_itFrom x_t_itTimes x_t_writtenNow x_t_picturesNow x_t_usedNow x_t_chosen x_t_fearOfChosen A_t_leastFrom A_t_rowNow x_t_changesNow x_t_left0 A_t_bornOf A_t_trainsTo A_t_trainAt x_t_trainMany x_t_leastTries x_t_firstTrained x_t_isKept, iA cI 392 A_t_leastFrom v_t_leastFrom, iA cI 293 A_t_now v_t_now, iA cI 16 A_t_rhymeOf v_t_rhymeOf, iA cI 48 A_t_wordAt v_t_wordAt] H → va_D A [oX12 A_t A_t_now A_t_aside A_t_kept A_t_rhymeOf A_t_wasRhyme A_t_wordAt x_t_wordMany A_t_tape x_t_taped x_t_place0 x_t_length0 x_t_fault x_t_number0 x_t_open x_t_codeMany x_t_waiting x_t_saidMany x_t_clauses A_t_said A_t_waitsAt A_t_saidLetter A_t_saidFrom A_t_saidHalf A_t_saidTo A_t_codes A_t_clauseOf A_t_codeFrom A_t_codeHalf A_t_codeTo A_t_stack A_t_facts x_t_lines A_t_newWords A_t_roundFrom A_t_roundAt A_t_roundTimes x_t_newMany x_t_rounds x_t_itFrom x_t_itTimes x_t_writtenNow x_t_picturesNow x_t_usedNow x_t_chosen x_t_fearOfChosen A_t_leastFrom A_t_rowNow x_t_changesNow x_t_left0 A_t_bornOf A_t_trainsTo A_t_trainAt x_t_trainMany x_t_leastTries x_t_firstTrained x_t_isKept, iA cI 392 A_t_leastFrom v_t_leastFrom, iA cI 293 A_t_now v_t_now, iA cI 16 A_t_rhymeOf v_t_rhymeOf, iA cI 48 A_t_wordAt v_t_wordAt] → va_S A s.heap H locs → f_X12_laysChanges_b137 (f_X12_laysChanges_b41 v_t_now v_t_rhymeOf v_t_wordAt n_41) (f_X12_laysChanges_b81 v_t_now v_t_rhymeOf v_t_wordAt (f_X12_laysChanges_b41 v_t_now v_t_rhymeOf v_t_wordAt n_41) n_81) v_t_leastFrom x_t_left0 s0 l1 l2 l3 l4 l5 = some (o_v_t_leastFrom, o_x_t_left0) → W p l e { frames := 6, cells := 0, slots := 0, locals := 131 } s m ([.ref A_t] : List Value).toArray below meth c H locs 0 0 (MQ below (PoV D A [oX12 A_t A_t_now A_t_aside A_t_kept A_t_rhymeOf A_t_wasRhyme A_t_wordAt x_t_wordMany A_t_tape x_t_taped x_t_place0 x_t_length0 x_t_fault x_t_number0 x_t_open x_t_codeMany x_t_waiting x_t_saidMany x_t_clauses A_t_said A_t_waitsAt A_t_saidLetter A_t_saidFrom A_t_saidHalf A_t_saidTo A_t_codes A_t_clauseOf A_t_codeFrom A_t_codeHalf A_t_codeTo A_t_stack A_t_facts x_t_lines A_t_newWords A_t_roundFrom A_t_roundAt A_t_roundTimes x_t_newMany x_t_rounds x_t_itFrom x_t_itTimes x_t_writtenNow x_t_picturesNow x_t_usedNow x_t_chosen x_t_fearOfChosen A_t_leastFrom A_t_rowNow x_t_changesNow o_x_t_left0 A_t_bornOf A_t_trainsTo A_t_trainAt x_t_trainMany x_t_leastTries x_t_firstTrained x_t_isKept, iA cI 392 A_t_leastFrom o_v_t_leastFrom, iA cI 293 A_t_now v_t_now, iA cI 16 A_t_rhymeOf v_t_rhymeOf, iA cI 48 A_t_wordAt v_t_wordAt]) ([.ref A_t] : List Value).toArray s 0 0 A) (F0 m 137 ls [.int s0]) := by
            intro v_t_leastFrom x_t_left0 s0 l1 l2 l3 l4 l5 H locs ls hl hP hD hS hf
            unfold f_X12_laysChanges_b137 at hf
            refine lv_istore (lv' := [(6, .int s0), (0, .ref A_t), (1, .int l1), (2, .int l2), (3, .int l3), (4, .int l4), (5, .int l5)]) hx hb dX12_laysChanges_137 hl (by decide) rfl (fun ls hl => ?_)
            refine lv_aload_n hx hb dX12_laysChanges_139 rfl (lv_at hl 1 rfl) ?_
            refine x_get C hK hP fd_X12_83 0 rfl rfl dX12_laysChanges_140 ?_
            refine lv_bipush (v := 8) hx hb dX12_laysChanges_143 (by decide) ?_
            refine lv_iload_n hx hb dX12_laysChanges_145 rfl (lv_at hl 2 rfl) ?_
            refine lv_imul hx hb dX12_laysChanges_146 ?_
            refine lv_iload hx hb dX12_laysChanges_147 (lv_at hl 5 rfl) ?_
            refine lv_iadd hx hb dX12_laysChanges_149 ?_
            refine lv_iload_n hx hb dX12_laysChanges_150 rfl (lv_at hl 3 rfl) ?_
            refine lv_if_ne (tgt := 159) hx hb dX12_laysChanges_151 (by decide) (fun q => ?_) (fun q => ?_)
            · have hf := if_f q hf
              refine lv_iload hx hb dX12_laysChanges_159 (lv_at hl 0 rfl) ?_
              refine lv_if_eq (tgt := 175) hx hb dX12_laysChanges_161 (by decide) (fun q => ?_) (fun q => ?_)
              · have hf := if_t q hf
                refine x_ldcw C kc_X12_306 dX12_laysChanges_175 ?_
                exact hb_178 v_t_leastFrom x_t_left0 (((8 : Int32) * l1) + l4) (1000000 : Int32) l1 l2 l3 l4 _ _ ls (lv_sub hl [1, 2, 3, 4, 5] rfl) hP hD hS hf
              · have hf := if_f q hf
                refine lv_iload hx hb dX12_laysChanges_164 (lv_at hl 6 rfl) ?_
                refine lv_iload_n hx hb dX12_laysChanges_166 rfl (lv_at hl 4 rfl) ?_
                refine lv_iconst (v := 1) hx hb dX12_laysChanges_167 (by decide) ?_
                refine lv_iadd hx hb dX12_laysChanges_168 ?_
                obtain ⟨r1, hc2, hf⟩ := bd1_e hf
                refine x_callSI (ws' := [oX12 A_t A_t_now A_t_aside A_t_kept A_t_rhymeOf A_t_wasRhyme A_t_wordAt x_t_wordMany A_t_tape x_t_taped x_t_place0 x_t_length0 x_t_fault x_t_number0 x_t_open x_t_codeMany x_t_waiting x_t_saidMany x_t_clauses A_t_said A_t_waitsAt A_t_saidLetter A_t_saidFrom A_t_saidHalf A_t_saidTo A_t_codes A_t_clauseOf A_t_codeFrom A_t_codeHalf A_t_codeTo A_t_stack A_t_facts x_t_lines A_t_newWords A_t_roundFrom A_t_roundAt A_t_roundTimes x_t_newMany x_t_rounds x_t_itFrom x_t_itTimes x_t_writtenNow x_t_picturesNow x_t_usedNow x_t_chosen x_t_fearOfChosen A_t_leastFrom A_t_rowNow x_t_changesNow x_t_left0 A_t_bornOf A_t_trainsTo A_t_trainAt x_t_trainMany x_t_leastTries x_t_firstTrained x_t_isKept, iA cI 392 A_t_leastFrom v_t_leastFrom, iA cI 293 A_t_now v_t_now, iA cI 16 A_t_rhymeOf v_t_rhymeOf, iA cI 48 A_t_wordAt v_t_wordAt]) (rest := [.int (((8 : Int32) * l1) + l4), .ref A_t_leastFrom]) C hK hP hD hS hA hl mf_X12_98 (c_X12_min hc2) [] rfl rfl rfl rfl rfl rfl rfl rfl (Nat.le_of_ble_eq_true rfl) ⟨Nat.le_of_ble_eq_true rfl, Nat.le_of_ble_eq_true rfl⟩ ⟨Nat.le_refl _, Nat.le_refl _⟩ dX12_laysChanges_169 ?_
                intro H locs hP hD hS
                refine lv_goto (tgt := 178) hx hb dX12_laysChanges_172 (by decide) ?_
                exact hb_178 v_t_leastFrom x_t_left0 (((8 : Int32) * l1) + l4) r1 l1 l2 l3 l4 _ _ ls (lv_sub hl [1, 2, 3, 4, 5] rfl) hP hD hS hf
            · have hf := if_t q hf
              refine lv_iload hx hb dX12_laysChanges_154 (lv_at hl 6 rfl) ?_
              refine lv_goto (tgt := 178) hx hb dX12_laysChanges_156 (by decide) ?_
              exact hb_178 v_t_leastFrom x_t_left0 (((8 : Int32) * l1) + l4) l5 l1 l2 l3 l4 _ _ ls (lv_sub hl [1, 2, 3, 4, 5] rfl) hP hD hS hf
          have hb_132 : ∀ (v_t_leastFrom : (Nat → Int32)) (x_t_left0 : Int32) (l1 : Int32) (l2 : Int32) (l3 : Int32) (l4 : Int32) (l5 : Int32) (H : Heap) (locs : List Loc) (ls : Array Slot), lv_has ls 7 [(0, .ref A_t), (1, .int l1), (2, .int l2), (3, .int l3), (4, .int l4), (5, .int l5)] → va_P D vwCl [oX12 A_t A_t_now A_t_aside A_t_kept A_t_rhymeOf A_t_wasRhyme A_t_wordAt x_t_wordMany A_t_tape x_t_taped x_t_place0 x_t_length0 x_t_fault x_t_number0 x_t_open x_t_codeMany x_t_waiting x_t_saidMany x_t_clauses A_t_said A_t_waitsAt A_t_saidLetter A_t_saidFrom A_t_saidHalf A_t_saidTo A_t_codes A_t_clauseOf A_t_codeFrom A_t_codeHalf A_t_codeTo A_t_stack A_t_facts x_t_lines A_t_newWords A_t_roundFrom A_t_roundAt A_t_roundTimes x_t_newMany x_t_rounds x_t_itFrom x_t_itTimes x_t_writtenNow x_t_picturesNow x_t_usedNow x_t_chosen x_t_fearOfChosen A_t_leastFrom A_t_rowNow x_t_changesNow x_t_left0 A_t_bornOf A_t_trainsTo A_t_trainAt x_t_trainMany x_t_leastTries x_t_firstTrained x_t_isKept, iA cI 392 A_t_leastFrom v_t_leastFrom, iA cI 293 A_t_now v_t_now, iA cI 16 A_t_rhymeOf v_t_rhymeOf, iA cI 48 A_t_wordAt v_t_wordAt] H → va_D A [oX12 A_t A_t_now A_t_aside A_t_kept A_t_rhymeOf A_t_wasRhyme A_t_wordAt x_t_wordMany A_t_tape x_t_taped x_t_place0 x_t_length0 x_t_fault x_t_number0 x_t_open x_t_codeMany x_t_waiting x_t_saidMany x_t_clauses A_t_said A_t_waitsAt A_t_saidLetter A_t_saidFrom A_t_saidHalf A_t_saidTo A_t_codes A_t_clauseOf A_t_codeFrom A_t_codeHalf A_t_codeTo A_t_stack A_t_facts x_t_lines A_t_newWords A_t_roundFrom A_t_roundAt A_t_roundTimes x_t_newMany x_t_rounds x_t_itFrom x_t_itTimes x_t_writtenNow x_t_picturesNow x_t_usedNow x_t_chosen x_t_fearOfChosen A_t_leastFrom A_t_rowNow x_t_changesNow x_t_left0 A_t_bornOf A_t_trainsTo A_t_trainAt x_t_trainMany x_t_leastTries x_t_firstTrained x_t_isKept, iA cI 392 A_t_leastFrom v_t_leastFrom, iA cI 293 A_t_now v_t_now, iA cI 16 A_t_rhymeOf v_t_rhymeOf, iA cI 48 A_t_wordAt v_t_wordAt] → va_S A s.heap H locs → f_X12_laysChanges_b132 (f_X12_laysChanges_b41 v_t_now v_t_rhymeOf v_t_wordAt n_41) (f_X12_laysChanges_b81 v_t_now v_t_rhymeOf v_t_wordAt (f_X12_laysChanges_b41 v_t_now v_t_rhymeOf v_t_wordAt n_41) n_81) v_t_leastFrom x_t_left0 l1 l2 l3 l4 l5 = some (o_v_t_leastFrom, o_x_t_left0) → W p l e { frames := 6, cells := 0, slots := 0, locals := 131 } s m ([.ref A_t] : List Value).toArray below meth c H locs 0 0 (MQ below (PoV D A [oX12 A_t A_t_now A_t_aside A_t_kept A_t_rhymeOf A_t_wasRhyme A_t_wordAt x_t_wordMany A_t_tape x_t_taped x_t_place0 x_t_length0 x_t_fault x_t_number0 x_t_open x_t_codeMany x_t_waiting x_t_saidMany x_t_clauses A_t_said A_t_waitsAt A_t_saidLetter A_t_saidFrom A_t_saidHalf A_t_saidTo A_t_codes A_t_clauseOf A_t_codeFrom A_t_codeHalf A_t_codeTo A_t_stack A_t_facts x_t_lines A_t_newWords A_t_roundFrom A_t_roundAt A_t_roundTimes x_t_newMany x_t_rounds x_t_itFrom x_t_itTimes x_t_writtenNow x_t_picturesNow x_t_usedNow x_t_chosen x_t_fearOfChosen A_t_leastFrom A_t_rowNow x_t_changesNow o_x_t_left0 A_t_bornOf A_t_trainsTo A_t_trainAt x_t_trainMany x_t_leastTries x_t_firstTrained x_t_isKept, iA cI 392 A_t_leastFrom o_v_t_leastFrom, iA cI 293 A_t_now v_t_now, iA cI 16 A_t_rhymeOf v_t_rhymeOf, iA cI 48 A_t_wordAt v_t_wordAt]) ([.ref A_t] : List Value).toArray s 0 0 A) (F0 m 132 ls []) := by
            intro v_t_leastFrom x_t_left0 l1 l2 l3 l4 l5 H locs ls hl hP hD hS hf
            unfold f_X12_laysChanges_b132 at hf
            refine lv_iconst (v := 1) hx hb dX12_laysChanges_132 (by decide) ?_
            refine lv_goto (tgt := 137) hx hb dX12_laysChanges_133 (by decide) ?_
            exact hb_137 v_t_leastFrom x_t_left0 (1 : Int32) l1 l2 l3 l4 l5 _ _ ls (lv_sub hl [0, 1, 2, 3, 4, 5] rfl) hP hD hS hf
          have hb_136 : ∀ (v_t_leastFrom : (Nat → Int32)) (x_t_left0 : Int32) (l1 : Int32) (l2 : Int32) (l3 : Int32) (l4 : Int32) (l5 : Int32) (H : Heap) (locs : List Loc) (ls : Array Slot), lv_has ls 7 [(0, .ref A_t), (1, .int l1), (2, .int l2), (3, .int l3), (4, .int l4), (5, .int l5)] → va_P D vwCl [oX12 A_t A_t_now A_t_aside A_t_kept A_t_rhymeOf A_t_wasRhyme A_t_wordAt x_t_wordMany A_t_tape x_t_taped x_t_place0 x_t_length0 x_t_fault x_t_number0 x_t_open x_t_codeMany x_t_waiting x_t_saidMany x_t_clauses A_t_said A_t_waitsAt A_t_saidLetter A_t_saidFrom A_t_saidHalf A_t_saidTo A_t_codes A_t_clauseOf A_t_codeFrom A_t_codeHalf A_t_codeTo A_t_stack A_t_facts x_t_lines A_t_newWords A_t_roundFrom A_t_roundAt A_t_roundTimes x_t_newMany x_t_rounds x_t_itFrom x_t_itTimes x_t_writtenNow x_t_picturesNow x_t_usedNow x_t_chosen x_t_fearOfChosen A_t_leastFrom A_t_rowNow x_t_changesNow x_t_left0 A_t_bornOf A_t_trainsTo A_t_trainAt x_t_trainMany x_t_leastTries x_t_firstTrained x_t_isKept, iA cI 392 A_t_leastFrom v_t_leastFrom, iA cI 293 A_t_now v_t_now, iA cI 16 A_t_rhymeOf v_t_rhymeOf, iA cI 48 A_t_wordAt v_t_wordAt] H → va_D A [oX12 A_t A_t_now A_t_aside A_t_kept A_t_rhymeOf A_t_wasRhyme A_t_wordAt x_t_wordMany A_t_tape x_t_taped x_t_place0 x_t_length0 x_t_fault x_t_number0 x_t_open x_t_codeMany x_t_waiting x_t_saidMany x_t_clauses A_t_said A_t_waitsAt A_t_saidLetter A_t_saidFrom A_t_saidHalf A_t_saidTo A_t_codes A_t_clauseOf A_t_codeFrom A_t_codeHalf A_t_codeTo A_t_stack A_t_facts x_t_lines A_t_newWords A_t_roundFrom A_t_roundAt A_t_roundTimes x_t_newMany x_t_rounds x_t_itFrom x_t_itTimes x_t_writtenNow x_t_picturesNow x_t_usedNow x_t_chosen x_t_fearOfChosen A_t_leastFrom A_t_rowNow x_t_changesNow x_t_left0 A_t_bornOf A_t_trainsTo A_t_trainAt x_t_trainMany x_t_leastTries x_t_firstTrained x_t_isKept, iA cI 392 A_t_leastFrom v_t_leastFrom, iA cI 293 A_t_now v_t_now, iA cI 16 A_t_rhymeOf v_t_rhymeOf, iA cI 48 A_t_wordAt v_t_wordAt] → va_S A s.heap H locs → f_X12_laysChanges_b136 (f_X12_laysChanges_b41 v_t_now v_t_rhymeOf v_t_wordAt n_41) (f_X12_laysChanges_b81 v_t_now v_t_rhymeOf v_t_wordAt (f_X12_laysChanges_b41 v_t_now v_t_rhymeOf v_t_wordAt n_41) n_81) v_t_leastFrom x_t_left0 l1 l2 l3 l4 l5 = some (o_v_t_leastFrom, o_x_t_left0) → W p l e { frames := 6, cells := 0, slots := 0, locals := 131 } s m ([.ref A_t] : List Value).toArray below meth c H locs 0 0 (MQ below (PoV D A [oX12 A_t A_t_now A_t_aside A_t_kept A_t_rhymeOf A_t_wasRhyme A_t_wordAt x_t_wordMany A_t_tape x_t_taped x_t_place0 x_t_length0 x_t_fault x_t_number0 x_t_open x_t_codeMany x_t_waiting x_t_saidMany x_t_clauses A_t_said A_t_waitsAt A_t_saidLetter A_t_saidFrom A_t_saidHalf A_t_saidTo A_t_codes A_t_clauseOf A_t_codeFrom A_t_codeHalf A_t_codeTo A_t_stack A_t_facts x_t_lines A_t_newWords A_t_roundFrom A_t_roundAt A_t_roundTimes x_t_newMany x_t_rounds x_t_itFrom x_t_itTimes x_t_writtenNow x_t_picturesNow x_t_usedNow x_t_chosen x_t_fearOfChosen A_t_leastFrom A_t_rowNow x_t_changesNow o_x_t_left0 A_t_bornOf A_t_trainsTo A_t_trainAt x_t_trainMany x_t_leastTries x_t_firstTrained x_t_isKept, iA cI 392 A_t_leastFrom o_v_t_leastFrom, iA cI 293 A_t_now v_t_now, iA cI 16 A_t_rhymeOf v_t_rhymeOf, iA cI 48 A_t_wordAt v_t_wordAt]) ([.ref A_t] : List Value).toArray s 0 0 A) (F0 m 136 ls []) := by
            intro v_t_leastFrom x_t_left0 l1 l2 l3 l4 l5 H locs ls hl hP hD hS hf
            unfold f_X12_laysChanges_b136 at hf
            refine lv_iconst (v := 0) hx hb dX12_laysChanges_136 (by decide) ?_
            exact hb_137 v_t_leastFrom x_t_left0 (0 : Int32) l1 l2 l3 l4 l5 _ _ ls (lv_sub hl [0, 1, 2, 3, 4, 5] rfl) hP hD hS hf
          intro v_t_leastFrom x_t_left0 l1 l2 l3 l4 H locs ls hl hP hD hS hf
          rw [f_X12_laysChanges_b81] at hf
          refine lv_iload hx hb dX12_laysChanges_81 (lv_at hl 4 rfl) ?_
          refine lv_bipush (v := 8) hx hb dX12_laysChanges_83 (by decide) ?_
          refine lv_icmp_ge (tgt := 185) hx hb dX12_laysChanges_85 (by decide) (fun q => ?_) (fun q => ?_)
          · have hf := if_t q hf
            refine lv_iinc (v := (l1 + (-1 : Int32))) (lv' := [(1, .int (l1 + (-1 : Int32))), (0, .ref A_t), (2, .int l2), (3, .int l3), (4, .int l4)]) hx hb dX12_laysChanges_185 hl (k := 1) rfl rfl (by decide) rfl (fun ls hl => ?_)
            refine lv_goto (tgt := 41) hx hb dX12_laysChanges_188 (by decide) ?_
            exact ih_41 v_t_leastFrom x_t_left0 (l1 + (-1 : Int32)) _ _ ls (lv_sub hl [1, 0] rfl) hP hD hS hf
          · have hf := if_f q hf
            refine lv_aload_n hx hb dX12_laysChanges_88 rfl (lv_at hl 0 rfl) ?_
            refine x_get C hK hP fd_X12_83 0 rfl rfl dX12_laysChanges_89 ?_
            refine lv_bipush (v := 8) hx hb dX12_laysChanges_92 (by decide) ?_
            refine lv_iload_n hx hb dX12_laysChanges_94 rfl (lv_at hl 1 rfl) ?_
            refine lv_iconst (v := 1) hx hb dX12_laysChanges_95 (by decide) ?_
            refine lv_iadd hx hb dX12_laysChanges_96 ?_
            refine lv_imul hx hb dX12_laysChanges_97 ?_
            refine lv_iload hx hb dX12_laysChanges_98 (lv_at hl 4 rfl) ?_
            refine lv_iadd hx hb dX12_laysChanges_100 ?_
            obtain ⟨hi, hf⟩ := gI_e hf
            refine x_iald C hK hP 1 rfl hi dX12_laysChanges_101 ?_
            refine lv_istore (lv' := [(5, .int (v_t_leastFrom (((8 : Int32) * (l1 + (1 : Int32))) + l4).toNatClampNeg)), (0, .ref A_t), (1, .int l1), (2, .int l2), (3, .int l3), (4, .int l4)]) hx hb dX12_laysChanges_102 hl (by decide) rfl (fun ls hl => ?_)
            refine lv_iload_n hx hb dX12_laysChanges_104 rfl (lv_at hl 3 rfl) ?_
            refine lv_if_eq (tgt := 132) hx hb dX12_laysChanges_105 (by decide) (fun q => ?_) (fun q => ?_)
            · have hf := if_t q hf
              exact hb_132 v_t_leastFrom x_t_left0 l1 l2 l3 l4 (v_t_leastFrom (((8 : Int32) * (l1 + (1 : Int32))) + l4).toNatClampNeg) _ _ ls (lv_sub hl [1, 2, 3, 4, 5, 0] rfl) hP hD hS hf
            · have hf := if_f q hf
              refine lv_aload_n hx hb dX12_laysChanges_108 rfl (lv_at hl 1 rfl) ?_
              refine lv_iload hx hb dX12_laysChanges_109 (lv_at hl 5 rfl) ?_
              obtain ⟨r3, hc4, hf⟩ := bd1_e hf
              refine x_callVI (ws' := [oX12 A_t A_t_now A_t_aside A_t_kept A_t_rhymeOf A_t_wasRhyme A_t_wordAt x_t_wordMany A_t_tape x_t_taped x_t_place0 x_t_length0 x_t_fault x_t_number0 x_t_open x_t_codeMany x_t_waiting x_t_saidMany x_t_clauses A_t_said A_t_waitsAt A_t_saidLetter A_t_saidFrom A_t_saidHalf A_t_saidTo A_t_codes A_t_clauseOf A_t_codeFrom A_t_codeHalf A_t_codeTo A_t_stack A_t_facts x_t_lines A_t_newWords A_t_roundFrom A_t_roundAt A_t_roundTimes x_t_newMany x_t_rounds x_t_itFrom x_t_itTimes x_t_writtenNow x_t_picturesNow x_t_usedNow x_t_chosen x_t_fearOfChosen A_t_leastFrom A_t_rowNow x_t_changesNow x_t_left0 A_t_bornOf A_t_trainsTo A_t_trainAt x_t_trainMany x_t_leastTries x_t_firstTrained x_t_isKept, iA cI 392 A_t_leastFrom v_t_leastFrom, iA cI 293 A_t_now v_t_now, iA cI 16 A_t_rhymeOf v_t_rhymeOf, iA cI 48 A_t_wordAt v_t_wordAt]) (rest := []) C hK hP hD hS hA hl mf_X12_109 (c_X12_isTold hc4) [0, 2] 0 12 rfl rfl rfl rfl rfl rfl rfl rfl rfl rfl (Nat.le_of_ble_eq_true rfl) ⟨Nat.le_of_ble_eq_true rfl, Nat.le_of_ble_eq_true rfl⟩ ⟨Nat.le_refl _, Nat.le_refl _⟩ dX12_laysChanges_111 ?_
              intro H locs hP hD hS
              refine lv_if_eq (tgt := 136) hx hb dX12_laysChanges_114 (by decide) (fun q => ?_) (fun q => ?_)
              · have hf := if_t q hf
                exact hb_136 v_t_leastFrom x_t_left0 l1 l2 l3 l4 (v_t_leastFrom (((8 : Int32) * (l1 + (1 : Int32))) + l4).toNatClampNeg) _ _ ls (lv_sub hl [1, 2, 3, 4, 5, 0] rfl) hP hD hS hf
              · have hf := if_f q hf
                refine lv_aload_n hx hb dX12_laysChanges_117 rfl (lv_at hl 1 rfl) ?_
                refine lv_iload hx hb dX12_laysChanges_118 (lv_at hl 5 rfl) ?_
                refine lv_aload_n hx hb dX12_laysChanges_120 rfl (lv_at hl 1 rfl) ?_
                refine x_get C hK hP fd_X12_25 0 rfl rfl dX12_laysChanges_121 ?_
                refine lv_iload_n hx hb dX12_laysChanges_124 rfl (lv_at hl 2 rfl) ?_
                obtain ⟨hi, hf⟩ := gI_e hf
                refine x_iald C hK hP 4 rfl hi dX12_laysChanges_125 ?_
                obtain ⟨r5, hc6, hf⟩ := bd1_e hf
                refine x_callVI (ws' := [oX12 A_t A_t_now A_t_aside A_t_kept A_t_rhymeOf A_t_wasRhyme A_t_wordAt x_t_wordMany A_t_tape x_t_taped x_t_place0 x_t_length0 x_t_fault x_t_number0 x_t_open x_t_codeMany x_t_waiting x_t_saidMany x_t_clauses A_t_said A_t_waitsAt A_t_saidLetter A_t_saidFrom A_t_saidHalf A_t_saidTo A_t_codes A_t_clauseOf A_t_codeFrom A_t_codeHalf A_t_codeTo A_t_stack A_t_facts x_t_lines A_t_newWords A_t_roundFrom A_t_roundAt A_t_roundTimes x_t_newMany x_t_rounds x_t_itFrom x_t_itTimes x_t_writtenNow x_t_picturesNow x_t_usedNow x_t_chosen x_t_fearOfChosen A_t_leastFrom A_t_rowNow x_t_changesNow x_t_left0 A_t_bornOf A_t_trainsTo A_t_trainAt x_t_trainMany x_t_leastTries x_t_firstTrained x_t_isKept, iA cI 392 A_t_leastFrom v_t_leastFrom, iA cI 293 A_t_now v_t_now, iA cI 16 A_t_rhymeOf v_t_rhymeOf, iA cI 48 A_t_wordAt v_t_wordAt]) (rest := []) C hK hP hD hS hA hl mf_X12_127 (c_X12_bears hc6) [0, 2, 3] 0 12 rfl rfl rfl rfl rfl rfl rfl rfl rfl rfl (Nat.le_of_ble_eq_true rfl) ⟨Nat.le_of_ble_eq_true rfl, Nat.le_of_ble_eq_true rfl⟩ ⟨Nat.le_refl _, Nat.le_refl _⟩ dX12_laysChanges_126 ?_
                intro H locs hP hD hS
                refine lv_if_eq (tgt := 136) hx hb dX12_laysChanges_129 (by decide) (fun q => ?_) (fun q => ?_)
                · have hf := if_t q hf
                  exact hb_136 v_t_leastFrom x_t_left0 l1 l2 l3 l4 (v_t_leastFrom (((8 : Int32) * (l1 + (1 : Int32))) + l4).toNatClampNeg) _ _ ls (lv_sub hl [1, 2, 3, 4, 5, 0] rfl) hP hD hS hf
                · have hf := if_f q hf
                  exact hb_132 v_t_leastFrom x_t_left0 l1 l2 l3 l4 (v_t_leastFrom (((8 : Int32) * (l1 + (1 : Int32))) + l4).toNatClampNeg) _ _ ls (lv_sub hl [1, 2, 3, 4, 5, 0] rfl) hP hD hS hf
      have hb_70 : ∀ (v_t_leastFrom : (Nat → Int32)) (x_t_left0 : Int32) (l1 : Int32) (l2 : Int32) (H : Heap) (locs : List Loc) (ls : Array Slot), lv_has ls 7 [(0, .ref A_t), (1, .int l1), (2, .int l2)] → va_P D vwCl [oX12 A_t A_t_now A_t_aside A_t_kept A_t_rhymeOf A_t_wasRhyme A_t_wordAt x_t_wordMany A_t_tape x_t_taped x_t_place0 x_t_length0 x_t_fault x_t_number0 x_t_open x_t_codeMany x_t_waiting x_t_saidMany x_t_clauses A_t_said A_t_waitsAt A_t_saidLetter A_t_saidFrom A_t_saidHalf A_t_saidTo A_t_codes A_t_clauseOf A_t_codeFrom A_t_codeHalf A_t_codeTo A_t_stack A_t_facts x_t_lines A_t_newWords A_t_roundFrom A_t_roundAt A_t_roundTimes x_t_newMany x_t_rounds x_t_itFrom x_t_itTimes x_t_writtenNow x_t_picturesNow x_t_usedNow x_t_chosen x_t_fearOfChosen A_t_leastFrom A_t_rowNow x_t_changesNow x_t_left0 A_t_bornOf A_t_trainsTo A_t_trainAt x_t_trainMany x_t_leastTries x_t_firstTrained x_t_isKept, iA cI 392 A_t_leastFrom v_t_leastFrom, iA cI 293 A_t_now v_t_now, iA cI 16 A_t_rhymeOf v_t_rhymeOf, iA cI 48 A_t_wordAt v_t_wordAt] H → va_D A [oX12 A_t A_t_now A_t_aside A_t_kept A_t_rhymeOf A_t_wasRhyme A_t_wordAt x_t_wordMany A_t_tape x_t_taped x_t_place0 x_t_length0 x_t_fault x_t_number0 x_t_open x_t_codeMany x_t_waiting x_t_saidMany x_t_clauses A_t_said A_t_waitsAt A_t_saidLetter A_t_saidFrom A_t_saidHalf A_t_saidTo A_t_codes A_t_clauseOf A_t_codeFrom A_t_codeHalf A_t_codeTo A_t_stack A_t_facts x_t_lines A_t_newWords A_t_roundFrom A_t_roundAt A_t_roundTimes x_t_newMany x_t_rounds x_t_itFrom x_t_itTimes x_t_writtenNow x_t_picturesNow x_t_usedNow x_t_chosen x_t_fearOfChosen A_t_leastFrom A_t_rowNow x_t_changesNow x_t_left0 A_t_bornOf A_t_trainsTo A_t_trainAt x_t_trainMany x_t_leastTries x_t_firstTrained x_t_isKept, iA cI 392 A_t_leastFrom v_t_leastFrom, iA cI 293 A_t_now v_t_now, iA cI 16 A_t_rhymeOf v_t_rhymeOf, iA cI 48 A_t_wordAt v_t_wordAt] → va_S A s.heap H locs → f_X12_laysChanges_b70 v_t_now v_t_rhymeOf v_t_wordAt (f_X12_laysChanges_b41 v_t_now v_t_rhymeOf v_t_wordAt n_41) v_t_leastFrom x_t_left0 l1 l2 = some (o_v_t_leastFrom, o_x_t_left0) → W p l e { frames := 6, cells := 0, slots := 0, locals := 131 } s m ([.ref A_t] : List Value).toArray below meth c H locs 0 0 (MQ below (PoV D A [oX12 A_t A_t_now A_t_aside A_t_kept A_t_rhymeOf A_t_wasRhyme A_t_wordAt x_t_wordMany A_t_tape x_t_taped x_t_place0 x_t_length0 x_t_fault x_t_number0 x_t_open x_t_codeMany x_t_waiting x_t_saidMany x_t_clauses A_t_said A_t_waitsAt A_t_saidLetter A_t_saidFrom A_t_saidHalf A_t_saidTo A_t_codes A_t_clauseOf A_t_codeFrom A_t_codeHalf A_t_codeTo A_t_stack A_t_facts x_t_lines A_t_newWords A_t_roundFrom A_t_roundAt A_t_roundTimes x_t_newMany x_t_rounds x_t_itFrom x_t_itTimes x_t_writtenNow x_t_picturesNow x_t_usedNow x_t_chosen x_t_fearOfChosen A_t_leastFrom A_t_rowNow x_t_changesNow o_x_t_left0 A_t_bornOf A_t_trainsTo A_t_trainAt x_t_trainMany x_t_leastTries x_t_firstTrained x_t_isKept, iA cI 392 A_t_leastFrom o_v_t_leastFrom, iA cI 293 A_t_now v_t_now, iA cI 16 A_t_rhymeOf v_t_rhymeOf, iA cI 48 A_t_wordAt v_t_wordAt]) ([.ref A_t] : List Value).toArray s 0 0 A) (F0 m 70 ls []) := by
        intro v_t_leastFrom x_t_left0 l1 l2 H locs ls hl hP hD hS hf
        unfold f_X12_laysChanges_b70 at hf
        refine lv_aload_n hx hb dX12_laysChanges_70 rfl (lv_at hl 0 rfl) ?_
        refine lv_iload_n hx hb dX12_laysChanges_71 rfl (lv_at hl 1 rfl) ?_
        refine lv_iconst (v := 1) hx hb dX12_laysChanges_72 (by decide) ?_
        refine lv_iadd hx hb dX12_laysChanges_73 ?_
        obtain ⟨r7, hc8, hf⟩ := bd1_e hf
        refine x_callVI (ws' := [oX12 A_t A_t_now A_t_aside A_t_kept A_t_rhymeOf A_t_wasRhyme A_t_wordAt x_t_wordMany A_t_tape x_t_taped x_t_place0 x_t_length0 x_t_fault x_t_number0 x_t_open x_t_codeMany x_t_waiting x_t_saidMany x_t_clauses A_t_said A_t_waitsAt A_t_saidLetter A_t_saidFrom A_t_saidHalf A_t_saidTo A_t_codes A_t_clauseOf A_t_codeFrom A_t_codeHalf A_t_codeTo A_t_stack A_t_facts x_t_lines A_t_newWords A_t_roundFrom A_t_roundAt A_t_roundTimes x_t_newMany x_t_rounds x_t_itFrom x_t_itTimes x_t_writtenNow x_t_picturesNow x_t_usedNow x_t_chosen x_t_fearOfChosen A_t_leastFrom A_t_rowNow x_t_changesNow x_t_left0 A_t_bornOf A_t_trainsTo A_t_trainAt x_t_trainMany x_t_leastTries x_t_firstTrained x_t_isKept, iA cI 392 A_t_leastFrom v_t_leastFrom, iA cI 293 A_t_now v_t_now, iA cI 16 A_t_rhymeOf v_t_rhymeOf, iA cI 48 A_t_wordAt v_t_wordAt]) (rest := []) C hK hP hD hS hA hl mf_X12_360 (c_X12_leastAt hc8) [0, 1] 0 12 rfl rfl rfl rfl rfl rfl rfl rfl rfl rfl (Nat.le_of_ble_eq_true rfl) ⟨Nat.le_of_ble_eq_true rfl, Nat.le_of_ble_eq_true rfl⟩ ⟨Nat.le_refl _, Nat.le_refl _⟩ dX12_laysChanges_74 ?_
        intro H locs hP hD hS
        refine lv_istore_n (lv' := [(3, .int r7), (0, .ref A_t), (1, .int l1), (2, .int l2)]) hx hb dX12_laysChanges_77 rfl hl (by decide) rfl (fun ls hl => ?_)
        refine lv_iconst (v := 0) hx hb dX12_laysChanges_78 (by decide) ?_
        refine lv_istore (lv' := [(4, .int (0 : Int32)), (3, .int r7), (0, .ref A_t), (1, .int l1), (2, .int l2)]) hx hb dX12_laysChanges_79 hl (by decide) rfl (fun ls hl => ?_)
        exact hb_81 FU v_t_leastFrom x_t_left0 l1 l2 r7 (0 : Int32) _ _ ls (lv_sub hl [2, 3, 4, 1, 0] rfl) hP hD hS hf
      intro v_t_leastFrom x_t_left0 l1 H locs ls hl hP hD hS hf
      rw [f_X12_laysChanges_b41] at hf
      refine lv_iload_n hx hb dX12_laysChanges_41 rfl (lv_at hl 1 rfl) ?_
      refine lv_if_lt (tgt := 191) hx hb dX12_laysChanges_42 (by decide) (fun q => ?_) (fun q => ?_)
      · have hf := if_t q hf
        obtain ⟨rfl, rfl⟩ := ev2 hf
        exact x_vret C hr hlk hP hD hS dX12_laysChanges_191
      · have hf := if_f q hf
        refine lv_aload_n hx hb dX12_laysChanges_45 rfl (lv_at hl 0 rfl) ?_
        refine lv_aload_n hx hb dX12_laysChanges_46 rfl (lv_at hl 0 rfl) ?_
        refine x_get C hK hP fd_X12_25 0 rfl rfl dX12_laysChanges_47 ?_
        refine lv_iload_n hx hb dX12_laysChanges_50 rfl (lv_at hl 1 rfl) ?_
        obtain ⟨hi, hf⟩ := gI_e hf
        refine x_iald C hK hP 4 rfl hi dX12_laysChanges_51 ?_
        obtain ⟨r9, hc10, hf⟩ := bd1_e hf
        refine x_callVI (ws' := [oX12 A_t A_t_now A_t_aside A_t_kept A_t_rhymeOf A_t_wasRhyme A_t_wordAt x_t_wordMany A_t_tape x_t_taped x_t_place0 x_t_length0 x_t_fault x_t_number0 x_t_open x_t_codeMany x_t_waiting x_t_saidMany x_t_clauses A_t_said A_t_waitsAt A_t_saidLetter A_t_saidFrom A_t_saidHalf A_t_saidTo A_t_codes A_t_clauseOf A_t_codeFrom A_t_codeHalf A_t_codeTo A_t_stack A_t_facts x_t_lines A_t_newWords A_t_roundFrom A_t_roundAt A_t_roundTimes x_t_newMany x_t_rounds x_t_itFrom x_t_itTimes x_t_writtenNow x_t_picturesNow x_t_usedNow x_t_chosen x_t_fearOfChosen A_t_leastFrom A_t_rowNow x_t_changesNow x_t_left0 A_t_bornOf A_t_trainsTo A_t_trainAt x_t_trainMany x_t_leastTries x_t_firstTrained x_t_isKept, iA cI 392 A_t_leastFrom v_t_leastFrom, iA cI 293 A_t_now v_t_now, iA cI 16 A_t_rhymeOf v_t_rhymeOf, iA cI 48 A_t_wordAt v_t_wordAt]) (rest := []) C hK hP hD hS hA hl mf_X12_357 (c_X12_anyBears hc10) [0, 2, 3] 0 12 rfl rfl rfl rfl rfl rfl rfl rfl rfl rfl (Nat.le_of_ble_eq_true rfl) ⟨Nat.le_of_ble_eq_true rfl, Nat.le_of_ble_eq_true rfl⟩ ⟨Nat.le_refl _, Nat.le_refl _⟩ dX12_laysChanges_52 ?_
        intro H locs hP hD hS
        refine lv_istore_n (lv' := [(2, .int r9), (0, .ref A_t), (1, .int l1)]) hx hb dX12_laysChanges_55 rfl hl (by decide) rfl (fun ls hl => ?_)
        refine lv_iload_n hx hb dX12_laysChanges_56 rfl (lv_at hl 0 rfl) ?_
        refine lv_if_ne (tgt := 70) hx hb dX12_laysChanges_57 (by decide) (fun q => ?_) (fun q => ?_)
        · have hf := if_f q hf
          exact hb_70 v_t_leastFrom x_t_left0 l1 r9 _ _ ls (lv_sub hl [1, 2, 0] rfl) hP hD hS hf
        · have hf := if_t q hf
          refine lv_aload_n hx hb dX12_laysChanges_60 rfl (lv_at hl 1 rfl) ?_
          refine lv_aload_n hx hb dX12_laysChanges_61 rfl (lv_at hl 1 rfl) ?_
          refine x_get C hK hP fd_X12_354 0 rfl rfl dX12_laysChanges_62 ?_
          refine lv_iconst (v := 1) hx hb dX12_laysChanges_65 (by decide) ?_
          refine lv_iadd hx hb dX12_laysChanges_66 ?_
          refine x_put (ws' := [oX12 A_t A_t_now A_t_aside A_t_kept A_t_rhymeOf A_t_wasRhyme A_t_wordAt x_t_wordMany A_t_tape x_t_taped x_t_place0 x_t_length0 x_t_fault x_t_number0 x_t_open x_t_codeMany x_t_waiting x_t_saidMany x_t_clauses A_t_said A_t_waitsAt A_t_saidLetter A_t_saidFrom A_t_saidHalf A_t_saidTo A_t_codes A_t_clauseOf A_t_codeFrom A_t_codeHalf A_t_codeTo A_t_stack A_t_facts x_t_lines A_t_newWords A_t_roundFrom A_t_roundAt A_t_roundTimes x_t_newMany x_t_rounds x_t_itFrom x_t_itTimes x_t_writtenNow x_t_picturesNow x_t_usedNow x_t_chosen x_t_fearOfChosen A_t_leastFrom A_t_rowNow x_t_changesNow (x_t_left0 + (1 : Int32)) A_t_bornOf A_t_trainsTo A_t_trainAt x_t_trainMany x_t_leastTries x_t_firstTrained x_t_isKept, iA cI 392 A_t_leastFrom v_t_leastFrom, iA cI 293 A_t_now v_t_now, iA cI 16 A_t_rhymeOf v_t_rhymeOf, iA cI 48 A_t_wordAt v_t_wordAt]) C hK hP hD hS fp_X12_354 0 rfl rfl rfl (Nat.le_of_ble_eq_true rfl) rfl dX12_laysChanges_67 ?_
          intro H locs hP hD hS
          exact hb_70 v_t_leastFrom (x_t_left0 + (1 : Int32)) l1 r9 _ _ ls (lv_sub hl [1, 2, 0] rfl) hP hD hS hf
  have hb_7 : ∀ (n_7 : Nat) (v_t_leastFrom : (Nat → Int32)) (x_t_left0 : Int32) (l1 : Int32) (H : Heap) (locs : List Loc) (ls : Array Slot), lv_has ls 7 [(0, .ref A_t), (1, .int l1)] → va_P D vwCl [oX12 A_t A_t_now A_t_aside A_t_kept A_t_rhymeOf A_t_wasRhyme A_t_wordAt x_t_wordMany A_t_tape x_t_taped x_t_place0 x_t_length0 x_t_fault x_t_number0 x_t_open x_t_codeMany x_t_waiting x_t_saidMany x_t_clauses A_t_said A_t_waitsAt A_t_saidLetter A_t_saidFrom A_t_saidHalf A_t_saidTo A_t_codes A_t_clauseOf A_t_codeFrom A_t_codeHalf A_t_codeTo A_t_stack A_t_facts x_t_lines A_t_newWords A_t_roundFrom A_t_roundAt A_t_roundTimes x_t_newMany x_t_rounds x_t_itFrom x_t_itTimes x_t_writtenNow x_t_picturesNow x_t_usedNow x_t_chosen x_t_fearOfChosen A_t_leastFrom A_t_rowNow x_t_changesNow x_t_left0 A_t_bornOf A_t_trainsTo A_t_trainAt x_t_trainMany x_t_leastTries x_t_firstTrained x_t_isKept, iA cI 392 A_t_leastFrom v_t_leastFrom, iA cI 293 A_t_now v_t_now, iA cI 16 A_t_rhymeOf v_t_rhymeOf, iA cI 48 A_t_wordAt v_t_wordAt] H → va_D A [oX12 A_t A_t_now A_t_aside A_t_kept A_t_rhymeOf A_t_wasRhyme A_t_wordAt x_t_wordMany A_t_tape x_t_taped x_t_place0 x_t_length0 x_t_fault x_t_number0 x_t_open x_t_codeMany x_t_waiting x_t_saidMany x_t_clauses A_t_said A_t_waitsAt A_t_saidLetter A_t_saidFrom A_t_saidHalf A_t_saidTo A_t_codes A_t_clauseOf A_t_codeFrom A_t_codeHalf A_t_codeTo A_t_stack A_t_facts x_t_lines A_t_newWords A_t_roundFrom A_t_roundAt A_t_roundTimes x_t_newMany x_t_rounds x_t_itFrom x_t_itTimes x_t_writtenNow x_t_picturesNow x_t_usedNow x_t_chosen x_t_fearOfChosen A_t_leastFrom A_t_rowNow x_t_changesNow x_t_left0 A_t_bornOf A_t_trainsTo A_t_trainAt x_t_trainMany x_t_leastTries x_t_firstTrained x_t_isKept, iA cI 392 A_t_leastFrom v_t_leastFrom, iA cI 293 A_t_now v_t_now, iA cI 16 A_t_rhymeOf v_t_rhymeOf, iA cI 48 A_t_wordAt v_t_wordAt] → va_S A s.heap H locs → f_X12_laysChanges_b7 v_t_now v_t_rhymeOf v_t_wordAt x_t_wordMany n_7 v_t_leastFrom x_t_left0 l1 = some (o_v_t_leastFrom, o_x_t_left0) → W p l e { frames := 6, cells := 0, slots := 0, locals := 131 } s m ([.ref A_t] : List Value).toArray below meth c H locs 0 0 (MQ below (PoV D A [oX12 A_t A_t_now A_t_aside A_t_kept A_t_rhymeOf A_t_wasRhyme A_t_wordAt x_t_wordMany A_t_tape x_t_taped x_t_place0 x_t_length0 x_t_fault x_t_number0 x_t_open x_t_codeMany x_t_waiting x_t_saidMany x_t_clauses A_t_said A_t_waitsAt A_t_saidLetter A_t_saidFrom A_t_saidHalf A_t_saidTo A_t_codes A_t_clauseOf A_t_codeFrom A_t_codeHalf A_t_codeTo A_t_stack A_t_facts x_t_lines A_t_newWords A_t_roundFrom A_t_roundAt A_t_roundTimes x_t_newMany x_t_rounds x_t_itFrom x_t_itTimes x_t_writtenNow x_t_picturesNow x_t_usedNow x_t_chosen x_t_fearOfChosen A_t_leastFrom A_t_rowNow x_t_changesNow o_x_t_left0 A_t_bornOf A_t_trainsTo A_t_trainAt x_t_trainMany x_t_leastTries x_t_firstTrained x_t_isKept, iA cI 392 A_t_leastFrom o_v_t_leastFrom, iA cI 293 A_t_now v_t_now, iA cI 16 A_t_rhymeOf v_t_rhymeOf, iA cI 48 A_t_wordAt v_t_wordAt]) ([.ref A_t] : List Value).toArray s 0 0 A) (F0 m 7 ls []) := by
    intro n_7
    induction n_7 with
    | zero =>
      intro v_t_leastFrom x_t_left0 l1 H locs ls hl hP hD hS hf
      exact absurd hf (fun h => by rw [f_X12_laysChanges_b7] at h; cases h)
    | succ n_7 ih_7 =>
      intro v_t_leastFrom x_t_left0 l1 H locs ls hl hP hD hS hf
      rw [f_X12_laysChanges_b7] at hf
      refine lv_iload_n hx hb dX12_laysChanges_7 rfl (lv_at hl 1 rfl) ?_
      refine lv_bipush (v := 8) hx hb dX12_laysChanges_8 (by decide) ?_
      refine lv_icmp_ge (tgt := 34) hx hb dX12_laysChanges_10 (by decide) (fun q => ?_) (fun q => ?_)
      · have hf := if_t q hf
        refine lv_aload_n hx hb dX12_laysChanges_34 rfl (lv_at hl 0 rfl) ?_
        refine x_get C hK hP fd_X12_300 0 rfl rfl dX12_laysChanges_35 ?_
        refine lv_iconst (v := 1) hx hb dX12_laysChanges_38 (by decide) ?_
        refine lv_isub hx hb dX12_laysChanges_39 ?_
        refine lv_istore_n (lv' := [(1, .int (x_t_wordMany - (1 : Int32))), (0, .ref A_t)]) hx hb dX12_laysChanges_40 rfl hl (by decide) rfl (fun ls hl => ?_)
        exact hb_41 FU v_t_leastFrom x_t_left0 (x_t_wordMany - (1 : Int32)) _ _ ls (lv_sub hl [1, 0] rfl) hP hD hS hf
      · have hf := if_f q hf
        refine lv_aload_n hx hb dX12_laysChanges_13 rfl (lv_at hl 0 rfl) ?_
        refine x_get C hK hP fd_X12_83 0 rfl rfl dX12_laysChanges_14 ?_
        refine lv_bipush (v := 8) hx hb dX12_laysChanges_17 (by decide) ?_
        refine lv_aload_n hx hb dX12_laysChanges_19 rfl (lv_at hl 0 rfl) ?_
        refine x_get C hK hP fd_X12_300 0 rfl rfl dX12_laysChanges_20 ?_
        refine lv_imul hx hb dX12_laysChanges_23 ?_
        refine lv_iload_n hx hb dX12_laysChanges_24 rfl (lv_at hl 1 rfl) ?_
        refine lv_iadd hx hb dX12_laysChanges_25 ?_
        refine lv_iconst (v := 0) hx hb dX12_laysChanges_26 (by decide) ?_
        obtain ⟨hi, hf⟩ := sI_e hf
        refine x_iast (ws' := [oX12 A_t A_t_now A_t_aside A_t_kept A_t_rhymeOf A_t_wasRhyme A_t_wordAt x_t_wordMany A_t_tape x_t_taped x_t_place0 x_t_length0 x_t_fault x_t_number0 x_t_open x_t_codeMany x_t_waiting x_t_saidMany x_t_clauses A_t_said A_t_waitsAt A_t_saidLetter A_t_saidFrom A_t_saidHalf A_t_saidTo A_t_codes A_t_clauseOf A_t_codeFrom A_t_codeHalf A_t_codeTo A_t_stack A_t_facts x_t_lines A_t_newWords A_t_roundFrom A_t_roundAt A_t_roundTimes x_t_newMany x_t_rounds x_t_itFrom x_t_itTimes x_t_writtenNow x_t_picturesNow x_t_usedNow x_t_chosen x_t_fearOfChosen A_t_leastFrom A_t_rowNow x_t_changesNow x_t_left0 A_t_bornOf A_t_trainsTo A_t_trainAt x_t_trainMany x_t_leastTries x_t_firstTrained x_t_isKept, iA cI 392 A_t_leastFrom (upd v_t_leastFrom (((8 : Int32) * x_t_wordMany) + l1).toNatClampNeg (0 : Int32)), iA cI 293 A_t_now v_t_now, iA cI 16 A_t_rhymeOf v_t_rhymeOf, iA cI 48 A_t_wordAt v_t_wordAt]) C hK hP hD hS 1 rfl hi rfl dX12_laysChanges_27 ?_
        intro H locs hP hD hS
        refine lv_iinc (v := (l1 + (1 : Int32))) (lv' := [(1, .int (l1 + (1 : Int32))), (0, .ref A_t)]) hx hb dX12_laysChanges_28 hl (k := 1) rfl rfl (by decide) rfl (fun ls hl => ?_)
        refine lv_goto (tgt := 7) hx hb dX12_laysChanges_31 (by decide) ?_
        exact ih_7 (upd v_t_leastFrom (((8 : Int32) * x_t_wordMany) + l1).toNatClampNeg (0 : Int32)) x_t_left0 (l1 + (1 : Int32)) _ _ ls (lv_sub hl [1, 0] rfl) hP hD hS hf
  refine lv_aload_n hx hb dX12_laysChanges_0 rfl (lv_at hl 0 rfl) ?_
  refine lv_iconst (v := 0) hx hb dX12_laysChanges_1 (by decide) ?_
  refine x_put (ws' := [oX12 A_t A_t_now A_t_aside A_t_kept A_t_rhymeOf A_t_wasRhyme A_t_wordAt x_t_wordMany A_t_tape x_t_taped x_t_place0 x_t_length0 x_t_fault x_t_number0 x_t_open x_t_codeMany x_t_waiting x_t_saidMany x_t_clauses A_t_said A_t_waitsAt A_t_saidLetter A_t_saidFrom A_t_saidHalf A_t_saidTo A_t_codes A_t_clauseOf A_t_codeFrom A_t_codeHalf A_t_codeTo A_t_stack A_t_facts x_t_lines A_t_newWords A_t_roundFrom A_t_roundAt A_t_roundTimes x_t_newMany x_t_rounds x_t_itFrom x_t_itTimes x_t_writtenNow x_t_picturesNow x_t_usedNow x_t_chosen x_t_fearOfChosen A_t_leastFrom A_t_rowNow x_t_changesNow (0 : Int32) A_t_bornOf A_t_trainsTo A_t_trainAt x_t_trainMany x_t_leastTries x_t_firstTrained x_t_isKept, iA cI 392 A_t_leastFrom v_t_leastFrom, iA cI 293 A_t_now v_t_now, iA cI 16 A_t_rhymeOf v_t_rhymeOf, iA cI 48 A_t_wordAt v_t_wordAt]) C hK hP hD hS fp_X12_354 0 rfl rfl rfl (Nat.le_of_ble_eq_true rfl) rfl dX12_laysChanges_2 ?_
  intro H locs hP hD hS
  refine lv_iconst (v := 0) hx hb dX12_laysChanges_5 (by decide) ?_
  refine lv_istore_n (lv' := [(1, .int (0 : Int32)), (0, .ref A_t)]) hx hb dX12_laysChanges_6 rfl hl (by decide) rfl (fun ls hl => ?_)
  exact hb_7 FU v_t_leastFrom (0 : Int32) (0 : Int32) _ _ ls (lv_sub hl [1, 0] rfl) hP hD hS hf
def f_X12_laysRow_b106 (k9 : (Nat → Int32) → Int32 → Int32 → Int32 → Option ((Nat → Int32) × Int32)) (k51 : (Nat → Int32) → Int32 → Int32 → Int32 → Int32 → Int32 → Int32 → Option ((Nat → Int32) × Int32)) (v_t_rowNow : (Nat → Int32)) (x_t_changesNow : Int32) (l1 : Int32) (l2 : Int32) (l3 : Int32) (l4 : Int32) (l5 : Int32) : Option ((Nat → Int32) × Int32) :=
  k51 v_t_rowNow x_t_changesNow l1 l2 l3 l4 (l5 + (1 : Int32))
def f_X12_laysRow_b86 (k9 : (Nat → Int32) → Int32 → Int32 → Int32 → Option ((Nat → Int32) × Int32)) (k51 : (Nat → Int32) → Int32 → Int32 → Int32 → Int32 → Int32 → Int32 → Option ((Nat → Int32) × Int32)) (v_t_rowNow : (Nat → Int32)) (x_t_changesNow : Int32) (s0 : Int32) (s1 : Int32) (l1 : Int32) (l2 : Int32) (l3 : Int32) (l4 : Int32) (l5 : Int32) : Option ((Nat → Int32) × Int32) :=
  if (s0 + s1) < l4 then
    f_X12_laysRow_b106 k9 k51 v_t_rowNow x_t_changesNow l1 l2 l5 (s0 + s1) l5
  else
    f_X12_laysRow_b106 k9 k51 v_t_rowNow x_t_changesNow l1 l2 l3 l4 l5
def f_X12_laysRow_b81 (k9 : (Nat → Int32) → Int32 → Int32 → Int32 → Option ((Nat → Int32) × Int32)) (k51 : (Nat → Int32) → Int32 → Int32 → Int32 → Int32 → Int32 → Int32 → Option ((Nat → Int32) × Int32)) (v_t_rowNow : (Nat → Int32)) (x_t_changesNow : Int32) (s0 : Int32) (l1 : Int32) (l2 : Int32) (l3 : Int32) (l4 : Int32) (l5 : Int32) : Option ((Nat → Int32) × Int32) :=
  f_X12_laysRow_b86 k9 k51 v_t_rowNow x_t_changesNow s0 (0 : Int32) l1 l2 l3 l4 l5
def f_X12_laysRow_b141 (k9 : (Nat → Int32) → Int32 → Int32 → Int32 → Option ((Nat → Int32) × Int32)) (v_t_rowNow : (Nat → Int32)) (x_t_changesNow : Int32) (l1 : Int32) (l2 : Int32) : Option ((Nat → Int32) × Int32) :=
  k9 v_t_rowNow x_t_changesNow l1 (l2 + (1 : Int32))
def f_X12_laysRow_b132 (k9 : (Nat → Int32) → Int32 → Int32 → Int32 → Option ((Nat → Int32) × Int32)) (v_t_rowNow : (Nat → Int32)) (x_t_changesNow : Int32) (l2 : Int32) (l3 : Int32) : Option ((Nat → Int32) × Int32) :=
  sI 48 v_t_rowNow l2 l3 (fun w1 =>
  f_X12_laysRow_b141 k9 w1 x_t_changesNow l3 l2)
def f_X12_laysRow_b51 (v_t_leastFrom : (Nat → Int32)) (k9 : (Nat → Int32) → Int32 → Int32 → Int32 → Option ((Nat → Int32) × Int32)) : Nat → (Nat → Int32) → Int32 → Int32 → Int32 → Int32 → Int32 → Int32 → Option ((Nat → Int32) × Int32)
  | 0, _, _, _, _, _, _, _ => none
  | n + 1, v_t_rowNow, x_t_changesNow, l1, l2, l3, l4, l5 =>
    if (8 : Int32) ≤ l5 then
      if l1 = (-1 : Int32) then
        f_X12_laysRow_b132 k9 v_t_rowNow x_t_changesNow l2 l3
      else
        if l3 = l1 then
          f_X12_laysRow_b132 k9 v_t_rowNow x_t_changesNow l2 l3
        else
          f_X12_laysRow_b132 k9 v_t_rowNow (x_t_changesNow + (1 : Int32)) l2 l3
    else
      gI 392 v_t_leastFrom (((8 : Int32) * l2) + l5) (fun g1 =>
      if l1 = (-1 : Int32) then
        f_X12_laysRow_b81 k9 (f_X12_laysRow_b51 v_t_leastFrom k9 n) v_t_rowNow x_t_changesNow g1 l1 l2 l3 l4 l5
      else
        if l1 = l5 then
          f_X12_laysRow_b81 k9 (f_X12_laysRow_b51 v_t_leastFrom k9 n) v_t_rowNow x_t_changesNow g1 l1 l2 l3 l4 l5
        else
          f_X12_laysRow_b86 k9 (f_X12_laysRow_b51 v_t_leastFrom k9 n) v_t_rowNow x_t_changesNow g1 (1 : Int32) l1 l2 l3 l4 l5)
def f_X12_laysRow_b9 (v_t_leastFrom : (Nat → Int32)) (v_t_now : (Nat → Int32)) (v_t_rhymeOf : (Nat → Int32)) (v_t_wordAt : (Nat → Int32)) (x_t_wordMany : Int32) : Nat → (Nat → Int32) → Int32 → Int32 → Int32 → Option ((Nat → Int32) × Int32)
  | 0, _, _, _, _ => none
  | n + 1, v_t_rowNow, x_t_changesNow, l1, l2 =>
    if x_t_wordMany ≤ l2 then
      some (v_t_rowNow, x_t_changesNow)
    else
      sI 48 v_t_rowNow l2 (-2 : Int32) (fun w1 =>
      gI 48 v_t_wordAt l2 (fun g2 =>
      bd1 (f_X12_anyBears v_t_now v_t_rhymeOf g2) (fun r3 =>
      if r3 = 0 then
        f_X12_laysRow_b141 (f_X12_laysRow_b9 v_t_leastFrom v_t_now v_t_rhymeOf v_t_wordAt x_t_wordMany n) w1 x_t_changesNow l1 l2
      else
        f_X12_laysRow_b51 v_t_leastFrom (f_X12_laysRow_b9 v_t_leastFrom v_t_now v_t_rhymeOf v_t_wordAt x_t_wordMany n) FU w1 x_t_changesNow l1 l2 (-1 : Int32) (1000000 : Int32) (0 : Int32))))
def f_X12_laysRow (v_t_leastFrom : (Nat → Int32)) (v_t_now : (Nat → Int32)) (v_t_rhymeOf : (Nat → Int32)) (v_t_rowNow : (Nat → Int32)) (v_t_wordAt : (Nat → Int32)) (x_t_changesNow : Int32) (x_t_wordMany : Int32) : Option ((Nat → Int32) × Int32) :=
  f_X12_laysRow_b9 v_t_leastFrom v_t_now v_t_rhymeOf v_t_wordAt x_t_wordMany FU v_t_rowNow (0 : Int32) (-1 : Int32) (0 : Int32)
set_option maxHeartbeats 4000000 in
set_option maxRecDepth 100000 in
theorem c_X12_laysRow {l : Launch} {D : va_G} {cI cB : ClassId} {A_t A_t_now A_t_aside A_t_kept A_t_rhymeOf A_t_wasRhyme A_t_wordAt A_t_tape A_t_said A_t_waitsAt A_t_saidLetter A_t_saidFrom A_t_saidHalf A_t_saidTo A_t_codes A_t_clauseOf A_t_codeFrom A_t_codeHalf A_t_codeTo A_t_stack A_t_facts A_t_newWords A_t_roundFrom A_t_roundAt A_t_roundTimes A_t_leastFrom A_t_rowNow A_t_bornOf A_t_trainsTo A_t_trainAt : Nat} {x_t_wordMany x_t_taped x_t_place0 x_t_length0 x_t_fault x_t_number0 x_t_open x_t_codeMany x_t_waiting x_t_saidMany x_t_clauses x_t_lines x_t_newMany x_t_rounds x_t_itFrom x_t_itTimes x_t_writtenNow x_t_picturesNow x_t_usedNow x_t_chosen x_t_fearOfChosen x_t_changesNow x_t_left0 x_t_trainMany x_t_leastTries x_t_firstTrained x_t_isKept : Int32} {v_t_leastFrom v_t_now v_t_rhymeOf v_t_rowNow v_t_wordAt : Nat → Int32} {o_x_t_changesNow : Int32} {o_v_t_rowNow : Nat → Int32} (hf : f_X12_laysRow v_t_leastFrom v_t_now v_t_rhymeOf v_t_rowNow v_t_wordAt x_t_changesNow x_t_wordMany = some (o_v_t_rowNow, o_x_t_changesNow)) : CtV l D cI cB yX12_laysRow cX12_laysRow 7 6 131 [.ref A_t] [oX12 A_t A_t_now A_t_aside A_t_kept A_t_rhymeOf A_t_wasRhyme A_t_wordAt x_t_wordMany A_t_tape x_t_taped x_t_place0 x_t_length0 x_t_fault x_t_number0 x_t_open x_t_codeMany x_t_waiting x_t_saidMany x_t_clauses A_t_said A_t_waitsAt A_t_saidLetter A_t_saidFrom A_t_saidHalf A_t_saidTo A_t_codes A_t_clauseOf A_t_codeFrom A_t_codeHalf A_t_codeTo A_t_stack A_t_facts x_t_lines A_t_newWords A_t_roundFrom A_t_roundAt A_t_roundTimes x_t_newMany x_t_rounds x_t_itFrom x_t_itTimes x_t_writtenNow x_t_picturesNow x_t_usedNow x_t_chosen x_t_fearOfChosen A_t_leastFrom A_t_rowNow x_t_changesNow x_t_left0 A_t_bornOf A_t_trainsTo A_t_trainAt x_t_trainMany x_t_leastTries x_t_firstTrained x_t_isKept, iA cI 392 A_t_leastFrom v_t_leastFrom, iA cI 293 A_t_now v_t_now, iA cI 16 A_t_rhymeOf v_t_rhymeOf, iA cI 48 A_t_rowNow v_t_rowNow, iA cI 48 A_t_wordAt v_t_wordAt] [oX12 A_t A_t_now A_t_aside A_t_kept A_t_rhymeOf A_t_wasRhyme A_t_wordAt x_t_wordMany A_t_tape x_t_taped x_t_place0 x_t_length0 x_t_fault x_t_number0 x_t_open x_t_codeMany x_t_waiting x_t_saidMany x_t_clauses A_t_said A_t_waitsAt A_t_saidLetter A_t_saidFrom A_t_saidHalf A_t_saidTo A_t_codes A_t_clauseOf A_t_codeFrom A_t_codeHalf A_t_codeTo A_t_stack A_t_facts x_t_lines A_t_newWords A_t_roundFrom A_t_roundAt A_t_roundTimes x_t_newMany x_t_rounds x_t_itFrom x_t_itTimes x_t_writtenNow x_t_picturesNow x_t_usedNow x_t_chosen x_t_fearOfChosen A_t_leastFrom A_t_rowNow o_x_t_changesNow x_t_left0 A_t_bornOf A_t_trainsTo A_t_trainAt x_t_trainMany x_t_leastTries x_t_firstTrained x_t_isKept, iA cI 392 A_t_leastFrom v_t_leastFrom, iA cI 293 A_t_now v_t_now, iA cI 16 A_t_rhymeOf v_t_rhymeOf, iA cI 48 A_t_rowNow o_v_t_rowNow, iA cI 48 A_t_wordAt v_t_wordAt] := by
  refine x_startV (by decide) (Nat.le_of_ble_eq_true rfl) ?_
  intro p e s m below meth c A C hr hlk hA hK hP hD hS ls hl
  have hl : lv_has ls 7 [(0, .ref A_t)] := hl
  have hx := C.1
  have hb := C.2.1
  unfold f_X12_laysRow at hf
  have hb_9 : ∀ (n_9 : Nat) (v_t_rowNow : (Nat → Int32)) (x_t_changesNow : Int32) (l1 : Int32) (l2 : Int32) (H : Heap) (locs : List Loc) (ls : Array Slot), lv_has ls 7 [(0, .ref A_t), (1, .int l1), (2, .int l2)] → va_P D vwCl [oX12 A_t A_t_now A_t_aside A_t_kept A_t_rhymeOf A_t_wasRhyme A_t_wordAt x_t_wordMany A_t_tape x_t_taped x_t_place0 x_t_length0 x_t_fault x_t_number0 x_t_open x_t_codeMany x_t_waiting x_t_saidMany x_t_clauses A_t_said A_t_waitsAt A_t_saidLetter A_t_saidFrom A_t_saidHalf A_t_saidTo A_t_codes A_t_clauseOf A_t_codeFrom A_t_codeHalf A_t_codeTo A_t_stack A_t_facts x_t_lines A_t_newWords A_t_roundFrom A_t_roundAt A_t_roundTimes x_t_newMany x_t_rounds x_t_itFrom x_t_itTimes x_t_writtenNow x_t_picturesNow x_t_usedNow x_t_chosen x_t_fearOfChosen A_t_leastFrom A_t_rowNow x_t_changesNow x_t_left0 A_t_bornOf A_t_trainsTo A_t_trainAt x_t_trainMany x_t_leastTries x_t_firstTrained x_t_isKept, iA cI 392 A_t_leastFrom v_t_leastFrom, iA cI 293 A_t_now v_t_now, iA cI 16 A_t_rhymeOf v_t_rhymeOf, iA cI 48 A_t_rowNow v_t_rowNow, iA cI 48 A_t_wordAt v_t_wordAt] H → va_D A [oX12 A_t A_t_now A_t_aside A_t_kept A_t_rhymeOf A_t_wasRhyme A_t_wordAt x_t_wordMany A_t_tape x_t_taped x_t_place0 x_t_length0 x_t_fault x_t_number0 x_t_open x_t_codeMany x_t_waiting x_t_saidMany x_t_clauses A_t_said A_t_waitsAt A_t_saidLetter A_t_saidFrom A_t_saidHalf A_t_saidTo A_t_codes A_t_clauseOf A_t_codeFrom A_t_codeHalf A_t_codeTo A_t_stack A_t_facts x_t_lines A_t_newWords A_t_roundFrom A_t_roundAt A_t_roundTimes x_t_newMany x_t_rounds x_t_itFrom x_t_itTimes x_t_writtenNow x_t_picturesNow x_t_usedNow x_t_chosen x_t_fearOfChosen A_t_leastFrom A_t_rowNow x_t_changesNow x_t_left0 A_t_bornOf A_t_trainsTo A_t_trainAt x_t_trainMany x_t_leastTries x_t_firstTrained x_t_isKept, iA cI 392 A_t_leastFrom v_t_leastFrom, iA cI 293 A_t_now v_t_now, iA cI 16 A_t_rhymeOf v_t_rhymeOf, iA cI 48 A_t_rowNow v_t_rowNow, iA cI 48 A_t_wordAt v_t_wordAt] → va_S A s.heap H locs → f_X12_laysRow_b9 v_t_leastFrom v_t_now v_t_rhymeOf v_t_wordAt x_t_wordMany n_9 v_t_rowNow x_t_changesNow l1 l2 = some (o_v_t_rowNow, o_x_t_changesNow) → W p l e { frames := 6, cells := 0, slots := 0, locals := 131 } s m ([.ref A_t] : List Value).toArray below meth c H locs 0 0 (MQ below (PoV D A [oX12 A_t A_t_now A_t_aside A_t_kept A_t_rhymeOf A_t_wasRhyme A_t_wordAt x_t_wordMany A_t_tape x_t_taped x_t_place0 x_t_length0 x_t_fault x_t_number0 x_t_open x_t_codeMany x_t_waiting x_t_saidMany x_t_clauses A_t_said A_t_waitsAt A_t_saidLetter A_t_saidFrom A_t_saidHalf A_t_saidTo A_t_codes A_t_clauseOf A_t_codeFrom A_t_codeHalf A_t_codeTo A_t_stack A_t_facts x_t_lines A_t_newWords A_t_roundFrom A_t_roundAt A_t_roundTimes x_t_newMany x_t_rounds x_t_itFrom x_t_itTimes x_t_writtenNow x_t_picturesNow x_t_usedNow x_t_chosen x_t_fearOfChosen A_t_leastFrom A_t_rowNow o_x_t_changesNow x_t_left0 A_t_bornOf A_t_trainsTo A_t_trainAt x_t_trainMany x_t_leastTries x_t_firstTrained x_t_isKept, iA cI 392 A_t_leastFrom v_t_leastFrom, iA cI 293 A_t_now v_t_now, iA cI 16 A_t_rhymeOf v_t_rhymeOf, iA cI 48 A_t_rowNow o_v_t_rowNow, iA cI 48 A_t_wordAt v_t_wordAt]) ([.ref A_t] : List Value).toArray s 0 0 A) (F0 m 9 ls []) := by
    intro n_9
    induction n_9 with
    | zero =>
      intro v_t_rowNow x_t_changesNow l1 l2 H locs ls hl hP hD hS hf
      exact absurd hf (fun h => by rw [f_X12_laysRow_b9] at h; cases h)
    | succ n_9 ih_9 =>
      have hb_141 : ∀ (v_t_rowNow : (Nat → Int32)) (x_t_changesNow : Int32) (l1 : Int32) (l2 : Int32) (H : Heap) (locs : List Loc) (ls : Array Slot), lv_has ls 7 [(0, .ref A_t), (1, .int l1), (2, .int l2)] → va_P D vwCl [oX12 A_t A_t_now A_t_aside A_t_kept A_t_rhymeOf A_t_wasRhyme A_t_wordAt x_t_wordMany A_t_tape x_t_taped x_t_place0 x_t_length0 x_t_fault x_t_number0 x_t_open x_t_codeMany x_t_waiting x_t_saidMany x_t_clauses A_t_said A_t_waitsAt A_t_saidLetter A_t_saidFrom A_t_saidHalf A_t_saidTo A_t_codes A_t_clauseOf A_t_codeFrom A_t_codeHalf A_t_codeTo A_t_stack A_t_facts x_t_lines A_t_newWords A_t_roundFrom A_t_roundAt A_t_roundTimes x_t_newMany x_t_rounds x_t_itFrom x_t_itTimes x_t_writtenNow x_t_picturesNow x_t_usedNow x_t_chosen x_t_fearOfChosen A_t_leastFrom A_t_rowNow x_t_changesNow x_t_left0 A_t_bornOf A_t_trainsTo A_t_trainAt x_t_trainMany x_t_leastTries x_t_firstTrained x_t_isKept, iA cI 392 A_t_leastFrom v_t_leastFrom, iA cI 293 A_t_now v_t_now, iA cI 16 A_t_rhymeOf v_t_rhymeOf, iA cI 48 A_t_rowNow v_t_rowNow, iA cI 48 A_t_wordAt v_t_wordAt] H → va_D A [oX12 A_t A_t_now A_t_aside A_t_kept A_t_rhymeOf A_t_wasRhyme A_t_wordAt x_t_wordMany A_t_tape x_t_taped x_t_place0 x_t_length0 x_t_fault x_t_number0 x_t_open x_t_codeMany x_t_waiting x_t_saidMany x_t_clauses A_t_said A_t_waitsAt A_t_saidLetter A_t_saidFrom A_t_saidHalf A_t_saidTo A_t_codes A_t_clauseOf A_t_codeFrom A_t_codeHalf A_t_codeTo A_t_stack A_t_facts x_t_lines A_t_newWords A_t_roundFrom A_t_roundAt A_t_roundTimes x_t_newMany x_t_rounds x_t_itFrom x_t_itTimes x_t_writtenNow x_t_picturesNow x_t_usedNow x_t_chosen x_t_fearOfChosen A_t_leastFrom A_t_rowNow x_t_changesNow x_t_left0 A_t_bornOf A_t_trainsTo A_t_trainAt x_t_trainMany x_t_leastTries x_t_firstTrained x_t_isKept, iA cI 392 A_t_leastFrom v_t_leastFrom, iA cI 293 A_t_now v_t_now, iA cI 16 A_t_rhymeOf v_t_rhymeOf, iA cI 48 A_t_rowNow v_t_rowNow, iA cI 48 A_t_wordAt v_t_wordAt] → va_S A s.heap H locs → f_X12_laysRow_b141 (f_X12_laysRow_b9 v_t_leastFrom v_t_now v_t_rhymeOf v_t_wordAt x_t_wordMany n_9) v_t_rowNow x_t_changesNow l1 l2 = some (o_v_t_rowNow, o_x_t_changesNow) → W p l e { frames := 6, cells := 0, slots := 0, locals := 131 } s m ([.ref A_t] : List Value).toArray below meth c H locs 0 0 (MQ below (PoV D A [oX12 A_t A_t_now A_t_aside A_t_kept A_t_rhymeOf A_t_wasRhyme A_t_wordAt x_t_wordMany A_t_tape x_t_taped x_t_place0 x_t_length0 x_t_fault x_t_number0 x_t_open x_t_codeMany x_t_waiting x_t_saidMany x_t_clauses A_t_said A_t_waitsAt A_t_saidLetter A_t_saidFrom A_t_saidHalf A_t_saidTo A_t_codes A_t_clauseOf A_t_codeFrom A_t_codeHalf A_t_codeTo A_t_stack A_t_facts x_t_lines A_t_newWords A_t_roundFrom A_t_roundAt A_t_roundTimes x_t_newMany x_t_rounds x_t_itFrom x_t_itTimes x_t_writtenNow x_t_picturesNow x_t_usedNow x_t_chosen x_t_fearOfChosen A_t_leastFrom A_t_rowNow o_x_t_changesNow x_t_left0 A_t_bornOf A_t_trainsTo A_t_trainAt x_t_trainMany x_t_leastTries x_t_firstTrained x_t_isKept, iA cI 392 A_t_leastFrom v_t_leastFrom, iA cI 293 A_t_now v_t_now, iA cI 16 A_t_rhymeOf v_t_rhymeOf, iA cI 48 A_t_rowNow o_v_t_rowNow, iA cI 48 A_t_wordAt v_t_wordAt]) ([.ref A_t] : List Value).toArray s 0 0 A) (F0 m 141 ls []) := by
        intro v_t_rowNow x_t_changesNow l1 l2 H locs ls hl hP hD hS hf
        unfold f_X12_laysRow_b141 at hf
        refine lv_iinc (v := (l2 + (1 : Int32))) (lv' := [(2, .int (l2 + (1 : Int32))), (0, .ref A_t), (1, .int l1)]) hx hb dX12_laysRow_141 hl (k := 2) rfl rfl (by decide) rfl (fun ls hl => ?_)
        refine lv_goto (tgt := 9) hx hb dX12_laysRow_144 (by decide) ?_
        exact ih_9 v_t_rowNow x_t_changesNow l1 (l2 + (1 : Int32)) _ _ ls (lv_sub hl [1, 2, 0] rfl) hP hD hS hf
      have hb_132 : ∀ (v_t_rowNow : (Nat → Int32)) (x_t_changesNow : Int32) (l2 : Int32) (l3 : Int32) (H : Heap) (locs : List Loc) (ls : Array Slot), lv_has ls 7 [(0, .ref A_t), (2, .int l2), (3, .int l3)] → va_P D vwCl [oX12 A_t A_t_now A_t_aside A_t_kept A_t_rhymeOf A_t_wasRhyme A_t_wordAt x_t_wordMany A_t_tape x_t_taped x_t_place0 x_t_length0 x_t_fault x_t_number0 x_t_open x_t_codeMany x_t_waiting x_t_saidMany x_t_clauses A_t_said A_t_waitsAt A_t_saidLetter A_t_saidFrom A_t_saidHalf A_t_saidTo A_t_codes A_t_clauseOf A_t_codeFrom A_t_codeHalf A_t_codeTo A_t_stack A_t_facts x_t_lines A_t_newWords A_t_roundFrom A_t_roundAt A_t_roundTimes x_t_newMany x_t_rounds x_t_itFrom x_t_itTimes x_t_writtenNow x_t_picturesNow x_t_usedNow x_t_chosen x_t_fearOfChosen A_t_leastFrom A_t_rowNow x_t_changesNow x_t_left0 A_t_bornOf A_t_trainsTo A_t_trainAt x_t_trainMany x_t_leastTries x_t_firstTrained x_t_isKept, iA cI 392 A_t_leastFrom v_t_leastFrom, iA cI 293 A_t_now v_t_now, iA cI 16 A_t_rhymeOf v_t_rhymeOf, iA cI 48 A_t_rowNow v_t_rowNow, iA cI 48 A_t_wordAt v_t_wordAt] H → va_D A [oX12 A_t A_t_now A_t_aside A_t_kept A_t_rhymeOf A_t_wasRhyme A_t_wordAt x_t_wordMany A_t_tape x_t_taped x_t_place0 x_t_length0 x_t_fault x_t_number0 x_t_open x_t_codeMany x_t_waiting x_t_saidMany x_t_clauses A_t_said A_t_waitsAt A_t_saidLetter A_t_saidFrom A_t_saidHalf A_t_saidTo A_t_codes A_t_clauseOf A_t_codeFrom A_t_codeHalf A_t_codeTo A_t_stack A_t_facts x_t_lines A_t_newWords A_t_roundFrom A_t_roundAt A_t_roundTimes x_t_newMany x_t_rounds x_t_itFrom x_t_itTimes x_t_writtenNow x_t_picturesNow x_t_usedNow x_t_chosen x_t_fearOfChosen A_t_leastFrom A_t_rowNow x_t_changesNow x_t_left0 A_t_bornOf A_t_trainsTo A_t_trainAt x_t_trainMany x_t_leastTries x_t_firstTrained x_t_isKept, iA cI 392 A_t_leastFrom v_t_leastFrom, iA cI 293 A_t_now v_t_now, iA cI 16 A_t_rhymeOf v_t_rhymeOf, iA cI 48 A_t_rowNow v_t_rowNow, iA cI 48 A_t_wordAt v_t_wordAt] → va_S A s.heap H locs → f_X12_laysRow_b132 (f_X12_laysRow_b9 v_t_leastFrom v_t_now v_t_rhymeOf v_t_wordAt x_t_wordMany n_9) v_t_rowNow x_t_changesNow l2 l3 = some (o_v_t_rowNow, o_x_t_changesNow) → W p l e { frames := 6, cells := 0, slots := 0, locals := 131 } s m ([.ref A_t] : List Value).toArray below meth c H locs 0 0 (MQ below (PoV D A [oX12 A_t A_t_now A_t_aside A_t_kept A_t_rhymeOf A_t_wasRhyme A_t_wordAt x_t_wordMany A_t_tape x_t_taped x_t_place0 x_t_length0 x_t_fault x_t_number0 x_t_open x_t_codeMany x_t_waiting x_t_saidMany x_t_clauses A_t_said A_t_waitsAt A_t_saidLetter A_t_saidFrom A_t_saidHalf A_t_saidTo A_t_codes A_t_clauseOf A_t_codeFrom A_t_codeHalf A_t_codeTo A_t_stack A_t_facts x_t_lines A_t_newWords A_t_roundFrom A_t_roundAt A_t_roundTimes x_t_newMany x_t_rounds x_t_itFrom x_t_itTimes x_t_writtenNow x_t_picturesNow x_t_usedNow x_t_chosen x_t_fearOfChosen A_t_leastFrom A_t_rowNow o_x_t_changesNow x_t_left0 A_t_bornOf A_t_trainsTo A_t_trainAt x_t_trainMany x_t_leastTries x_t_firstTrained x_t_isKept, iA cI 392 A_t_leastFrom v_t_leastFrom, iA cI 293 A_t_now v_t_now, iA cI 16 A_t_rhymeOf v_t_rhymeOf, iA cI 48 A_t_rowNow o_v_t_rowNow, iA cI 48 A_t_wordAt v_t_wordAt]) ([.ref A_t] : List Value).toArray s 0 0 A) (F0 m 132 ls []) := by
        intro v_t_rowNow x_t_changesNow l2 l3 H locs ls hl hP hD hS hf
        unfold f_X12_laysRow_b132 at hf
        refine lv_aload_n hx hb dX12_laysRow_132 rfl (lv_at hl 0 rfl) ?_
        refine x_get C hK hP fd_X12_86 0 rfl rfl dX12_laysRow_133 ?_
        refine lv_iload_n hx hb dX12_laysRow_136 rfl (lv_at hl 1 rfl) ?_
        refine lv_iload_n hx hb dX12_laysRow_137 rfl (lv_at hl 2 rfl) ?_
        obtain ⟨hi, hf⟩ := sI_e hf
        refine x_iast (ws' := [oX12 A_t A_t_now A_t_aside A_t_kept A_t_rhymeOf A_t_wasRhyme A_t_wordAt x_t_wordMany A_t_tape x_t_taped x_t_place0 x_t_length0 x_t_fault x_t_number0 x_t_open x_t_codeMany x_t_waiting x_t_saidMany x_t_clauses A_t_said A_t_waitsAt A_t_saidLetter A_t_saidFrom A_t_saidHalf A_t_saidTo A_t_codes A_t_clauseOf A_t_codeFrom A_t_codeHalf A_t_codeTo A_t_stack A_t_facts x_t_lines A_t_newWords A_t_roundFrom A_t_roundAt A_t_roundTimes x_t_newMany x_t_rounds x_t_itFrom x_t_itTimes x_t_writtenNow x_t_picturesNow x_t_usedNow x_t_chosen x_t_fearOfChosen A_t_leastFrom A_t_rowNow x_t_changesNow x_t_left0 A_t_bornOf A_t_trainsTo A_t_trainAt x_t_trainMany x_t_leastTries x_t_firstTrained x_t_isKept, iA cI 392 A_t_leastFrom v_t_leastFrom, iA cI 293 A_t_now v_t_now, iA cI 16 A_t_rhymeOf v_t_rhymeOf, iA cI 48 A_t_rowNow (upd v_t_rowNow l2.toNatClampNeg l3), iA cI 48 A_t_wordAt v_t_wordAt]) C hK hP hD hS 4 rfl hi rfl dX12_laysRow_138 ?_
        intro H locs hP hD hS
        refine lv_iload_n hx hb dX12_laysRow_139 rfl (lv_at hl 2 rfl) ?_
        refine lv_istore_n (lv' := [(1, .int l3), (0, .ref A_t), (2, .int l2), (3, .int l3)]) hx hb dX12_laysRow_140 rfl hl (by decide) rfl (fun ls hl => ?_)
        exact hb_141 (upd v_t_rowNow l2.toNatClampNeg l3) x_t_changesNow l3 l2 _ _ ls (lv_sub hl [1, 0, 2] rfl) hP hD hS hf
      have hb_51 : ∀ (n_51 : Nat) (v_t_rowNow : (Nat → Int32)) (x_t_changesNow : Int32) (l1 : Int32) (l2 : Int32) (l3 : Int32) (l4 : Int32) (l5 : Int32) (H : Heap) (locs : List Loc) (ls : Array Slot), lv_has ls 7 [(0, .ref A_t), (1, .int l1), (2, .int l2), (3, .int l3), (4, .int l4), (5, .int l5)] → va_P D vwCl [oX12 A_t A_t_now A_t_aside A_t_kept A_t_rhymeOf A_t_wasRhyme A_t_wordAt x_t_wordMany A_t_tape x_t_taped x_t_place0 x_t_length0 x_t_fault x_t_number0 x_t_open x_t_codeMany x_t_waiting x_t_saidMany x_t_clauses A_t_said A_t_waitsAt A_t_saidLetter A_t_saidFrom A_t_saidHalf A_t_saidTo A_t_codes A_t_clauseOf A_t_codeFrom A_t_codeHalf A_t_codeTo A_t_stack A_t_facts x_t_lines A_t_newWords A_t_roundFrom A_t_roundAt A_t_roundTimes x_t_newMany x_t_rounds x_t_itFrom x_t_itTimes x_t_writtenNow x_t_picturesNow x_t_usedNow x_t_chosen x_t_fearOfChosen A_t_leastFrom A_t_rowNow x_t_changesNow x_t_left0 A_t_bornOf A_t_trainsTo A_t_trainAt x_t_trainMany x_t_leastTries x_t_firstTrained x_t_isKept, iA cI 392 A_t_leastFrom v_t_leastFrom, iA cI 293 A_t_now v_t_now, iA cI 16 A_t_rhymeOf v_t_rhymeOf, iA cI 48 A_t_rowNow v_t_rowNow, iA cI 48 A_t_wordAt v_t_wordAt] H → va_D A [oX12 A_t A_t_now A_t_aside A_t_kept A_t_rhymeOf A_t_wasRhyme A_t_wordAt x_t_wordMany A_t_tape x_t_taped x_t_place0 x_t_length0 x_t_fault x_t_number0 x_t_open x_t_codeMany x_t_waiting x_t_saidMany x_t_clauses A_t_said A_t_waitsAt A_t_saidLetter A_t_saidFrom A_t_saidHalf A_t_saidTo A_t_codes A_t_clauseOf A_t_codeFrom A_t_codeHalf A_t_codeTo A_t_stack A_t_facts x_t_lines A_t_newWords A_t_roundFrom A_t_roundAt A_t_roundTimes x_t_newMany x_t_rounds x_t_itFrom x_t_itTimes x_t_writtenNow x_t_picturesNow x_t_usedNow x_t_chosen x_t_fearOfChosen A_t_leastFrom A_t_rowNow x_t_changesNow x_t_left0 A_t_bornOf A_t_trainsTo A_t_trainAt x_t_trainMany x_t_leastTries x_t_firstTrained x_t_isKept, iA cI 392 A_t_leastFrom v_t_leastFrom, iA cI 293 A_t_now v_t_now, iA cI 16 A_t_rhymeOf v_t_rhymeOf, iA cI 48 A_t_rowNow v_t_rowNow, iA cI 48 A_t_wordAt v_t_wordAt] → va_S A s.heap H locs → f_X12_laysRow_b51 v_t_leastFrom (f_X12_laysRow_b9 v_t_leastFrom v_t_now v_t_rhymeOf v_t_wordAt x_t_wordMany n_9) n_51 v_t_rowNow x_t_changesNow l1 l2 l3 l4 l5 = some (o_v_t_rowNow, o_x_t_changesNow) → W p l e { frames := 6, cells := 0, slots := 0, locals := 131 } s m ([.ref A_t] : List Value).toArray below meth c H locs 0 0 (MQ below (PoV D A [oX12 A_t A_t_now A_t_aside A_t_kept A_t_rhymeOf A_t_wasRhyme A_t_wordAt x_t_wordMany A_t_tape x_t_taped x_t_place0 x_t_length0 x_t_fault x_t_number0 x_t_open x_t_codeMany x_t_waiting x_t_saidMany x_t_clauses A_t_said A_t_waitsAt A_t_saidLetter A_t_saidFrom A_t_saidHalf A_t_saidTo A_t_codes A_t_clauseOf A_t_codeFrom A_t_codeHalf A_t_codeTo A_t_stack A_t_facts x_t_lines A_t_newWords A_t_roundFrom A_t_roundAt A_t_roundTimes x_t_newMany x_t_rounds x_t_itFrom x_t_itTimes x_t_writtenNow x_t_picturesNow x_t_usedNow x_t_chosen x_t_fearOfChosen A_t_leastFrom A_t_rowNow o_x_t_changesNow x_t_left0 A_t_bornOf A_t_trainsTo A_t_trainAt x_t_trainMany x_t_leastTries x_t_firstTrained x_t_isKept, iA cI 392 A_t_leastFrom v_t_leastFrom, iA cI 293 A_t_now v_t_now, iA cI 16 A_t_rhymeOf v_t_rhymeOf, iA cI 48 A_t_rowNow o_v_t_rowNow, iA cI 48 A_t_wordAt v_t_wordAt]) ([.ref A_t] : List Value).toArray s 0 0 A) (F0 m 51 ls []) := by
        intro n_51
        induction n_51 with
        | zero =>
          intro v_t_rowNow x_t_changesNow l1 l2 l3 l4 l5 H locs ls hl hP hD hS hf
          exact absurd hf (fun h => by rw [f_X12_laysRow_b51] at h; cases h)
        | succ n_51 ih_51 =>
          have hb_106 : ∀ (v_t_rowNow : (Nat → Int32)) (x_t_changesNow : Int32) (l1 : Int32) (l2 : Int32) (l3 : Int32) (l4 : Int32) (l5 : Int32) (H : Heap) (locs : List Loc) (ls : Array Slot), lv_has ls 7 [(0, .ref A_t), (1, .int l1), (2, .int l2), (3, .int l3), (4, .int l4), (5, .int l5)] → va_P D vwCl [oX12 A_t A_t_now A_t_aside A_t_kept A_t_rhymeOf A_t_wasRhyme A_t_wordAt x_t_wordMany A_t_tape x_t_taped x_t_place0 x_t_length0 x_t_fault x_t_number0 x_t_open x_t_codeMany x_t_waiting x_t_saidMany x_t_clauses A_t_said A_t_waitsAt A_t_saidLetter A_t_saidFrom A_t_saidHalf A_t_saidTo A_t_codes A_t_clauseOf A_t_codeFrom A_t_codeHalf A_t_codeTo A_t_stack A_t_facts x_t_lines A_t_newWords A_t_roundFrom A_t_roundAt A_t_roundTimes x_t_newMany x_t_rounds x_t_itFrom x_t_itTimes x_t_writtenNow x_t_picturesNow x_t_usedNow x_t_chosen x_t_fearOfChosen A_t_leastFrom A_t_rowNow x_t_changesNow x_t_left0 A_t_bornOf A_t_trainsTo A_t_trainAt x_t_trainMany x_t_leastTries x_t_firstTrained x_t_isKept, iA cI 392 A_t_leastFrom v_t_leastFrom, iA cI 293 A_t_now v_t_now, iA cI 16 A_t_rhymeOf v_t_rhymeOf, iA cI 48 A_t_rowNow v_t_rowNow, iA cI 48 A_t_wordAt v_t_wordAt] H → va_D A [oX12 A_t A_t_now A_t_aside A_t_kept A_t_rhymeOf A_t_wasRhyme A_t_wordAt x_t_wordMany A_t_tape x_t_taped x_t_place0 x_t_length0 x_t_fault x_t_number0 x_t_open x_t_codeMany x_t_waiting x_t_saidMany x_t_clauses A_t_said A_t_waitsAt A_t_saidLetter A_t_saidFrom A_t_saidHalf A_t_saidTo A_t_codes A_t_clauseOf A_t_codeFrom A_t_codeHalf A_t_codeTo A_t_stack A_t_facts x_t_lines A_t_newWords A_t_roundFrom A_t_roundAt A_t_roundTimes x_t_newMany x_t_rounds x_t_itFrom x_t_itTimes x_t_writtenNow x_t_picturesNow x_t_usedNow x_t_chosen x_t_fearOfChosen A_t_leastFrom A_t_rowNow x_t_changesNow x_t_left0 A_t_bornOf A_t_trainsTo A_t_trainAt x_t_trainMany x_t_leastTries x_t_firstTrained x_t_isKept, iA cI 392 A_t_leastFrom v_t_leastFrom, iA cI 293 A_t_now v_t_now, iA cI 16 A_t_rhymeOf v_t_rhymeOf, iA cI 48 A_t_rowNow v_t_rowNow, iA cI 48 A_t_wordAt v_t_wordAt] → va_S A s.heap H locs → f_X12_laysRow_b106 (f_X12_laysRow_b9 v_t_leastFrom v_t_now v_t_rhymeOf v_t_wordAt x_t_wordMany n_9) (f_X12_laysRow_b51 v_t_leastFrom (f_X12_laysRow_b9 v_t_leastFrom v_t_now v_t_rhymeOf v_t_wordAt x_t_wordMany n_9) n_51) v_t_rowNow x_t_changesNow l1 l2 l3 l4 l5 = some (o_v_t_rowNow, o_x_t_changesNow) → W p l e { frames := 6, cells := 0, slots := 0, locals := 131 } s m ([.ref A_t] : List Value).toArray below meth c H locs 0 0 (MQ below (PoV D A [oX12 A_t A_t_now A_t_aside A_t_kept A_t_rhymeOf A_t_wasRhyme A_t_wordAt x_t_wordMany A_t_tape x_t_taped x_t_place0 x_t_length0 x_t_fault x_t_number0 x_t_open x_t_codeMany x_t_waiting x_t_saidMany x_t_clauses A_t_said A_t_waitsAt A_t_saidLetter A_t_saidFrom A_t_saidHalf A_t_saidTo A_t_codes A_t_clauseOf A_t_codeFrom A_t_codeHalf A_t_codeTo A_t_stack A_t_facts x_t_lines A_t_newWords A_t_roundFrom A_t_roundAt A_t_roundTimes x_t_newMany x_t_rounds x_t_itFrom x_t_itTimes x_t_writtenNow x_t_picturesNow x_t_usedNow x_t_chosen x_t_fearOfChosen A_t_leastFrom A_t_rowNow o_x_t_changesNow x_t_left0 A_t_bornOf A_t_trainsTo A_t_trainAt x_t_trainMany x_t_leastTries x_t_firstTrained x_t_isKept, iA cI 392 A_t_leastFrom v_t_leastFrom, iA cI 293 A_t_now v_t_now, iA cI 16 A_t_rhymeOf v_t_rhymeOf, iA cI 48 A_t_rowNow o_v_t_rowNow, iA cI 48 A_t_wordAt v_t_wordAt]) ([.ref A_t] : List Value).toArray s 0 0 A) (F0 m 106 ls []) := by
            intro v_t_rowNow x_t_changesNow l1 l2 l3 l4 l5 H locs ls hl hP hD hS hf
            unfold f_X12_laysRow_b106 at hf
            refine lv_iinc (v := (l5 + (1 : Int32))) (lv' := [(5, .int (l5 + (1 : Int32))), (0, .ref A_t), (1, .int l1), (2, .int l2), (3, .int l3), (4, .int l4)]) hx hb dX12_laysRow_106 hl (k := 5) rfl rfl (by decide) rfl (fun ls hl => ?_)
            refine lv_goto (tgt := 51) hx hb dX12_laysRow_109 (by decide) ?_
            exact ih_51 v_t_rowNow x_t_changesNow l1 l2 l3 l4 (l5 + (1 : Int32)) _ _ ls (lv_sub hl [1, 2, 3, 4, 5, 0] rfl) hP hD hS hf
          have hb_86 : ∀ (v_t_rowNow : (Nat → Int32)) (x_t_changesNow : Int32) (s0 : Int32) (s1 : Int32) (l1 : Int32) (l2 : Int32) (l3 : Int32) (l4 : Int32) (l5 : Int32) (H : Heap) (locs : List Loc) (ls : Array Slot), lv_has ls 7 [(0, .ref A_t), (1, .int l1), (2, .int l2), (3, .int l3), (4, .int l4), (5, .int l5)] → va_P D vwCl [oX12 A_t A_t_now A_t_aside A_t_kept A_t_rhymeOf A_t_wasRhyme A_t_wordAt x_t_wordMany A_t_tape x_t_taped x_t_place0 x_t_length0 x_t_fault x_t_number0 x_t_open x_t_codeMany x_t_waiting x_t_saidMany x_t_clauses A_t_said A_t_waitsAt A_t_saidLetter A_t_saidFrom A_t_saidHalf A_t_saidTo A_t_codes A_t_clauseOf A_t_codeFrom A_t_codeHalf A_t_codeTo A_t_stack A_t_facts x_t_lines A_t_newWords A_t_roundFrom A_t_roundAt A_t_roundTimes x_t_newMany x_t_rounds x_t_itFrom x_t_itTimes x_t_writtenNow x_t_picturesNow x_t_usedNow x_t_chosen x_t_fearOfChosen A_t_leastFrom A_t_rowNow x_t_changesNow x_t_left0 A_t_bornOf A_t_trainsTo A_t_trainAt x_t_trainMany x_t_leastTries x_t_firstTrained x_t_isKept, iA cI 392 A_t_leastFrom v_t_leastFrom, iA cI 293 A_t_now v_t_now, iA cI 16 A_t_rhymeOf v_t_rhymeOf, iA cI 48 A_t_rowNow v_t_rowNow, iA cI 48 A_t_wordAt v_t_wordAt] H → va_D A [oX12 A_t A_t_now A_t_aside A_t_kept A_t_rhymeOf A_t_wasRhyme A_t_wordAt x_t_wordMany A_t_tape x_t_taped x_t_place0 x_t_length0 x_t_fault x_t_number0 x_t_open x_t_codeMany x_t_waiting x_t_saidMany x_t_clauses A_t_said A_t_waitsAt A_t_saidLetter A_t_saidFrom A_t_saidHalf A_t_saidTo A_t_codes A_t_clauseOf A_t_codeFrom A_t_codeHalf A_t_codeTo A_t_stack A_t_facts x_t_lines A_t_newWords A_t_roundFrom A_t_roundAt A_t_roundTimes x_t_newMany x_t_rounds x_t_itFrom x_t_itTimes x_t_writtenNow x_t_picturesNow x_t_usedNow x_t_chosen x_t_fearOfChosen A_t_leastFrom A_t_rowNow x_t_changesNow x_t_left0 A_t_bornOf A_t_trainsTo A_t_trainAt x_t_trainMany x_t_leastTries x_t_firstTrained x_t_isKept, iA cI 392 A_t_leastFrom v_t_leastFrom, iA cI 293 A_t_now v_t_now, iA cI 16 A_t_rhymeOf v_t_rhymeOf, iA cI 48 A_t_rowNow v_t_rowNow, iA cI 48 A_t_wordAt v_t_wordAt] → va_S A s.heap H locs → f_X12_laysRow_b86 (f_X12_laysRow_b9 v_t_leastFrom v_t_now v_t_rhymeOf v_t_wordAt x_t_wordMany n_9) (f_X12_laysRow_b51 v_t_leastFrom (f_X12_laysRow_b9 v_t_leastFrom v_t_now v_t_rhymeOf v_t_wordAt x_t_wordMany n_9) n_51) v_t_rowNow x_t_changesNow s0 s1 l1 l2 l3 l4 l5 = some (o_v_t_rowNow, o_x_t_changesNow) → W p l e { frames := 6, cells := 0, slots := 0, locals := 131 } s m ([.ref A_t] : List Value).toArray below meth c H locs 0 0 (MQ below (PoV D A [oX12 A_t A_t_now A_t_aside A_t_kept A_t_rhymeOf A_t_wasRhyme A_t_wordAt x_t_wordMany A_t_tape x_t_taped x_t_place0 x_t_length0 x_t_fault x_t_number0 x_t_open x_t_codeMany x_t_waiting x_t_saidMany x_t_clauses A_t_said A_t_waitsAt A_t_saidLetter A_t_saidFrom A_t_saidHalf A_t_saidTo A_t_codes A_t_clauseOf A_t_codeFrom A_t_codeHalf A_t_codeTo A_t_stack A_t_facts x_t_lines A_t_newWords A_t_roundFrom A_t_roundAt A_t_roundTimes x_t_newMany x_t_rounds x_t_itFrom x_t_itTimes x_t_writtenNow x_t_picturesNow x_t_usedNow x_t_chosen x_t_fearOfChosen A_t_leastFrom A_t_rowNow o_x_t_changesNow x_t_left0 A_t_bornOf A_t_trainsTo A_t_trainAt x_t_trainMany x_t_leastTries x_t_firstTrained x_t_isKept, iA cI 392 A_t_leastFrom v_t_leastFrom, iA cI 293 A_t_now v_t_now, iA cI 16 A_t_rhymeOf v_t_rhymeOf, iA cI 48 A_t_rowNow o_v_t_rowNow, iA cI 48 A_t_wordAt v_t_wordAt]) ([.ref A_t] : List Value).toArray s 0 0 A) (F0 m 86 ls [.int s1, .int s0]) := by
            intro v_t_rowNow x_t_changesNow s0 s1 l1 l2 l3 l4 l5 H locs ls hl hP hD hS hf
            unfold f_X12_laysRow_b86 at hf
            refine lv_iadd hx hb dX12_laysRow_86 ?_
            refine lv_istore (lv' := [(6, .int (s0 + s1)), (0, .ref A_t), (1, .int l1), (2, .int l2), (3, .int l3), (4, .int l4), (5, .int l5)]) hx hb dX12_laysRow_87 hl (by decide) rfl (fun ls hl => ?_)
            refine lv_iload hx hb dX12_laysRow_89 (lv_at hl 0 rfl) ?_
            refine lv_iload hx hb dX12_laysRow_91 (lv_at hl 5 rfl) ?_
            refine lv_icmp_lt (tgt := 99) hx hb dX12_laysRow_93 (by decide) (fun q => ?_) (fun q => ?_)
            · have hf := if_t q hf
              refine lv_iload hx hb dX12_laysRow_99 (lv_at hl 0 rfl) ?_
              refine lv_istore (lv' := [(4, .int (s0 + s1)), (6, .int (s0 + s1)), (0, .ref A_t), (1, .int l1), (2, .int l2), (3, .int l3), (5, .int l5)]) hx hb dX12_laysRow_101 hl (by decide) rfl (fun ls hl => ?_)
              refine lv_iload hx hb dX12_laysRow_103 (lv_at hl 6 rfl) ?_
              refine lv_istore_n (lv' := [(3, .int l5), (4, .int (s0 + s1)), (6, .int (s0 + s1)), (0, .ref A_t), (1, .int l1), (2, .int l2), (5, .int l5)]) hx hb dX12_laysRow_105 rfl hl (by decide) rfl (fun ls hl => ?_)
              exact hb_106 v_t_rowNow x_t_changesNow l1 l2 l5 (s0 + s1) l5 _ _ ls (lv_sub hl [3, 4, 5, 0, 1, 6] rfl) hP hD hS hf
            · have hf := if_f q hf
              refine lv_goto (tgt := 106) hx hb dX12_laysRow_96 (by decide) ?_
              exact hb_106 v_t_rowNow x_t_changesNow l1 l2 l3 l4 l5 _ _ ls (lv_sub hl [1, 2, 3, 4, 5, 6] rfl) hP hD hS hf
          have hb_81 : ∀ (v_t_rowNow : (Nat → Int32)) (x_t_changesNow : Int32) (s0 : Int32) (l1 : Int32) (l2 : Int32) (l3 : Int32) (l4 : Int32) (l5 : Int32) (H : Heap) (locs : List Loc) (ls : Array Slot), lv_has ls 7 [(0, .ref A_t), (1, .int l1), (2, .int l2), (3, .int l3), (4, .int l4), (5, .int l5)] → va_P D vwCl [oX12 A_t A_t_now A_t_aside A_t_kept A_t_rhymeOf A_t_wasRhyme A_t_wordAt x_t_wordMany A_t_tape x_t_taped x_t_place0 x_t_length0 x_t_fault x_t_number0 x_t_open x_t_codeMany x_t_waiting x_t_saidMany x_t_clauses A_t_said A_t_waitsAt A_t_saidLetter A_t_saidFrom A_t_saidHalf A_t_saidTo A_t_codes A_t_clauseOf A_t_codeFrom A_t_codeHalf A_t_codeTo A_t_stack A_t_facts x_t_lines A_t_newWords A_t_roundFrom A_t_roundAt A_t_roundTimes x_t_newMany x_t_rounds x_t_itFrom x_t_itTimes x_t_writtenNow x_t_picturesNow x_t_usedNow x_t_chosen x_t_fearOfChosen A_t_leastFrom A_t_rowNow x_t_changesNow x_t_left0 A_t_bornOf A_t_trainsTo A_t_trainAt x_t_trainMany x_t_leastTries x_t_firstTrained x_t_isKept, iA cI 392 A_t_leastFrom v_t_leastFrom, iA cI 293 A_t_now v_t_now, iA cI 16 A_t_rhymeOf v_t_rhymeOf, iA cI 48 A_t_rowNow v_t_rowNow, iA cI 48 A_t_wordAt v_t_wordAt] H → va_D A [oX12 A_t A_t_now A_t_aside A_t_kept A_t_rhymeOf A_t_wasRhyme A_t_wordAt x_t_wordMany A_t_tape x_t_taped x_t_place0 x_t_length0 x_t_fault x_t_number0 x_t_open x_t_codeMany x_t_waiting x_t_saidMany x_t_clauses A_t_said A_t_waitsAt A_t_saidLetter A_t_saidFrom A_t_saidHalf A_t_saidTo A_t_codes A_t_clauseOf A_t_codeFrom A_t_codeHalf A_t_codeTo A_t_stack A_t_facts x_t_lines A_t_newWords A_t_roundFrom A_t_roundAt A_t_roundTimes x_t_newMany x_t_rounds x_t_itFrom x_t_itTimes x_t_writtenNow x_t_picturesNow x_t_usedNow x_t_chosen x_t_fearOfChosen A_t_leastFrom A_t_rowNow x_t_changesNow x_t_left0 A_t_bornOf A_t_trainsTo A_t_trainAt x_t_trainMany x_t_leastTries x_t_firstTrained x_t_isKept, iA cI 392 A_t_leastFrom v_t_leastFrom, iA cI 293 A_t_now v_t_now, iA cI 16 A_t_rhymeOf v_t_rhymeOf, iA cI 48 A_t_rowNow v_t_rowNow, iA cI 48 A_t_wordAt v_t_wordAt] → va_S A s.heap H locs → f_X12_laysRow_b81 (f_X12_laysRow_b9 v_t_leastFrom v_t_now v_t_rhymeOf v_t_wordAt x_t_wordMany n_9) (f_X12_laysRow_b51 v_t_leastFrom (f_X12_laysRow_b9 v_t_leastFrom v_t_now v_t_rhymeOf v_t_wordAt x_t_wordMany n_9) n_51) v_t_rowNow x_t_changesNow s0 l1 l2 l3 l4 l5 = some (o_v_t_rowNow, o_x_t_changesNow) → W p l e { frames := 6, cells := 0, slots := 0, locals := 131 } s m ([.ref A_t] : List Value).toArray below meth c H locs 0 0 (MQ below (PoV D A [oX12 A_t A_t_now A_t_aside A_t_kept A_t_rhymeOf A_t_wasRhyme A_t_wordAt x_t_wordMany A_t_tape x_t_taped x_t_place0 x_t_length0 x_t_fault x_t_number0 x_t_open x_t_codeMany x_t_waiting x_t_saidMany x_t_clauses A_t_said A_t_waitsAt A_t_saidLetter A_t_saidFrom A_t_saidHalf A_t_saidTo A_t_codes A_t_clauseOf A_t_codeFrom A_t_codeHalf A_t_codeTo A_t_stack A_t_facts x_t_lines A_t_newWords A_t_roundFrom A_t_roundAt A_t_roundTimes x_t_newMany x_t_rounds x_t_itFrom x_t_itTimes x_t_writtenNow x_t_picturesNow x_t_usedNow x_t_chosen x_t_fearOfChosen A_t_leastFrom A_t_rowNow o_x_t_changesNow x_t_left0 A_t_bornOf A_t_trainsTo A_t_trainAt x_t_trainMany x_t_leastTries x_t_firstTrained x_t_isKept, iA cI 392 A_t_leastFrom v_t_leastFrom, iA cI 293 A_t_now v_t_now, iA cI 16 A_t_rhymeOf v_t_rhymeOf, iA cI 48 A_t_rowNow o_v_t_rowNow, iA cI 48 A_t_wordAt v_t_wordAt]) ([.ref A_t] : List Value).toArray s 0 0 A) (F0 m 81 ls [.int s0]) := by
            intro v_t_rowNow x_t_changesNow s0 l1 l2 l3 l4 l5 H locs ls hl hP hD hS hf
            unfold f_X12_laysRow_b81 at hf
            refine lv_iconst (v := 0) hx hb dX12_laysRow_81 (by decide) ?_
            refine lv_goto (tgt := 86) hx hb dX12_laysRow_82 (by decide) ?_
            exact hb_86 v_t_rowNow x_t_changesNow s0 (0 : Int32) l1 l2 l3 l4 l5 _ _ ls (lv_sub hl [0, 1, 2, 3, 4, 5] rfl) hP hD hS hf
          intro v_t_rowNow x_t_changesNow l1 l2 l3 l4 l5 H locs ls hl hP hD hS hf
          rw [f_X12_laysRow_b51] at hf
          refine lv_iload hx hb dX12_laysRow_51 (lv_at hl 5 rfl) ?_
          refine lv_bipush (v := 8) hx hb dX12_laysRow_53 (by decide) ?_
          refine lv_icmp_ge (tgt := 112) hx hb dX12_laysRow_55 (by decide) (fun q => ?_) (fun q => ?_)
          · have hf := if_t q hf
            refine lv_iload_n hx hb dX12_laysRow_112 rfl (lv_at hl 1 rfl) ?_
            refine lv_iconst (v := -1) hx hb dX12_laysRow_113 (by decide) ?_
            refine lv_icmp_eq (tgt := 132) hx hb dX12_laysRow_114 (by decide) (fun q => ?_) (fun q => ?_)
            · have hf := if_t q hf
              exact hb_132 v_t_rowNow x_t_changesNow l2 l3 _ _ ls (lv_sub hl [0, 2, 3] rfl) hP hD hS hf
            · have hf := if_f q hf
              refine lv_iload_n hx hb dX12_laysRow_117 rfl (lv_at hl 3 rfl) ?_
              refine lv_iload_n hx hb dX12_laysRow_118 rfl (lv_at hl 1 rfl) ?_
              refine lv_icmp_eq (tgt := 132) hx hb dX12_laysRow_119 (by decide) (fun q => ?_) (fun q => ?_)
              · have hf := if_t q hf
                exact hb_132 v_t_rowNow x_t_changesNow l2 l3 _ _ ls (lv_sub hl [0, 2, 3] rfl) hP hD hS hf
              · have hf := if_f q hf
                refine lv_aload_n hx hb dX12_laysRow_122 rfl (lv_at hl 0 rfl) ?_
                refine lv_aload_n hx hb dX12_laysRow_123 rfl (lv_at hl 0 rfl) ?_
                refine x_get C hK hP fd_X12_363 0 rfl rfl dX12_laysRow_124 ?_
                refine lv_iconst (v := 1) hx hb dX12_laysRow_127 (by decide) ?_
                refine lv_iadd hx hb dX12_laysRow_128 ?_
                refine x_put (ws' := [oX12 A_t A_t_now A_t_aside A_t_kept A_t_rhymeOf A_t_wasRhyme A_t_wordAt x_t_wordMany A_t_tape x_t_taped x_t_place0 x_t_length0 x_t_fault x_t_number0 x_t_open x_t_codeMany x_t_waiting x_t_saidMany x_t_clauses A_t_said A_t_waitsAt A_t_saidLetter A_t_saidFrom A_t_saidHalf A_t_saidTo A_t_codes A_t_clauseOf A_t_codeFrom A_t_codeHalf A_t_codeTo A_t_stack A_t_facts x_t_lines A_t_newWords A_t_roundFrom A_t_roundAt A_t_roundTimes x_t_newMany x_t_rounds x_t_itFrom x_t_itTimes x_t_writtenNow x_t_picturesNow x_t_usedNow x_t_chosen x_t_fearOfChosen A_t_leastFrom A_t_rowNow (x_t_changesNow + (1 : Int32)) x_t_left0 A_t_bornOf A_t_trainsTo A_t_trainAt x_t_trainMany x_t_leastTries x_t_firstTrained x_t_isKept, iA cI 392 A_t_leastFrom v_t_leastFrom, iA cI 293 A_t_now v_t_now, iA cI 16 A_t_rhymeOf v_t_rhymeOf, iA cI 48 A_t_rowNow v_t_rowNow, iA cI 48 A_t_wordAt v_t_wordAt]) C hK hP hD hS fp_X12_363 0 rfl rfl rfl (Nat.le_of_ble_eq_true rfl) rfl dX12_laysRow_129 ?_
                intro H locs hP hD hS
                exact hb_132 v_t_rowNow (x_t_changesNow + (1 : Int32)) l2 l3 _ _ ls (lv_sub hl [0, 2, 3] rfl) hP hD hS hf
          · have hf := if_f q hf
            refine lv_aload_n hx hb dX12_laysRow_58 rfl (lv_at hl 0 rfl) ?_
            refine x_get C hK hP fd_X12_83 0 rfl rfl dX12_laysRow_59 ?_
            refine lv_bipush (v := 8) hx hb dX12_laysRow_62 (by decide) ?_
            refine lv_iload_n hx hb dX12_laysRow_64 rfl (lv_at hl 2 rfl) ?_
            refine lv_imul hx hb dX12_laysRow_65 ?_
            refine lv_iload hx hb dX12_laysRow_66 (lv_at hl 5 rfl) ?_
            refine lv_iadd hx hb dX12_laysRow_68 ?_
            obtain ⟨hi, hf⟩ := gI_e hf
            refine x_iald C hK hP 1 rfl hi dX12_laysRow_69 ?_
            refine lv_iload_n hx hb dX12_laysRow_70 rfl (lv_at hl 1 rfl) ?_
            refine lv_iconst (v := -1) hx hb dX12_laysRow_71 (by decide) ?_
            refine lv_icmp_eq (tgt := 81) hx hb dX12_laysRow_72 (by decide) (fun q => ?_) (fun q => ?_)
            · have hf := if_t q hf
              exact hb_81 v_t_rowNow x_t_changesNow (v_t_leastFrom (((8 : Int32) * l2) + l5).toNatClampNeg) l1 l2 l3 l4 l5 _ _ ls (lv_sub hl [0, 1, 2, 3, 4, 5] rfl) hP hD hS hf
            · have hf := if_f q hf
              refine lv_iload_n hx hb dX12_laysRow_75 rfl (lv_at hl 1 rfl) ?_
              refine lv_iload hx hb dX12_laysRow_76 (lv_at hl 5 rfl) ?_
              refine lv_icmp_ne (tgt := 85) hx hb dX12_laysRow_78 (by decide) (fun q => ?_) (fun q => ?_)
              · have hf := if_f q hf
                refine lv_iconst (v := 1) hx hb dX12_laysRow_85 (by decide) ?_
                exact hb_86 v_t_rowNow x_t_changesNow (v_t_leastFrom (((8 : Int32) * l2) + l5).toNatClampNeg) (1 : Int32) l1 l2 l3 l4 l5 _ _ ls (lv_sub hl [0, 1, 2, 3, 4, 5] rfl) hP hD hS hf
              · have hf := if_t q hf
                exact hb_81 v_t_rowNow x_t_changesNow (v_t_leastFrom (((8 : Int32) * l2) + l5).toNatClampNeg) l1 l2 l3 l4 l5 _ _ ls (lv_sub hl [0, 1, 2, 3, 4, 5] rfl) hP hD hS hf
      intro v_t_rowNow x_t_changesNow l1 l2 H locs ls hl hP hD hS hf
      rw [f_X12_laysRow_b9] at hf
      refine lv_iload_n hx hb dX12_laysRow_9 rfl (lv_at hl 2 rfl) ?_
      refine lv_aload_n hx hb dX12_laysRow_10 rfl (lv_at hl 0 rfl) ?_
      refine x_get C hK hP fd_X12_300 0 rfl rfl dX12_laysRow_11 ?_
      refine lv_icmp_ge (tgt := 147) hx hb dX12_laysRow_14 (by decide) (fun q => ?_) (fun q => ?_)
      · have hf := if_t q hf
        obtain ⟨rfl, rfl⟩ := ev2 hf
        exact x_vret C hr hlk hP hD hS dX12_laysRow_147
      · have hf := if_f q hf
        refine lv_aload_n hx hb dX12_laysRow_17 rfl (lv_at hl 0 rfl) ?_
        refine x_get C hK hP fd_X12_86 0 rfl rfl dX12_laysRow_18 ?_
        refine lv_iload_n hx hb dX12_laysRow_21 rfl (lv_at hl 2 rfl) ?_
        refine lv_bipush (v := -2) hx hb dX12_laysRow_22 (by decide) ?_
        obtain ⟨hi, hf⟩ := sI_e hf
        refine x_iast (ws' := [oX12 A_t A_t_now A_t_aside A_t_kept A_t_rhymeOf A_t_wasRhyme A_t_wordAt x_t_wordMany A_t_tape x_t_taped x_t_place0 x_t_length0 x_t_fault x_t_number0 x_t_open x_t_codeMany x_t_waiting x_t_saidMany x_t_clauses A_t_said A_t_waitsAt A_t_saidLetter A_t_saidFrom A_t_saidHalf A_t_saidTo A_t_codes A_t_clauseOf A_t_codeFrom A_t_codeHalf A_t_codeTo A_t_stack A_t_facts x_t_lines A_t_newWords A_t_roundFrom A_t_roundAt A_t_roundTimes x_t_newMany x_t_rounds x_t_itFrom x_t_itTimes x_t_writtenNow x_t_picturesNow x_t_usedNow x_t_chosen x_t_fearOfChosen A_t_leastFrom A_t_rowNow x_t_changesNow x_t_left0 A_t_bornOf A_t_trainsTo A_t_trainAt x_t_trainMany x_t_leastTries x_t_firstTrained x_t_isKept, iA cI 392 A_t_leastFrom v_t_leastFrom, iA cI 293 A_t_now v_t_now, iA cI 16 A_t_rhymeOf v_t_rhymeOf, iA cI 48 A_t_rowNow (upd v_t_rowNow l2.toNatClampNeg (-2 : Int32)), iA cI 48 A_t_wordAt v_t_wordAt]) C hK hP hD hS 4 rfl hi rfl dX12_laysRow_24 ?_
        intro H locs hP hD hS
        refine lv_aload_n hx hb dX12_laysRow_25 rfl (lv_at hl 0 rfl) ?_
        refine lv_aload_n hx hb dX12_laysRow_26 rfl (lv_at hl 0 rfl) ?_
        refine x_get C hK hP fd_X12_25 0 rfl rfl dX12_laysRow_27 ?_
        refine lv_iload_n hx hb dX12_laysRow_30 rfl (lv_at hl 2 rfl) ?_
        obtain ⟨hi, hf⟩ := gI_e hf
        refine x_iald C hK hP 5 rfl hi dX12_laysRow_31 ?_
        obtain ⟨r1, hc2, hf⟩ := bd1_e hf
        refine x_callVI (ws' := [oX12 A_t A_t_now A_t_aside A_t_kept A_t_rhymeOf A_t_wasRhyme A_t_wordAt x_t_wordMany A_t_tape x_t_taped x_t_place0 x_t_length0 x_t_fault x_t_number0 x_t_open x_t_codeMany x_t_waiting x_t_saidMany x_t_clauses A_t_said A_t_waitsAt A_t_saidLetter A_t_saidFrom A_t_saidHalf A_t_saidTo A_t_codes A_t_clauseOf A_t_codeFrom A_t_codeHalf A_t_codeTo A_t_stack A_t_facts x_t_lines A_t_newWords A_t_roundFrom A_t_roundAt A_t_roundTimes x_t_newMany x_t_rounds x_t_itFrom x_t_itTimes x_t_writtenNow x_t_picturesNow x_t_usedNow x_t_chosen x_t_fearOfChosen A_t_leastFrom A_t_rowNow x_t_changesNow x_t_left0 A_t_bornOf A_t_trainsTo A_t_trainAt x_t_trainMany x_t_leastTries x_t_firstTrained x_t_isKept, iA cI 392 A_t_leastFrom v_t_leastFrom, iA cI 293 A_t_now v_t_now, iA cI 16 A_t_rhymeOf v_t_rhymeOf, iA cI 48 A_t_rowNow (upd v_t_rowNow l2.toNatClampNeg (-2 : Int32)), iA cI 48 A_t_wordAt v_t_wordAt]) (rest := []) C hK hP hD hS hA hl mf_X12_357 (c_X12_anyBears hc2) [0, 2, 3] 0 12 rfl rfl rfl rfl rfl rfl rfl rfl rfl rfl (Nat.le_of_ble_eq_true rfl) ⟨Nat.le_of_ble_eq_true rfl, Nat.le_of_ble_eq_true rfl⟩ ⟨Nat.le_refl _, Nat.le_refl _⟩ dX12_laysRow_32 ?_
        intro H locs hP hD hS
        refine lv_if_ne (tgt := 41) hx hb dX12_laysRow_35 (by decide) (fun q => ?_) (fun q => ?_)
        · have hf := if_f q hf
          refine lv_iconst (v := -1) hx hb dX12_laysRow_41 (by decide) ?_
          refine lv_istore_n (lv' := [(3, .int (-1 : Int32)), (0, .ref A_t), (1, .int l1), (2, .int l2)]) hx hb dX12_laysRow_42 rfl hl (by decide) rfl (fun ls hl => ?_)
          refine x_ldcw C kc_X12_306 dX12_laysRow_43 ?_
          refine lv_istore (lv' := [(4, .int (1000000 : Int32)), (3, .int (-1 : Int32)), (0, .ref A_t), (1, .int l1), (2, .int l2)]) hx hb dX12_laysRow_46 hl (by decide) rfl (fun ls hl => ?_)
          refine lv_iconst (v := 0) hx hb dX12_laysRow_48 (by decide) ?_
          refine lv_istore (lv' := [(5, .int (0 : Int32)), (4, .int (1000000 : Int32)), (3, .int (-1 : Int32)), (0, .ref A_t), (1, .int l1), (2, .int l2)]) hx hb dX12_laysRow_49 hl (by decide) rfl (fun ls hl => ?_)
          exact hb_51 FU (upd v_t_rowNow l2.toNatClampNeg (-2 : Int32)) x_t_changesNow l1 l2 (-1 : Int32) (1000000 : Int32) (0 : Int32) _ _ ls (lv_sub hl [3, 4, 5, 2, 1, 0] rfl) hP hD hS hf
        · have hf := if_t q hf
          refine lv_goto (tgt := 141) hx hb dX12_laysRow_38 (by decide) ?_
          exact hb_141 (upd v_t_rowNow l2.toNatClampNeg (-2 : Int32)) x_t_changesNow l1 l2 _ _ ls (lv_sub hl [0, 1, 2] rfl) hP hD hS hf
  refine lv_iconst (v := -1) hx hb dX12_laysRow_0 (by decide) ?_
  refine lv_istore_n (lv' := [(1, .int (-1 : Int32)), (0, .ref A_t)]) hx hb dX12_laysRow_1 rfl hl (by decide) rfl (fun ls hl => ?_)
  refine lv_aload_n hx hb dX12_laysRow_2 rfl (lv_at hl 1 rfl) ?_
  refine lv_iconst (v := 0) hx hb dX12_laysRow_3 (by decide) ?_
  refine x_put (ws' := [oX12 A_t A_t_now A_t_aside A_t_kept A_t_rhymeOf A_t_wasRhyme A_t_wordAt x_t_wordMany A_t_tape x_t_taped x_t_place0 x_t_length0 x_t_fault x_t_number0 x_t_open x_t_codeMany x_t_waiting x_t_saidMany x_t_clauses A_t_said A_t_waitsAt A_t_saidLetter A_t_saidFrom A_t_saidHalf A_t_saidTo A_t_codes A_t_clauseOf A_t_codeFrom A_t_codeHalf A_t_codeTo A_t_stack A_t_facts x_t_lines A_t_newWords A_t_roundFrom A_t_roundAt A_t_roundTimes x_t_newMany x_t_rounds x_t_itFrom x_t_itTimes x_t_writtenNow x_t_picturesNow x_t_usedNow x_t_chosen x_t_fearOfChosen A_t_leastFrom A_t_rowNow (0 : Int32) x_t_left0 A_t_bornOf A_t_trainsTo A_t_trainAt x_t_trainMany x_t_leastTries x_t_firstTrained x_t_isKept, iA cI 392 A_t_leastFrom v_t_leastFrom, iA cI 293 A_t_now v_t_now, iA cI 16 A_t_rhymeOf v_t_rhymeOf, iA cI 48 A_t_rowNow v_t_rowNow, iA cI 48 A_t_wordAt v_t_wordAt]) C hK hP hD hS fp_X12_363 0 rfl rfl rfl (Nat.le_of_ble_eq_true rfl) rfl dX12_laysRow_4 ?_
  intro H locs hP hD hS
  refine lv_iconst (v := 0) hx hb dX12_laysRow_7 (by decide) ?_
  refine lv_istore_n (lv' := [(2, .int (0 : Int32)), (1, .int (-1 : Int32)), (0, .ref A_t)]) hx hb dX12_laysRow_8 rfl hl (by decide) rfl (fun ls hl => ?_)
  exact hb_9 FU v_t_rowNow (0 : Int32) (-1 : Int32) (0 : Int32) _ _ ls (lv_sub hl [2, 1, 0] rfl) hP hD hS hf
def f_X12_changes_b80 (v_t_leastFrom : (Nat → Int32)) (v_t_rowNow : (Nat → Int32)) (x_t_changesNow : Int32) (x_t_left0 : Int32) (s0 : Int32) : Option (Int32 × (Nat → Int32) × (Nat → Int32) × Int32 × Int32) :=
  some (s0, v_t_leastFrom, v_t_rowNow, x_t_changesNow, x_t_left0)
def f_X12_changes_b40 (v_t_now : (Nat → Int32)) (v_t_rhymeOf : (Nat → Int32)) (v_t_wordAt : (Nat → Int32)) (x_t_wordMany : Int32) (a1 : Int32) (v_t_leastFrom : (Nat → Int32)) (v_t_rowNow : (Nat → Int32)) (x_t_changesNow : Int32) (x_t_left0 : Int32) : Option (Int32 × (Nat → Int32) × (Nat → Int32) × Int32 × Int32) :=
  bd2 (f_X12_laysChanges v_t_leastFrom v_t_now v_t_rhymeOf v_t_wordAt x_t_left0 x_t_wordMany) (fun w1 w2 =>
  bd2 (f_X12_laysRow w1 v_t_now v_t_rhymeOf v_t_rowNow v_t_wordAt x_t_changesNow x_t_wordMany) (fun w3 w4 =>
  if a1 = (100 : Int32) then
    f_X12_changes_b80 w1 w3 w4 w2 w4
  else
    if a1 = (101 : Int32) then
      f_X12_changes_b80 w1 w3 w4 w2 w2
    else
      gI 48 w3 a1 (fun g5 =>
      f_X12_changes_b80 w1 w3 w4 w2 g5)))
def f_X12_changes_b23 (v_t_now : (Nat → Int32)) (v_t_rhymeOf : (Nat → Int32)) (v_t_wordAt : (Nat → Int32)) (x_t_wordMany : Int32) (a1 : Int32) (v_t_leastFrom : (Nat → Int32)) (v_t_rowNow : (Nat → Int32)) (x_t_changesNow : Int32) (x_t_left0 : Int32) : Option (Int32 × (Nat → Int32) × (Nat → Int32) × Int32 × Int32) :=
  if (100 : Int32) ≤ a1 then
    f_X12_changes_b40 v_t_now v_t_rhymeOf v_t_wordAt x_t_wordMany a1 v_t_leastFrom v_t_rowNow x_t_changesNow x_t_left0
  else
    if a1 < x_t_wordMany then
      f_X12_changes_b40 v_t_now v_t_rhymeOf v_t_wordAt x_t_wordMany a1 v_t_leastFrom v_t_rowNow x_t_changesNow x_t_left0
    else
      some ((-4 : Int32), v_t_leastFrom, v_t_rowNow, x_t_changesNow, x_t_left0)
def f_X12_changes (v_t_leastFrom : (Nat → Int32)) (v_t_now : (Nat → Int32)) (v_t_rhymeOf : (Nat → Int32)) (v_t_rowNow : (Nat → Int32)) (v_t_wordAt : (Nat → Int32)) (x_t_changesNow : Int32) (x_t_left0 : Int32) (x_t_wordMany : Int32) (a1 : Int32) : Option (Int32 × (Nat → Int32) × (Nat → Int32) × Int32 × Int32) :=
  bd1 (f_X12_in a1 (100 : Int32) (101 : Int32)) (fun r1 =>
  if r1 = 0 then
    bd1 (f_X12_in a1 (0 : Int32) (47 : Int32)) (fun r2 =>
    if r2 = 0 then
      some ((-1 : Int32), v_t_leastFrom, v_t_rowNow, x_t_changesNow, x_t_left0)
    else
      f_X12_changes_b23 v_t_now v_t_rhymeOf v_t_wordAt x_t_wordMany a1 v_t_leastFrom v_t_rowNow x_t_changesNow x_t_left0)
  else
    f_X12_changes_b23 v_t_now v_t_rhymeOf v_t_wordAt x_t_wordMany a1 v_t_leastFrom v_t_rowNow x_t_changesNow x_t_left0)
set_option maxHeartbeats 4000000 in
set_option maxRecDepth 100000 in
theorem c_X12_changes {l : Launch} {D : va_G} {cI cB : ClassId} {A_t A_t_now A_t_aside A_t_kept A_t_rhymeOf A_t_wasRhyme A_t_wordAt A_t_tape A_t_said A_t_waitsAt A_t_saidLetter A_t_saidFrom A_t_saidHalf A_t_saidTo A_t_codes A_t_clauseOf A_t_codeFrom A_t_codeHalf A_t_codeTo A_t_stack A_t_facts A_t_newWords A_t_roundFrom A_t_roundAt A_t_roundTimes A_t_leastFrom A_t_rowNow A_t_bornOf A_t_trainsTo A_t_trainAt : Nat} {x_t_wordMany x_t_taped x_t_place0 x_t_length0 x_t_fault x_t_number0 x_t_open x_t_codeMany x_t_waiting x_t_saidMany x_t_clauses x_t_lines x_t_newMany x_t_rounds x_t_itFrom x_t_itTimes x_t_writtenNow x_t_picturesNow x_t_usedNow x_t_chosen x_t_fearOfChosen x_t_changesNow x_t_left0 x_t_trainMany x_t_leastTries x_t_firstTrained x_t_isKept a1 : Int32} {v_t_leastFrom v_t_now v_t_rhymeOf v_t_rowNow v_t_wordAt : Nat → Int32} {o_r o_x_t_changesNow o_x_t_left0 : Int32} {o_v_t_leastFrom o_v_t_rowNow : Nat → Int32} (hf : f_X12_changes v_t_leastFrom v_t_now v_t_rhymeOf v_t_rowNow v_t_wordAt x_t_changesNow x_t_left0 x_t_wordMany a1 = some (o_r, o_v_t_leastFrom, o_v_t_rowNow, o_x_t_changesNow, o_x_t_left0)) : CtI l D cI cB yX12_changes cX12_changes 2 (some .int) 7 157 [.ref A_t, .int a1] [oX12 A_t A_t_now A_t_aside A_t_kept A_t_rhymeOf A_t_wasRhyme A_t_wordAt x_t_wordMany A_t_tape x_t_taped x_t_place0 x_t_length0 x_t_fault x_t_number0 x_t_open x_t_codeMany x_t_waiting x_t_saidMany x_t_clauses A_t_said A_t_waitsAt A_t_saidLetter A_t_saidFrom A_t_saidHalf A_t_saidTo A_t_codes A_t_clauseOf A_t_codeFrom A_t_codeHalf A_t_codeTo A_t_stack A_t_facts x_t_lines A_t_newWords A_t_roundFrom A_t_roundAt A_t_roundTimes x_t_newMany x_t_rounds x_t_itFrom x_t_itTimes x_t_writtenNow x_t_picturesNow x_t_usedNow x_t_chosen x_t_fearOfChosen A_t_leastFrom A_t_rowNow x_t_changesNow x_t_left0 A_t_bornOf A_t_trainsTo A_t_trainAt x_t_trainMany x_t_leastTries x_t_firstTrained x_t_isKept, iA cI 392 A_t_leastFrom v_t_leastFrom, iA cI 293 A_t_now v_t_now, iA cI 16 A_t_rhymeOf v_t_rhymeOf, iA cI 48 A_t_rowNow v_t_rowNow, iA cI 48 A_t_wordAt v_t_wordAt] [oX12 A_t A_t_now A_t_aside A_t_kept A_t_rhymeOf A_t_wasRhyme A_t_wordAt x_t_wordMany A_t_tape x_t_taped x_t_place0 x_t_length0 x_t_fault x_t_number0 x_t_open x_t_codeMany x_t_waiting x_t_saidMany x_t_clauses A_t_said A_t_waitsAt A_t_saidLetter A_t_saidFrom A_t_saidHalf A_t_saidTo A_t_codes A_t_clauseOf A_t_codeFrom A_t_codeHalf A_t_codeTo A_t_stack A_t_facts x_t_lines A_t_newWords A_t_roundFrom A_t_roundAt A_t_roundTimes x_t_newMany x_t_rounds x_t_itFrom x_t_itTimes x_t_writtenNow x_t_picturesNow x_t_usedNow x_t_chosen x_t_fearOfChosen A_t_leastFrom A_t_rowNow o_x_t_changesNow o_x_t_left0 A_t_bornOf A_t_trainsTo A_t_trainAt x_t_trainMany x_t_leastTries x_t_firstTrained x_t_isKept, iA cI 392 A_t_leastFrom o_v_t_leastFrom, iA cI 293 A_t_now v_t_now, iA cI 16 A_t_rhymeOf v_t_rhymeOf, iA cI 48 A_t_rowNow o_v_t_rowNow, iA cI 48 A_t_wordAt v_t_wordAt] o_r := by
  refine x_startI (by decide) (Nat.le_of_ble_eq_true rfl) ?_
  intro p e s m below meth c A C hr hlk hA hK hP hD hS ls hl
  have hl : lv_has ls 2 [(0, .ref A_t), (1, .int a1)] := hl
  have hx := C.1
  have hb := C.2.1
  unfold f_X12_changes at hf
  have hb_80 : ∀ (v_t_leastFrom : (Nat → Int32)) (v_t_rowNow : (Nat → Int32)) (x_t_changesNow : Int32) (x_t_left0 : Int32) (s0 : Int32) (H : Heap) (locs : List Loc) (ls : Array Slot), lv_has ls 2 [] → va_P D vwCl [oX12 A_t A_t_now A_t_aside A_t_kept A_t_rhymeOf A_t_wasRhyme A_t_wordAt x_t_wordMany A_t_tape x_t_taped x_t_place0 x_t_length0 x_t_fault x_t_number0 x_t_open x_t_codeMany x_t_waiting x_t_saidMany x_t_clauses A_t_said A_t_waitsAt A_t_saidLetter A_t_saidFrom A_t_saidHalf A_t_saidTo A_t_codes A_t_clauseOf A_t_codeFrom A_t_codeHalf A_t_codeTo A_t_stack A_t_facts x_t_lines A_t_newWords A_t_roundFrom A_t_roundAt A_t_roundTimes x_t_newMany x_t_rounds x_t_itFrom x_t_itTimes x_t_writtenNow x_t_picturesNow x_t_usedNow x_t_chosen x_t_fearOfChosen A_t_leastFrom A_t_rowNow x_t_changesNow x_t_left0 A_t_bornOf A_t_trainsTo A_t_trainAt x_t_trainMany x_t_leastTries x_t_firstTrained x_t_isKept, iA cI 392 A_t_leastFrom v_t_leastFrom, iA cI 293 A_t_now v_t_now, iA cI 16 A_t_rhymeOf v_t_rhymeOf, iA cI 48 A_t_rowNow v_t_rowNow, iA cI 48 A_t_wordAt v_t_wordAt] H → va_D A [oX12 A_t A_t_now A_t_aside A_t_kept A_t_rhymeOf A_t_wasRhyme A_t_wordAt x_t_wordMany A_t_tape x_t_taped x_t_place0 x_t_length0 x_t_fault x_t_number0 x_t_open x_t_codeMany x_t_waiting x_t_saidMany x_t_clauses A_t_said A_t_waitsAt A_t_saidLetter A_t_saidFrom A_t_saidHalf A_t_saidTo A_t_codes A_t_clauseOf A_t_codeFrom A_t_codeHalf A_t_codeTo A_t_stack A_t_facts x_t_lines A_t_newWords A_t_roundFrom A_t_roundAt A_t_roundTimes x_t_newMany x_t_rounds x_t_itFrom x_t_itTimes x_t_writtenNow x_t_picturesNow x_t_usedNow x_t_chosen x_t_fearOfChosen A_t_leastFrom A_t_rowNow x_t_changesNow x_t_left0 A_t_bornOf A_t_trainsTo A_t_trainAt x_t_trainMany x_t_leastTries x_t_firstTrained x_t_isKept, iA cI 392 A_t_leastFrom v_t_leastFrom, iA cI 293 A_t_now v_t_now, iA cI 16 A_t_rhymeOf v_t_rhymeOf, iA cI 48 A_t_rowNow v_t_rowNow, iA cI 48 A_t_wordAt v_t_wordAt] → va_S A s.heap H locs → f_X12_changes_b80 v_t_leastFrom v_t_rowNow x_t_changesNow x_t_left0 s0 = some (o_r, o_v_t_leastFrom, o_v_t_rowNow, o_x_t_changesNow, o_x_t_left0) → W p l e { frames := 7, cells := 0, slots := 0, locals := 157 } s m ([.ref A_t, .int a1] : List Value).toArray below meth c H locs 0 0 (MQ below (PoI D A [oX12 A_t A_t_now A_t_aside A_t_kept A_t_rhymeOf A_t_wasRhyme A_t_wordAt x_t_wordMany A_t_tape x_t_taped x_t_place0 x_t_length0 x_t_fault x_t_number0 x_t_open x_t_codeMany x_t_waiting x_t_saidMany x_t_clauses A_t_said A_t_waitsAt A_t_saidLetter A_t_saidFrom A_t_saidHalf A_t_saidTo A_t_codes A_t_clauseOf A_t_codeFrom A_t_codeHalf A_t_codeTo A_t_stack A_t_facts x_t_lines A_t_newWords A_t_roundFrom A_t_roundAt A_t_roundTimes x_t_newMany x_t_rounds x_t_itFrom x_t_itTimes x_t_writtenNow x_t_picturesNow x_t_usedNow x_t_chosen x_t_fearOfChosen A_t_leastFrom A_t_rowNow o_x_t_changesNow o_x_t_left0 A_t_bornOf A_t_trainsTo A_t_trainAt x_t_trainMany x_t_leastTries x_t_firstTrained x_t_isKept, iA cI 392 A_t_leastFrom o_v_t_leastFrom, iA cI 293 A_t_now v_t_now, iA cI 16 A_t_rhymeOf v_t_rhymeOf, iA cI 48 A_t_rowNow o_v_t_rowNow, iA cI 48 A_t_wordAt v_t_wordAt] o_r) ([.ref A_t, .int a1] : List Value).toArray s 0 0 A) (F0 m 80 ls [.int s0]) := by
    intro v_t_leastFrom v_t_rowNow x_t_changesNow x_t_left0 s0 H locs ls hl hP hD hS hf
    unfold f_X12_changes_b80 at hf
    obtain ⟨rfl, rfl, rfl, rfl, rfl⟩ := ev5 hf
    exact x_iret C hr hlk hP hD hS dX12_changes_80
  have hb_40 : ∀ (v_t_leastFrom : (Nat → Int32)) (v_t_rowNow : (Nat → Int32)) (x_t_changesNow : Int32) (x_t_left0 : Int32) (H : Heap) (locs : List Loc) (ls : Array Slot), lv_has ls 2 [(0, .ref A_t), (1, .int a1)] → va_P D vwCl [oX12 A_t A_t_now A_t_aside A_t_kept A_t_rhymeOf A_t_wasRhyme A_t_wordAt x_t_wordMany A_t_tape x_t_taped x_t_place0 x_t_length0 x_t_fault x_t_number0 x_t_open x_t_codeMany x_t_waiting x_t_saidMany x_t_clauses A_t_said A_t_waitsAt A_t_saidLetter A_t_saidFrom A_t_saidHalf A_t_saidTo A_t_codes A_t_clauseOf A_t_codeFrom A_t_codeHalf A_t_codeTo A_t_stack A_t_facts x_t_lines A_t_newWords A_t_roundFrom A_t_roundAt A_t_roundTimes x_t_newMany x_t_rounds x_t_itFrom x_t_itTimes x_t_writtenNow x_t_picturesNow x_t_usedNow x_t_chosen x_t_fearOfChosen A_t_leastFrom A_t_rowNow x_t_changesNow x_t_left0 A_t_bornOf A_t_trainsTo A_t_trainAt x_t_trainMany x_t_leastTries x_t_firstTrained x_t_isKept, iA cI 392 A_t_leastFrom v_t_leastFrom, iA cI 293 A_t_now v_t_now, iA cI 16 A_t_rhymeOf v_t_rhymeOf, iA cI 48 A_t_rowNow v_t_rowNow, iA cI 48 A_t_wordAt v_t_wordAt] H → va_D A [oX12 A_t A_t_now A_t_aside A_t_kept A_t_rhymeOf A_t_wasRhyme A_t_wordAt x_t_wordMany A_t_tape x_t_taped x_t_place0 x_t_length0 x_t_fault x_t_number0 x_t_open x_t_codeMany x_t_waiting x_t_saidMany x_t_clauses A_t_said A_t_waitsAt A_t_saidLetter A_t_saidFrom A_t_saidHalf A_t_saidTo A_t_codes A_t_clauseOf A_t_codeFrom A_t_codeHalf A_t_codeTo A_t_stack A_t_facts x_t_lines A_t_newWords A_t_roundFrom A_t_roundAt A_t_roundTimes x_t_newMany x_t_rounds x_t_itFrom x_t_itTimes x_t_writtenNow x_t_picturesNow x_t_usedNow x_t_chosen x_t_fearOfChosen A_t_leastFrom A_t_rowNow x_t_changesNow x_t_left0 A_t_bornOf A_t_trainsTo A_t_trainAt x_t_trainMany x_t_leastTries x_t_firstTrained x_t_isKept, iA cI 392 A_t_leastFrom v_t_leastFrom, iA cI 293 A_t_now v_t_now, iA cI 16 A_t_rhymeOf v_t_rhymeOf, iA cI 48 A_t_rowNow v_t_rowNow, iA cI 48 A_t_wordAt v_t_wordAt] → va_S A s.heap H locs → f_X12_changes_b40 v_t_now v_t_rhymeOf v_t_wordAt x_t_wordMany a1 v_t_leastFrom v_t_rowNow x_t_changesNow x_t_left0 = some (o_r, o_v_t_leastFrom, o_v_t_rowNow, o_x_t_changesNow, o_x_t_left0) → W p l e { frames := 7, cells := 0, slots := 0, locals := 157 } s m ([.ref A_t, .int a1] : List Value).toArray below meth c H locs 0 0 (MQ below (PoI D A [oX12 A_t A_t_now A_t_aside A_t_kept A_t_rhymeOf A_t_wasRhyme A_t_wordAt x_t_wordMany A_t_tape x_t_taped x_t_place0 x_t_length0 x_t_fault x_t_number0 x_t_open x_t_codeMany x_t_waiting x_t_saidMany x_t_clauses A_t_said A_t_waitsAt A_t_saidLetter A_t_saidFrom A_t_saidHalf A_t_saidTo A_t_codes A_t_clauseOf A_t_codeFrom A_t_codeHalf A_t_codeTo A_t_stack A_t_facts x_t_lines A_t_newWords A_t_roundFrom A_t_roundAt A_t_roundTimes x_t_newMany x_t_rounds x_t_itFrom x_t_itTimes x_t_writtenNow x_t_picturesNow x_t_usedNow x_t_chosen x_t_fearOfChosen A_t_leastFrom A_t_rowNow o_x_t_changesNow o_x_t_left0 A_t_bornOf A_t_trainsTo A_t_trainAt x_t_trainMany x_t_leastTries x_t_firstTrained x_t_isKept, iA cI 392 A_t_leastFrom o_v_t_leastFrom, iA cI 293 A_t_now v_t_now, iA cI 16 A_t_rhymeOf v_t_rhymeOf, iA cI 48 A_t_rowNow o_v_t_rowNow, iA cI 48 A_t_wordAt v_t_wordAt] o_r) ([.ref A_t, .int a1] : List Value).toArray s 0 0 A) (F0 m 40 ls []) := by
    intro v_t_leastFrom v_t_rowNow x_t_changesNow x_t_left0 H locs ls hl hP hD hS hf
    unfold f_X12_changes_b40 at hf
    refine lv_aload_n hx hb dX12_changes_40 rfl (lv_at hl 0 rfl) ?_
    obtain ⟨w1, w2, hc3, hf⟩ := bd2_e hf
    refine x_callVV (ws' := [oX12 A_t A_t_now A_t_aside A_t_kept A_t_rhymeOf A_t_wasRhyme A_t_wordAt x_t_wordMany A_t_tape x_t_taped x_t_place0 x_t_length0 x_t_fault x_t_number0 x_t_open x_t_codeMany x_t_waiting x_t_saidMany x_t_clauses A_t_said A_t_waitsAt A_t_saidLetter A_t_saidFrom A_t_saidHalf A_t_saidTo A_t_codes A_t_clauseOf A_t_codeFrom A_t_codeHalf A_t_codeTo A_t_stack A_t_facts x_t_lines A_t_newWords A_t_roundFrom A_t_roundAt A_t_roundTimes x_t_newMany x_t_rounds x_t_itFrom x_t_itTimes x_t_writtenNow x_t_picturesNow x_t_usedNow x_t_chosen x_t_fearOfChosen A_t_leastFrom A_t_rowNow x_t_changesNow w2 A_t_bornOf A_t_trainsTo A_t_trainAt x_t_trainMany x_t_leastTries x_t_firstTrained x_t_isKept, iA cI 392 A_t_leastFrom w1, iA cI 293 A_t_now v_t_now, iA cI 16 A_t_rhymeOf v_t_rhymeOf, iA cI 48 A_t_rowNow v_t_rowNow, iA cI 48 A_t_wordAt v_t_wordAt]) (rest := []) C hK hP hD hS hA hl mf_X12_366 (c_X12_laysChanges hc3) [0, 1, 2, 3, 5] 0 12 rfl rfl rfl rfl rfl rfl rfl rfl rfl rfl (Nat.le_of_ble_eq_true rfl) ⟨Nat.le_of_ble_eq_true rfl, Nat.le_of_ble_eq_true rfl⟩ ⟨Nat.le_refl _, Nat.le_refl _⟩ dX12_changes_41 ?_
    intro H locs hP hD hS
    refine lv_aload_n hx hb dX12_changes_44 rfl (lv_at hl 0 rfl) ?_
    obtain ⟨w4, w5, hc6, hf⟩ := bd2_e hf
    refine x_callVV (ws' := [oX12 A_t A_t_now A_t_aside A_t_kept A_t_rhymeOf A_t_wasRhyme A_t_wordAt x_t_wordMany A_t_tape x_t_taped x_t_place0 x_t_length0 x_t_fault x_t_number0 x_t_open x_t_codeMany x_t_waiting x_t_saidMany x_t_clauses A_t_said A_t_waitsAt A_t_saidLetter A_t_saidFrom A_t_saidHalf A_t_saidTo A_t_codes A_t_clauseOf A_t_codeFrom A_t_codeHalf A_t_codeTo A_t_stack A_t_facts x_t_lines A_t_newWords A_t_roundFrom A_t_roundAt A_t_roundTimes x_t_newMany x_t_rounds x_t_itFrom x_t_itTimes x_t_writtenNow x_t_picturesNow x_t_usedNow x_t_chosen x_t_fearOfChosen A_t_leastFrom A_t_rowNow w5 w2 A_t_bornOf A_t_trainsTo A_t_trainAt x_t_trainMany x_t_leastTries x_t_firstTrained x_t_isKept, iA cI 392 A_t_leastFrom w1, iA cI 293 A_t_now v_t_now, iA cI 16 A_t_rhymeOf v_t_rhymeOf, iA cI 48 A_t_rowNow w4, iA cI 48 A_t_wordAt v_t_wordAt]) (rest := []) C hK hP hD hS hA hl mf_X12_369 (c_X12_laysRow hc6) [0, 1, 2, 3, 4, 5] 0 12 rfl rfl rfl rfl rfl rfl rfl rfl rfl rfl (Nat.le_of_ble_eq_true rfl) ⟨Nat.le_of_ble_eq_true rfl, Nat.le_of_ble_eq_true rfl⟩ ⟨Nat.le_refl _, Nat.le_refl _⟩ dX12_changes_45 ?_
    intro H locs hP hD hS
    refine lv_iload_n hx hb dX12_changes_48 rfl (lv_at hl 1 rfl) ?_
    refine lv_bipush (v := 100) hx hb dX12_changes_49 (by decide) ?_
    refine lv_icmp_ne (tgt := 61) hx hb dX12_changes_51 (by decide) (fun q => ?_) (fun q => ?_)
    · have hf := if_f q hf
      refine lv_iload_n hx hb dX12_changes_61 rfl (lv_at hl 1 rfl) ?_
      refine lv_bipush (v := 101) hx hb dX12_changes_62 (by decide) ?_
      refine lv_icmp_ne (tgt := 74) hx hb dX12_changes_64 (by decide) (fun q => ?_) (fun q => ?_)
      · have hf := if_f q hf
        refine lv_aload_n hx hb dX12_changes_74 rfl (lv_at hl 0 rfl) ?_
        refine x_get C hK hP fd_X12_86 0 rfl rfl dX12_changes_75 ?_
        refine lv_iload_n hx hb dX12_changes_78 rfl (lv_at hl 1 rfl) ?_
        obtain ⟨hi, hf⟩ := gI_e hf
        refine x_iald C hK hP 4 rfl hi dX12_changes_79 ?_
        exact hb_80 w1 w4 w5 w2 (w4 a1.toNatClampNeg) _ _ ls (lv_sub hl [] rfl) hP hD hS hf
      · have hf := if_t q hf
        refine lv_aload_n hx hb dX12_changes_67 rfl (lv_at hl 0 rfl) ?_
        refine x_get C hK hP fd_X12_354 0 rfl rfl dX12_changes_68 ?_
        refine lv_goto (tgt := 80) hx hb dX12_changes_71 (by decide) ?_
        exact hb_80 w1 w4 w5 w2 w2 _ _ ls (lv_sub hl [] rfl) hP hD hS hf
    · have hf := if_t q hf
      refine lv_aload_n hx hb dX12_changes_54 rfl (lv_at hl 0 rfl) ?_
      refine x_get C hK hP fd_X12_363 0 rfl rfl dX12_changes_55 ?_
      refine lv_goto (tgt := 80) hx hb dX12_changes_58 (by decide) ?_
      exact hb_80 w1 w4 w5 w2 w5 _ _ ls (lv_sub hl [] rfl) hP hD hS hf
  have hb_23 : ∀ (v_t_leastFrom : (Nat → Int32)) (v_t_rowNow : (Nat → Int32)) (x_t_changesNow : Int32) (x_t_left0 : Int32) (H : Heap) (locs : List Loc) (ls : Array Slot), lv_has ls 2 [(0, .ref A_t), (1, .int a1)] → va_P D vwCl [oX12 A_t A_t_now A_t_aside A_t_kept A_t_rhymeOf A_t_wasRhyme A_t_wordAt x_t_wordMany A_t_tape x_t_taped x_t_place0 x_t_length0 x_t_fault x_t_number0 x_t_open x_t_codeMany x_t_waiting x_t_saidMany x_t_clauses A_t_said A_t_waitsAt A_t_saidLetter A_t_saidFrom A_t_saidHalf A_t_saidTo A_t_codes A_t_clauseOf A_t_codeFrom A_t_codeHalf A_t_codeTo A_t_stack A_t_facts x_t_lines A_t_newWords A_t_roundFrom A_t_roundAt A_t_roundTimes x_t_newMany x_t_rounds x_t_itFrom x_t_itTimes x_t_writtenNow x_t_picturesNow x_t_usedNow x_t_chosen x_t_fearOfChosen A_t_leastFrom A_t_rowNow x_t_changesNow x_t_left0 A_t_bornOf A_t_trainsTo A_t_trainAt x_t_trainMany x_t_leastTries x_t_firstTrained x_t_isKept, iA cI 392 A_t_leastFrom v_t_leastFrom, iA cI 293 A_t_now v_t_now, iA cI 16 A_t_rhymeOf v_t_rhymeOf, iA cI 48 A_t_rowNow v_t_rowNow, iA cI 48 A_t_wordAt v_t_wordAt] H → va_D A [oX12 A_t A_t_now A_t_aside A_t_kept A_t_rhymeOf A_t_wasRhyme A_t_wordAt x_t_wordMany A_t_tape x_t_taped x_t_place0 x_t_length0 x_t_fault x_t_number0 x_t_open x_t_codeMany x_t_waiting x_t_saidMany x_t_clauses A_t_said A_t_waitsAt A_t_saidLetter A_t_saidFrom A_t_saidHalf A_t_saidTo A_t_codes A_t_clauseOf A_t_codeFrom A_t_codeHalf A_t_codeTo A_t_stack A_t_facts x_t_lines A_t_newWords A_t_roundFrom A_t_roundAt A_t_roundTimes x_t_newMany x_t_rounds x_t_itFrom x_t_itTimes x_t_writtenNow x_t_picturesNow x_t_usedNow x_t_chosen x_t_fearOfChosen A_t_leastFrom A_t_rowNow x_t_changesNow x_t_left0 A_t_bornOf A_t_trainsTo A_t_trainAt x_t_trainMany x_t_leastTries x_t_firstTrained x_t_isKept, iA cI 392 A_t_leastFrom v_t_leastFrom, iA cI 293 A_t_now v_t_now, iA cI 16 A_t_rhymeOf v_t_rhymeOf, iA cI 48 A_t_rowNow v_t_rowNow, iA cI 48 A_t_wordAt v_t_wordAt] → va_S A s.heap H locs → f_X12_changes_b23 v_t_now v_t_rhymeOf v_t_wordAt x_t_wordMany a1 v_t_leastFrom v_t_rowNow x_t_changesNow x_t_left0 = some (o_r, o_v_t_leastFrom, o_v_t_rowNow, o_x_t_changesNow, o_x_t_left0) → W p l e { frames := 7, cells := 0, slots := 0, locals := 157 } s m ([.ref A_t, .int a1] : List Value).toArray below meth c H locs 0 0 (MQ below (PoI D A [oX12 A_t A_t_now A_t_aside A_t_kept A_t_rhymeOf A_t_wasRhyme A_t_wordAt x_t_wordMany A_t_tape x_t_taped x_t_place0 x_t_length0 x_t_fault x_t_number0 x_t_open x_t_codeMany x_t_waiting x_t_saidMany x_t_clauses A_t_said A_t_waitsAt A_t_saidLetter A_t_saidFrom A_t_saidHalf A_t_saidTo A_t_codes A_t_clauseOf A_t_codeFrom A_t_codeHalf A_t_codeTo A_t_stack A_t_facts x_t_lines A_t_newWords A_t_roundFrom A_t_roundAt A_t_roundTimes x_t_newMany x_t_rounds x_t_itFrom x_t_itTimes x_t_writtenNow x_t_picturesNow x_t_usedNow x_t_chosen x_t_fearOfChosen A_t_leastFrom A_t_rowNow o_x_t_changesNow o_x_t_left0 A_t_bornOf A_t_trainsTo A_t_trainAt x_t_trainMany x_t_leastTries x_t_firstTrained x_t_isKept, iA cI 392 A_t_leastFrom o_v_t_leastFrom, iA cI 293 A_t_now v_t_now, iA cI 16 A_t_rhymeOf v_t_rhymeOf, iA cI 48 A_t_rowNow o_v_t_rowNow, iA cI 48 A_t_wordAt v_t_wordAt] o_r) ([.ref A_t, .int a1] : List Value).toArray s 0 0 A) (F0 m 23 ls []) := by
    intro v_t_leastFrom v_t_rowNow x_t_changesNow x_t_left0 H locs ls hl hP hD hS hf
    unfold f_X12_changes_b23 at hf
    refine lv_iload_n hx hb dX12_changes_23 rfl (lv_at hl 1 rfl) ?_
    refine lv_bipush (v := 100) hx hb dX12_changes_24 (by decide) ?_
    refine lv_icmp_ge (tgt := 40) hx hb dX12_changes_26 (by decide) (fun q => ?_) (fun q => ?_)
    · have hf := if_t q hf
      exact hb_40 v_t_leastFrom v_t_rowNow x_t_changesNow x_t_left0 _ _ ls (lv_sub hl [0, 1] rfl) hP hD hS hf
    · have hf := if_f q hf
      refine lv_iload_n hx hb dX12_changes_29 rfl (lv_at hl 1 rfl) ?_
      refine lv_aload_n hx hb dX12_changes_30 rfl (lv_at hl 0 rfl) ?_
      refine x_get C hK hP fd_X12_300 0 rfl rfl dX12_changes_31 ?_
      refine lv_icmp_lt (tgt := 40) hx hb dX12_changes_34 (by decide) (fun q => ?_) (fun q => ?_)
      · have hf := if_t q hf
        exact hb_40 v_t_leastFrom v_t_rowNow x_t_changesNow x_t_left0 _ _ ls (lv_sub hl [0, 1] rfl) hP hD hS hf
      · have hf := if_f q hf
        refine lv_bipush (v := -4) hx hb dX12_changes_37 (by decide) ?_
        obtain ⟨rfl, rfl, rfl, rfl, rfl⟩ := ev5 hf
        exact x_iret C hr hlk hP hD hS dX12_changes_39
  refine lv_iload_n hx hb dX12_changes_0 rfl (lv_at hl 1 rfl) ?_
  refine lv_bipush (v := 100) hx hb dX12_changes_1 (by decide) ?_
  refine lv_bipush (v := 101) hx hb dX12_changes_3 (by decide) ?_
  obtain ⟨r7, hc8, hf⟩ := bd1_e hf
  refine x_callSI (ws' := [oX12 A_t A_t_now A_t_aside A_t_kept A_t_rhymeOf A_t_wasRhyme A_t_wordAt x_t_wordMany A_t_tape x_t_taped x_t_place0 x_t_length0 x_t_fault x_t_number0 x_t_open x_t_codeMany x_t_waiting x_t_saidMany x_t_clauses A_t_said A_t_waitsAt A_t_saidLetter A_t_saidFrom A_t_saidHalf A_t_saidTo A_t_codes A_t_clauseOf A_t_codeFrom A_t_codeHalf A_t_codeTo A_t_stack A_t_facts x_t_lines A_t_newWords A_t_roundFrom A_t_roundAt A_t_roundTimes x_t_newMany x_t_rounds x_t_itFrom x_t_itTimes x_t_writtenNow x_t_picturesNow x_t_usedNow x_t_chosen x_t_fearOfChosen A_t_leastFrom A_t_rowNow x_t_changesNow x_t_left0 A_t_bornOf A_t_trainsTo A_t_trainAt x_t_trainMany x_t_leastTries x_t_firstTrained x_t_isKept, iA cI 392 A_t_leastFrom v_t_leastFrom, iA cI 293 A_t_now v_t_now, iA cI 16 A_t_rhymeOf v_t_rhymeOf, iA cI 48 A_t_rowNow v_t_rowNow, iA cI 48 A_t_wordAt v_t_wordAt]) (rest := []) C hK hP hD hS hA hl mf_X12_105 (c_X12_in hc8) [] rfl rfl rfl rfl rfl rfl rfl rfl (Nat.le_of_ble_eq_true rfl) ⟨Nat.le_of_ble_eq_true rfl, Nat.le_of_ble_eq_true rfl⟩ ⟨Nat.le_refl _, Nat.le_refl _⟩ dX12_changes_5 ?_
  intro H locs hP hD hS
  refine lv_if_ne (tgt := 23) hx hb dX12_changes_8 (by decide) (fun q => ?_) (fun q => ?_)
  · have hf := if_f q hf
    exact hb_23 v_t_leastFrom v_t_rowNow x_t_changesNow x_t_left0 _ _ ls (lv_sub hl [0, 1] rfl) hP hD hS hf
  · have hf := if_t q hf
    refine lv_iload_n hx hb dX12_changes_11 rfl (lv_at hl 1 rfl) ?_
    refine lv_iconst (v := 0) hx hb dX12_changes_12 (by decide) ?_
    refine lv_bipush (v := 47) hx hb dX12_changes_13 (by decide) ?_
    obtain ⟨r9, hc10, hf⟩ := bd1_e hf
    refine x_callSI (ws' := [oX12 A_t A_t_now A_t_aside A_t_kept A_t_rhymeOf A_t_wasRhyme A_t_wordAt x_t_wordMany A_t_tape x_t_taped x_t_place0 x_t_length0 x_t_fault x_t_number0 x_t_open x_t_codeMany x_t_waiting x_t_saidMany x_t_clauses A_t_said A_t_waitsAt A_t_saidLetter A_t_saidFrom A_t_saidHalf A_t_saidTo A_t_codes A_t_clauseOf A_t_codeFrom A_t_codeHalf A_t_codeTo A_t_stack A_t_facts x_t_lines A_t_newWords A_t_roundFrom A_t_roundAt A_t_roundTimes x_t_newMany x_t_rounds x_t_itFrom x_t_itTimes x_t_writtenNow x_t_picturesNow x_t_usedNow x_t_chosen x_t_fearOfChosen A_t_leastFrom A_t_rowNow x_t_changesNow x_t_left0 A_t_bornOf A_t_trainsTo A_t_trainAt x_t_trainMany x_t_leastTries x_t_firstTrained x_t_isKept, iA cI 392 A_t_leastFrom v_t_leastFrom, iA cI 293 A_t_now v_t_now, iA cI 16 A_t_rhymeOf v_t_rhymeOf, iA cI 48 A_t_rowNow v_t_rowNow, iA cI 48 A_t_wordAt v_t_wordAt]) (rest := []) C hK hP hD hS hA hl mf_X12_105 (c_X12_in hc10) [] rfl rfl rfl rfl rfl rfl rfl rfl (Nat.le_of_ble_eq_true rfl) ⟨Nat.le_of_ble_eq_true rfl, Nat.le_of_ble_eq_true rfl⟩ ⟨Nat.le_refl _, Nat.le_refl _⟩ dX12_changes_15 ?_
    intro H locs hP hD hS
    refine lv_if_ne (tgt := 23) hx hb dX12_changes_18 (by decide) (fun q => ?_) (fun q => ?_)
    · have hf := if_f q hf
      exact hb_23 v_t_leastFrom v_t_rowNow x_t_changesNow x_t_left0 _ _ ls (lv_sub hl [0, 1] rfl) hP hD hS hf
    · have hf := if_t q hf
      refine lv_iconst (v := -1) hx hb dX12_changes_21 (by decide) ?_
      obtain ⟨rfl, rfl, rfl, rfl, rfl⟩ := ev5 hf
      exact x_iret C hr hlk hP hD hS dX12_changes_22
def f_X12_bearsAllBy_b2 (v_t_now : (Nat → Int32)) (v_t_rhymeOf : (Nat → Int32)) (v_t_wordAt : (Nat → Int32)) (x_t_wordMany : Int32) (a1 : Int32) (a2 : Int32) : Nat → Int32 → Option (Int32)
  | 0, _ => none
  | n + 1, l3 =>
    if x_t_wordMany ≤ l3 then
      some (1 : Int32)
    else
      gI 48 v_t_wordAt l3 (fun g1 =>
      bd1 (f_X12_shrinkingBy v_t_now v_t_rhymeOf a1 g1 a2) (fun r2 =>
      gI 293 v_t_now (288 : Int32) (fun g3 =>
      if r2 ≤ g3 then
        f_X12_bearsAllBy_b2 v_t_now v_t_rhymeOf v_t_wordAt x_t_wordMany a1 a2 n (l3 + (1 : Int32))
      else
        some (0 : Int32))))
def f_X12_bearsAllBy (v_t_now : (Nat → Int32)) (v_t_rhymeOf : (Nat → Int32)) (v_t_wordAt : (Nat → Int32)) (x_t_wordMany : Int32) (a1 : Int32) (a2 : Int32) : Option (Int32) :=
  f_X12_bearsAllBy_b2 v_t_now v_t_rhymeOf v_t_wordAt x_t_wordMany a1 a2 FU (0 : Int32)
set_option maxHeartbeats 4000000 in
set_option maxRecDepth 100000 in
theorem c_X12_bearsAllBy {l : Launch} {D : va_G} {cI cB : ClassId} {A_t A_t_now A_t_aside A_t_kept A_t_rhymeOf A_t_wasRhyme A_t_wordAt A_t_tape A_t_said A_t_waitsAt A_t_saidLetter A_t_saidFrom A_t_saidHalf A_t_saidTo A_t_codes A_t_clauseOf A_t_codeFrom A_t_codeHalf A_t_codeTo A_t_stack A_t_facts A_t_newWords A_t_roundFrom A_t_roundAt A_t_roundTimes A_t_leastFrom A_t_rowNow A_t_bornOf A_t_trainsTo A_t_trainAt : Nat} {x_t_wordMany x_t_taped x_t_place0 x_t_length0 x_t_fault x_t_number0 x_t_open x_t_codeMany x_t_waiting x_t_saidMany x_t_clauses x_t_lines x_t_newMany x_t_rounds x_t_itFrom x_t_itTimes x_t_writtenNow x_t_picturesNow x_t_usedNow x_t_chosen x_t_fearOfChosen x_t_changesNow x_t_left0 x_t_trainMany x_t_leastTries x_t_firstTrained x_t_isKept a1 a2 : Int32} {v_t_now v_t_rhymeOf v_t_wordAt : Nat → Int32} {o_r : Int32} (hf : f_X12_bearsAllBy v_t_now v_t_rhymeOf v_t_wordAt x_t_wordMany a1 a2 = some o_r) : CtI l D cI cB yX12_bearsAllBy cX12_bearsAllBy 4 (some .boolean) 3 65 [.ref A_t, .int a1, .int a2] [oX12 A_t A_t_now A_t_aside A_t_kept A_t_rhymeOf A_t_wasRhyme A_t_wordAt x_t_wordMany A_t_tape x_t_taped x_t_place0 x_t_length0 x_t_fault x_t_number0 x_t_open x_t_codeMany x_t_waiting x_t_saidMany x_t_clauses A_t_said A_t_waitsAt A_t_saidLetter A_t_saidFrom A_t_saidHalf A_t_saidTo A_t_codes A_t_clauseOf A_t_codeFrom A_t_codeHalf A_t_codeTo A_t_stack A_t_facts x_t_lines A_t_newWords A_t_roundFrom A_t_roundAt A_t_roundTimes x_t_newMany x_t_rounds x_t_itFrom x_t_itTimes x_t_writtenNow x_t_picturesNow x_t_usedNow x_t_chosen x_t_fearOfChosen A_t_leastFrom A_t_rowNow x_t_changesNow x_t_left0 A_t_bornOf A_t_trainsTo A_t_trainAt x_t_trainMany x_t_leastTries x_t_firstTrained x_t_isKept, iA cI 293 A_t_now v_t_now, iA cI 16 A_t_rhymeOf v_t_rhymeOf, iA cI 48 A_t_wordAt v_t_wordAt] [oX12 A_t A_t_now A_t_aside A_t_kept A_t_rhymeOf A_t_wasRhyme A_t_wordAt x_t_wordMany A_t_tape x_t_taped x_t_place0 x_t_length0 x_t_fault x_t_number0 x_t_open x_t_codeMany x_t_waiting x_t_saidMany x_t_clauses A_t_said A_t_waitsAt A_t_saidLetter A_t_saidFrom A_t_saidHalf A_t_saidTo A_t_codes A_t_clauseOf A_t_codeFrom A_t_codeHalf A_t_codeTo A_t_stack A_t_facts x_t_lines A_t_newWords A_t_roundFrom A_t_roundAt A_t_roundTimes x_t_newMany x_t_rounds x_t_itFrom x_t_itTimes x_t_writtenNow x_t_picturesNow x_t_usedNow x_t_chosen x_t_fearOfChosen A_t_leastFrom A_t_rowNow x_t_changesNow x_t_left0 A_t_bornOf A_t_trainsTo A_t_trainAt x_t_trainMany x_t_leastTries x_t_firstTrained x_t_isKept, iA cI 293 A_t_now v_t_now, iA cI 16 A_t_rhymeOf v_t_rhymeOf, iA cI 48 A_t_wordAt v_t_wordAt] o_r := by
  refine x_startI (by decide) (Nat.le_of_ble_eq_true rfl) ?_
  intro p e s m below meth c A C hr hlk hA hK hP hD hS ls hl
  have hl : lv_has ls 4 [(0, .ref A_t), (1, .int a1), (2, .int a2)] := hl
  have hx := C.1
  have hb := C.2.1
  unfold f_X12_bearsAllBy at hf
  have hb_2 : ∀ (n_2 : Nat) (l3 : Int32) (H : Heap) (locs : List Loc) (ls : Array Slot), lv_has ls 4 [(0, .ref A_t), (1, .int a1), (2, .int a2), (3, .int l3)] → va_P D vwCl [oX12 A_t A_t_now A_t_aside A_t_kept A_t_rhymeOf A_t_wasRhyme A_t_wordAt x_t_wordMany A_t_tape x_t_taped x_t_place0 x_t_length0 x_t_fault x_t_number0 x_t_open x_t_codeMany x_t_waiting x_t_saidMany x_t_clauses A_t_said A_t_waitsAt A_t_saidLetter A_t_saidFrom A_t_saidHalf A_t_saidTo A_t_codes A_t_clauseOf A_t_codeFrom A_t_codeHalf A_t_codeTo A_t_stack A_t_facts x_t_lines A_t_newWords A_t_roundFrom A_t_roundAt A_t_roundTimes x_t_newMany x_t_rounds x_t_itFrom x_t_itTimes x_t_writtenNow x_t_picturesNow x_t_usedNow x_t_chosen x_t_fearOfChosen A_t_leastFrom A_t_rowNow x_t_changesNow x_t_left0 A_t_bornOf A_t_trainsTo A_t_trainAt x_t_trainMany x_t_leastTries x_t_firstTrained x_t_isKept, iA cI 293 A_t_now v_t_now, iA cI 16 A_t_rhymeOf v_t_rhymeOf, iA cI 48 A_t_wordAt v_t_wordAt] H → va_D A [oX12 A_t A_t_now A_t_aside A_t_kept A_t_rhymeOf A_t_wasRhyme A_t_wordAt x_t_wordMany A_t_tape x_t_taped x_t_place0 x_t_length0 x_t_fault x_t_number0 x_t_open x_t_codeMany x_t_waiting x_t_saidMany x_t_clauses A_t_said A_t_waitsAt A_t_saidLetter A_t_saidFrom A_t_saidHalf A_t_saidTo A_t_codes A_t_clauseOf A_t_codeFrom A_t_codeHalf A_t_codeTo A_t_stack A_t_facts x_t_lines A_t_newWords A_t_roundFrom A_t_roundAt A_t_roundTimes x_t_newMany x_t_rounds x_t_itFrom x_t_itTimes x_t_writtenNow x_t_picturesNow x_t_usedNow x_t_chosen x_t_fearOfChosen A_t_leastFrom A_t_rowNow x_t_changesNow x_t_left0 A_t_bornOf A_t_trainsTo A_t_trainAt x_t_trainMany x_t_leastTries x_t_firstTrained x_t_isKept, iA cI 293 A_t_now v_t_now, iA cI 16 A_t_rhymeOf v_t_rhymeOf, iA cI 48 A_t_wordAt v_t_wordAt] → va_S A s.heap H locs → f_X12_bearsAllBy_b2 v_t_now v_t_rhymeOf v_t_wordAt x_t_wordMany a1 a2 n_2 l3 = some o_r → W p l e { frames := 3, cells := 0, slots := 0, locals := 65 } s m ([.ref A_t, .int a1, .int a2] : List Value).toArray below meth c H locs 0 0 (MQ below (PoI D A [oX12 A_t A_t_now A_t_aside A_t_kept A_t_rhymeOf A_t_wasRhyme A_t_wordAt x_t_wordMany A_t_tape x_t_taped x_t_place0 x_t_length0 x_t_fault x_t_number0 x_t_open x_t_codeMany x_t_waiting x_t_saidMany x_t_clauses A_t_said A_t_waitsAt A_t_saidLetter A_t_saidFrom A_t_saidHalf A_t_saidTo A_t_codes A_t_clauseOf A_t_codeFrom A_t_codeHalf A_t_codeTo A_t_stack A_t_facts x_t_lines A_t_newWords A_t_roundFrom A_t_roundAt A_t_roundTimes x_t_newMany x_t_rounds x_t_itFrom x_t_itTimes x_t_writtenNow x_t_picturesNow x_t_usedNow x_t_chosen x_t_fearOfChosen A_t_leastFrom A_t_rowNow x_t_changesNow x_t_left0 A_t_bornOf A_t_trainsTo A_t_trainAt x_t_trainMany x_t_leastTries x_t_firstTrained x_t_isKept, iA cI 293 A_t_now v_t_now, iA cI 16 A_t_rhymeOf v_t_rhymeOf, iA cI 48 A_t_wordAt v_t_wordAt] o_r) ([.ref A_t, .int a1, .int a2] : List Value).toArray s 0 0 A) (F0 m 2 ls []) := by
    intro n_2
    induction n_2 with
    | zero =>
      intro l3 H locs ls hl hP hD hS hf
      exact absurd hf (fun h => by rw [f_X12_bearsAllBy_b2] at h; cases h)
    | succ n_2 ih_2 =>
      intro l3 H locs ls hl hP hD hS hf
      rw [f_X12_bearsAllBy_b2] at hf
      refine lv_iload_n hx hb dX12_bearsAllBy_2 rfl (lv_at hl 3 rfl) ?_
      refine lv_aload_n hx hb dX12_bearsAllBy_3 rfl (lv_at hl 0 rfl) ?_
      refine x_get C hK hP fd_X12_300 0 rfl rfl dX12_bearsAllBy_4 ?_
      refine lv_icmp_ge (tgt := 41) hx hb dX12_bearsAllBy_7 (by decide) (fun q => ?_) (fun q => ?_)
      · have hf := if_t q hf
        refine lv_iconst (v := 1) hx hb dX12_bearsAllBy_41 (by decide) ?_
        obtain rfl := ev1 hf
        exact x_zret C hr hlk (Or.inr rfl) hP hD hS dX12_bearsAllBy_42
      · have hf := if_f q hf
        refine lv_aload_n hx hb dX12_bearsAllBy_10 rfl (lv_at hl 0 rfl) ?_
        refine lv_iload_n hx hb dX12_bearsAllBy_11 rfl (lv_at hl 1 rfl) ?_
        refine lv_aload_n hx hb dX12_bearsAllBy_12 rfl (lv_at hl 0 rfl) ?_
        refine x_get C hK hP fd_X12_25 0 rfl rfl dX12_bearsAllBy_13 ?_
        refine lv_iload_n hx hb dX12_bearsAllBy_16 rfl (lv_at hl 3 rfl) ?_
        obtain ⟨hi, hf⟩ := gI_e hf
        refine x_iald C hK hP 3 rfl hi dX12_bearsAllBy_17 ?_
        refine lv_iload_n hx hb dX12_bearsAllBy_18 rfl (lv_at hl 2 rfl) ?_
        obtain ⟨r1, hc2, hf⟩ := bd1_e hf
        refine x_callVI (ws' := [oX12 A_t A_t_now A_t_aside A_t_kept A_t_rhymeOf A_t_wasRhyme A_t_wordAt x_t_wordMany A_t_tape x_t_taped x_t_place0 x_t_length0 x_t_fault x_t_number0 x_t_open x_t_codeMany x_t_waiting x_t_saidMany x_t_clauses A_t_said A_t_waitsAt A_t_saidLetter A_t_saidFrom A_t_saidHalf A_t_saidTo A_t_codes A_t_clauseOf A_t_codeFrom A_t_codeHalf A_t_codeTo A_t_stack A_t_facts x_t_lines A_t_newWords A_t_roundFrom A_t_roundAt A_t_roundTimes x_t_newMany x_t_rounds x_t_itFrom x_t_itTimes x_t_writtenNow x_t_picturesNow x_t_usedNow x_t_chosen x_t_fearOfChosen A_t_leastFrom A_t_rowNow x_t_changesNow x_t_left0 A_t_bornOf A_t_trainsTo A_t_trainAt x_t_trainMany x_t_leastTries x_t_firstTrained x_t_isKept, iA cI 293 A_t_now v_t_now, iA cI 16 A_t_rhymeOf v_t_rhymeOf, iA cI 48 A_t_wordAt v_t_wordAt]) (rest := []) C hK hP hD hS hA hl mf_X12_120 (c_X12_shrinkingBy hc2) [0, 1, 2] 0 12 rfl rfl rfl rfl rfl rfl rfl rfl rfl rfl (Nat.le_of_ble_eq_true rfl) ⟨Nat.le_of_ble_eq_true rfl, Nat.le_of_ble_eq_true rfl⟩ ⟨Nat.le_refl _, Nat.le_refl _⟩ dX12_bearsAllBy_19 ?_
        intro H locs hP hD hS
        refine lv_aload_n hx hb dX12_bearsAllBy_22 rfl (lv_at hl 0 rfl) ?_
        refine x_get C hK hP fd_X12_7 0 rfl rfl dX12_bearsAllBy_23 ?_
        refine lv_sipush (v := 288) hx hb dX12_bearsAllBy_26 (by decide) ?_
        obtain ⟨hi, hf⟩ := gI_e hf
        refine x_iald C hK hP 1 rfl hi dX12_bearsAllBy_29 ?_
        refine lv_icmp_le (tgt := 35) hx hb dX12_bearsAllBy_30 (by decide) (fun q => ?_) (fun q => ?_)
        · have hf := if_t q hf
          refine lv_iinc (v := (l3 + (1 : Int32))) (lv' := [(3, .int (l3 + (1 : Int32))), (0, .ref A_t), (1, .int a1), (2, .int a2)]) hx hb dX12_bearsAllBy_35 hl (k := 3) rfl rfl (by decide) rfl (fun ls hl => ?_)
          refine lv_goto (tgt := 2) hx hb dX12_bearsAllBy_38 (by decide) ?_
          exact ih_2 (l3 + (1 : Int32)) _ _ ls (lv_sub hl [1, 2, 3, 0] rfl) hP hD hS hf
        · have hf := if_f q hf
          refine lv_iconst (v := 0) hx hb dX12_bearsAllBy_33 (by decide) ?_
          obtain rfl := ev1 hf
          exact x_zret C hr hlk (Or.inl rfl) hP hD hS dX12_bearsAllBy_34
  refine lv_iconst (v := 0) hx hb dX12_bearsAllBy_0 (by decide) ?_
  refine lv_istore_n (lv' := [(3, .int (0 : Int32)), (0, .ref A_t), (1, .int a1), (2, .int a2)]) hx hb dX12_bearsAllBy_1 rfl hl (by decide) rfl (fun ls hl => ?_)
  exact hb_2 FU (0 : Int32) _ _ ls (lv_sub hl [1, 2, 3, 0] rfl) hP hD hS hf
def f_X12_leastSalt_b76 (s0 : Int32) : Option (Int32) :=
  some s0
def f_X12_leastSalt_b54 (v_t_now : (Nat → Int32)) (a1 : Int32) (l2 : Int32) : Option (Int32) :=
  gI 293 v_t_now ((16 : Int32) + a1) (fun g1 =>
  if (g1 + l2) ≤ (99 : Int32) then
    f_X12_leastSalt_b76 l2
  else
    f_X12_leastSalt_b76 (100 : Int32))
def f_X12_leastSalt_b12 (v_t_now : (Nat → Int32)) (v_t_rhymeOf : (Nat → Int32)) (v_t_wordAt : (Nat → Int32)) (x_t_wordMany : Int32) (a1 : Int32) : Nat → Int32 → Option (Int32)
  | 0, _ => none
  | n + 1, l2 =>
    gI 293 v_t_now ((16 : Int32) + a1) (fun g1 =>
    if (99 : Int32) < (g1 + l2) then
      f_X12_leastSalt_b54 v_t_now a1 l2
    else
      gI 293 v_t_now ((16 : Int32) + a1) (fun g2 =>
      bd1 (f_X12_bearsAllBy v_t_now v_t_rhymeOf v_t_wordAt x_t_wordMany a1 (g2 + l2)) (fun r3 =>
      if r3 = 0 then
        f_X12_leastSalt_b12 v_t_now v_t_rhymeOf v_t_wordAt x_t_wordMany a1 n (l2 + (1 : Int32))
      else
        f_X12_leastSalt_b54 v_t_now a1 l2)))
def f_X12_leastSalt (v_t_now : (Nat → Int32)) (v_t_rhymeOf : (Nat → Int32)) (v_t_wordAt : (Nat → Int32)) (x_t_wordMany : Int32) (a1 : Int32) : Option (Int32) :=
  bd1 (f_X12_isTold v_t_now a1) (fun r4 =>
  if r4 = 0 then
    some (-1 : Int32)
  else
    f_X12_leastSalt_b12 v_t_now v_t_rhymeOf v_t_wordAt x_t_wordMany a1 FU (0 : Int32))
set_option maxHeartbeats 4000000 in
set_option maxRecDepth 100000 in
theorem c_X12_leastSalt {l : Launch} {D : va_G} {cI cB : ClassId} {A_t A_t_now A_t_aside A_t_kept A_t_rhymeOf A_t_wasRhyme A_t_wordAt A_t_tape A_t_said A_t_waitsAt A_t_saidLetter A_t_saidFrom A_t_saidHalf A_t_saidTo A_t_codes A_t_clauseOf A_t_codeFrom A_t_codeHalf A_t_codeTo A_t_stack A_t_facts A_t_newWords A_t_roundFrom A_t_roundAt A_t_roundTimes A_t_leastFrom A_t_rowNow A_t_bornOf A_t_trainsTo A_t_trainAt : Nat} {x_t_wordMany x_t_taped x_t_place0 x_t_length0 x_t_fault x_t_number0 x_t_open x_t_codeMany x_t_waiting x_t_saidMany x_t_clauses x_t_lines x_t_newMany x_t_rounds x_t_itFrom x_t_itTimes x_t_writtenNow x_t_picturesNow x_t_usedNow x_t_chosen x_t_fearOfChosen x_t_changesNow x_t_left0 x_t_trainMany x_t_leastTries x_t_firstTrained x_t_isKept a1 : Int32} {v_t_now v_t_rhymeOf v_t_wordAt : Nat → Int32} {o_r : Int32} (hf : f_X12_leastSalt v_t_now v_t_rhymeOf v_t_wordAt x_t_wordMany a1 = some o_r) : CtI l D cI cB yX12_leastSalt cX12_leastSalt 3 (some .int) 4 88 [.ref A_t, .int a1] [oX12 A_t A_t_now A_t_aside A_t_kept A_t_rhymeOf A_t_wasRhyme A_t_wordAt x_t_wordMany A_t_tape x_t_taped x_t_place0 x_t_length0 x_t_fault x_t_number0 x_t_open x_t_codeMany x_t_waiting x_t_saidMany x_t_clauses A_t_said A_t_waitsAt A_t_saidLetter A_t_saidFrom A_t_saidHalf A_t_saidTo A_t_codes A_t_clauseOf A_t_codeFrom A_t_codeHalf A_t_codeTo A_t_stack A_t_facts x_t_lines A_t_newWords A_t_roundFrom A_t_roundAt A_t_roundTimes x_t_newMany x_t_rounds x_t_itFrom x_t_itTimes x_t_writtenNow x_t_picturesNow x_t_usedNow x_t_chosen x_t_fearOfChosen A_t_leastFrom A_t_rowNow x_t_changesNow x_t_left0 A_t_bornOf A_t_trainsTo A_t_trainAt x_t_trainMany x_t_leastTries x_t_firstTrained x_t_isKept, iA cI 293 A_t_now v_t_now, iA cI 16 A_t_rhymeOf v_t_rhymeOf, iA cI 48 A_t_wordAt v_t_wordAt] [oX12 A_t A_t_now A_t_aside A_t_kept A_t_rhymeOf A_t_wasRhyme A_t_wordAt x_t_wordMany A_t_tape x_t_taped x_t_place0 x_t_length0 x_t_fault x_t_number0 x_t_open x_t_codeMany x_t_waiting x_t_saidMany x_t_clauses A_t_said A_t_waitsAt A_t_saidLetter A_t_saidFrom A_t_saidHalf A_t_saidTo A_t_codes A_t_clauseOf A_t_codeFrom A_t_codeHalf A_t_codeTo A_t_stack A_t_facts x_t_lines A_t_newWords A_t_roundFrom A_t_roundAt A_t_roundTimes x_t_newMany x_t_rounds x_t_itFrom x_t_itTimes x_t_writtenNow x_t_picturesNow x_t_usedNow x_t_chosen x_t_fearOfChosen A_t_leastFrom A_t_rowNow x_t_changesNow x_t_left0 A_t_bornOf A_t_trainsTo A_t_trainAt x_t_trainMany x_t_leastTries x_t_firstTrained x_t_isKept, iA cI 293 A_t_now v_t_now, iA cI 16 A_t_rhymeOf v_t_rhymeOf, iA cI 48 A_t_wordAt v_t_wordAt] o_r := by
  refine x_startI (by decide) (Nat.le_of_ble_eq_true rfl) ?_
  intro p e s m below meth c A C hr hlk hA hK hP hD hS ls hl
  have hl : lv_has ls 3 [(0, .ref A_t), (1, .int a1)] := hl
  have hx := C.1
  have hb := C.2.1
  unfold f_X12_leastSalt at hf
  have hb_76 : ∀ (s0 : Int32) (H : Heap) (locs : List Loc) (ls : Array Slot), lv_has ls 3 [] → va_P D vwCl [oX12 A_t A_t_now A_t_aside A_t_kept A_t_rhymeOf A_t_wasRhyme A_t_wordAt x_t_wordMany A_t_tape x_t_taped x_t_place0 x_t_length0 x_t_fault x_t_number0 x_t_open x_t_codeMany x_t_waiting x_t_saidMany x_t_clauses A_t_said A_t_waitsAt A_t_saidLetter A_t_saidFrom A_t_saidHalf A_t_saidTo A_t_codes A_t_clauseOf A_t_codeFrom A_t_codeHalf A_t_codeTo A_t_stack A_t_facts x_t_lines A_t_newWords A_t_roundFrom A_t_roundAt A_t_roundTimes x_t_newMany x_t_rounds x_t_itFrom x_t_itTimes x_t_writtenNow x_t_picturesNow x_t_usedNow x_t_chosen x_t_fearOfChosen A_t_leastFrom A_t_rowNow x_t_changesNow x_t_left0 A_t_bornOf A_t_trainsTo A_t_trainAt x_t_trainMany x_t_leastTries x_t_firstTrained x_t_isKept, iA cI 293 A_t_now v_t_now, iA cI 16 A_t_rhymeOf v_t_rhymeOf, iA cI 48 A_t_wordAt v_t_wordAt] H → va_D A [oX12 A_t A_t_now A_t_aside A_t_kept A_t_rhymeOf A_t_wasRhyme A_t_wordAt x_t_wordMany A_t_tape x_t_taped x_t_place0 x_t_length0 x_t_fault x_t_number0 x_t_open x_t_codeMany x_t_waiting x_t_saidMany x_t_clauses A_t_said A_t_waitsAt A_t_saidLetter A_t_saidFrom A_t_saidHalf A_t_saidTo A_t_codes A_t_clauseOf A_t_codeFrom A_t_codeHalf A_t_codeTo A_t_stack A_t_facts x_t_lines A_t_newWords A_t_roundFrom A_t_roundAt A_t_roundTimes x_t_newMany x_t_rounds x_t_itFrom x_t_itTimes x_t_writtenNow x_t_picturesNow x_t_usedNow x_t_chosen x_t_fearOfChosen A_t_leastFrom A_t_rowNow x_t_changesNow x_t_left0 A_t_bornOf A_t_trainsTo A_t_trainAt x_t_trainMany x_t_leastTries x_t_firstTrained x_t_isKept, iA cI 293 A_t_now v_t_now, iA cI 16 A_t_rhymeOf v_t_rhymeOf, iA cI 48 A_t_wordAt v_t_wordAt] → va_S A s.heap H locs → f_X12_leastSalt_b76 s0 = some o_r → W p l e { frames := 4, cells := 0, slots := 0, locals := 88 } s m ([.ref A_t, .int a1] : List Value).toArray below meth c H locs 0 0 (MQ below (PoI D A [oX12 A_t A_t_now A_t_aside A_t_kept A_t_rhymeOf A_t_wasRhyme A_t_wordAt x_t_wordMany A_t_tape x_t_taped x_t_place0 x_t_length0 x_t_fault x_t_number0 x_t_open x_t_codeMany x_t_waiting x_t_saidMany x_t_clauses A_t_said A_t_waitsAt A_t_saidLetter A_t_saidFrom A_t_saidHalf A_t_saidTo A_t_codes A_t_clauseOf A_t_codeFrom A_t_codeHalf A_t_codeTo A_t_stack A_t_facts x_t_lines A_t_newWords A_t_roundFrom A_t_roundAt A_t_roundTimes x_t_newMany x_t_rounds x_t_itFrom x_t_itTimes x_t_writtenNow x_t_picturesNow x_t_usedNow x_t_chosen x_t_fearOfChosen A_t_leastFrom A_t_rowNow x_t_changesNow x_t_left0 A_t_bornOf A_t_trainsTo A_t_trainAt x_t_trainMany x_t_leastTries x_t_firstTrained x_t_isKept, iA cI 293 A_t_now v_t_now, iA cI 16 A_t_rhymeOf v_t_rhymeOf, iA cI 48 A_t_wordAt v_t_wordAt] o_r) ([.ref A_t, .int a1] : List Value).toArray s 0 0 A) (F0 m 76 ls [.int s0]) := by
    intro s0 H locs ls hl hP hD hS hf
    unfold f_X12_leastSalt_b76 at hf
    obtain rfl := ev1 hf
    exact x_iret C hr hlk hP hD hS dX12_leastSalt_76
  have hb_54 : ∀ (l2 : Int32) (H : Heap) (locs : List Loc) (ls : Array Slot), lv_has ls 3 [(0, .ref A_t), (1, .int a1), (2, .int l2)] → va_P D vwCl [oX12 A_t A_t_now A_t_aside A_t_kept A_t_rhymeOf A_t_wasRhyme A_t_wordAt x_t_wordMany A_t_tape x_t_taped x_t_place0 x_t_length0 x_t_fault x_t_number0 x_t_open x_t_codeMany x_t_waiting x_t_saidMany x_t_clauses A_t_said A_t_waitsAt A_t_saidLetter A_t_saidFrom A_t_saidHalf A_t_saidTo A_t_codes A_t_clauseOf A_t_codeFrom A_t_codeHalf A_t_codeTo A_t_stack A_t_facts x_t_lines A_t_newWords A_t_roundFrom A_t_roundAt A_t_roundTimes x_t_newMany x_t_rounds x_t_itFrom x_t_itTimes x_t_writtenNow x_t_picturesNow x_t_usedNow x_t_chosen x_t_fearOfChosen A_t_leastFrom A_t_rowNow x_t_changesNow x_t_left0 A_t_bornOf A_t_trainsTo A_t_trainAt x_t_trainMany x_t_leastTries x_t_firstTrained x_t_isKept, iA cI 293 A_t_now v_t_now, iA cI 16 A_t_rhymeOf v_t_rhymeOf, iA cI 48 A_t_wordAt v_t_wordAt] H → va_D A [oX12 A_t A_t_now A_t_aside A_t_kept A_t_rhymeOf A_t_wasRhyme A_t_wordAt x_t_wordMany A_t_tape x_t_taped x_t_place0 x_t_length0 x_t_fault x_t_number0 x_t_open x_t_codeMany x_t_waiting x_t_saidMany x_t_clauses A_t_said A_t_waitsAt A_t_saidLetter A_t_saidFrom A_t_saidHalf A_t_saidTo A_t_codes A_t_clauseOf A_t_codeFrom A_t_codeHalf A_t_codeTo A_t_stack A_t_facts x_t_lines A_t_newWords A_t_roundFrom A_t_roundAt A_t_roundTimes x_t_newMany x_t_rounds x_t_itFrom x_t_itTimes x_t_writtenNow x_t_picturesNow x_t_usedNow x_t_chosen x_t_fearOfChosen A_t_leastFrom A_t_rowNow x_t_changesNow x_t_left0 A_t_bornOf A_t_trainsTo A_t_trainAt x_t_trainMany x_t_leastTries x_t_firstTrained x_t_isKept, iA cI 293 A_t_now v_t_now, iA cI 16 A_t_rhymeOf v_t_rhymeOf, iA cI 48 A_t_wordAt v_t_wordAt] → va_S A s.heap H locs → f_X12_leastSalt_b54 v_t_now a1 l2 = some o_r → W p l e { frames := 4, cells := 0, slots := 0, locals := 88 } s m ([.ref A_t, .int a1] : List Value).toArray below meth c H locs 0 0 (MQ below (PoI D A [oX12 A_t A_t_now A_t_aside A_t_kept A_t_rhymeOf A_t_wasRhyme A_t_wordAt x_t_wordMany A_t_tape x_t_taped x_t_place0 x_t_length0 x_t_fault x_t_number0 x_t_open x_t_codeMany x_t_waiting x_t_saidMany x_t_clauses A_t_said A_t_waitsAt A_t_saidLetter A_t_saidFrom A_t_saidHalf A_t_saidTo A_t_codes A_t_clauseOf A_t_codeFrom A_t_codeHalf A_t_codeTo A_t_stack A_t_facts x_t_lines A_t_newWords A_t_roundFrom A_t_roundAt A_t_roundTimes x_t_newMany x_t_rounds x_t_itFrom x_t_itTimes x_t_writtenNow x_t_picturesNow x_t_usedNow x_t_chosen x_t_fearOfChosen A_t_leastFrom A_t_rowNow x_t_changesNow x_t_left0 A_t_bornOf A_t_trainsTo A_t_trainAt x_t_trainMany x_t_leastTries x_t_firstTrained x_t_isKept, iA cI 293 A_t_now v_t_now, iA cI 16 A_t_rhymeOf v_t_rhymeOf, iA cI 48 A_t_wordAt v_t_wordAt] o_r) ([.ref A_t, .int a1] : List Value).toArray s 0 0 A) (F0 m 54 ls []) := by
    intro l2 H locs ls hl hP hD hS hf
    unfold f_X12_leastSalt_b54 at hf
    refine lv_aload_n hx hb dX12_leastSalt_54 rfl (lv_at hl 0 rfl) ?_
    refine x_get C hK hP fd_X12_7 0 rfl rfl dX12_leastSalt_55 ?_
    refine lv_bipush (v := 16) hx hb dX12_leastSalt_58 (by decide) ?_
    refine lv_iload_n hx hb dX12_leastSalt_60 rfl (lv_at hl 1 rfl) ?_
    refine lv_iadd hx hb dX12_leastSalt_61 ?_
    obtain ⟨hi, hf⟩ := gI_e hf
    refine x_iald C hK hP 1 rfl hi dX12_leastSalt_62 ?_
    refine lv_iload_n hx hb dX12_leastSalt_63 rfl (lv_at hl 2 rfl) ?_
    refine lv_iadd hx hb dX12_leastSalt_64 ?_
    refine lv_bipush (v := 99) hx hb dX12_leastSalt_65 (by decide) ?_
    refine lv_icmp_le (tgt := 75) hx hb dX12_leastSalt_67 (by decide) (fun q => ?_) (fun q => ?_)
    · have hf := if_t q hf
      refine lv_iload_n hx hb dX12_leastSalt_75 rfl (lv_at hl 2 rfl) ?_
      exact hb_76 l2 _ _ ls (lv_sub hl [] rfl) hP hD hS hf
    · have hf := if_f q hf
      refine lv_bipush (v := 100) hx hb dX12_leastSalt_70 (by decide) ?_
      refine lv_goto (tgt := 76) hx hb dX12_leastSalt_72 (by decide) ?_
      exact hb_76 (100 : Int32) _ _ ls (lv_sub hl [] rfl) hP hD hS hf
  have hb_12 : ∀ (n_12 : Nat) (l2 : Int32) (H : Heap) (locs : List Loc) (ls : Array Slot), lv_has ls 3 [(0, .ref A_t), (1, .int a1), (2, .int l2)] → va_P D vwCl [oX12 A_t A_t_now A_t_aside A_t_kept A_t_rhymeOf A_t_wasRhyme A_t_wordAt x_t_wordMany A_t_tape x_t_taped x_t_place0 x_t_length0 x_t_fault x_t_number0 x_t_open x_t_codeMany x_t_waiting x_t_saidMany x_t_clauses A_t_said A_t_waitsAt A_t_saidLetter A_t_saidFrom A_t_saidHalf A_t_saidTo A_t_codes A_t_clauseOf A_t_codeFrom A_t_codeHalf A_t_codeTo A_t_stack A_t_facts x_t_lines A_t_newWords A_t_roundFrom A_t_roundAt A_t_roundTimes x_t_newMany x_t_rounds x_t_itFrom x_t_itTimes x_t_writtenNow x_t_picturesNow x_t_usedNow x_t_chosen x_t_fearOfChosen A_t_leastFrom A_t_rowNow x_t_changesNow x_t_left0 A_t_bornOf A_t_trainsTo A_t_trainAt x_t_trainMany x_t_leastTries x_t_firstTrained x_t_isKept, iA cI 293 A_t_now v_t_now, iA cI 16 A_t_rhymeOf v_t_rhymeOf, iA cI 48 A_t_wordAt v_t_wordAt] H → va_D A [oX12 A_t A_t_now A_t_aside A_t_kept A_t_rhymeOf A_t_wasRhyme A_t_wordAt x_t_wordMany A_t_tape x_t_taped x_t_place0 x_t_length0 x_t_fault x_t_number0 x_t_open x_t_codeMany x_t_waiting x_t_saidMany x_t_clauses A_t_said A_t_waitsAt A_t_saidLetter A_t_saidFrom A_t_saidHalf A_t_saidTo A_t_codes A_t_clauseOf A_t_codeFrom A_t_codeHalf A_t_codeTo A_t_stack A_t_facts x_t_lines A_t_newWords A_t_roundFrom A_t_roundAt A_t_roundTimes x_t_newMany x_t_rounds x_t_itFrom x_t_itTimes x_t_writtenNow x_t_picturesNow x_t_usedNow x_t_chosen x_t_fearOfChosen A_t_leastFrom A_t_rowNow x_t_changesNow x_t_left0 A_t_bornOf A_t_trainsTo A_t_trainAt x_t_trainMany x_t_leastTries x_t_firstTrained x_t_isKept, iA cI 293 A_t_now v_t_now, iA cI 16 A_t_rhymeOf v_t_rhymeOf, iA cI 48 A_t_wordAt v_t_wordAt] → va_S A s.heap H locs → f_X12_leastSalt_b12 v_t_now v_t_rhymeOf v_t_wordAt x_t_wordMany a1 n_12 l2 = some o_r → W p l e { frames := 4, cells := 0, slots := 0, locals := 88 } s m ([.ref A_t, .int a1] : List Value).toArray below meth c H locs 0 0 (MQ below (PoI D A [oX12 A_t A_t_now A_t_aside A_t_kept A_t_rhymeOf A_t_wasRhyme A_t_wordAt x_t_wordMany A_t_tape x_t_taped x_t_place0 x_t_length0 x_t_fault x_t_number0 x_t_open x_t_codeMany x_t_waiting x_t_saidMany x_t_clauses A_t_said A_t_waitsAt A_t_saidLetter A_t_saidFrom A_t_saidHalf A_t_saidTo A_t_codes A_t_clauseOf A_t_codeFrom A_t_codeHalf A_t_codeTo A_t_stack A_t_facts x_t_lines A_t_newWords A_t_roundFrom A_t_roundAt A_t_roundTimes x_t_newMany x_t_rounds x_t_itFrom x_t_itTimes x_t_writtenNow x_t_picturesNow x_t_usedNow x_t_chosen x_t_fearOfChosen A_t_leastFrom A_t_rowNow x_t_changesNow x_t_left0 A_t_bornOf A_t_trainsTo A_t_trainAt x_t_trainMany x_t_leastTries x_t_firstTrained x_t_isKept, iA cI 293 A_t_now v_t_now, iA cI 16 A_t_rhymeOf v_t_rhymeOf, iA cI 48 A_t_wordAt v_t_wordAt] o_r) ([.ref A_t, .int a1] : List Value).toArray s 0 0 A) (F0 m 12 ls []) := by
    intro n_12
    induction n_12 with
    | zero =>
      intro l2 H locs ls hl hP hD hS hf
      exact absurd hf (fun h => by rw [f_X12_leastSalt_b12] at h; cases h)
    | succ n_12 ih_12 =>
      intro l2 H locs ls hl hP hD hS hf
      rw [f_X12_leastSalt_b12] at hf
      refine lv_aload_n hx hb dX12_leastSalt_12 rfl (lv_at hl 0 rfl) ?_
      refine x_get C hK hP fd_X12_7 0 rfl rfl dX12_leastSalt_13 ?_
      refine lv_bipush (v := 16) hx hb dX12_leastSalt_16 (by decide) ?_
      refine lv_iload_n hx hb dX12_leastSalt_18 rfl (lv_at hl 1 rfl) ?_
      refine lv_iadd hx hb dX12_leastSalt_19 ?_
      obtain ⟨hi, hf⟩ := gI_e hf
      refine x_iald C hK hP 1 rfl hi dX12_leastSalt_20 ?_
      refine lv_iload_n hx hb dX12_leastSalt_21 rfl (lv_at hl 2 rfl) ?_
      refine lv_iadd hx hb dX12_leastSalt_22 ?_
      refine lv_bipush (v := 99) hx hb dX12_leastSalt_23 (by decide) ?_
      refine lv_icmp_gt (tgt := 54) hx hb dX12_leastSalt_25 (by decide) (fun q => ?_) (fun q => ?_)
      · have hf := if_t q hf
        exact hb_54 l2 _ _ ls (lv_sub hl [0, 1, 2] rfl) hP hD hS hf
      · have hf := if_f q hf
        refine lv_aload_n hx hb dX12_leastSalt_28 rfl (lv_at hl 0 rfl) ?_
        refine lv_iload_n hx hb dX12_leastSalt_29 rfl (lv_at hl 1 rfl) ?_
        refine lv_aload_n hx hb dX12_leastSalt_30 rfl (lv_at hl 0 rfl) ?_
        refine x_get C hK hP fd_X12_7 0 rfl rfl dX12_leastSalt_31 ?_
        refine lv_bipush (v := 16) hx hb dX12_leastSalt_34 (by decide) ?_
        refine lv_iload_n hx hb dX12_leastSalt_36 rfl (lv_at hl 1 rfl) ?_
        refine lv_iadd hx hb dX12_leastSalt_37 ?_
        obtain ⟨hi, hf⟩ := gI_e hf
        refine x_iald C hK hP 1 rfl hi dX12_leastSalt_38 ?_
        refine lv_iload_n hx hb dX12_leastSalt_39 rfl (lv_at hl 2 rfl) ?_
        refine lv_iadd hx hb dX12_leastSalt_40 ?_
        obtain ⟨r1, hc2, hf⟩ := bd1_e hf
        refine x_callVI (ws' := [oX12 A_t A_t_now A_t_aside A_t_kept A_t_rhymeOf A_t_wasRhyme A_t_wordAt x_t_wordMany A_t_tape x_t_taped x_t_place0 x_t_length0 x_t_fault x_t_number0 x_t_open x_t_codeMany x_t_waiting x_t_saidMany x_t_clauses A_t_said A_t_waitsAt A_t_saidLetter A_t_saidFrom A_t_saidHalf A_t_saidTo A_t_codes A_t_clauseOf A_t_codeFrom A_t_codeHalf A_t_codeTo A_t_stack A_t_facts x_t_lines A_t_newWords A_t_roundFrom A_t_roundAt A_t_roundTimes x_t_newMany x_t_rounds x_t_itFrom x_t_itTimes x_t_writtenNow x_t_picturesNow x_t_usedNow x_t_chosen x_t_fearOfChosen A_t_leastFrom A_t_rowNow x_t_changesNow x_t_left0 A_t_bornOf A_t_trainsTo A_t_trainAt x_t_trainMany x_t_leastTries x_t_firstTrained x_t_isKept, iA cI 293 A_t_now v_t_now, iA cI 16 A_t_rhymeOf v_t_rhymeOf, iA cI 48 A_t_wordAt v_t_wordAt]) (rest := []) C hK hP hD hS hA hl mf_X12_372 (c_X12_bearsAllBy hc2) [0, 1, 2, 3] 0 12 rfl rfl rfl rfl rfl rfl rfl rfl rfl rfl (Nat.le_of_ble_eq_true rfl) ⟨Nat.le_of_ble_eq_true rfl, Nat.le_of_ble_eq_true rfl⟩ ⟨Nat.le_refl _, Nat.le_refl _⟩ dX12_leastSalt_41 ?_
        intro H locs hP hD hS
        refine lv_if_ne (tgt := 54) hx hb dX12_leastSalt_44 (by decide) (fun q => ?_) (fun q => ?_)
        · have hf := if_f q hf
          exact hb_54 l2 _ _ ls (lv_sub hl [0, 1, 2] rfl) hP hD hS hf
        · have hf := if_t q hf
          refine lv_iload_n hx hb dX12_leastSalt_47 rfl (lv_at hl 2 rfl) ?_
          refine lv_iconst (v := 1) hx hb dX12_leastSalt_48 (by decide) ?_
          refine lv_iadd hx hb dX12_leastSalt_49 ?_
          refine lv_istore_n (lv' := [(2, .int (l2 + (1 : Int32))), (0, .ref A_t), (1, .int a1)]) hx hb dX12_leastSalt_50 rfl hl (by decide) rfl (fun ls hl => ?_)
          refine lv_goto (tgt := 12) hx hb dX12_leastSalt_51 (by decide) ?_
          exact ih_12 (l2 + (1 : Int32)) _ _ ls (lv_sub hl [1, 2, 0] rfl) hP hD hS hf
  refine lv_aload_n hx hb dX12_leastSalt_0 rfl (lv_at hl 0 rfl) ?_
  refine lv_iload_n hx hb dX12_leastSalt_1 rfl (lv_at hl 1 rfl) ?_
  obtain ⟨r3, hc4, hf⟩ := bd1_e hf
  refine x_callVI (ws' := [oX12 A_t A_t_now A_t_aside A_t_kept A_t_rhymeOf A_t_wasRhyme A_t_wordAt x_t_wordMany A_t_tape x_t_taped x_t_place0 x_t_length0 x_t_fault x_t_number0 x_t_open x_t_codeMany x_t_waiting x_t_saidMany x_t_clauses A_t_said A_t_waitsAt A_t_saidLetter A_t_saidFrom A_t_saidHalf A_t_saidTo A_t_codes A_t_clauseOf A_t_codeFrom A_t_codeHalf A_t_codeTo A_t_stack A_t_facts x_t_lines A_t_newWords A_t_roundFrom A_t_roundAt A_t_roundTimes x_t_newMany x_t_rounds x_t_itFrom x_t_itTimes x_t_writtenNow x_t_picturesNow x_t_usedNow x_t_chosen x_t_fearOfChosen A_t_leastFrom A_t_rowNow x_t_changesNow x_t_left0 A_t_bornOf A_t_trainsTo A_t_trainAt x_t_trainMany x_t_leastTries x_t_firstTrained x_t_isKept, iA cI 293 A_t_now v_t_now, iA cI 16 A_t_rhymeOf v_t_rhymeOf, iA cI 48 A_t_wordAt v_t_wordAt]) (rest := []) C hK hP hD hS hA hl mf_X12_109 (c_X12_isTold hc4) [0, 1] 0 12 rfl rfl rfl rfl rfl rfl rfl rfl rfl rfl (Nat.le_of_ble_eq_true rfl) ⟨Nat.le_of_ble_eq_true rfl, Nat.le_of_ble_eq_true rfl⟩ ⟨Nat.le_refl _, Nat.le_refl _⟩ dX12_leastSalt_2 ?_
  intro H locs hP hD hS
  refine lv_if_ne (tgt := 10) hx hb dX12_leastSalt_5 (by decide) (fun q => ?_) (fun q => ?_)
  · have hf := if_f q hf
    refine lv_iconst (v := 0) hx hb dX12_leastSalt_10 (by decide) ?_
    refine lv_istore_n (lv' := [(2, .int (0 : Int32)), (0, .ref A_t), (1, .int a1)]) hx hb dX12_leastSalt_11 rfl hl (by decide) rfl (fun ls hl => ?_)
    exact hb_12 FU (0 : Int32) _ _ ls (lv_sub hl [1, 2, 0] rfl) hP hD hS hf
  · have hf := if_t q hf
    refine lv_iconst (v := -1) hx hb dX12_leastSalt_8 (by decide) ?_
    obtain rfl := ev1 hf
    exact x_iret C hr hlk hP hD hS dX12_leastSalt_9
def f_X12_mixes_b3 (v_t_now : (Nat → Int32)) (v_t_rhymeOf : (Nat → Int32)) (v_t_wordAt : (Nat → Int32)) (x_t_wordMany : Int32) (a1 : Int32) (a2 : Int32) (a3 : Int32) : Nat → Int32 → Option (Int32)
  | 0, _ => none
  | n + 1, l4 =>
    if x_t_wordMany ≤ l4 then
      some (1 : Int32)
    else
      gI 48 v_t_wordAt l4 (fun g1 =>
      bd1 (f_X12_shrinking v_t_now v_t_rhymeOf a1 g1) (fun r2 =>
      bd1 (f_X12_shrinking v_t_now v_t_rhymeOf a2 g1) (fun r3 =>
      dI ((a3 * r2) + (((8 : Int32) - a3) * r3)) (8 : Int32) (fun g4 =>
      gI 293 v_t_now (288 : Int32) (fun g5 =>
      if g4 ≤ g5 then
        f_X12_mixes_b3 v_t_now v_t_rhymeOf v_t_wordAt x_t_wordMany a1 a2 a3 n (l4 + (1 : Int32))
      else
        some (0 : Int32))))))
def f_X12_mixes (v_t_now : (Nat → Int32)) (v_t_rhymeOf : (Nat → Int32)) (v_t_wordAt : (Nat → Int32)) (x_t_wordMany : Int32) (a1 : Int32) (a2 : Int32) (a3 : Int32) : Option (Int32) :=
  f_X12_mixes_b3 v_t_now v_t_rhymeOf v_t_wordAt x_t_wordMany a1 a2 a3 FU (0 : Int32)
set_option maxHeartbeats 4000000 in
set_option maxRecDepth 100000 in
theorem c_X12_mixes {l : Launch} {D : va_G} {cI cB : ClassId} {A_t A_t_now A_t_aside A_t_kept A_t_rhymeOf A_t_wasRhyme A_t_wordAt A_t_tape A_t_said A_t_waitsAt A_t_saidLetter A_t_saidFrom A_t_saidHalf A_t_saidTo A_t_codes A_t_clauseOf A_t_codeFrom A_t_codeHalf A_t_codeTo A_t_stack A_t_facts A_t_newWords A_t_roundFrom A_t_roundAt A_t_roundTimes A_t_leastFrom A_t_rowNow A_t_bornOf A_t_trainsTo A_t_trainAt : Nat} {x_t_wordMany x_t_taped x_t_place0 x_t_length0 x_t_fault x_t_number0 x_t_open x_t_codeMany x_t_waiting x_t_saidMany x_t_clauses x_t_lines x_t_newMany x_t_rounds x_t_itFrom x_t_itTimes x_t_writtenNow x_t_picturesNow x_t_usedNow x_t_chosen x_t_fearOfChosen x_t_changesNow x_t_left0 x_t_trainMany x_t_leastTries x_t_firstTrained x_t_isKept a1 a2 a3 : Int32} {v_t_now v_t_rhymeOf v_t_wordAt : Nat → Int32} {o_r : Int32} (hf : f_X12_mixes v_t_now v_t_rhymeOf v_t_wordAt x_t_wordMany a1 a2 a3 = some o_r) : CtI l D cI cB yX12_mixes cX12_mixes 6 (some .boolean) 4 87 [.ref A_t, .int a1, .int a2, .int a3] [oX12 A_t A_t_now A_t_aside A_t_kept A_t_rhymeOf A_t_wasRhyme A_t_wordAt x_t_wordMany A_t_tape x_t_taped x_t_place0 x_t_length0 x_t_fault x_t_number0 x_t_open x_t_codeMany x_t_waiting x_t_saidMany x_t_clauses A_t_said A_t_waitsAt A_t_saidLetter A_t_saidFrom A_t_saidHalf A_t_saidTo A_t_codes A_t_clauseOf A_t_codeFrom A_t_codeHalf A_t_codeTo A_t_stack A_t_facts x_t_lines A_t_newWords A_t_roundFrom A_t_roundAt A_t_roundTimes x_t_newMany x_t_rounds x_t_itFrom x_t_itTimes x_t_writtenNow x_t_picturesNow x_t_usedNow x_t_chosen x_t_fearOfChosen A_t_leastFrom A_t_rowNow x_t_changesNow x_t_left0 A_t_bornOf A_t_trainsTo A_t_trainAt x_t_trainMany x_t_leastTries x_t_firstTrained x_t_isKept, iA cI 293 A_t_now v_t_now, iA cI 16 A_t_rhymeOf v_t_rhymeOf, iA cI 48 A_t_wordAt v_t_wordAt] [oX12 A_t A_t_now A_t_aside A_t_kept A_t_rhymeOf A_t_wasRhyme A_t_wordAt x_t_wordMany A_t_tape x_t_taped x_t_place0 x_t_length0 x_t_fault x_t_number0 x_t_open x_t_codeMany x_t_waiting x_t_saidMany x_t_clauses A_t_said A_t_waitsAt A_t_saidLetter A_t_saidFrom A_t_saidHalf A_t_saidTo A_t_codes A_t_clauseOf A_t_codeFrom A_t_codeHalf A_t_codeTo A_t_stack A_t_facts x_t_lines A_t_newWords A_t_roundFrom A_t_roundAt A_t_roundTimes x_t_newMany x_t_rounds x_t_itFrom x_t_itTimes x_t_writtenNow x_t_picturesNow x_t_usedNow x_t_chosen x_t_fearOfChosen A_t_leastFrom A_t_rowNow x_t_changesNow x_t_left0 A_t_bornOf A_t_trainsTo A_t_trainAt x_t_trainMany x_t_leastTries x_t_firstTrained x_t_isKept, iA cI 293 A_t_now v_t_now, iA cI 16 A_t_rhymeOf v_t_rhymeOf, iA cI 48 A_t_wordAt v_t_wordAt] o_r := by
  refine x_startI (by decide) (Nat.le_of_ble_eq_true rfl) ?_
  intro p e s m below meth c A C hr hlk hA hK hP hD hS ls hl
  have hl : lv_has ls 6 [(0, .ref A_t), (1, .int a1), (2, .int a2), (3, .int a3)] := hl
  have hx := C.1
  have hb := C.2.1
  unfold f_X12_mixes at hf
  have hb_3 : ∀ (n_3 : Nat) (l4 : Int32) (H : Heap) (locs : List Loc) (ls : Array Slot), lv_has ls 6 [(0, .ref A_t), (1, .int a1), (2, .int a2), (3, .int a3), (4, .int l4)] → va_P D vwCl [oX12 A_t A_t_now A_t_aside A_t_kept A_t_rhymeOf A_t_wasRhyme A_t_wordAt x_t_wordMany A_t_tape x_t_taped x_t_place0 x_t_length0 x_t_fault x_t_number0 x_t_open x_t_codeMany x_t_waiting x_t_saidMany x_t_clauses A_t_said A_t_waitsAt A_t_saidLetter A_t_saidFrom A_t_saidHalf A_t_saidTo A_t_codes A_t_clauseOf A_t_codeFrom A_t_codeHalf A_t_codeTo A_t_stack A_t_facts x_t_lines A_t_newWords A_t_roundFrom A_t_roundAt A_t_roundTimes x_t_newMany x_t_rounds x_t_itFrom x_t_itTimes x_t_writtenNow x_t_picturesNow x_t_usedNow x_t_chosen x_t_fearOfChosen A_t_leastFrom A_t_rowNow x_t_changesNow x_t_left0 A_t_bornOf A_t_trainsTo A_t_trainAt x_t_trainMany x_t_leastTries x_t_firstTrained x_t_isKept, iA cI 293 A_t_now v_t_now, iA cI 16 A_t_rhymeOf v_t_rhymeOf, iA cI 48 A_t_wordAt v_t_wordAt] H → va_D A [oX12 A_t A_t_now A_t_aside A_t_kept A_t_rhymeOf A_t_wasRhyme A_t_wordAt x_t_wordMany A_t_tape x_t_taped x_t_place0 x_t_length0 x_t_fault x_t_number0 x_t_open x_t_codeMany x_t_waiting x_t_saidMany x_t_clauses A_t_said A_t_waitsAt A_t_saidLetter A_t_saidFrom A_t_saidHalf A_t_saidTo A_t_codes A_t_clauseOf A_t_codeFrom A_t_codeHalf A_t_codeTo A_t_stack A_t_facts x_t_lines A_t_newWords A_t_roundFrom A_t_roundAt A_t_roundTimes x_t_newMany x_t_rounds x_t_itFrom x_t_itTimes x_t_writtenNow x_t_picturesNow x_t_usedNow x_t_chosen x_t_fearOfChosen A_t_leastFrom A_t_rowNow x_t_changesNow x_t_left0 A_t_bornOf A_t_trainsTo A_t_trainAt x_t_trainMany x_t_leastTries x_t_firstTrained x_t_isKept, iA cI 293 A_t_now v_t_now, iA cI 16 A_t_rhymeOf v_t_rhymeOf, iA cI 48 A_t_wordAt v_t_wordAt] → va_S A s.heap H locs → f_X12_mixes_b3 v_t_now v_t_rhymeOf v_t_wordAt x_t_wordMany a1 a2 a3 n_3 l4 = some o_r → W p l e { frames := 4, cells := 0, slots := 0, locals := 87 } s m ([.ref A_t, .int a1, .int a2, .int a3] : List Value).toArray below meth c H locs 0 0 (MQ below (PoI D A [oX12 A_t A_t_now A_t_aside A_t_kept A_t_rhymeOf A_t_wasRhyme A_t_wordAt x_t_wordMany A_t_tape x_t_taped x_t_place0 x_t_length0 x_t_fault x_t_number0 x_t_open x_t_codeMany x_t_waiting x_t_saidMany x_t_clauses A_t_said A_t_waitsAt A_t_saidLetter A_t_saidFrom A_t_saidHalf A_t_saidTo A_t_codes A_t_clauseOf A_t_codeFrom A_t_codeHalf A_t_codeTo A_t_stack A_t_facts x_t_lines A_t_newWords A_t_roundFrom A_t_roundAt A_t_roundTimes x_t_newMany x_t_rounds x_t_itFrom x_t_itTimes x_t_writtenNow x_t_picturesNow x_t_usedNow x_t_chosen x_t_fearOfChosen A_t_leastFrom A_t_rowNow x_t_changesNow x_t_left0 A_t_bornOf A_t_trainsTo A_t_trainAt x_t_trainMany x_t_leastTries x_t_firstTrained x_t_isKept, iA cI 293 A_t_now v_t_now, iA cI 16 A_t_rhymeOf v_t_rhymeOf, iA cI 48 A_t_wordAt v_t_wordAt] o_r) ([.ref A_t, .int a1, .int a2, .int a3] : List Value).toArray s 0 0 A) (F0 m 3 ls []) := by
    intro n_3
    induction n_3 with
    | zero =>
      intro l4 H locs ls hl hP hD hS hf
      exact absurd hf (fun h => by rw [f_X12_mixes_b3] at h; cases h)
    | succ n_3 ih_3 =>
      intro l4 H locs ls hl hP hD hS hf
      rw [f_X12_mixes_b3] at hf
      refine lv_iload hx hb dX12_mixes_3 (lv_at hl 4 rfl) ?_
      refine lv_aload_n hx hb dX12_mixes_5 rfl (lv_at hl 0 rfl) ?_
      refine x_get C hK hP fd_X12_300 0 rfl rfl dX12_mixes_6 ?_
      refine lv_icmp_ge (tgt := 65) hx hb dX12_mixes_9 (by decide) (fun q => ?_) (fun q => ?_)
      · have hf := if_t q hf
        refine lv_iconst (v := 1) hx hb dX12_mixes_65 (by decide) ?_
        obtain rfl := ev1 hf
        exact x_zret C hr hlk (Or.inr rfl) hP hD hS dX12_mixes_66
      · have hf := if_f q hf
        refine lv_aload_n hx hb dX12_mixes_12 rfl (lv_at hl 0 rfl) ?_
        refine x_get C hK hP fd_X12_25 0 rfl rfl dX12_mixes_13 ?_
        refine lv_iload hx hb dX12_mixes_16 (lv_at hl 4 rfl) ?_
        obtain ⟨hi, hf⟩ := gI_e hf
        refine x_iald C hK hP 3 rfl hi dX12_mixes_18 ?_
        refine lv_istore (lv' := [(5, .int (v_t_wordAt l4.toNatClampNeg)), (0, .ref A_t), (1, .int a1), (2, .int a2), (3, .int a3), (4, .int l4)]) hx hb dX12_mixes_19 hl (by decide) rfl (fun ls hl => ?_)
        refine lv_iload_n hx hb dX12_mixes_21 rfl (lv_at hl 4 rfl) ?_
        refine lv_aload_n hx hb dX12_mixes_22 rfl (lv_at hl 1 rfl) ?_
        refine lv_iload_n hx hb dX12_mixes_23 rfl (lv_at hl 2 rfl) ?_
        refine lv_iload hx hb dX12_mixes_24 (lv_at hl 0 rfl) ?_
        obtain ⟨r1, hc2, hf⟩ := bd1_e hf
        refine x_callVI (ws' := [oX12 A_t A_t_now A_t_aside A_t_kept A_t_rhymeOf A_t_wasRhyme A_t_wordAt x_t_wordMany A_t_tape x_t_taped x_t_place0 x_t_length0 x_t_fault x_t_number0 x_t_open x_t_codeMany x_t_waiting x_t_saidMany x_t_clauses A_t_said A_t_waitsAt A_t_saidLetter A_t_saidFrom A_t_saidHalf A_t_saidTo A_t_codes A_t_clauseOf A_t_codeFrom A_t_codeHalf A_t_codeTo A_t_stack A_t_facts x_t_lines A_t_newWords A_t_roundFrom A_t_roundAt A_t_roundTimes x_t_newMany x_t_rounds x_t_itFrom x_t_itTimes x_t_writtenNow x_t_picturesNow x_t_usedNow x_t_chosen x_t_fearOfChosen A_t_leastFrom A_t_rowNow x_t_changesNow x_t_left0 A_t_bornOf A_t_trainsTo A_t_trainAt x_t_trainMany x_t_leastTries x_t_firstTrained x_t_isKept, iA cI 293 A_t_now v_t_now, iA cI 16 A_t_rhymeOf v_t_rhymeOf, iA cI 48 A_t_wordAt v_t_wordAt]) (rest := [.int a3]) C hK hP hD hS hA hl mf_X12_124 (c_X12_shrinking hc2) [0, 1, 2] 0 12 rfl rfl rfl rfl rfl rfl rfl rfl rfl rfl (Nat.le_of_ble_eq_true rfl) ⟨Nat.le_of_ble_eq_true rfl, Nat.le_of_ble_eq_true rfl⟩ ⟨Nat.le_refl _, Nat.le_refl _⟩ dX12_mixes_26 ?_
        intro H locs hP hD hS
        refine lv_imul hx hb dX12_mixes_29 ?_
        refine lv_bipush (v := 8) hx hb dX12_mixes_30 (by decide) ?_
        refine lv_iload_n hx hb dX12_mixes_32 rfl (lv_at hl 4 rfl) ?_
        refine lv_isub hx hb dX12_mixes_33 ?_
        refine lv_aload_n hx hb dX12_mixes_34 rfl (lv_at hl 1 rfl) ?_
        refine lv_iload_n hx hb dX12_mixes_35 rfl (lv_at hl 3 rfl) ?_
        refine lv_iload hx hb dX12_mixes_36 (lv_at hl 0 rfl) ?_
        obtain ⟨r3, hc4, hf⟩ := bd1_e hf
        refine x_callVI (ws' := [oX12 A_t A_t_now A_t_aside A_t_kept A_t_rhymeOf A_t_wasRhyme A_t_wordAt x_t_wordMany A_t_tape x_t_taped x_t_place0 x_t_length0 x_t_fault x_t_number0 x_t_open x_t_codeMany x_t_waiting x_t_saidMany x_t_clauses A_t_said A_t_waitsAt A_t_saidLetter A_t_saidFrom A_t_saidHalf A_t_saidTo A_t_codes A_t_clauseOf A_t_codeFrom A_t_codeHalf A_t_codeTo A_t_stack A_t_facts x_t_lines A_t_newWords A_t_roundFrom A_t_roundAt A_t_roundTimes x_t_newMany x_t_rounds x_t_itFrom x_t_itTimes x_t_writtenNow x_t_picturesNow x_t_usedNow x_t_chosen x_t_fearOfChosen A_t_leastFrom A_t_rowNow x_t_changesNow x_t_left0 A_t_bornOf A_t_trainsTo A_t_trainAt x_t_trainMany x_t_leastTries x_t_firstTrained x_t_isKept, iA cI 293 A_t_now v_t_now, iA cI 16 A_t_rhymeOf v_t_rhymeOf, iA cI 48 A_t_wordAt v_t_wordAt]) (rest := [.int ((8 : Int32) - a3), .int (a3 * r1)]) C hK hP hD hS hA hl mf_X12_124 (c_X12_shrinking hc4) [0, 1, 2] 0 12 rfl rfl rfl rfl rfl rfl rfl rfl rfl rfl (Nat.le_of_ble_eq_true rfl) ⟨Nat.le_of_ble_eq_true rfl, Nat.le_of_ble_eq_true rfl⟩ ⟨Nat.le_refl _, Nat.le_refl _⟩ dX12_mixes_38 ?_
        intro H locs hP hD hS
        refine lv_imul hx hb dX12_mixes_41 ?_
        refine lv_iadd hx hb dX12_mixes_42 ?_
        refine lv_bipush (v := 8) hx hb dX12_mixes_43 (by decide) ?_
        obtain ⟨hz, hf⟩ := dI_e hf
        refine lv_idiv hx hb dX12_mixes_45 hz ?_
        refine lv_aload_n hx hb dX12_mixes_46 rfl (lv_at hl 1 rfl) ?_
        refine x_get C hK hP fd_X12_7 0 rfl rfl dX12_mixes_47 ?_
        refine lv_sipush (v := 288) hx hb dX12_mixes_50 (by decide) ?_
        obtain ⟨hi, hf⟩ := gI_e hf
        refine x_iald C hK hP 1 rfl hi dX12_mixes_53 ?_
        refine lv_icmp_le (tgt := 59) hx hb dX12_mixes_54 (by decide) (fun q => ?_) (fun q => ?_)
        · have hf := if_t q hf
          refine lv_iinc (v := (l4 + (1 : Int32))) (lv' := [(4, .int (l4 + (1 : Int32))), (5, .int (v_t_wordAt l4.toNatClampNeg)), (0, .ref A_t), (1, .int a1), (2, .int a2), (3, .int a3)]) hx hb dX12_mixes_59 hl (k := 5) rfl rfl (by decide) rfl (fun ls hl => ?_)
          refine lv_goto (tgt := 3) hx hb dX12_mixes_62 (by decide) ?_
          exact ih_3 (l4 + (1 : Int32)) _ _ ls (lv_sub hl [2, 3, 4, 5, 0] rfl) hP hD hS hf
        · have hf := if_f q hf
          refine lv_iconst (v := 0) hx hb dX12_mixes_57 (by decide) ?_
          obtain rfl := ev1 hf
          exact x_zret C hr hlk (Or.inl rfl) hP hD hS dX12_mixes_58
  refine lv_iconst (v := 0) hx hb dX12_mixes_0 (by decide) ?_
  refine lv_istore (lv' := [(4, .int (0 : Int32)), (0, .ref A_t), (1, .int a1), (2, .int a2), (3, .int a3)]) hx hb dX12_mixes_1 hl (by decide) rfl (fun ls hl => ?_)
  exact hb_3 FU (0 : Int32) _ _ ls (lv_sub hl [1, 2, 3, 4, 0] rfl) hP hD hS hf
def f_X12_mixture_b30 : Option (Int32) :=
  some (-1 : Int32)
def f_X12_mixture_b72 (a1 : Int32) (a2 : Int32) (a3 : Int32) (k43 : Int32 → Int32 → Int32 → Option (Int32)) (l4 : Int32) (l5 : Int32) (l6 : Int32) : Option (Int32) :=
  k43 l4 l5 (l6 + (-1 : Int32))
def f_X12_mixture_b89 (s0 : Int32) : Option (Int32) :=
  some s0
def f_X12_mixture_b43 (v_t_now : (Nat → Int32)) (v_t_rhymeOf : (Nat → Int32)) (v_t_wordAt : (Nat → Int32)) (x_t_wordMany : Int32) (a1 : Int32) (a2 : Int32) (a3 : Int32) : Nat → Int32 → Int32 → Int32 → Option (Int32)
  | 0, _, _, _ => none
  | n + 1, l4, l5, l6 =>
    if l6 < 0 then
      if a3 = 0 then
        f_X12_mixture_b89 l4
      else
        f_X12_mixture_b89 l5
    else
      bd1 (f_X12_mixes v_t_now v_t_rhymeOf v_t_wordAt x_t_wordMany a1 a2 l6) (fun r1 =>
      if r1 = 0 then
        f_X12_mixture_b72 a1 a2 a3 (f_X12_mixture_b43 v_t_now v_t_rhymeOf v_t_wordAt x_t_wordMany a1 a2 a3 n) l4 l5 l6
      else
        f_X12_mixture_b72 a1 a2 a3 (f_X12_mixture_b43 v_t_now v_t_rhymeOf v_t_wordAt x_t_wordMany a1 a2 a3 n) l6 (l5 + (1 : Int32)) l6)
def f_X12_mixture (v_t_now : (Nat → Int32)) (v_t_rhymeOf : (Nat → Int32)) (v_t_wordAt : (Nat → Int32)) (x_t_wordMany : Int32) (a1 : Int32) (a2 : Int32) (a3 : Int32) : Option (Int32) :=
  bd1 (f_X12_isTold v_t_now a1) (fun r2 =>
  if r2 = 0 then
    f_X12_mixture_b30
  else
    bd1 (f_X12_isTold v_t_now a2) (fun r3 =>
    if r3 = 0 then
      f_X12_mixture_b30
    else
      if a1 = a2 then
        f_X12_mixture_b30
      else
        bd1 (f_X12_in a3 (0 : Int32) (1 : Int32)) (fun r4 =>
        if r4 = 0 then
          f_X12_mixture_b30
        else
          f_X12_mixture_b43 v_t_now v_t_rhymeOf v_t_wordAt x_t_wordMany a1 a2 a3 FU (-2 : Int32) (0 : Int32) (8 : Int32))))
set_option maxHeartbeats 4000000 in
set_option maxRecDepth 100000 in
theorem c_X12_mixture {l : Launch} {D : va_G} {cI cB : ClassId} {A_t A_t_now A_t_aside A_t_kept A_t_rhymeOf A_t_wasRhyme A_t_wordAt A_t_tape A_t_said A_t_waitsAt A_t_saidLetter A_t_saidFrom A_t_saidHalf A_t_saidTo A_t_codes A_t_clauseOf A_t_codeFrom A_t_codeHalf A_t_codeTo A_t_stack A_t_facts A_t_newWords A_t_roundFrom A_t_roundAt A_t_roundTimes A_t_leastFrom A_t_rowNow A_t_bornOf A_t_trainsTo A_t_trainAt : Nat} {x_t_wordMany x_t_taped x_t_place0 x_t_length0 x_t_fault x_t_number0 x_t_open x_t_codeMany x_t_waiting x_t_saidMany x_t_clauses x_t_lines x_t_newMany x_t_rounds x_t_itFrom x_t_itTimes x_t_writtenNow x_t_picturesNow x_t_usedNow x_t_chosen x_t_fearOfChosen x_t_changesNow x_t_left0 x_t_trainMany x_t_leastTries x_t_firstTrained x_t_isKept a1 a2 a3 : Int32} {v_t_now v_t_rhymeOf v_t_wordAt : Nat → Int32} {o_r : Int32} (hf : f_X12_mixture v_t_now v_t_rhymeOf v_t_wordAt x_t_wordMany a1 a2 a3 = some o_r) : CtI l D cI cB yX12_mixture cX12_mixture 7 (some .int) 5 112 [.ref A_t, .int a1, .int a2, .int a3] [oX12 A_t A_t_now A_t_aside A_t_kept A_t_rhymeOf A_t_wasRhyme A_t_wordAt x_t_wordMany A_t_tape x_t_taped x_t_place0 x_t_length0 x_t_fault x_t_number0 x_t_open x_t_codeMany x_t_waiting x_t_saidMany x_t_clauses A_t_said A_t_waitsAt A_t_saidLetter A_t_saidFrom A_t_saidHalf A_t_saidTo A_t_codes A_t_clauseOf A_t_codeFrom A_t_codeHalf A_t_codeTo A_t_stack A_t_facts x_t_lines A_t_newWords A_t_roundFrom A_t_roundAt A_t_roundTimes x_t_newMany x_t_rounds x_t_itFrom x_t_itTimes x_t_writtenNow x_t_picturesNow x_t_usedNow x_t_chosen x_t_fearOfChosen A_t_leastFrom A_t_rowNow x_t_changesNow x_t_left0 A_t_bornOf A_t_trainsTo A_t_trainAt x_t_trainMany x_t_leastTries x_t_firstTrained x_t_isKept, iA cI 293 A_t_now v_t_now, iA cI 16 A_t_rhymeOf v_t_rhymeOf, iA cI 48 A_t_wordAt v_t_wordAt] [oX12 A_t A_t_now A_t_aside A_t_kept A_t_rhymeOf A_t_wasRhyme A_t_wordAt x_t_wordMany A_t_tape x_t_taped x_t_place0 x_t_length0 x_t_fault x_t_number0 x_t_open x_t_codeMany x_t_waiting x_t_saidMany x_t_clauses A_t_said A_t_waitsAt A_t_saidLetter A_t_saidFrom A_t_saidHalf A_t_saidTo A_t_codes A_t_clauseOf A_t_codeFrom A_t_codeHalf A_t_codeTo A_t_stack A_t_facts x_t_lines A_t_newWords A_t_roundFrom A_t_roundAt A_t_roundTimes x_t_newMany x_t_rounds x_t_itFrom x_t_itTimes x_t_writtenNow x_t_picturesNow x_t_usedNow x_t_chosen x_t_fearOfChosen A_t_leastFrom A_t_rowNow x_t_changesNow x_t_left0 A_t_bornOf A_t_trainsTo A_t_trainAt x_t_trainMany x_t_leastTries x_t_firstTrained x_t_isKept, iA cI 293 A_t_now v_t_now, iA cI 16 A_t_rhymeOf v_t_rhymeOf, iA cI 48 A_t_wordAt v_t_wordAt] o_r := by
  refine x_startI (by decide) (Nat.le_of_ble_eq_true rfl) ?_
  intro p e s m below meth c A C hr hlk hA hK hP hD hS ls hl
  have hl : lv_has ls 7 [(0, .ref A_t), (1, .int a1), (2, .int a2), (3, .int a3)] := hl
  have hx := C.1
  have hb := C.2.1
  unfold f_X12_mixture at hf
  have hb_30 : ∀ (H : Heap) (locs : List Loc) (ls : Array Slot), lv_has ls 7 [] → va_P D vwCl [oX12 A_t A_t_now A_t_aside A_t_kept A_t_rhymeOf A_t_wasRhyme A_t_wordAt x_t_wordMany A_t_tape x_t_taped x_t_place0 x_t_length0 x_t_fault x_t_number0 x_t_open x_t_codeMany x_t_waiting x_t_saidMany x_t_clauses A_t_said A_t_waitsAt A_t_saidLetter A_t_saidFrom A_t_saidHalf A_t_saidTo A_t_codes A_t_clauseOf A_t_codeFrom A_t_codeHalf A_t_codeTo A_t_stack A_t_facts x_t_lines A_t_newWords A_t_roundFrom A_t_roundAt A_t_roundTimes x_t_newMany x_t_rounds x_t_itFrom x_t_itTimes x_t_writtenNow x_t_picturesNow x_t_usedNow x_t_chosen x_t_fearOfChosen A_t_leastFrom A_t_rowNow x_t_changesNow x_t_left0 A_t_bornOf A_t_trainsTo A_t_trainAt x_t_trainMany x_t_leastTries x_t_firstTrained x_t_isKept, iA cI 293 A_t_now v_t_now, iA cI 16 A_t_rhymeOf v_t_rhymeOf, iA cI 48 A_t_wordAt v_t_wordAt] H → va_D A [oX12 A_t A_t_now A_t_aside A_t_kept A_t_rhymeOf A_t_wasRhyme A_t_wordAt x_t_wordMany A_t_tape x_t_taped x_t_place0 x_t_length0 x_t_fault x_t_number0 x_t_open x_t_codeMany x_t_waiting x_t_saidMany x_t_clauses A_t_said A_t_waitsAt A_t_saidLetter A_t_saidFrom A_t_saidHalf A_t_saidTo A_t_codes A_t_clauseOf A_t_codeFrom A_t_codeHalf A_t_codeTo A_t_stack A_t_facts x_t_lines A_t_newWords A_t_roundFrom A_t_roundAt A_t_roundTimes x_t_newMany x_t_rounds x_t_itFrom x_t_itTimes x_t_writtenNow x_t_picturesNow x_t_usedNow x_t_chosen x_t_fearOfChosen A_t_leastFrom A_t_rowNow x_t_changesNow x_t_left0 A_t_bornOf A_t_trainsTo A_t_trainAt x_t_trainMany x_t_leastTries x_t_firstTrained x_t_isKept, iA cI 293 A_t_now v_t_now, iA cI 16 A_t_rhymeOf v_t_rhymeOf, iA cI 48 A_t_wordAt v_t_wordAt] → va_S A s.heap H locs → f_X12_mixture_b30 = some o_r → W p l e { frames := 5, cells := 0, slots := 0, locals := 112 } s m ([.ref A_t, .int a1, .int a2, .int a3] : List Value).toArray below meth c H locs 0 0 (MQ below (PoI D A [oX12 A_t A_t_now A_t_aside A_t_kept A_t_rhymeOf A_t_wasRhyme A_t_wordAt x_t_wordMany A_t_tape x_t_taped x_t_place0 x_t_length0 x_t_fault x_t_number0 x_t_open x_t_codeMany x_t_waiting x_t_saidMany x_t_clauses A_t_said A_t_waitsAt A_t_saidLetter A_t_saidFrom A_t_saidHalf A_t_saidTo A_t_codes A_t_clauseOf A_t_codeFrom A_t_codeHalf A_t_codeTo A_t_stack A_t_facts x_t_lines A_t_newWords A_t_roundFrom A_t_roundAt A_t_roundTimes x_t_newMany x_t_rounds x_t_itFrom x_t_itTimes x_t_writtenNow x_t_picturesNow x_t_usedNow x_t_chosen x_t_fearOfChosen A_t_leastFrom A_t_rowNow x_t_changesNow x_t_left0 A_t_bornOf A_t_trainsTo A_t_trainAt x_t_trainMany x_t_leastTries x_t_firstTrained x_t_isKept, iA cI 293 A_t_now v_t_now, iA cI 16 A_t_rhymeOf v_t_rhymeOf, iA cI 48 A_t_wordAt v_t_wordAt] o_r) ([.ref A_t, .int a1, .int a2, .int a3] : List Value).toArray s 0 0 A) (F0 m 30 ls []) := by
    intro H locs ls hl hP hD hS hf
    unfold f_X12_mixture_b30 at hf
    refine lv_iconst (v := -1) hx hb dX12_mixture_30 (by decide) ?_
    obtain rfl := ev1 hf
    exact x_iret C hr hlk hP hD hS dX12_mixture_31
  have hb_89 : ∀ (s0 : Int32) (H : Heap) (locs : List Loc) (ls : Array Slot), lv_has ls 7 [] → va_P D vwCl [oX12 A_t A_t_now A_t_aside A_t_kept A_t_rhymeOf A_t_wasRhyme A_t_wordAt x_t_wordMany A_t_tape x_t_taped x_t_place0 x_t_length0 x_t_fault x_t_number0 x_t_open x_t_codeMany x_t_waiting x_t_saidMany x_t_clauses A_t_said A_t_waitsAt A_t_saidLetter A_t_saidFrom A_t_saidHalf A_t_saidTo A_t_codes A_t_clauseOf A_t_codeFrom A_t_codeHalf A_t_codeTo A_t_stack A_t_facts x_t_lines A_t_newWords A_t_roundFrom A_t_roundAt A_t_roundTimes x_t_newMany x_t_rounds x_t_itFrom x_t_itTimes x_t_writtenNow x_t_picturesNow x_t_usedNow x_t_chosen x_t_fearOfChosen A_t_leastFrom A_t_rowNow x_t_changesNow x_t_left0 A_t_bornOf A_t_trainsTo A_t_trainAt x_t_trainMany x_t_leastTries x_t_firstTrained x_t_isKept, iA cI 293 A_t_now v_t_now, iA cI 16 A_t_rhymeOf v_t_rhymeOf, iA cI 48 A_t_wordAt v_t_wordAt] H → va_D A [oX12 A_t A_t_now A_t_aside A_t_kept A_t_rhymeOf A_t_wasRhyme A_t_wordAt x_t_wordMany A_t_tape x_t_taped x_t_place0 x_t_length0 x_t_fault x_t_number0 x_t_open x_t_codeMany x_t_waiting x_t_saidMany x_t_clauses A_t_said A_t_waitsAt A_t_saidLetter A_t_saidFrom A_t_saidHalf A_t_saidTo A_t_codes A_t_clauseOf A_t_codeFrom A_t_codeHalf A_t_codeTo A_t_stack A_t_facts x_t_lines A_t_newWords A_t_roundFrom A_t_roundAt A_t_roundTimes x_t_newMany x_t_rounds x_t_itFrom x_t_itTimes x_t_writtenNow x_t_picturesNow x_t_usedNow x_t_chosen x_t_fearOfChosen A_t_leastFrom A_t_rowNow x_t_changesNow x_t_left0 A_t_bornOf A_t_trainsTo A_t_trainAt x_t_trainMany x_t_leastTries x_t_firstTrained x_t_isKept, iA cI 293 A_t_now v_t_now, iA cI 16 A_t_rhymeOf v_t_rhymeOf, iA cI 48 A_t_wordAt v_t_wordAt] → va_S A s.heap H locs → f_X12_mixture_b89 s0 = some o_r → W p l e { frames := 5, cells := 0, slots := 0, locals := 112 } s m ([.ref A_t, .int a1, .int a2, .int a3] : List Value).toArray below meth c H locs 0 0 (MQ below (PoI D A [oX12 A_t A_t_now A_t_aside A_t_kept A_t_rhymeOf A_t_wasRhyme A_t_wordAt x_t_wordMany A_t_tape x_t_taped x_t_place0 x_t_length0 x_t_fault x_t_number0 x_t_open x_t_codeMany x_t_waiting x_t_saidMany x_t_clauses A_t_said A_t_waitsAt A_t_saidLetter A_t_saidFrom A_t_saidHalf A_t_saidTo A_t_codes A_t_clauseOf A_t_codeFrom A_t_codeHalf A_t_codeTo A_t_stack A_t_facts x_t_lines A_t_newWords A_t_roundFrom A_t_roundAt A_t_roundTimes x_t_newMany x_t_rounds x_t_itFrom x_t_itTimes x_t_writtenNow x_t_picturesNow x_t_usedNow x_t_chosen x_t_fearOfChosen A_t_leastFrom A_t_rowNow x_t_changesNow x_t_left0 A_t_bornOf A_t_trainsTo A_t_trainAt x_t_trainMany x_t_leastTries x_t_firstTrained x_t_isKept, iA cI 293 A_t_now v_t_now, iA cI 16 A_t_rhymeOf v_t_rhymeOf, iA cI 48 A_t_wordAt v_t_wordAt] o_r) ([.ref A_t, .int a1, .int a2, .int a3] : List Value).toArray s 0 0 A) (F0 m 89 ls [.int s0]) := by
    intro s0 H locs ls hl hP hD hS hf
    unfold f_X12_mixture_b89 at hf
    obtain rfl := ev1 hf
    exact x_iret C hr hlk hP hD hS dX12_mixture_89
  have hb_43 : ∀ (n_43 : Nat) (l4 : Int32) (l5 : Int32) (l6 : Int32) (H : Heap) (locs : List Loc) (ls : Array Slot), lv_has ls 7 [(0, .ref A_t), (1, .int a1), (2, .int a2), (3, .int a3), (4, .int l4), (5, .int l5), (6, .int l6)] → va_P D vwCl [oX12 A_t A_t_now A_t_aside A_t_kept A_t_rhymeOf A_t_wasRhyme A_t_wordAt x_t_wordMany A_t_tape x_t_taped x_t_place0 x_t_length0 x_t_fault x_t_number0 x_t_open x_t_codeMany x_t_waiting x_t_saidMany x_t_clauses A_t_said A_t_waitsAt A_t_saidLetter A_t_saidFrom A_t_saidHalf A_t_saidTo A_t_codes A_t_clauseOf A_t_codeFrom A_t_codeHalf A_t_codeTo A_t_stack A_t_facts x_t_lines A_t_newWords A_t_roundFrom A_t_roundAt A_t_roundTimes x_t_newMany x_t_rounds x_t_itFrom x_t_itTimes x_t_writtenNow x_t_picturesNow x_t_usedNow x_t_chosen x_t_fearOfChosen A_t_leastFrom A_t_rowNow x_t_changesNow x_t_left0 A_t_bornOf A_t_trainsTo A_t_trainAt x_t_trainMany x_t_leastTries x_t_firstTrained x_t_isKept, iA cI 293 A_t_now v_t_now, iA cI 16 A_t_rhymeOf v_t_rhymeOf, iA cI 48 A_t_wordAt v_t_wordAt] H → va_D A [oX12 A_t A_t_now A_t_aside A_t_kept A_t_rhymeOf A_t_wasRhyme A_t_wordAt x_t_wordMany A_t_tape x_t_taped x_t_place0 x_t_length0 x_t_fault x_t_number0 x_t_open x_t_codeMany x_t_waiting x_t_saidMany x_t_clauses A_t_said A_t_waitsAt A_t_saidLetter A_t_saidFrom A_t_saidHalf A_t_saidTo A_t_codes A_t_clauseOf A_t_codeFrom A_t_codeHalf A_t_codeTo A_t_stack A_t_facts x_t_lines A_t_newWords A_t_roundFrom A_t_roundAt A_t_roundTimes x_t_newMany x_t_rounds x_t_itFrom x_t_itTimes x_t_writtenNow x_t_picturesNow x_t_usedNow x_t_chosen x_t_fearOfChosen A_t_leastFrom A_t_rowNow x_t_changesNow x_t_left0 A_t_bornOf A_t_trainsTo A_t_trainAt x_t_trainMany x_t_leastTries x_t_firstTrained x_t_isKept, iA cI 293 A_t_now v_t_now, iA cI 16 A_t_rhymeOf v_t_rhymeOf, iA cI 48 A_t_wordAt v_t_wordAt] → va_S A s.heap H locs → f_X12_mixture_b43 v_t_now v_t_rhymeOf v_t_wordAt x_t_wordMany a1 a2 a3 n_43 l4 l5 l6 = some o_r → W p l e { frames := 5, cells := 0, slots := 0, locals := 112 } s m ([.ref A_t, .int a1, .int a2, .int a3] : List Value).toArray below meth c H locs 0 0 (MQ below (PoI D A [oX12 A_t A_t_now A_t_aside A_t_kept A_t_rhymeOf A_t_wasRhyme A_t_wordAt x_t_wordMany A_t_tape x_t_taped x_t_place0 x_t_length0 x_t_fault x_t_number0 x_t_open x_t_codeMany x_t_waiting x_t_saidMany x_t_clauses A_t_said A_t_waitsAt A_t_saidLetter A_t_saidFrom A_t_saidHalf A_t_saidTo A_t_codes A_t_clauseOf A_t_codeFrom A_t_codeHalf A_t_codeTo A_t_stack A_t_facts x_t_lines A_t_newWords A_t_roundFrom A_t_roundAt A_t_roundTimes x_t_newMany x_t_rounds x_t_itFrom x_t_itTimes x_t_writtenNow x_t_picturesNow x_t_usedNow x_t_chosen x_t_fearOfChosen A_t_leastFrom A_t_rowNow x_t_changesNow x_t_left0 A_t_bornOf A_t_trainsTo A_t_trainAt x_t_trainMany x_t_leastTries x_t_firstTrained x_t_isKept, iA cI 293 A_t_now v_t_now, iA cI 16 A_t_rhymeOf v_t_rhymeOf, iA cI 48 A_t_wordAt v_t_wordAt] o_r) ([.ref A_t, .int a1, .int a2, .int a3] : List Value).toArray s 0 0 A) (F0 m 43 ls []) := by
    intro n_43
    induction n_43 with
    | zero =>
      intro l4 l5 l6 H locs ls hl hP hD hS hf
      exact absurd hf (fun h => by rw [f_X12_mixture_b43] at h; cases h)
    | succ n_43 ih_43 =>
      have hb_72 : ∀ (l4 : Int32) (l5 : Int32) (l6 : Int32) (H : Heap) (locs : List Loc) (ls : Array Slot), lv_has ls 7 [(0, .ref A_t), (1, .int a1), (2, .int a2), (3, .int a3), (4, .int l4), (5, .int l5), (6, .int l6)] → va_P D vwCl [oX12 A_t A_t_now A_t_aside A_t_kept A_t_rhymeOf A_t_wasRhyme A_t_wordAt x_t_wordMany A_t_tape x_t_taped x_t_place0 x_t_length0 x_t_fault x_t_number0 x_t_open x_t_codeMany x_t_waiting x_t_saidMany x_t_clauses A_t_said A_t_waitsAt A_t_saidLetter A_t_saidFrom A_t_saidHalf A_t_saidTo A_t_codes A_t_clauseOf A_t_codeFrom A_t_codeHalf A_t_codeTo A_t_stack A_t_facts x_t_lines A_t_newWords A_t_roundFrom A_t_roundAt A_t_roundTimes x_t_newMany x_t_rounds x_t_itFrom x_t_itTimes x_t_writtenNow x_t_picturesNow x_t_usedNow x_t_chosen x_t_fearOfChosen A_t_leastFrom A_t_rowNow x_t_changesNow x_t_left0 A_t_bornOf A_t_trainsTo A_t_trainAt x_t_trainMany x_t_leastTries x_t_firstTrained x_t_isKept, iA cI 293 A_t_now v_t_now, iA cI 16 A_t_rhymeOf v_t_rhymeOf, iA cI 48 A_t_wordAt v_t_wordAt] H → va_D A [oX12 A_t A_t_now A_t_aside A_t_kept A_t_rhymeOf A_t_wasRhyme A_t_wordAt x_t_wordMany A_t_tape x_t_taped x_t_place0 x_t_length0 x_t_fault x_t_number0 x_t_open x_t_codeMany x_t_waiting x_t_saidMany x_t_clauses A_t_said A_t_waitsAt A_t_saidLetter A_t_saidFrom A_t_saidHalf A_t_saidTo A_t_codes A_t_clauseOf A_t_codeFrom A_t_codeHalf A_t_codeTo A_t_stack A_t_facts x_t_lines A_t_newWords A_t_roundFrom A_t_roundAt A_t_roundTimes x_t_newMany x_t_rounds x_t_itFrom x_t_itTimes x_t_writtenNow x_t_picturesNow x_t_usedNow x_t_chosen x_t_fearOfChosen A_t_leastFrom A_t_rowNow x_t_changesNow x_t_left0 A_t_bornOf A_t_trainsTo A_t_trainAt x_t_trainMany x_t_leastTries x_t_firstTrained x_t_isKept, iA cI 293 A_t_now v_t_now, iA cI 16 A_t_rhymeOf v_t_rhymeOf, iA cI 48 A_t_wordAt v_t_wordAt] → va_S A s.heap H locs → f_X12_mixture_b72 a1 a2 a3 (f_X12_mixture_b43 v_t_now v_t_rhymeOf v_t_wordAt x_t_wordMany a1 a2 a3 n_43) l4 l5 l6 = some o_r → W p l e { frames := 5, cells := 0, slots := 0, locals := 112 } s m ([.ref A_t, .int a1, .int a2, .int a3] : List Value).toArray below meth c H locs 0 0 (MQ below (PoI D A [oX12 A_t A_t_now A_t_aside A_t_kept A_t_rhymeOf A_t_wasRhyme A_t_wordAt x_t_wordMany A_t_tape x_t_taped x_t_place0 x_t_length0 x_t_fault x_t_number0 x_t_open x_t_codeMany x_t_waiting x_t_saidMany x_t_clauses A_t_said A_t_waitsAt A_t_saidLetter A_t_saidFrom A_t_saidHalf A_t_saidTo A_t_codes A_t_clauseOf A_t_codeFrom A_t_codeHalf A_t_codeTo A_t_stack A_t_facts x_t_lines A_t_newWords A_t_roundFrom A_t_roundAt A_t_roundTimes x_t_newMany x_t_rounds x_t_itFrom x_t_itTimes x_t_writtenNow x_t_picturesNow x_t_usedNow x_t_chosen x_t_fearOfChosen A_t_leastFrom A_t_rowNow x_t_changesNow x_t_left0 A_t_bornOf A_t_trainsTo A_t_trainAt x_t_trainMany x_t_leastTries x_t_firstTrained x_t_isKept, iA cI 293 A_t_now v_t_now, iA cI 16 A_t_rhymeOf v_t_rhymeOf, iA cI 48 A_t_wordAt v_t_wordAt] o_r) ([.ref A_t, .int a1, .int a2, .int a3] : List Value).toArray s 0 0 A) (F0 m 72 ls []) := by
        intro l4 l5 l6 H locs ls hl hP hD hS hf
        unfold f_X12_mixture_b72 at hf
        refine lv_iinc (v := (l6 + (-1 : Int32))) (lv' := [(6, .int (l6 + (-1 : Int32))), (0, .ref A_t), (1, .int a1), (2, .int a2), (3, .int a3), (4, .int l4), (5, .int l5)]) hx hb dX12_mixture_72 hl (k := 6) rfl rfl (by decide) rfl (fun ls hl => ?_)
        refine lv_goto (tgt := 43) hx hb dX12_mixture_75 (by decide) ?_
        exact ih_43 l4 l5 (l6 + (-1 : Int32)) _ _ ls (lv_sub hl [1, 2, 3, 4, 5, 6, 0] rfl) hP hD hS hf
      intro l4 l5 l6 H locs ls hl hP hD hS hf
      rw [f_X12_mixture_b43] at hf
      refine lv_iload hx hb dX12_mixture_43 (lv_at hl 6 rfl) ?_
      refine lv_if_lt (tgt := 78) hx hb dX12_mixture_45 (by decide) (fun q => ?_) (fun q => ?_)
      · have hf := if_t q hf
        refine lv_iload_n hx hb dX12_mixture_78 rfl (lv_at hl 3 rfl) ?_
        refine lv_if_ne (tgt := 87) hx hb dX12_mixture_79 (by decide) (fun q => ?_) (fun q => ?_)
        · have hf := if_f q hf
          refine lv_iload hx hb dX12_mixture_87 (lv_at hl 5 rfl) ?_
          exact hb_89 l5 _ _ ls (lv_sub hl [] rfl) hP hD hS hf
        · have hf := if_t q hf
          refine lv_iload hx hb dX12_mixture_82 (lv_at hl 4 rfl) ?_
          refine lv_goto (tgt := 89) hx hb dX12_mixture_84 (by decide) ?_
          exact hb_89 l4 _ _ ls (lv_sub hl [] rfl) hP hD hS hf
      · have hf := if_f q hf
        refine lv_aload_n hx hb dX12_mixture_48 rfl (lv_at hl 0 rfl) ?_
        refine lv_iload_n hx hb dX12_mixture_49 rfl (lv_at hl 1 rfl) ?_
        refine lv_iload_n hx hb dX12_mixture_50 rfl (lv_at hl 2 rfl) ?_
        refine lv_iload hx hb dX12_mixture_51 (lv_at hl 6 rfl) ?_
        obtain ⟨r1, hc2, hf⟩ := bd1_e hf
        refine x_callVI (ws' := [oX12 A_t A_t_now A_t_aside A_t_kept A_t_rhymeOf A_t_wasRhyme A_t_wordAt x_t_wordMany A_t_tape x_t_taped x_t_place0 x_t_length0 x_t_fault x_t_number0 x_t_open x_t_codeMany x_t_waiting x_t_saidMany x_t_clauses A_t_said A_t_waitsAt A_t_saidLetter A_t_saidFrom A_t_saidHalf A_t_saidTo A_t_codes A_t_clauseOf A_t_codeFrom A_t_codeHalf A_t_codeTo A_t_stack A_t_facts x_t_lines A_t_newWords A_t_roundFrom A_t_roundAt A_t_roundTimes x_t_newMany x_t_rounds x_t_itFrom x_t_itTimes x_t_writtenNow x_t_picturesNow x_t_usedNow x_t_chosen x_t_fearOfChosen A_t_leastFrom A_t_rowNow x_t_changesNow x_t_left0 A_t_bornOf A_t_trainsTo A_t_trainAt x_t_trainMany x_t_leastTries x_t_firstTrained x_t_isKept, iA cI 293 A_t_now v_t_now, iA cI 16 A_t_rhymeOf v_t_rhymeOf, iA cI 48 A_t_wordAt v_t_wordAt]) (rest := []) C hK hP hD hS hA hl mf_X12_375 (c_X12_mixes hc2) [0, 1, 2, 3] 0 12 rfl rfl rfl rfl rfl rfl rfl rfl rfl rfl (Nat.le_of_ble_eq_true rfl) ⟨Nat.le_of_ble_eq_true rfl, Nat.le_of_ble_eq_true rfl⟩ ⟨Nat.le_refl _, Nat.le_refl _⟩ dX12_mixture_53 ?_
        intro H locs hP hD hS
        refine lv_if_ne (tgt := 62) hx hb dX12_mixture_56 (by decide) (fun q => ?_) (fun q => ?_)
        · have hf := if_f q hf
          refine lv_iload hx hb dX12_mixture_62 (lv_at hl 6 rfl) ?_
          refine lv_istore (lv' := [(4, .int l6), (0, .ref A_t), (1, .int a1), (2, .int a2), (3, .int a3), (5, .int l5), (6, .int l6)]) hx hb dX12_mixture_64 hl (by decide) rfl (fun ls hl => ?_)
          refine lv_iload hx hb dX12_mixture_66 (lv_at hl 5 rfl) ?_
          refine lv_iconst (v := 1) hx hb dX12_mixture_68 (by decide) ?_
          refine lv_iadd hx hb dX12_mixture_69 ?_
          refine lv_istore (lv' := [(5, .int (l5 + (1 : Int32))), (4, .int l6), (0, .ref A_t), (1, .int a1), (2, .int a2), (3, .int a3), (6, .int l6)]) hx hb dX12_mixture_70 hl (by decide) rfl (fun ls hl => ?_)
          exact hb_72 l6 (l5 + (1 : Int32)) l6 _ _ ls (lv_sub hl [2, 3, 4, 5, 1, 0, 6] rfl) hP hD hS hf
        · have hf := if_t q hf
          refine lv_goto (tgt := 72) hx hb dX12_mixture_59 (by decide) ?_
          exact hb_72 l4 l5 l6 _ _ ls (lv_sub hl [0, 1, 2, 3, 4, 5, 6] rfl) hP hD hS hf
  refine lv_aload_n hx hb dX12_mixture_0 rfl (lv_at hl 0 rfl) ?_
  refine lv_iload_n hx hb dX12_mixture_1 rfl (lv_at hl 1 rfl) ?_
  obtain ⟨r3, hc4, hf⟩ := bd1_e hf
  refine x_callVI (ws' := [oX12 A_t A_t_now A_t_aside A_t_kept A_t_rhymeOf A_t_wasRhyme A_t_wordAt x_t_wordMany A_t_tape x_t_taped x_t_place0 x_t_length0 x_t_fault x_t_number0 x_t_open x_t_codeMany x_t_waiting x_t_saidMany x_t_clauses A_t_said A_t_waitsAt A_t_saidLetter A_t_saidFrom A_t_saidHalf A_t_saidTo A_t_codes A_t_clauseOf A_t_codeFrom A_t_codeHalf A_t_codeTo A_t_stack A_t_facts x_t_lines A_t_newWords A_t_roundFrom A_t_roundAt A_t_roundTimes x_t_newMany x_t_rounds x_t_itFrom x_t_itTimes x_t_writtenNow x_t_picturesNow x_t_usedNow x_t_chosen x_t_fearOfChosen A_t_leastFrom A_t_rowNow x_t_changesNow x_t_left0 A_t_bornOf A_t_trainsTo A_t_trainAt x_t_trainMany x_t_leastTries x_t_firstTrained x_t_isKept, iA cI 293 A_t_now v_t_now, iA cI 16 A_t_rhymeOf v_t_rhymeOf, iA cI 48 A_t_wordAt v_t_wordAt]) (rest := []) C hK hP hD hS hA hl mf_X12_109 (c_X12_isTold hc4) [0, 1] 0 12 rfl rfl rfl rfl rfl rfl rfl rfl rfl rfl (Nat.le_of_ble_eq_true rfl) ⟨Nat.le_of_ble_eq_true rfl, Nat.le_of_ble_eq_true rfl⟩ ⟨Nat.le_refl _, Nat.le_refl _⟩ dX12_mixture_2 ?_
  intro H locs hP hD hS
  refine lv_if_eq (tgt := 30) hx hb dX12_mixture_5 (by decide) (fun q => ?_) (fun q => ?_)
  · have hf := if_t q hf
    exact hb_30 _ _ ls (lv_sub hl [] rfl) hP hD hS hf
  · have hf := if_f q hf
    refine lv_aload_n hx hb dX12_mixture_8 rfl (lv_at hl 0 rfl) ?_
    refine lv_iload_n hx hb dX12_mixture_9 rfl (lv_at hl 2 rfl) ?_
    obtain ⟨r5, hc6, hf⟩ := bd1_e hf
    refine x_callVI (ws' := [oX12 A_t A_t_now A_t_aside A_t_kept A_t_rhymeOf A_t_wasRhyme A_t_wordAt x_t_wordMany A_t_tape x_t_taped x_t_place0 x_t_length0 x_t_fault x_t_number0 x_t_open x_t_codeMany x_t_waiting x_t_saidMany x_t_clauses A_t_said A_t_waitsAt A_t_saidLetter A_t_saidFrom A_t_saidHalf A_t_saidTo A_t_codes A_t_clauseOf A_t_codeFrom A_t_codeHalf A_t_codeTo A_t_stack A_t_facts x_t_lines A_t_newWords A_t_roundFrom A_t_roundAt A_t_roundTimes x_t_newMany x_t_rounds x_t_itFrom x_t_itTimes x_t_writtenNow x_t_picturesNow x_t_usedNow x_t_chosen x_t_fearOfChosen A_t_leastFrom A_t_rowNow x_t_changesNow x_t_left0 A_t_bornOf A_t_trainsTo A_t_trainAt x_t_trainMany x_t_leastTries x_t_firstTrained x_t_isKept, iA cI 293 A_t_now v_t_now, iA cI 16 A_t_rhymeOf v_t_rhymeOf, iA cI 48 A_t_wordAt v_t_wordAt]) (rest := []) C hK hP hD hS hA hl mf_X12_109 (c_X12_isTold hc6) [0, 1] 0 12 rfl rfl rfl rfl rfl rfl rfl rfl rfl rfl (Nat.le_of_ble_eq_true rfl) ⟨Nat.le_of_ble_eq_true rfl, Nat.le_of_ble_eq_true rfl⟩ ⟨Nat.le_refl _, Nat.le_refl _⟩ dX12_mixture_10 ?_
    intro H locs hP hD hS
    refine lv_if_eq (tgt := 30) hx hb dX12_mixture_13 (by decide) (fun q => ?_) (fun q => ?_)
    · have hf := if_t q hf
      exact hb_30 _ _ ls (lv_sub hl [] rfl) hP hD hS hf
    · have hf := if_f q hf
      refine lv_iload_n hx hb dX12_mixture_16 rfl (lv_at hl 1 rfl) ?_
      refine lv_iload_n hx hb dX12_mixture_17 rfl (lv_at hl 2 rfl) ?_
      refine lv_icmp_eq (tgt := 30) hx hb dX12_mixture_18 (by decide) (fun q => ?_) (fun q => ?_)
      · have hf := if_t q hf
        exact hb_30 _ _ ls (lv_sub hl [] rfl) hP hD hS hf
      · have hf := if_f q hf
        refine lv_iload_n hx hb dX12_mixture_21 rfl (lv_at hl 3 rfl) ?_
        refine lv_iconst (v := 0) hx hb dX12_mixture_22 (by decide) ?_
        refine lv_iconst (v := 1) hx hb dX12_mixture_23 (by decide) ?_
        obtain ⟨r7, hc8, hf⟩ := bd1_e hf
        refine x_callSI (ws' := [oX12 A_t A_t_now A_t_aside A_t_kept A_t_rhymeOf A_t_wasRhyme A_t_wordAt x_t_wordMany A_t_tape x_t_taped x_t_place0 x_t_length0 x_t_fault x_t_number0 x_t_open x_t_codeMany x_t_waiting x_t_saidMany x_t_clauses A_t_said A_t_waitsAt A_t_saidLetter A_t_saidFrom A_t_saidHalf A_t_saidTo A_t_codes A_t_clauseOf A_t_codeFrom A_t_codeHalf A_t_codeTo A_t_stack A_t_facts x_t_lines A_t_newWords A_t_roundFrom A_t_roundAt A_t_roundTimes x_t_newMany x_t_rounds x_t_itFrom x_t_itTimes x_t_writtenNow x_t_picturesNow x_t_usedNow x_t_chosen x_t_fearOfChosen A_t_leastFrom A_t_rowNow x_t_changesNow x_t_left0 A_t_bornOf A_t_trainsTo A_t_trainAt x_t_trainMany x_t_leastTries x_t_firstTrained x_t_isKept, iA cI 293 A_t_now v_t_now, iA cI 16 A_t_rhymeOf v_t_rhymeOf, iA cI 48 A_t_wordAt v_t_wordAt]) (rest := []) C hK hP hD hS hA hl mf_X12_105 (c_X12_in hc8) [] rfl rfl rfl rfl rfl rfl rfl rfl (Nat.le_of_ble_eq_true rfl) ⟨Nat.le_of_ble_eq_true rfl, Nat.le_of_ble_eq_true rfl⟩ ⟨Nat.le_refl _, Nat.le_refl _⟩ dX12_mixture_24 ?_
        intro H locs hP hD hS
        refine lv_if_ne (tgt := 32) hx hb dX12_mixture_27 (by decide) (fun q => ?_) (fun q => ?_)
        · have hf := if_f q hf
          refine lv_bipush (v := -2) hx hb dX12_mixture_32 (by decide) ?_
          refine lv_istore (lv' := [(4, .int (-2 : Int32)), (0, .ref A_t), (1, .int a1), (2, .int a2), (3, .int a3)]) hx hb dX12_mixture_34 hl (by decide) rfl (fun ls hl => ?_)
          refine lv_iconst (v := 0) hx hb dX12_mixture_36 (by decide) ?_
          refine lv_istore (lv' := [(5, .int (0 : Int32)), (4, .int (-2 : Int32)), (0, .ref A_t), (1, .int a1), (2, .int a2), (3, .int a3)]) hx hb dX12_mixture_37 hl (by decide) rfl (fun ls hl => ?_)
          refine lv_bipush (v := 8) hx hb dX12_mixture_39 (by decide) ?_
          refine lv_istore (lv' := [(6, .int (8 : Int32)), (5, .int (0 : Int32)), (4, .int (-2 : Int32)), (0, .ref A_t), (1, .int a1), (2, .int a2), (3, .int a3)]) hx hb dX12_mixture_41 hl (by decide) rfl (fun ls hl => ?_)
          exact hb_43 FU (-2 : Int32) (0 : Int32) (8 : Int32) _ _ ls (lv_sub hl [3, 4, 5, 6, 2, 1, 0] rfl) hP hD hS hf
        · have hf := if_t q hf
          exact hb_30 _ _ ls (lv_sub hl [] rfl) hP hD hS hf
def f_X12_whose_b20 (x_t_taped : Int32) : Option (Int32 × Int32) :=
  some ((-1 : Int32), x_t_taped)
def f_X12_whose_b60 (x_t_taped : Int32) : Option (Int32 × Int32) :=
  some ((-3 : Int32), x_t_taped)
def f_X12_whose_b140 (a1 : Int32) (k73 : Int32 → Int32 → Int32 → Option (Int32 × Int32)) (k89 : Int32 → Int32 → Int32 → Int32 → Int32 → Option (Int32 × Int32)) (x_t_taped : Int32) (s0 : Int32) (l2 : Int32) (l3 : Int32) (l5 : Int32) : Option (Int32 × Int32) :=
  k89 x_t_taped l2 l3 s0 (l5 + (1 : Int32))
def f_X12_whose_b132 (a1 : Int32) (k73 : Int32 → Int32 → Int32 → Option (Int32 × Int32)) (k89 : Int32 → Int32 → Int32 → Int32 → Int32 → Option (Int32 × Int32)) (x_t_taped : Int32) (s0 : Int32) (s1 : Int32) (l2 : Int32) (l3 : Int32) (l5 : Int32) : Option (Int32 × Int32) :=
  if s0 = s1 then
    f_X12_whose_b140 a1 k73 k89 x_t_taped (1 : Int32) l2 l3 l5
  else
    f_X12_whose_b140 a1 k73 k89 x_t_taped (0 : Int32) l2 l3 l5
def f_X12_whose_b159 (a1 : Int32) (k73 : Int32 → Int32 → Int32 → Option (Int32 × Int32)) (x_t_taped : Int32) (l2 : Int32) (l3 : Int32) : Option (Int32 × Int32) :=
  k73 x_t_taped l2 (l3 + (1 : Int32))
def f_X12_whose_b148 (a1 : Int32) (k73 : Int32 → Int32 → Int32 → Option (Int32 × Int32)) (x_t_taped : Int32) (l2 : Int32) (l3 : Int32) (l4 : Int32) : Option (Int32 × Int32) :=
  if l4 = 0 then
    f_X12_whose_b159 a1 k73 x_t_taped l2 l3
  else
    f_X12_whose_b159 a1 k73 x_t_taped (l2 ||| ((1 : Int32) <<< (l3 &&& 31))) l3
def f_X12_whose_b89 (v_t_now : (Nat → Int32)) (v_t_rhymeOf : (Nat → Int32)) (v_t_tape : (Nat → Int32)) (a1 : Int32) (k73 : Int32 → Int32 → Int32 → Option (Int32 × Int32)) : Nat → Int32 → Int32 → Int32 → Int32 → Int32 → Option (Int32 × Int32)
  | 0, _, _, _, _, _ => none
  | n + 1, x_t_taped, l2, l3, l4, l5 =>
    if a1 ≤ l5 then
      f_X12_whose_b148 a1 k73 x_t_taped l2 l3 l4
    else
      if l4 = 0 then
        f_X12_whose_b148 a1 k73 x_t_taped l2 l3 l4
      else
        bd1 (f_X12_octet v_t_tape ((2 : Int32) * l5)) (fun r1 =>
        bd1 (f_X12_bears v_t_now v_t_rhymeOf l3 r1) (fun r2 =>
        bd1 (f_X12_octet v_t_tape (((2 : Int32) * l5) + (1 : Int32))) (fun r3 =>
        if r3 = (1 : Int32) then
          f_X12_whose_b132 a1 k73 (f_X12_whose_b89 v_t_now v_t_rhymeOf v_t_tape a1 k73 n) x_t_taped r2 (1 : Int32) l2 l3 l5
        else
          f_X12_whose_b132 a1 k73 (f_X12_whose_b89 v_t_now v_t_rhymeOf v_t_tape a1 k73 n) x_t_taped r2 (0 : Int32) l2 l3 l5)))
def f_X12_whose_b73 (v_t_now : (Nat → Int32)) (v_t_rhymeOf : (Nat → Int32)) (v_t_tape : (Nat → Int32)) (a1 : Int32) : Nat → Int32 → Int32 → Int32 → Option (Int32 × Int32)
  | 0, _, _, _ => none
  | n + 1, x_t_taped, l2, l3 =>
    if (8 : Int32) ≤ l3 then
      some (l2, x_t_taped)
    else
      bd1 (f_X12_isTold v_t_now l3) (fun r1 =>
      f_X12_whose_b89 v_t_now v_t_rhymeOf v_t_tape a1 (f_X12_whose_b73 v_t_now v_t_rhymeOf v_t_tape a1 n) FU x_t_taped l2 l3 r1 (0 : Int32))
def f_X12_whose_b29 (v_t_now : (Nat → Int32)) (v_t_rhymeOf : (Nat → Int32)) (v_t_tape : (Nat → Int32)) (a1 : Int32) : Nat → Int32 → Int32 → Option (Int32 × Int32)
  | 0, _, _ => none
  | n + 1, x_t_taped, l2 =>
    if a1 ≤ l2 then
      f_X12_whose_b73 v_t_now v_t_rhymeOf v_t_tape a1 FU x_t_taped (0 : Int32) (0 : Int32)
    else
      bd1 (f_X12_octet v_t_tape ((2 : Int32) * l2)) (fun r1 =>
      bd1 (f_X12_isWord r1) (fun r2 =>
      if r2 = 0 then
        f_X12_whose_b60 x_t_taped
      else
        bd1 (f_X12_octet v_t_tape (((2 : Int32) * l2) + (1 : Int32))) (fun r3 =>
        if r3 ≤ (1 : Int32) then
          f_X12_whose_b29 v_t_now v_t_rhymeOf v_t_tape a1 n x_t_taped (l2 + (1 : Int32))
        else
          f_X12_whose_b60 x_t_taped)))
def f_X12_whose (v_t_now : (Nat → Int32)) (v_t_rhymeOf : (Nat → Int32)) (v_t_tape : (Nat → Int32)) (x_t_taped : Int32) (a1 : Int32) : Option (Int32 × Int32) :=
  bd1 (f_X12_in a1 (1 : Int32) (12 : Int32)) (fun r4 =>
  if r4 = 0 then
    f_X12_whose_b20 x_t_taped
  else
    if ((2 : Int32) * a1) ≤ x_t_taped then
      f_X12_whose_b29 v_t_now v_t_rhymeOf v_t_tape a1 FU (0 : Int32) (0 : Int32)
    else
      f_X12_whose_b20 x_t_taped)
set_option maxHeartbeats 4000000 in
set_option maxRecDepth 100000 in
theorem c_X12_whose {l : Launch} {D : va_G} {cI cB : ClassId} {A_t A_t_now A_t_aside A_t_kept A_t_rhymeOf A_t_wasRhyme A_t_wordAt A_t_tape A_t_said A_t_waitsAt A_t_saidLetter A_t_saidFrom A_t_saidHalf A_t_saidTo A_t_codes A_t_clauseOf A_t_codeFrom A_t_codeHalf A_t_codeTo A_t_stack A_t_facts A_t_newWords A_t_roundFrom A_t_roundAt A_t_roundTimes A_t_leastFrom A_t_rowNow A_t_bornOf A_t_trainsTo A_t_trainAt : Nat} {x_t_wordMany x_t_taped x_t_place0 x_t_length0 x_t_fault x_t_number0 x_t_open x_t_codeMany x_t_waiting x_t_saidMany x_t_clauses x_t_lines x_t_newMany x_t_rounds x_t_itFrom x_t_itTimes x_t_writtenNow x_t_picturesNow x_t_usedNow x_t_chosen x_t_fearOfChosen x_t_changesNow x_t_left0 x_t_trainMany x_t_leastTries x_t_firstTrained x_t_isKept a1 : Int32} {v_t_now v_t_rhymeOf v_t_tape : Nat → Int32} {o_r o_x_t_taped : Int32} (hf : f_X12_whose v_t_now v_t_rhymeOf v_t_tape x_t_taped a1 = some (o_r, o_x_t_taped)) : CtI l D cI cB yX12_whose cX12_whose 6 (some .int) 5 109 [.ref A_t, .int a1] [oX12 A_t A_t_now A_t_aside A_t_kept A_t_rhymeOf A_t_wasRhyme A_t_wordAt x_t_wordMany A_t_tape x_t_taped x_t_place0 x_t_length0 x_t_fault x_t_number0 x_t_open x_t_codeMany x_t_waiting x_t_saidMany x_t_clauses A_t_said A_t_waitsAt A_t_saidLetter A_t_saidFrom A_t_saidHalf A_t_saidTo A_t_codes A_t_clauseOf A_t_codeFrom A_t_codeHalf A_t_codeTo A_t_stack A_t_facts x_t_lines A_t_newWords A_t_roundFrom A_t_roundAt A_t_roundTimes x_t_newMany x_t_rounds x_t_itFrom x_t_itTimes x_t_writtenNow x_t_picturesNow x_t_usedNow x_t_chosen x_t_fearOfChosen A_t_leastFrom A_t_rowNow x_t_changesNow x_t_left0 A_t_bornOf A_t_trainsTo A_t_trainAt x_t_trainMany x_t_leastTries x_t_firstTrained x_t_isKept, iA cI 293 A_t_now v_t_now, iA cI 16 A_t_rhymeOf v_t_rhymeOf, iA cB 260 A_t_tape v_t_tape] [oX12 A_t A_t_now A_t_aside A_t_kept A_t_rhymeOf A_t_wasRhyme A_t_wordAt x_t_wordMany A_t_tape o_x_t_taped x_t_place0 x_t_length0 x_t_fault x_t_number0 x_t_open x_t_codeMany x_t_waiting x_t_saidMany x_t_clauses A_t_said A_t_waitsAt A_t_saidLetter A_t_saidFrom A_t_saidHalf A_t_saidTo A_t_codes A_t_clauseOf A_t_codeFrom A_t_codeHalf A_t_codeTo A_t_stack A_t_facts x_t_lines A_t_newWords A_t_roundFrom A_t_roundAt A_t_roundTimes x_t_newMany x_t_rounds x_t_itFrom x_t_itTimes x_t_writtenNow x_t_picturesNow x_t_usedNow x_t_chosen x_t_fearOfChosen A_t_leastFrom A_t_rowNow x_t_changesNow x_t_left0 A_t_bornOf A_t_trainsTo A_t_trainAt x_t_trainMany x_t_leastTries x_t_firstTrained x_t_isKept, iA cI 293 A_t_now v_t_now, iA cI 16 A_t_rhymeOf v_t_rhymeOf, iA cB 260 A_t_tape v_t_tape] o_r := by
  refine x_startI (by decide) (Nat.le_of_ble_eq_true rfl) ?_
  intro p e s m below meth c A C hr hlk hA hK hP hD hS ls hl
  have hl : lv_has ls 6 [(0, .ref A_t), (1, .int a1)] := hl
  have hx := C.1
  have hb := C.2.1
  unfold f_X12_whose at hf
  have hb_20 : ∀ (x_t_taped : Int32) (H : Heap) (locs : List Loc) (ls : Array Slot), lv_has ls 6 [] → va_P D vwCl [oX12 A_t A_t_now A_t_aside A_t_kept A_t_rhymeOf A_t_wasRhyme A_t_wordAt x_t_wordMany A_t_tape x_t_taped x_t_place0 x_t_length0 x_t_fault x_t_number0 x_t_open x_t_codeMany x_t_waiting x_t_saidMany x_t_clauses A_t_said A_t_waitsAt A_t_saidLetter A_t_saidFrom A_t_saidHalf A_t_saidTo A_t_codes A_t_clauseOf A_t_codeFrom A_t_codeHalf A_t_codeTo A_t_stack A_t_facts x_t_lines A_t_newWords A_t_roundFrom A_t_roundAt A_t_roundTimes x_t_newMany x_t_rounds x_t_itFrom x_t_itTimes x_t_writtenNow x_t_picturesNow x_t_usedNow x_t_chosen x_t_fearOfChosen A_t_leastFrom A_t_rowNow x_t_changesNow x_t_left0 A_t_bornOf A_t_trainsTo A_t_trainAt x_t_trainMany x_t_leastTries x_t_firstTrained x_t_isKept, iA cI 293 A_t_now v_t_now, iA cI 16 A_t_rhymeOf v_t_rhymeOf, iA cB 260 A_t_tape v_t_tape] H → va_D A [oX12 A_t A_t_now A_t_aside A_t_kept A_t_rhymeOf A_t_wasRhyme A_t_wordAt x_t_wordMany A_t_tape x_t_taped x_t_place0 x_t_length0 x_t_fault x_t_number0 x_t_open x_t_codeMany x_t_waiting x_t_saidMany x_t_clauses A_t_said A_t_waitsAt A_t_saidLetter A_t_saidFrom A_t_saidHalf A_t_saidTo A_t_codes A_t_clauseOf A_t_codeFrom A_t_codeHalf A_t_codeTo A_t_stack A_t_facts x_t_lines A_t_newWords A_t_roundFrom A_t_roundAt A_t_roundTimes x_t_newMany x_t_rounds x_t_itFrom x_t_itTimes x_t_writtenNow x_t_picturesNow x_t_usedNow x_t_chosen x_t_fearOfChosen A_t_leastFrom A_t_rowNow x_t_changesNow x_t_left0 A_t_bornOf A_t_trainsTo A_t_trainAt x_t_trainMany x_t_leastTries x_t_firstTrained x_t_isKept, iA cI 293 A_t_now v_t_now, iA cI 16 A_t_rhymeOf v_t_rhymeOf, iA cB 260 A_t_tape v_t_tape] → va_S A s.heap H locs → f_X12_whose_b20 x_t_taped = some (o_r, o_x_t_taped) → W p l e { frames := 5, cells := 0, slots := 0, locals := 109 } s m ([.ref A_t, .int a1] : List Value).toArray below meth c H locs 0 0 (MQ below (PoI D A [oX12 A_t A_t_now A_t_aside A_t_kept A_t_rhymeOf A_t_wasRhyme A_t_wordAt x_t_wordMany A_t_tape o_x_t_taped x_t_place0 x_t_length0 x_t_fault x_t_number0 x_t_open x_t_codeMany x_t_waiting x_t_saidMany x_t_clauses A_t_said A_t_waitsAt A_t_saidLetter A_t_saidFrom A_t_saidHalf A_t_saidTo A_t_codes A_t_clauseOf A_t_codeFrom A_t_codeHalf A_t_codeTo A_t_stack A_t_facts x_t_lines A_t_newWords A_t_roundFrom A_t_roundAt A_t_roundTimes x_t_newMany x_t_rounds x_t_itFrom x_t_itTimes x_t_writtenNow x_t_picturesNow x_t_usedNow x_t_chosen x_t_fearOfChosen A_t_leastFrom A_t_rowNow x_t_changesNow x_t_left0 A_t_bornOf A_t_trainsTo A_t_trainAt x_t_trainMany x_t_leastTries x_t_firstTrained x_t_isKept, iA cI 293 A_t_now v_t_now, iA cI 16 A_t_rhymeOf v_t_rhymeOf, iA cB 260 A_t_tape v_t_tape] o_r) ([.ref A_t, .int a1] : List Value).toArray s 0 0 A) (F0 m 20 ls []) := by
    intro x_t_taped H locs ls hl hP hD hS hf
    unfold f_X12_whose_b20 at hf
    refine lv_iconst (v := -1) hx hb dX12_whose_20 (by decide) ?_
    obtain ⟨rfl, rfl⟩ := ev2 hf
    exact x_iret C hr hlk hP hD hS dX12_whose_21
  have hb_60 : ∀ (x_t_taped : Int32) (H : Heap) (locs : List Loc) (ls : Array Slot), lv_has ls 6 [] → va_P D vwCl [oX12 A_t A_t_now A_t_aside A_t_kept A_t_rhymeOf A_t_wasRhyme A_t_wordAt x_t_wordMany A_t_tape x_t_taped x_t_place0 x_t_length0 x_t_fault x_t_number0 x_t_open x_t_codeMany x_t_waiting x_t_saidMany x_t_clauses A_t_said A_t_waitsAt A_t_saidLetter A_t_saidFrom A_t_saidHalf A_t_saidTo A_t_codes A_t_clauseOf A_t_codeFrom A_t_codeHalf A_t_codeTo A_t_stack A_t_facts x_t_lines A_t_newWords A_t_roundFrom A_t_roundAt A_t_roundTimes x_t_newMany x_t_rounds x_t_itFrom x_t_itTimes x_t_writtenNow x_t_picturesNow x_t_usedNow x_t_chosen x_t_fearOfChosen A_t_leastFrom A_t_rowNow x_t_changesNow x_t_left0 A_t_bornOf A_t_trainsTo A_t_trainAt x_t_trainMany x_t_leastTries x_t_firstTrained x_t_isKept, iA cI 293 A_t_now v_t_now, iA cI 16 A_t_rhymeOf v_t_rhymeOf, iA cB 260 A_t_tape v_t_tape] H → va_D A [oX12 A_t A_t_now A_t_aside A_t_kept A_t_rhymeOf A_t_wasRhyme A_t_wordAt x_t_wordMany A_t_tape x_t_taped x_t_place0 x_t_length0 x_t_fault x_t_number0 x_t_open x_t_codeMany x_t_waiting x_t_saidMany x_t_clauses A_t_said A_t_waitsAt A_t_saidLetter A_t_saidFrom A_t_saidHalf A_t_saidTo A_t_codes A_t_clauseOf A_t_codeFrom A_t_codeHalf A_t_codeTo A_t_stack A_t_facts x_t_lines A_t_newWords A_t_roundFrom A_t_roundAt A_t_roundTimes x_t_newMany x_t_rounds x_t_itFrom x_t_itTimes x_t_writtenNow x_t_picturesNow x_t_usedNow x_t_chosen x_t_fearOfChosen A_t_leastFrom A_t_rowNow x_t_changesNow x_t_left0 A_t_bornOf A_t_trainsTo A_t_trainAt x_t_trainMany x_t_leastTries x_t_firstTrained x_t_isKept, iA cI 293 A_t_now v_t_now, iA cI 16 A_t_rhymeOf v_t_rhymeOf, iA cB 260 A_t_tape v_t_tape] → va_S A s.heap H locs → f_X12_whose_b60 x_t_taped = some (o_r, o_x_t_taped) → W p l e { frames := 5, cells := 0, slots := 0, locals := 109 } s m ([.ref A_t, .int a1] : List Value).toArray below meth c H locs 0 0 (MQ below (PoI D A [oX12 A_t A_t_now A_t_aside A_t_kept A_t_rhymeOf A_t_wasRhyme A_t_wordAt x_t_wordMany A_t_tape o_x_t_taped x_t_place0 x_t_length0 x_t_fault x_t_number0 x_t_open x_t_codeMany x_t_waiting x_t_saidMany x_t_clauses A_t_said A_t_waitsAt A_t_saidLetter A_t_saidFrom A_t_saidHalf A_t_saidTo A_t_codes A_t_clauseOf A_t_codeFrom A_t_codeHalf A_t_codeTo A_t_stack A_t_facts x_t_lines A_t_newWords A_t_roundFrom A_t_roundAt A_t_roundTimes x_t_newMany x_t_rounds x_t_itFrom x_t_itTimes x_t_writtenNow x_t_picturesNow x_t_usedNow x_t_chosen x_t_fearOfChosen A_t_leastFrom A_t_rowNow x_t_changesNow x_t_left0 A_t_bornOf A_t_trainsTo A_t_trainAt x_t_trainMany x_t_leastTries x_t_firstTrained x_t_isKept, iA cI 293 A_t_now v_t_now, iA cI 16 A_t_rhymeOf v_t_rhymeOf, iA cB 260 A_t_tape v_t_tape] o_r) ([.ref A_t, .int a1] : List Value).toArray s 0 0 A) (F0 m 60 ls []) := by
    intro x_t_taped H locs ls hl hP hD hS hf
    unfold f_X12_whose_b60 at hf
    refine lv_bipush (v := -3) hx hb dX12_whose_60 (by decide) ?_
    obtain ⟨rfl, rfl⟩ := ev2 hf
    exact x_iret C hr hlk hP hD hS dX12_whose_62
  have hb_73 : ∀ (n_73 : Nat) (x_t_taped : Int32) (l2 : Int32) (l3 : Int32) (H : Heap) (locs : List Loc) (ls : Array Slot), lv_has ls 6 [(0, .ref A_t), (1, .int a1), (2, .int l2), (3, .int l3)] → va_P D vwCl [oX12 A_t A_t_now A_t_aside A_t_kept A_t_rhymeOf A_t_wasRhyme A_t_wordAt x_t_wordMany A_t_tape x_t_taped x_t_place0 x_t_length0 x_t_fault x_t_number0 x_t_open x_t_codeMany x_t_waiting x_t_saidMany x_t_clauses A_t_said A_t_waitsAt A_t_saidLetter A_t_saidFrom A_t_saidHalf A_t_saidTo A_t_codes A_t_clauseOf A_t_codeFrom A_t_codeHalf A_t_codeTo A_t_stack A_t_facts x_t_lines A_t_newWords A_t_roundFrom A_t_roundAt A_t_roundTimes x_t_newMany x_t_rounds x_t_itFrom x_t_itTimes x_t_writtenNow x_t_picturesNow x_t_usedNow x_t_chosen x_t_fearOfChosen A_t_leastFrom A_t_rowNow x_t_changesNow x_t_left0 A_t_bornOf A_t_trainsTo A_t_trainAt x_t_trainMany x_t_leastTries x_t_firstTrained x_t_isKept, iA cI 293 A_t_now v_t_now, iA cI 16 A_t_rhymeOf v_t_rhymeOf, iA cB 260 A_t_tape v_t_tape] H → va_D A [oX12 A_t A_t_now A_t_aside A_t_kept A_t_rhymeOf A_t_wasRhyme A_t_wordAt x_t_wordMany A_t_tape x_t_taped x_t_place0 x_t_length0 x_t_fault x_t_number0 x_t_open x_t_codeMany x_t_waiting x_t_saidMany x_t_clauses A_t_said A_t_waitsAt A_t_saidLetter A_t_saidFrom A_t_saidHalf A_t_saidTo A_t_codes A_t_clauseOf A_t_codeFrom A_t_codeHalf A_t_codeTo A_t_stack A_t_facts x_t_lines A_t_newWords A_t_roundFrom A_t_roundAt A_t_roundTimes x_t_newMany x_t_rounds x_t_itFrom x_t_itTimes x_t_writtenNow x_t_picturesNow x_t_usedNow x_t_chosen x_t_fearOfChosen A_t_leastFrom A_t_rowNow x_t_changesNow x_t_left0 A_t_bornOf A_t_trainsTo A_t_trainAt x_t_trainMany x_t_leastTries x_t_firstTrained x_t_isKept, iA cI 293 A_t_now v_t_now, iA cI 16 A_t_rhymeOf v_t_rhymeOf, iA cB 260 A_t_tape v_t_tape] → va_S A s.heap H locs → f_X12_whose_b73 v_t_now v_t_rhymeOf v_t_tape a1 n_73 x_t_taped l2 l3 = some (o_r, o_x_t_taped) → W p l e { frames := 5, cells := 0, slots := 0, locals := 109 } s m ([.ref A_t, .int a1] : List Value).toArray below meth c H locs 0 0 (MQ below (PoI D A [oX12 A_t A_t_now A_t_aside A_t_kept A_t_rhymeOf A_t_wasRhyme A_t_wordAt x_t_wordMany A_t_tape o_x_t_taped x_t_place0 x_t_length0 x_t_fault x_t_number0 x_t_open x_t_codeMany x_t_waiting x_t_saidMany x_t_clauses A_t_said A_t_waitsAt A_t_saidLetter A_t_saidFrom A_t_saidHalf A_t_saidTo A_t_codes A_t_clauseOf A_t_codeFrom A_t_codeHalf A_t_codeTo A_t_stack A_t_facts x_t_lines A_t_newWords A_t_roundFrom A_t_roundAt A_t_roundTimes x_t_newMany x_t_rounds x_t_itFrom x_t_itTimes x_t_writtenNow x_t_picturesNow x_t_usedNow x_t_chosen x_t_fearOfChosen A_t_leastFrom A_t_rowNow x_t_changesNow x_t_left0 A_t_bornOf A_t_trainsTo A_t_trainAt x_t_trainMany x_t_leastTries x_t_firstTrained x_t_isKept, iA cI 293 A_t_now v_t_now, iA cI 16 A_t_rhymeOf v_t_rhymeOf, iA cB 260 A_t_tape v_t_tape] o_r) ([.ref A_t, .int a1] : List Value).toArray s 0 0 A) (F0 m 73 ls []) := by
    intro n_73
    induction n_73 with
    | zero =>
      intro x_t_taped l2 l3 H locs ls hl hP hD hS hf
      exact absurd hf (fun h => by rw [f_X12_whose_b73] at h; cases h)
    | succ n_73 ih_73 =>
      have hb_159 : ∀ (x_t_taped : Int32) (l2 : Int32) (l3 : Int32) (H : Heap) (locs : List Loc) (ls : Array Slot), lv_has ls 6 [(0, .ref A_t), (1, .int a1), (2, .int l2), (3, .int l3)] → va_P D vwCl [oX12 A_t A_t_now A_t_aside A_t_kept A_t_rhymeOf A_t_wasRhyme A_t_wordAt x_t_wordMany A_t_tape x_t_taped x_t_place0 x_t_length0 x_t_fault x_t_number0 x_t_open x_t_codeMany x_t_waiting x_t_saidMany x_t_clauses A_t_said A_t_waitsAt A_t_saidLetter A_t_saidFrom A_t_saidHalf A_t_saidTo A_t_codes A_t_clauseOf A_t_codeFrom A_t_codeHalf A_t_codeTo A_t_stack A_t_facts x_t_lines A_t_newWords A_t_roundFrom A_t_roundAt A_t_roundTimes x_t_newMany x_t_rounds x_t_itFrom x_t_itTimes x_t_writtenNow x_t_picturesNow x_t_usedNow x_t_chosen x_t_fearOfChosen A_t_leastFrom A_t_rowNow x_t_changesNow x_t_left0 A_t_bornOf A_t_trainsTo A_t_trainAt x_t_trainMany x_t_leastTries x_t_firstTrained x_t_isKept, iA cI 293 A_t_now v_t_now, iA cI 16 A_t_rhymeOf v_t_rhymeOf, iA cB 260 A_t_tape v_t_tape] H → va_D A [oX12 A_t A_t_now A_t_aside A_t_kept A_t_rhymeOf A_t_wasRhyme A_t_wordAt x_t_wordMany A_t_tape x_t_taped x_t_place0 x_t_length0 x_t_fault x_t_number0 x_t_open x_t_codeMany x_t_waiting x_t_saidMany x_t_clauses A_t_said A_t_waitsAt A_t_saidLetter A_t_saidFrom A_t_saidHalf A_t_saidTo A_t_codes A_t_clauseOf A_t_codeFrom A_t_codeHalf A_t_codeTo A_t_stack A_t_facts x_t_lines A_t_newWords A_t_roundFrom A_t_roundAt A_t_roundTimes x_t_newMany x_t_rounds x_t_itFrom x_t_itTimes x_t_writtenNow x_t_picturesNow x_t_usedNow x_t_chosen x_t_fearOfChosen A_t_leastFrom A_t_rowNow x_t_changesNow x_t_left0 A_t_bornOf A_t_trainsTo A_t_trainAt x_t_trainMany x_t_leastTries x_t_firstTrained x_t_isKept, iA cI 293 A_t_now v_t_now, iA cI 16 A_t_rhymeOf v_t_rhymeOf, iA cB 260 A_t_tape v_t_tape] → va_S A s.heap H locs → f_X12_whose_b159 a1 (f_X12_whose_b73 v_t_now v_t_rhymeOf v_t_tape a1 n_73) x_t_taped l2 l3 = some (o_r, o_x_t_taped) → W p l e { frames := 5, cells := 0, slots := 0, locals := 109 } s m ([.ref A_t, .int a1] : List Value).toArray below meth c H locs 0 0 (MQ below (PoI D A [oX12 A_t A_t_now A_t_aside A_t_kept A_t_rhymeOf A_t_wasRhyme A_t_wordAt x_t_wordMany A_t_tape o_x_t_taped x_t_place0 x_t_length0 x_t_fault x_t_number0 x_t_open x_t_codeMany x_t_waiting x_t_saidMany x_t_clauses A_t_said A_t_waitsAt A_t_saidLetter A_t_saidFrom A_t_saidHalf A_t_saidTo A_t_codes A_t_clauseOf A_t_codeFrom A_t_codeHalf A_t_codeTo A_t_stack A_t_facts x_t_lines A_t_newWords A_t_roundFrom A_t_roundAt A_t_roundTimes x_t_newMany x_t_rounds x_t_itFrom x_t_itTimes x_t_writtenNow x_t_picturesNow x_t_usedNow x_t_chosen x_t_fearOfChosen A_t_leastFrom A_t_rowNow x_t_changesNow x_t_left0 A_t_bornOf A_t_trainsTo A_t_trainAt x_t_trainMany x_t_leastTries x_t_firstTrained x_t_isKept, iA cI 293 A_t_now v_t_now, iA cI 16 A_t_rhymeOf v_t_rhymeOf, iA cB 260 A_t_tape v_t_tape] o_r) ([.ref A_t, .int a1] : List Value).toArray s 0 0 A) (F0 m 159 ls []) := by
        intro x_t_taped l2 l3 H locs ls hl hP hD hS hf
        unfold f_X12_whose_b159 at hf
        refine lv_iinc (v := (l3 + (1 : Int32))) (lv' := [(3, .int (l3 + (1 : Int32))), (0, .ref A_t), (1, .int a1), (2, .int l2)]) hx hb dX12_whose_159 hl (k := 3) rfl rfl (by decide) rfl (fun ls hl => ?_)
        refine lv_goto (tgt := 73) hx hb dX12_whose_162 (by decide) ?_
        exact ih_73 x_t_taped l2 (l3 + (1 : Int32)) _ _ ls (lv_sub hl [1, 2, 3, 0] rfl) hP hD hS hf
      have hb_148 : ∀ (x_t_taped : Int32) (l2 : Int32) (l3 : Int32) (l4 : Int32) (H : Heap) (locs : List Loc) (ls : Array Slot), lv_has ls 6 [(0, .ref A_t), (1, .int a1), (2, .int l2), (3, .int l3), (4, .int l4)] → va_P D vwCl [oX12 A_t A_t_now A_t_aside A_t_kept A_t_rhymeOf A_t_wasRhyme A_t_wordAt x_t_wordMany A_t_tape x_t_taped x_t_place0 x_t_length0 x_t_fault x_t_number0 x_t_open x_t_codeMany x_t_waiting x_t_saidMany x_t_clauses A_t_said A_t_waitsAt A_t_saidLetter A_t_saidFrom A_t_saidHalf A_t_saidTo A_t_codes A_t_clauseOf A_t_codeFrom A_t_codeHalf A_t_codeTo A_t_stack A_t_facts x_t_lines A_t_newWords A_t_roundFrom A_t_roundAt A_t_roundTimes x_t_newMany x_t_rounds x_t_itFrom x_t_itTimes x_t_writtenNow x_t_picturesNow x_t_usedNow x_t_chosen x_t_fearOfChosen A_t_leastFrom A_t_rowNow x_t_changesNow x_t_left0 A_t_bornOf A_t_trainsTo A_t_trainAt x_t_trainMany x_t_leastTries x_t_firstTrained x_t_isKept, iA cI 293 A_t_now v_t_now, iA cI 16 A_t_rhymeOf v_t_rhymeOf, iA cB 260 A_t_tape v_t_tape] H → va_D A [oX12 A_t A_t_now A_t_aside A_t_kept A_t_rhymeOf A_t_wasRhyme A_t_wordAt x_t_wordMany A_t_tape x_t_taped x_t_place0 x_t_length0 x_t_fault x_t_number0 x_t_open x_t_codeMany x_t_waiting x_t_saidMany x_t_clauses A_t_said A_t_waitsAt A_t_saidLetter A_t_saidFrom A_t_saidHalf A_t_saidTo A_t_codes A_t_clauseOf A_t_codeFrom A_t_codeHalf A_t_codeTo A_t_stack A_t_facts x_t_lines A_t_newWords A_t_roundFrom A_t_roundAt A_t_roundTimes x_t_newMany x_t_rounds x_t_itFrom x_t_itTimes x_t_writtenNow x_t_picturesNow x_t_usedNow x_t_chosen x_t_fearOfChosen A_t_leastFrom A_t_rowNow x_t_changesNow x_t_left0 A_t_bornOf A_t_trainsTo A_t_trainAt x_t_trainMany x_t_leastTries x_t_firstTrained x_t_isKept, iA cI 293 A_t_now v_t_now, iA cI 16 A_t_rhymeOf v_t_rhymeOf, iA cB 260 A_t_tape v_t_tape] → va_S A s.heap H locs → f_X12_whose_b148 a1 (f_X12_whose_b73 v_t_now v_t_rhymeOf v_t_tape a1 n_73) x_t_taped l2 l3 l4 = some (o_r, o_x_t_taped) → W p l e { frames := 5, cells := 0, slots := 0, locals := 109 } s m ([.ref A_t, .int a1] : List Value).toArray below meth c H locs 0 0 (MQ below (PoI D A [oX12 A_t A_t_now A_t_aside A_t_kept A_t_rhymeOf A_t_wasRhyme A_t_wordAt x_t_wordMany A_t_tape o_x_t_taped x_t_place0 x_t_length0 x_t_fault x_t_number0 x_t_open x_t_codeMany x_t_waiting x_t_saidMany x_t_clauses A_t_said A_t_waitsAt A_t_saidLetter A_t_saidFrom A_t_saidHalf A_t_saidTo A_t_codes A_t_clauseOf A_t_codeFrom A_t_codeHalf A_t_codeTo A_t_stack A_t_facts x_t_lines A_t_newWords A_t_roundFrom A_t_roundAt A_t_roundTimes x_t_newMany x_t_rounds x_t_itFrom x_t_itTimes x_t_writtenNow x_t_picturesNow x_t_usedNow x_t_chosen x_t_fearOfChosen A_t_leastFrom A_t_rowNow x_t_changesNow x_t_left0 A_t_bornOf A_t_trainsTo A_t_trainAt x_t_trainMany x_t_leastTries x_t_firstTrained x_t_isKept, iA cI 293 A_t_now v_t_now, iA cI 16 A_t_rhymeOf v_t_rhymeOf, iA cB 260 A_t_tape v_t_tape] o_r) ([.ref A_t, .int a1] : List Value).toArray s 0 0 A) (F0 m 148 ls []) := by
        intro x_t_taped l2 l3 l4 H locs ls hl hP hD hS hf
        unfold f_X12_whose_b148 at hf
        refine lv_iload hx hb dX12_whose_148 (lv_at hl 4 rfl) ?_
        refine lv_if_eq (tgt := 159) hx hb dX12_whose_150 (by decide) (fun q => ?_) (fun q => ?_)
        · have hf := if_t q hf
          exact hb_159 x_t_taped l2 l3 _ _ ls (lv_sub hl [0, 1, 2, 3] rfl) hP hD hS hf
        · have hf := if_f q hf
          refine lv_iload_n hx hb dX12_whose_153 rfl (lv_at hl 2 rfl) ?_
          refine lv_iconst (v := 1) hx hb dX12_whose_154 (by decide) ?_
          refine lv_iload_n hx hb dX12_whose_155 rfl (lv_at hl 3 rfl) ?_
          refine lv_ishl hx hb dX12_whose_156 ?_
          refine lv_ior hx hb dX12_whose_157 ?_
          refine lv_istore_n (lv' := [(2, .int (l2 ||| ((1 : Int32) <<< (l3 &&& 31)))), (0, .ref A_t), (1, .int a1), (3, .int l3), (4, .int l4)]) hx hb dX12_whose_158 rfl hl (by decide) rfl (fun ls hl => ?_)
          exact hb_159 x_t_taped (l2 ||| ((1 : Int32) <<< (l3 &&& 31))) l3 _ _ ls (lv_sub hl [1, 2, 0, 3] rfl) hP hD hS hf
      have hb_89 : ∀ (n_89 : Nat) (x_t_taped : Int32) (l2 : Int32) (l3 : Int32) (l4 : Int32) (l5 : Int32) (H : Heap) (locs : List Loc) (ls : Array Slot), lv_has ls 6 [(0, .ref A_t), (1, .int a1), (2, .int l2), (3, .int l3), (4, .int l4), (5, .int l5)] → va_P D vwCl [oX12 A_t A_t_now A_t_aside A_t_kept A_t_rhymeOf A_t_wasRhyme A_t_wordAt x_t_wordMany A_t_tape x_t_taped x_t_place0 x_t_length0 x_t_fault x_t_number0 x_t_open x_t_codeMany x_t_waiting x_t_saidMany x_t_clauses A_t_said A_t_waitsAt A_t_saidLetter A_t_saidFrom A_t_saidHalf A_t_saidTo A_t_codes A_t_clauseOf A_t_codeFrom A_t_codeHalf A_t_codeTo A_t_stack A_t_facts x_t_lines A_t_newWords A_t_roundFrom A_t_roundAt A_t_roundTimes x_t_newMany x_t_rounds x_t_itFrom x_t_itTimes x_t_writtenNow x_t_picturesNow x_t_usedNow x_t_chosen x_t_fearOfChosen A_t_leastFrom A_t_rowNow x_t_changesNow x_t_left0 A_t_bornOf A_t_trainsTo A_t_trainAt x_t_trainMany x_t_leastTries x_t_firstTrained x_t_isKept, iA cI 293 A_t_now v_t_now, iA cI 16 A_t_rhymeOf v_t_rhymeOf, iA cB 260 A_t_tape v_t_tape] H → va_D A [oX12 A_t A_t_now A_t_aside A_t_kept A_t_rhymeOf A_t_wasRhyme A_t_wordAt x_t_wordMany A_t_tape x_t_taped x_t_place0 x_t_length0 x_t_fault x_t_number0 x_t_open x_t_codeMany x_t_waiting x_t_saidMany x_t_clauses A_t_said A_t_waitsAt A_t_saidLetter A_t_saidFrom A_t_saidHalf A_t_saidTo A_t_codes A_t_clauseOf A_t_codeFrom A_t_codeHalf A_t_codeTo A_t_stack A_t_facts x_t_lines A_t_newWords A_t_roundFrom A_t_roundAt A_t_roundTimes x_t_newMany x_t_rounds x_t_itFrom x_t_itTimes x_t_writtenNow x_t_picturesNow x_t_usedNow x_t_chosen x_t_fearOfChosen A_t_leastFrom A_t_rowNow x_t_changesNow x_t_left0 A_t_bornOf A_t_trainsTo A_t_trainAt x_t_trainMany x_t_leastTries x_t_firstTrained x_t_isKept, iA cI 293 A_t_now v_t_now, iA cI 16 A_t_rhymeOf v_t_rhymeOf, iA cB 260 A_t_tape v_t_tape] → va_S A s.heap H locs → f_X12_whose_b89 v_t_now v_t_rhymeOf v_t_tape a1 (f_X12_whose_b73 v_t_now v_t_rhymeOf v_t_tape a1 n_73) n_89 x_t_taped l2 l3 l4 l5 = some (o_r, o_x_t_taped) → W p l e { frames := 5, cells := 0, slots := 0, locals := 109 } s m ([.ref A_t, .int a1] : List Value).toArray below meth c H locs 0 0 (MQ below (PoI D A [oX12 A_t A_t_now A_t_aside A_t_kept A_t_rhymeOf A_t_wasRhyme A_t_wordAt x_t_wordMany A_t_tape o_x_t_taped x_t_place0 x_t_length0 x_t_fault x_t_number0 x_t_open x_t_codeMany x_t_waiting x_t_saidMany x_t_clauses A_t_said A_t_waitsAt A_t_saidLetter A_t_saidFrom A_t_saidHalf A_t_saidTo A_t_codes A_t_clauseOf A_t_codeFrom A_t_codeHalf A_t_codeTo A_t_stack A_t_facts x_t_lines A_t_newWords A_t_roundFrom A_t_roundAt A_t_roundTimes x_t_newMany x_t_rounds x_t_itFrom x_t_itTimes x_t_writtenNow x_t_picturesNow x_t_usedNow x_t_chosen x_t_fearOfChosen A_t_leastFrom A_t_rowNow x_t_changesNow x_t_left0 A_t_bornOf A_t_trainsTo A_t_trainAt x_t_trainMany x_t_leastTries x_t_firstTrained x_t_isKept, iA cI 293 A_t_now v_t_now, iA cI 16 A_t_rhymeOf v_t_rhymeOf, iA cB 260 A_t_tape v_t_tape] o_r) ([.ref A_t, .int a1] : List Value).toArray s 0 0 A) (F0 m 89 ls []) := by
        intro n_89
        induction n_89 with
        | zero =>
          intro x_t_taped l2 l3 l4 l5 H locs ls hl hP hD hS hf
          exact absurd hf (fun h => by rw [f_X12_whose_b89] at h; cases h)
        | succ n_89 ih_89 =>
          have hb_140 : ∀ (x_t_taped : Int32) (s0 : Int32) (l2 : Int32) (l3 : Int32) (l5 : Int32) (H : Heap) (locs : List Loc) (ls : Array Slot), lv_has ls 6 [(0, .ref A_t), (1, .int a1), (2, .int l2), (3, .int l3), (5, .int l5)] → va_P D vwCl [oX12 A_t A_t_now A_t_aside A_t_kept A_t_rhymeOf A_t_wasRhyme A_t_wordAt x_t_wordMany A_t_tape x_t_taped x_t_place0 x_t_length0 x_t_fault x_t_number0 x_t_open x_t_codeMany x_t_waiting x_t_saidMany x_t_clauses A_t_said A_t_waitsAt A_t_saidLetter A_t_saidFrom A_t_saidHalf A_t_saidTo A_t_codes A_t_clauseOf A_t_codeFrom A_t_codeHalf A_t_codeTo A_t_stack A_t_facts x_t_lines A_t_newWords A_t_roundFrom A_t_roundAt A_t_roundTimes x_t_newMany x_t_rounds x_t_itFrom x_t_itTimes x_t_writtenNow x_t_picturesNow x_t_usedNow x_t_chosen x_t_fearOfChosen A_t_leastFrom A_t_rowNow x_t_changesNow x_t_left0 A_t_bornOf A_t_trainsTo A_t_trainAt x_t_trainMany x_t_leastTries x_t_firstTrained x_t_isKept, iA cI 293 A_t_now v_t_now, iA cI 16 A_t_rhymeOf v_t_rhymeOf, iA cB 260 A_t_tape v_t_tape] H → va_D A [oX12 A_t A_t_now A_t_aside A_t_kept A_t_rhymeOf A_t_wasRhyme A_t_wordAt x_t_wordMany A_t_tape x_t_taped x_t_place0 x_t_length0 x_t_fault x_t_number0 x_t_open x_t_codeMany x_t_waiting x_t_saidMany x_t_clauses A_t_said A_t_waitsAt A_t_saidLetter A_t_saidFrom A_t_saidHalf A_t_saidTo A_t_codes A_t_clauseOf A_t_codeFrom A_t_codeHalf A_t_codeTo A_t_stack A_t_facts x_t_lines A_t_newWords A_t_roundFrom A_t_roundAt A_t_roundTimes x_t_newMany x_t_rounds x_t_itFrom x_t_itTimes x_t_writtenNow x_t_picturesNow x_t_usedNow x_t_chosen x_t_fearOfChosen A_t_leastFrom A_t_rowNow x_t_changesNow x_t_left0 A_t_bornOf A_t_trainsTo A_t_trainAt x_t_trainMany x_t_leastTries x_t_firstTrained x_t_isKept, iA cI 293 A_t_now v_t_now, iA cI 16 A_t_rhymeOf v_t_rhymeOf, iA cB 260 A_t_tape v_t_tape] → va_S A s.heap H locs → f_X12_whose_b140 a1 (f_X12_whose_b73 v_t_now v_t_rhymeOf v_t_tape a1 n_73) (f_X12_whose_b89 v_t_now v_t_rhymeOf v_t_tape a1 (f_X12_whose_b73 v_t_now v_t_rhymeOf v_t_tape a1 n_73) n_89) x_t_taped s0 l2 l3 l5 = some (o_r, o_x_t_taped) → W p l e { frames := 5, cells := 0, slots := 0, locals := 109 } s m ([.ref A_t, .int a1] : List Value).toArray below meth c H locs 0 0 (MQ below (PoI D A [oX12 A_t A_t_now A_t_aside A_t_kept A_t_rhymeOf A_t_wasRhyme A_t_wordAt x_t_wordMany A_t_tape o_x_t_taped x_t_place0 x_t_length0 x_t_fault x_t_number0 x_t_open x_t_codeMany x_t_waiting x_t_saidMany x_t_clauses A_t_said A_t_waitsAt A_t_saidLetter A_t_saidFrom A_t_saidHalf A_t_saidTo A_t_codes A_t_clauseOf A_t_codeFrom A_t_codeHalf A_t_codeTo A_t_stack A_t_facts x_t_lines A_t_newWords A_t_roundFrom A_t_roundAt A_t_roundTimes x_t_newMany x_t_rounds x_t_itFrom x_t_itTimes x_t_writtenNow x_t_picturesNow x_t_usedNow x_t_chosen x_t_fearOfChosen A_t_leastFrom A_t_rowNow x_t_changesNow x_t_left0 A_t_bornOf A_t_trainsTo A_t_trainAt x_t_trainMany x_t_leastTries x_t_firstTrained x_t_isKept, iA cI 293 A_t_now v_t_now, iA cI 16 A_t_rhymeOf v_t_rhymeOf, iA cB 260 A_t_tape v_t_tape] o_r) ([.ref A_t, .int a1] : List Value).toArray s 0 0 A) (F0 m 140 ls [.int s0]) := by
            intro x_t_taped s0 l2 l3 l5 H locs ls hl hP hD hS hf
            unfold f_X12_whose_b140 at hf
            refine lv_istore (lv' := [(4, .int s0), (0, .ref A_t), (1, .int a1), (2, .int l2), (3, .int l3), (5, .int l5)]) hx hb dX12_whose_140 hl (by decide) rfl (fun ls hl => ?_)
            refine lv_iinc (v := (l5 + (1 : Int32))) (lv' := [(5, .int (l5 + (1 : Int32))), (4, .int s0), (0, .ref A_t), (1, .int a1), (2, .int l2), (3, .int l3)]) hx hb dX12_whose_142 hl (k := 5) rfl rfl (by decide) rfl (fun ls hl => ?_)
            refine lv_goto (tgt := 89) hx hb dX12_whose_145 (by decide) ?_
            exact ih_89 x_t_taped l2 l3 s0 (l5 + (1 : Int32)) _ _ ls (lv_sub hl [2, 3, 4, 5, 1, 0] rfl) hP hD hS hf
          have hb_132 : ∀ (x_t_taped : Int32) (s0 : Int32) (s1 : Int32) (l2 : Int32) (l3 : Int32) (l5 : Int32) (H : Heap) (locs : List Loc) (ls : Array Slot), lv_has ls 6 [(0, .ref A_t), (1, .int a1), (2, .int l2), (3, .int l3), (5, .int l5)] → va_P D vwCl [oX12 A_t A_t_now A_t_aside A_t_kept A_t_rhymeOf A_t_wasRhyme A_t_wordAt x_t_wordMany A_t_tape x_t_taped x_t_place0 x_t_length0 x_t_fault x_t_number0 x_t_open x_t_codeMany x_t_waiting x_t_saidMany x_t_clauses A_t_said A_t_waitsAt A_t_saidLetter A_t_saidFrom A_t_saidHalf A_t_saidTo A_t_codes A_t_clauseOf A_t_codeFrom A_t_codeHalf A_t_codeTo A_t_stack A_t_facts x_t_lines A_t_newWords A_t_roundFrom A_t_roundAt A_t_roundTimes x_t_newMany x_t_rounds x_t_itFrom x_t_itTimes x_t_writtenNow x_t_picturesNow x_t_usedNow x_t_chosen x_t_fearOfChosen A_t_leastFrom A_t_rowNow x_t_changesNow x_t_left0 A_t_bornOf A_t_trainsTo A_t_trainAt x_t_trainMany x_t_leastTries x_t_firstTrained x_t_isKept, iA cI 293 A_t_now v_t_now, iA cI 16 A_t_rhymeOf v_t_rhymeOf, iA cB 260 A_t_tape v_t_tape] H → va_D A [oX12 A_t A_t_now A_t_aside A_t_kept A_t_rhymeOf A_t_wasRhyme A_t_wordAt x_t_wordMany A_t_tape x_t_taped x_t_place0 x_t_length0 x_t_fault x_t_number0 x_t_open x_t_codeMany x_t_waiting x_t_saidMany x_t_clauses A_t_said A_t_waitsAt A_t_saidLetter A_t_saidFrom A_t_saidHalf A_t_saidTo A_t_codes A_t_clauseOf A_t_codeFrom A_t_codeHalf A_t_codeTo A_t_stack A_t_facts x_t_lines A_t_newWords A_t_roundFrom A_t_roundAt A_t_roundTimes x_t_newMany x_t_rounds x_t_itFrom x_t_itTimes x_t_writtenNow x_t_picturesNow x_t_usedNow x_t_chosen x_t_fearOfChosen A_t_leastFrom A_t_rowNow x_t_changesNow x_t_left0 A_t_bornOf A_t_trainsTo A_t_trainAt x_t_trainMany x_t_leastTries x_t_firstTrained x_t_isKept, iA cI 293 A_t_now v_t_now, iA cI 16 A_t_rhymeOf v_t_rhymeOf, iA cB 260 A_t_tape v_t_tape] → va_S A s.heap H locs → f_X12_whose_b132 a1 (f_X12_whose_b73 v_t_now v_t_rhymeOf v_t_tape a1 n_73) (f_X12_whose_b89 v_t_now v_t_rhymeOf v_t_tape a1 (f_X12_whose_b73 v_t_now v_t_rhymeOf v_t_tape a1 n_73) n_89) x_t_taped s0 s1 l2 l3 l5 = some (o_r, o_x_t_taped) → W p l e { frames := 5, cells := 0, slots := 0, locals := 109 } s m ([.ref A_t, .int a1] : List Value).toArray below meth c H locs 0 0 (MQ below (PoI D A [oX12 A_t A_t_now A_t_aside A_t_kept A_t_rhymeOf A_t_wasRhyme A_t_wordAt x_t_wordMany A_t_tape o_x_t_taped x_t_place0 x_t_length0 x_t_fault x_t_number0 x_t_open x_t_codeMany x_t_waiting x_t_saidMany x_t_clauses A_t_said A_t_waitsAt A_t_saidLetter A_t_saidFrom A_t_saidHalf A_t_saidTo A_t_codes A_t_clauseOf A_t_codeFrom A_t_codeHalf A_t_codeTo A_t_stack A_t_facts x_t_lines A_t_newWords A_t_roundFrom A_t_roundAt A_t_roundTimes x_t_newMany x_t_rounds x_t_itFrom x_t_itTimes x_t_writtenNow x_t_picturesNow x_t_usedNow x_t_chosen x_t_fearOfChosen A_t_leastFrom A_t_rowNow x_t_changesNow x_t_left0 A_t_bornOf A_t_trainsTo A_t_trainAt x_t_trainMany x_t_leastTries x_t_firstTrained x_t_isKept, iA cI 293 A_t_now v_t_now, iA cI 16 A_t_rhymeOf v_t_rhymeOf, iA cB 260 A_t_tape v_t_tape] o_r) ([.ref A_t, .int a1] : List Value).toArray s 0 0 A) (F0 m 132 ls [.int s1, .int s0]) := by
            intro x_t_taped s0 s1 l2 l3 l5 H locs ls hl hP hD hS hf
            unfold f_X12_whose_b132 at hf
            refine lv_icmp_ne (tgt := 139) hx hb dX12_whose_132 (by decide) (fun q => ?_) (fun q => ?_)
            · have hf := if_f q hf
              refine lv_iconst (v := 0) hx hb dX12_whose_139 (by decide) ?_
              exact hb_140 x_t_taped (0 : Int32) l2 l3 l5 _ _ ls (lv_sub hl [0, 1, 2, 3, 4] rfl) hP hD hS hf
            · have hf := if_t q hf
              refine lv_iconst (v := 1) hx hb dX12_whose_135 (by decide) ?_
              refine lv_goto (tgt := 140) hx hb dX12_whose_136 (by decide) ?_
              exact hb_140 x_t_taped (1 : Int32) l2 l3 l5 _ _ ls (lv_sub hl [0, 1, 2, 3, 4] rfl) hP hD hS hf
          intro x_t_taped l2 l3 l4 l5 H locs ls hl hP hD hS hf
          rw [f_X12_whose_b89] at hf
          refine lv_iload hx hb dX12_whose_89 (lv_at hl 5 rfl) ?_
          refine lv_iload_n hx hb dX12_whose_91 rfl (lv_at hl 1 rfl) ?_
          refine lv_icmp_ge (tgt := 148) hx hb dX12_whose_92 (by decide) (fun q => ?_) (fun q => ?_)
          · have hf := if_t q hf
            exact hb_148 x_t_taped l2 l3 l4 _ _ ls (lv_sub hl [0, 1, 2, 3, 4] rfl) hP hD hS hf
          · have hf := if_f q hf
            refine lv_iload hx hb dX12_whose_95 (lv_at hl 4 rfl) ?_
            refine lv_if_eq (tgt := 148) hx hb dX12_whose_97 (by decide) (fun q => ?_) (fun q => ?_)
            · have hf := if_t q hf
              exact hb_148 x_t_taped l2 l3 l4 _ _ ls (lv_sub hl [0, 1, 2, 3, 4] rfl) hP hD hS hf
            · have hf := if_f q hf
              refine lv_aload_n hx hb dX12_whose_100 rfl (lv_at hl 0 rfl) ?_
              refine lv_iload_n hx hb dX12_whose_101 rfl (lv_at hl 3 rfl) ?_
              refine lv_aload_n hx hb dX12_whose_102 rfl (lv_at hl 0 rfl) ?_
              refine lv_iconst (v := 2) hx hb dX12_whose_103 (by decide) ?_
              refine lv_iload hx hb dX12_whose_104 (lv_at hl 5 rfl) ?_
              refine lv_imul hx hb dX12_whose_106 ?_
              obtain ⟨r1, hc2, hf⟩ := bd1_e hf
              refine x_callVI (ws' := [oX12 A_t A_t_now A_t_aside A_t_kept A_t_rhymeOf A_t_wasRhyme A_t_wordAt x_t_wordMany A_t_tape x_t_taped x_t_place0 x_t_length0 x_t_fault x_t_number0 x_t_open x_t_codeMany x_t_waiting x_t_saidMany x_t_clauses A_t_said A_t_waitsAt A_t_saidLetter A_t_saidFrom A_t_saidHalf A_t_saidTo A_t_codes A_t_clauseOf A_t_codeFrom A_t_codeHalf A_t_codeTo A_t_stack A_t_facts x_t_lines A_t_newWords A_t_roundFrom A_t_roundAt A_t_roundTimes x_t_newMany x_t_rounds x_t_itFrom x_t_itTimes x_t_writtenNow x_t_picturesNow x_t_usedNow x_t_chosen x_t_fearOfChosen A_t_leastFrom A_t_rowNow x_t_changesNow x_t_left0 A_t_bornOf A_t_trainsTo A_t_trainAt x_t_trainMany x_t_leastTries x_t_firstTrained x_t_isKept, iA cI 293 A_t_now v_t_now, iA cI 16 A_t_rhymeOf v_t_rhymeOf, iA cB 260 A_t_tape v_t_tape]) (rest := [.int l3, .ref A_t]) C hK hP hD hS hA hl mf_X12_378 (c_X12_octet hc2) [0, 3] 0 12 rfl rfl rfl rfl rfl rfl rfl rfl rfl rfl (Nat.le_of_ble_eq_true rfl) ⟨Nat.le_of_ble_eq_true rfl, Nat.le_of_ble_eq_true rfl⟩ ⟨Nat.le_refl _, Nat.le_refl _⟩ dX12_whose_107 ?_
              intro H locs hP hD hS
              obtain ⟨r3, hc4, hf⟩ := bd1_e hf
              refine x_callVI (ws' := [oX12 A_t A_t_now A_t_aside A_t_kept A_t_rhymeOf A_t_wasRhyme A_t_wordAt x_t_wordMany A_t_tape x_t_taped x_t_place0 x_t_length0 x_t_fault x_t_number0 x_t_open x_t_codeMany x_t_waiting x_t_saidMany x_t_clauses A_t_said A_t_waitsAt A_t_saidLetter A_t_saidFrom A_t_saidHalf A_t_saidTo A_t_codes A_t_clauseOf A_t_codeFrom A_t_codeHalf A_t_codeTo A_t_stack A_t_facts x_t_lines A_t_newWords A_t_roundFrom A_t_roundAt A_t_roundTimes x_t_newMany x_t_rounds x_t_itFrom x_t_itTimes x_t_writtenNow x_t_picturesNow x_t_usedNow x_t_chosen x_t_fearOfChosen A_t_leastFrom A_t_rowNow x_t_changesNow x_t_left0 A_t_bornOf A_t_trainsTo A_t_trainAt x_t_trainMany x_t_leastTries x_t_firstTrained x_t_isKept, iA cI 293 A_t_now v_t_now, iA cI 16 A_t_rhymeOf v_t_rhymeOf, iA cB 260 A_t_tape v_t_tape]) (rest := []) C hK hP hD hS hA hl mf_X12_127 (c_X12_bears hc4) [0, 1, 2] 0 12 rfl rfl rfl rfl rfl rfl rfl rfl rfl rfl (Nat.le_of_ble_eq_true rfl) ⟨Nat.le_of_ble_eq_true rfl, Nat.le_of_ble_eq_true rfl⟩ ⟨Nat.le_refl _, Nat.le_refl _⟩ dX12_whose_110 ?_
              intro H locs hP hD hS
              refine lv_aload_n hx hb dX12_whose_113 rfl (lv_at hl 0 rfl) ?_
              refine lv_iconst (v := 2) hx hb dX12_whose_114 (by decide) ?_
              refine lv_iload hx hb dX12_whose_115 (lv_at hl 5 rfl) ?_
              refine lv_imul hx hb dX12_whose_117 ?_
              refine lv_iconst (v := 1) hx hb dX12_whose_118 (by decide) ?_
              refine lv_iadd hx hb dX12_whose_119 ?_
              obtain ⟨r5, hc6, hf⟩ := bd1_e hf
              refine x_callVI (ws' := [oX12 A_t A_t_now A_t_aside A_t_kept A_t_rhymeOf A_t_wasRhyme A_t_wordAt x_t_wordMany A_t_tape x_t_taped x_t_place0 x_t_length0 x_t_fault x_t_number0 x_t_open x_t_codeMany x_t_waiting x_t_saidMany x_t_clauses A_t_said A_t_waitsAt A_t_saidLetter A_t_saidFrom A_t_saidHalf A_t_saidTo A_t_codes A_t_clauseOf A_t_codeFrom A_t_codeHalf A_t_codeTo A_t_stack A_t_facts x_t_lines A_t_newWords A_t_roundFrom A_t_roundAt A_t_roundTimes x_t_newMany x_t_rounds x_t_itFrom x_t_itTimes x_t_writtenNow x_t_picturesNow x_t_usedNow x_t_chosen x_t_fearOfChosen A_t_leastFrom A_t_rowNow x_t_changesNow x_t_left0 A_t_bornOf A_t_trainsTo A_t_trainAt x_t_trainMany x_t_leastTries x_t_firstTrained x_t_isKept, iA cI 293 A_t_now v_t_now, iA cI 16 A_t_rhymeOf v_t_rhymeOf, iA cB 260 A_t_tape v_t_tape]) (rest := [.int r3]) C hK hP hD hS hA hl mf_X12_378 (c_X12_octet hc6) [0, 3] 0 12 rfl rfl rfl rfl rfl rfl rfl rfl rfl rfl (Nat.le_of_ble_eq_true rfl) ⟨Nat.le_of_ble_eq_true rfl, Nat.le_of_ble_eq_true rfl⟩ ⟨Nat.le_refl _, Nat.le_refl _⟩ dX12_whose_120 ?_
              intro H locs hP hD hS
              refine lv_iconst (v := 1) hx hb dX12_whose_123 (by decide) ?_
              refine lv_icmp_ne (tgt := 131) hx hb dX12_whose_124 (by decide) (fun q => ?_) (fun q => ?_)
              · have hf := if_f q hf
                refine lv_iconst (v := 0) hx hb dX12_whose_131 (by decide) ?_
                exact hb_132 x_t_taped r3 (0 : Int32) l2 l3 l5 _ _ ls (lv_sub hl [0, 1, 2, 3, 5] rfl) hP hD hS hf
              · have hf := if_t q hf
                refine lv_iconst (v := 1) hx hb dX12_whose_127 (by decide) ?_
                refine lv_goto (tgt := 132) hx hb dX12_whose_128 (by decide) ?_
                exact hb_132 x_t_taped r3 (1 : Int32) l2 l3 l5 _ _ ls (lv_sub hl [0, 1, 2, 3, 5] rfl) hP hD hS hf
      intro x_t_taped l2 l3 H locs ls hl hP hD hS hf
      rw [f_X12_whose_b73] at hf
      refine lv_iload_n hx hb dX12_whose_73 rfl (lv_at hl 3 rfl) ?_
      refine lv_bipush (v := 8) hx hb dX12_whose_74 (by decide) ?_
      refine lv_icmp_ge (tgt := 165) hx hb dX12_whose_76 (by decide) (fun q => ?_) (fun q => ?_)
      · have hf := if_t q hf
        refine lv_iload_n hx hb dX12_whose_165 rfl (lv_at hl 2 rfl) ?_
        obtain ⟨rfl, rfl⟩ := ev2 hf
        exact x_iret C hr hlk hP hD hS dX12_whose_166
      · have hf := if_f q hf
        refine lv_aload_n hx hb dX12_whose_79 rfl (lv_at hl 0 rfl) ?_
        refine lv_iload_n hx hb dX12_whose_80 rfl (lv_at hl 3 rfl) ?_
        obtain ⟨r7, hc8, hf⟩ := bd1_e hf
        refine x_callVI (ws' := [oX12 A_t A_t_now A_t_aside A_t_kept A_t_rhymeOf A_t_wasRhyme A_t_wordAt x_t_wordMany A_t_tape x_t_taped x_t_place0 x_t_length0 x_t_fault x_t_number0 x_t_open x_t_codeMany x_t_waiting x_t_saidMany x_t_clauses A_t_said A_t_waitsAt A_t_saidLetter A_t_saidFrom A_t_saidHalf A_t_saidTo A_t_codes A_t_clauseOf A_t_codeFrom A_t_codeHalf A_t_codeTo A_t_stack A_t_facts x_t_lines A_t_newWords A_t_roundFrom A_t_roundAt A_t_roundTimes x_t_newMany x_t_rounds x_t_itFrom x_t_itTimes x_t_writtenNow x_t_picturesNow x_t_usedNow x_t_chosen x_t_fearOfChosen A_t_leastFrom A_t_rowNow x_t_changesNow x_t_left0 A_t_bornOf A_t_trainsTo A_t_trainAt x_t_trainMany x_t_leastTries x_t_firstTrained x_t_isKept, iA cI 293 A_t_now v_t_now, iA cI 16 A_t_rhymeOf v_t_rhymeOf, iA cB 260 A_t_tape v_t_tape]) (rest := []) C hK hP hD hS hA hl mf_X12_109 (c_X12_isTold hc8) [0, 1] 0 12 rfl rfl rfl rfl rfl rfl rfl rfl rfl rfl (Nat.le_of_ble_eq_true rfl) ⟨Nat.le_of_ble_eq_true rfl, Nat.le_of_ble_eq_true rfl⟩ ⟨Nat.le_refl _, Nat.le_refl _⟩ dX12_whose_81 ?_
        intro H locs hP hD hS
        refine lv_istore (lv' := [(4, .int r7), (0, .ref A_t), (1, .int a1), (2, .int l2), (3, .int l3)]) hx hb dX12_whose_84 hl (by decide) rfl (fun ls hl => ?_)
        refine lv_iconst (v := 0) hx hb dX12_whose_86 (by decide) ?_
        refine lv_istore (lv' := [(5, .int (0 : Int32)), (4, .int r7), (0, .ref A_t), (1, .int a1), (2, .int l2), (3, .int l3)]) hx hb dX12_whose_87 hl (by decide) rfl (fun ls hl => ?_)
        exact hb_89 FU x_t_taped l2 l3 r7 (0 : Int32) _ _ ls (lv_sub hl [2, 3, 4, 5, 1, 0] rfl) hP hD hS hf
  have hb_29 : ∀ (n_29 : Nat) (x_t_taped : Int32) (l2 : Int32) (H : Heap) (locs : List Loc) (ls : Array Slot), lv_has ls 6 [(0, .ref A_t), (1, .int a1), (2, .int l2)] → va_P D vwCl [oX12 A_t A_t_now A_t_aside A_t_kept A_t_rhymeOf A_t_wasRhyme A_t_wordAt x_t_wordMany A_t_tape x_t_taped x_t_place0 x_t_length0 x_t_fault x_t_number0 x_t_open x_t_codeMany x_t_waiting x_t_saidMany x_t_clauses A_t_said A_t_waitsAt A_t_saidLetter A_t_saidFrom A_t_saidHalf A_t_saidTo A_t_codes A_t_clauseOf A_t_codeFrom A_t_codeHalf A_t_codeTo A_t_stack A_t_facts x_t_lines A_t_newWords A_t_roundFrom A_t_roundAt A_t_roundTimes x_t_newMany x_t_rounds x_t_itFrom x_t_itTimes x_t_writtenNow x_t_picturesNow x_t_usedNow x_t_chosen x_t_fearOfChosen A_t_leastFrom A_t_rowNow x_t_changesNow x_t_left0 A_t_bornOf A_t_trainsTo A_t_trainAt x_t_trainMany x_t_leastTries x_t_firstTrained x_t_isKept, iA cI 293 A_t_now v_t_now, iA cI 16 A_t_rhymeOf v_t_rhymeOf, iA cB 260 A_t_tape v_t_tape] H → va_D A [oX12 A_t A_t_now A_t_aside A_t_kept A_t_rhymeOf A_t_wasRhyme A_t_wordAt x_t_wordMany A_t_tape x_t_taped x_t_place0 x_t_length0 x_t_fault x_t_number0 x_t_open x_t_codeMany x_t_waiting x_t_saidMany x_t_clauses A_t_said A_t_waitsAt A_t_saidLetter A_t_saidFrom A_t_saidHalf A_t_saidTo A_t_codes A_t_clauseOf A_t_codeFrom A_t_codeHalf A_t_codeTo A_t_stack A_t_facts x_t_lines A_t_newWords A_t_roundFrom A_t_roundAt A_t_roundTimes x_t_newMany x_t_rounds x_t_itFrom x_t_itTimes x_t_writtenNow x_t_picturesNow x_t_usedNow x_t_chosen x_t_fearOfChosen A_t_leastFrom A_t_rowNow x_t_changesNow x_t_left0 A_t_bornOf A_t_trainsTo A_t_trainAt x_t_trainMany x_t_leastTries x_t_firstTrained x_t_isKept, iA cI 293 A_t_now v_t_now, iA cI 16 A_t_rhymeOf v_t_rhymeOf, iA cB 260 A_t_tape v_t_tape] → va_S A s.heap H locs → f_X12_whose_b29 v_t_now v_t_rhymeOf v_t_tape a1 n_29 x_t_taped l2 = some (o_r, o_x_t_taped) → W p l e { frames := 5, cells := 0, slots := 0, locals := 109 } s m ([.ref A_t, .int a1] : List Value).toArray below meth c H locs 0 0 (MQ below (PoI D A [oX12 A_t A_t_now A_t_aside A_t_kept A_t_rhymeOf A_t_wasRhyme A_t_wordAt x_t_wordMany A_t_tape o_x_t_taped x_t_place0 x_t_length0 x_t_fault x_t_number0 x_t_open x_t_codeMany x_t_waiting x_t_saidMany x_t_clauses A_t_said A_t_waitsAt A_t_saidLetter A_t_saidFrom A_t_saidHalf A_t_saidTo A_t_codes A_t_clauseOf A_t_codeFrom A_t_codeHalf A_t_codeTo A_t_stack A_t_facts x_t_lines A_t_newWords A_t_roundFrom A_t_roundAt A_t_roundTimes x_t_newMany x_t_rounds x_t_itFrom x_t_itTimes x_t_writtenNow x_t_picturesNow x_t_usedNow x_t_chosen x_t_fearOfChosen A_t_leastFrom A_t_rowNow x_t_changesNow x_t_left0 A_t_bornOf A_t_trainsTo A_t_trainAt x_t_trainMany x_t_leastTries x_t_firstTrained x_t_isKept, iA cI 293 A_t_now v_t_now, iA cI 16 A_t_rhymeOf v_t_rhymeOf, iA cB 260 A_t_tape v_t_tape] o_r) ([.ref A_t, .int a1] : List Value).toArray s 0 0 A) (F0 m 29 ls []) := by
    intro n_29
    induction n_29 with
    | zero =>
      intro x_t_taped l2 H locs ls hl hP hD hS hf
      exact absurd hf (fun h => by rw [f_X12_whose_b29] at h; cases h)
    | succ n_29 ih_29 =>
      intro x_t_taped l2 H locs ls hl hP hD hS hf
      rw [f_X12_whose_b29] at hf
      refine lv_iload_n hx hb dX12_whose_29 rfl (lv_at hl 2 rfl) ?_
      refine lv_iload_n hx hb dX12_whose_30 rfl (lv_at hl 1 rfl) ?_
      refine lv_icmp_ge (tgt := 69) hx hb dX12_whose_31 (by decide) (fun q => ?_) (fun q => ?_)
      · have hf := if_t q hf
        refine lv_iconst (v := 0) hx hb dX12_whose_69 (by decide) ?_
        refine lv_istore_n (lv' := [(2, .int (0 : Int32)), (0, .ref A_t), (1, .int a1)]) hx hb dX12_whose_70 rfl hl (by decide) rfl (fun ls hl => ?_)
        refine lv_iconst (v := 0) hx hb dX12_whose_71 (by decide) ?_
        refine lv_istore_n (lv' := [(3, .int (0 : Int32)), (2, .int (0 : Int32)), (0, .ref A_t), (1, .int a1)]) hx hb dX12_whose_72 rfl hl (by decide) rfl (fun ls hl => ?_)
        exact hb_73 FU x_t_taped (0 : Int32) (0 : Int32) _ _ ls (lv_sub hl [2, 3, 1, 0] rfl) hP hD hS hf
      · have hf := if_f q hf
        refine lv_aload_n hx hb dX12_whose_34 rfl (lv_at hl 0 rfl) ?_
        refine lv_iconst (v := 2) hx hb dX12_whose_35 (by decide) ?_
        refine lv_iload_n hx hb dX12_whose_36 rfl (lv_at hl 2 rfl) ?_
        refine lv_imul hx hb dX12_whose_37 ?_
        obtain ⟨r9, hc10, hf⟩ := bd1_e hf
        refine x_callVI (ws' := [oX12 A_t A_t_now A_t_aside A_t_kept A_t_rhymeOf A_t_wasRhyme A_t_wordAt x_t_wordMany A_t_tape x_t_taped x_t_place0 x_t_length0 x_t_fault x_t_number0 x_t_open x_t_codeMany x_t_waiting x_t_saidMany x_t_clauses A_t_said A_t_waitsAt A_t_saidLetter A_t_saidFrom A_t_saidHalf A_t_saidTo A_t_codes A_t_clauseOf A_t_codeFrom A_t_codeHalf A_t_codeTo A_t_stack A_t_facts x_t_lines A_t_newWords A_t_roundFrom A_t_roundAt A_t_roundTimes x_t_newMany x_t_rounds x_t_itFrom x_t_itTimes x_t_writtenNow x_t_picturesNow x_t_usedNow x_t_chosen x_t_fearOfChosen A_t_leastFrom A_t_rowNow x_t_changesNow x_t_left0 A_t_bornOf A_t_trainsTo A_t_trainAt x_t_trainMany x_t_leastTries x_t_firstTrained x_t_isKept, iA cI 293 A_t_now v_t_now, iA cI 16 A_t_rhymeOf v_t_rhymeOf, iA cB 260 A_t_tape v_t_tape]) (rest := []) C hK hP hD hS hA hl mf_X12_378 (c_X12_octet hc10) [0, 3] 0 12 rfl rfl rfl rfl rfl rfl rfl rfl rfl rfl (Nat.le_of_ble_eq_true rfl) ⟨Nat.le_of_ble_eq_true rfl, Nat.le_of_ble_eq_true rfl⟩ ⟨Nat.le_refl _, Nat.le_refl _⟩ dX12_whose_38 ?_
        intro H locs hP hD hS
        obtain ⟨r11, hc12, hf⟩ := bd1_e hf
        refine x_callSI (ws' := [oX12 A_t A_t_now A_t_aside A_t_kept A_t_rhymeOf A_t_wasRhyme A_t_wordAt x_t_wordMany A_t_tape x_t_taped x_t_place0 x_t_length0 x_t_fault x_t_number0 x_t_open x_t_codeMany x_t_waiting x_t_saidMany x_t_clauses A_t_said A_t_waitsAt A_t_saidLetter A_t_saidFrom A_t_saidHalf A_t_saidTo A_t_codes A_t_clauseOf A_t_codeFrom A_t_codeHalf A_t_codeTo A_t_stack A_t_facts x_t_lines A_t_newWords A_t_roundFrom A_t_roundAt A_t_roundTimes x_t_newMany x_t_rounds x_t_itFrom x_t_itTimes x_t_writtenNow x_t_picturesNow x_t_usedNow x_t_chosen x_t_fearOfChosen A_t_leastFrom A_t_rowNow x_t_changesNow x_t_left0 A_t_bornOf A_t_trainsTo A_t_trainAt x_t_trainMany x_t_leastTries x_t_firstTrained x_t_isKept, iA cI 293 A_t_now v_t_now, iA cI 16 A_t_rhymeOf v_t_rhymeOf, iA cB 260 A_t_tape v_t_tape]) (rest := []) C hK hP hD hS hA hl mf_X12_351 (c_X12_isWord hc12) [] rfl rfl rfl rfl rfl rfl rfl rfl (Nat.le_of_ble_eq_true rfl) ⟨Nat.le_of_ble_eq_true rfl, Nat.le_of_ble_eq_true rfl⟩ ⟨Nat.le_refl _, Nat.le_refl _⟩ dX12_whose_41 ?_
        intro H locs hP hD hS
        refine lv_if_eq (tgt := 60) hx hb dX12_whose_44 (by decide) (fun q => ?_) (fun q => ?_)
        · have hf := if_t q hf
          exact hb_60 x_t_taped _ _ ls (lv_sub hl [] rfl) hP hD hS hf
        · have hf := if_f q hf
          refine lv_aload_n hx hb dX12_whose_47 rfl (lv_at hl 0 rfl) ?_
          refine lv_iconst (v := 2) hx hb dX12_whose_48 (by decide) ?_
          refine lv_iload_n hx hb dX12_whose_49 rfl (lv_at hl 2 rfl) ?_
          refine lv_imul hx hb dX12_whose_50 ?_
          refine lv_iconst (v := 1) hx hb dX12_whose_51 (by decide) ?_
          refine lv_iadd hx hb dX12_whose_52 ?_
          obtain ⟨r13, hc14, hf⟩ := bd1_e hf
          refine x_callVI (ws' := [oX12 A_t A_t_now A_t_aside A_t_kept A_t_rhymeOf A_t_wasRhyme A_t_wordAt x_t_wordMany A_t_tape x_t_taped x_t_place0 x_t_length0 x_t_fault x_t_number0 x_t_open x_t_codeMany x_t_waiting x_t_saidMany x_t_clauses A_t_said A_t_waitsAt A_t_saidLetter A_t_saidFrom A_t_saidHalf A_t_saidTo A_t_codes A_t_clauseOf A_t_codeFrom A_t_codeHalf A_t_codeTo A_t_stack A_t_facts x_t_lines A_t_newWords A_t_roundFrom A_t_roundAt A_t_roundTimes x_t_newMany x_t_rounds x_t_itFrom x_t_itTimes x_t_writtenNow x_t_picturesNow x_t_usedNow x_t_chosen x_t_fearOfChosen A_t_leastFrom A_t_rowNow x_t_changesNow x_t_left0 A_t_bornOf A_t_trainsTo A_t_trainAt x_t_trainMany x_t_leastTries x_t_firstTrained x_t_isKept, iA cI 293 A_t_now v_t_now, iA cI 16 A_t_rhymeOf v_t_rhymeOf, iA cB 260 A_t_tape v_t_tape]) (rest := []) C hK hP hD hS hA hl mf_X12_378 (c_X12_octet hc14) [0, 3] 0 12 rfl rfl rfl rfl rfl rfl rfl rfl rfl rfl (Nat.le_of_ble_eq_true rfl) ⟨Nat.le_of_ble_eq_true rfl, Nat.le_of_ble_eq_true rfl⟩ ⟨Nat.le_refl _, Nat.le_refl _⟩ dX12_whose_53 ?_
          intro H locs hP hD hS
          refine lv_iconst (v := 1) hx hb dX12_whose_56 (by decide) ?_
          refine lv_icmp_le (tgt := 63) hx hb dX12_whose_57 (by decide) (fun q => ?_) (fun q => ?_)
          · have hf := if_t q hf
            refine lv_iinc (v := (l2 + (1 : Int32))) (lv' := [(2, .int (l2 + (1 : Int32))), (0, .ref A_t), (1, .int a1)]) hx hb dX12_whose_63 hl (k := 2) rfl rfl (by decide) rfl (fun ls hl => ?_)
            refine lv_goto (tgt := 29) hx hb dX12_whose_66 (by decide) ?_
            exact ih_29 x_t_taped (l2 + (1 : Int32)) _ _ ls (lv_sub hl [1, 2, 0] rfl) hP hD hS hf
          · have hf := if_f q hf
            exact hb_60 x_t_taped _ _ ls (lv_sub hl [] rfl) hP hD hS hf
  refine lv_iload_n hx hb dX12_whose_0 rfl (lv_at hl 1 rfl) ?_
  refine lv_iconst (v := 1) hx hb dX12_whose_1 (by decide) ?_
  refine lv_bipush (v := 12) hx hb dX12_whose_2 (by decide) ?_
  obtain ⟨r15, hc16, hf⟩ := bd1_e hf
  refine x_callSI (ws' := [oX12 A_t A_t_now A_t_aside A_t_kept A_t_rhymeOf A_t_wasRhyme A_t_wordAt x_t_wordMany A_t_tape x_t_taped x_t_place0 x_t_length0 x_t_fault x_t_number0 x_t_open x_t_codeMany x_t_waiting x_t_saidMany x_t_clauses A_t_said A_t_waitsAt A_t_saidLetter A_t_saidFrom A_t_saidHalf A_t_saidTo A_t_codes A_t_clauseOf A_t_codeFrom A_t_codeHalf A_t_codeTo A_t_stack A_t_facts x_t_lines A_t_newWords A_t_roundFrom A_t_roundAt A_t_roundTimes x_t_newMany x_t_rounds x_t_itFrom x_t_itTimes x_t_writtenNow x_t_picturesNow x_t_usedNow x_t_chosen x_t_fearOfChosen A_t_leastFrom A_t_rowNow x_t_changesNow x_t_left0 A_t_bornOf A_t_trainsTo A_t_trainAt x_t_trainMany x_t_leastTries x_t_firstTrained x_t_isKept, iA cI 293 A_t_now v_t_now, iA cI 16 A_t_rhymeOf v_t_rhymeOf, iA cB 260 A_t_tape v_t_tape]) (rest := []) C hK hP hD hS hA hl mf_X12_105 (c_X12_in hc16) [] rfl rfl rfl rfl rfl rfl rfl rfl (Nat.le_of_ble_eq_true rfl) ⟨Nat.le_of_ble_eq_true rfl, Nat.le_of_ble_eq_true rfl⟩ ⟨Nat.le_refl _, Nat.le_refl _⟩ dX12_whose_4 ?_
  intro H locs hP hD hS
  refine lv_if_eq (tgt := 20) hx hb dX12_whose_7 (by decide) (fun q => ?_) (fun q => ?_)
  · have hf := if_t q hf
    exact hb_20 x_t_taped _ _ ls (lv_sub hl [] rfl) hP hD hS hf
  · have hf := if_f q hf
    refine lv_iconst (v := 2) hx hb dX12_whose_10 (by decide) ?_
    refine lv_iload_n hx hb dX12_whose_11 rfl (lv_at hl 1 rfl) ?_
    refine lv_imul hx hb dX12_whose_12 ?_
    refine lv_aload_n hx hb dX12_whose_13 rfl (lv_at hl 0 rfl) ?_
    refine x_get C hK hP fd_X12_143 0 rfl rfl dX12_whose_14 ?_
    refine lv_icmp_le (tgt := 22) hx hb dX12_whose_17 (by decide) (fun q => ?_) (fun q => ?_)
    · have hf := if_t q hf
      refine lv_aload_n hx hb dX12_whose_22 rfl (lv_at hl 0 rfl) ?_
      refine lv_iconst (v := 0) hx hb dX12_whose_23 (by decide) ?_
      refine x_put (ws' := [oX12 A_t A_t_now A_t_aside A_t_kept A_t_rhymeOf A_t_wasRhyme A_t_wordAt x_t_wordMany A_t_tape (0 : Int32) x_t_place0 x_t_length0 x_t_fault x_t_number0 x_t_open x_t_codeMany x_t_waiting x_t_saidMany x_t_clauses A_t_said A_t_waitsAt A_t_saidLetter A_t_saidFrom A_t_saidHalf A_t_saidTo A_t_codes A_t_clauseOf A_t_codeFrom A_t_codeHalf A_t_codeTo A_t_stack A_t_facts x_t_lines A_t_newWords A_t_roundFrom A_t_roundAt A_t_roundTimes x_t_newMany x_t_rounds x_t_itFrom x_t_itTimes x_t_writtenNow x_t_picturesNow x_t_usedNow x_t_chosen x_t_fearOfChosen A_t_leastFrom A_t_rowNow x_t_changesNow x_t_left0 A_t_bornOf A_t_trainsTo A_t_trainAt x_t_trainMany x_t_leastTries x_t_firstTrained x_t_isKept, iA cI 293 A_t_now v_t_now, iA cI 16 A_t_rhymeOf v_t_rhymeOf, iA cB 260 A_t_tape v_t_tape]) C hK hP hD hS fp_X12_143 0 rfl rfl rfl (Nat.le_of_ble_eq_true rfl) rfl dX12_whose_24 ?_
      intro H locs hP hD hS
      refine lv_iconst (v := 0) hx hb dX12_whose_27 (by decide) ?_
      refine lv_istore_n (lv' := [(2, .int (0 : Int32)), (0, .ref A_t), (1, .int a1)]) hx hb dX12_whose_28 rfl hl (by decide) rfl (fun ls hl => ?_)
      exact hb_29 FU (0 : Int32) (0 : Int32) _ _ ls (lv_sub hl [1, 2, 0] rfl) hP hD hS hf
    · have hf := if_f q hf
      exact hb_20 x_t_taped _ _ ls (lv_sub hl [] rfl) hP hD hS hf
def f_X12_greaterBy_b35 (a1 : Int32) (a2 : Int32) (k5 : Int32 → Int32 → Option (Int32)) (l3 : Int32) (l4 : Int32) : Option (Int32) :=
  k5 l3 (l4 + (1 : Int32))
def f_X12_greaterBy_b5 (v_t_now : (Nat → Int32)) (v_t_rhymeOf : (Nat → Int32)) (a1 : Int32) (a2 : Int32) : Nat → Int32 → Int32 → Option (Int32)
  | 0, _, _ => none
  | n + 1, l3, l4 =>
    if (8 : Int32) ≤ l4 then
      bd1 (f_X12_bits a1) (fun r1 =>
      bd1 (f_X12_max l3 (r1 - l3)) (fun r2 =>
      some r2))
    else
      bd1 (f_X12_has a1 l4) (fun r3 =>
      if r3 = 0 then
        f_X12_greaterBy_b35 a1 a2 (f_X12_greaterBy_b5 v_t_now v_t_rhymeOf a1 a2 n) l3 l4
      else
        bd1 (f_X12_bears v_t_now v_t_rhymeOf l4 a2) (fun r4 =>
        if r4 = 0 then
          f_X12_greaterBy_b35 a1 a2 (f_X12_greaterBy_b5 v_t_now v_t_rhymeOf a1 a2 n) l3 l4
        else
          f_X12_greaterBy_b35 a1 a2 (f_X12_greaterBy_b5 v_t_now v_t_rhymeOf a1 a2 n) (l3 + (1 : Int32)) l4))
def f_X12_greaterBy (v_t_now : (Nat → Int32)) (v_t_rhymeOf : (Nat → Int32)) (a1 : Int32) (a2 : Int32) : Option (Int32) :=
  f_X12_greaterBy_b5 v_t_now v_t_rhymeOf a1 a2 FU (0 : Int32) (0 : Int32)
set_option maxHeartbeats 4000000 in
set_option maxRecDepth 100000 in
theorem c_X12_greaterBy {l : Launch} {D : va_G} {cI cB : ClassId} {A_t A_t_now A_t_aside A_t_kept A_t_rhymeOf A_t_wasRhyme A_t_wordAt A_t_tape A_t_said A_t_waitsAt A_t_saidLetter A_t_saidFrom A_t_saidHalf A_t_saidTo A_t_codes A_t_clauseOf A_t_codeFrom A_t_codeHalf A_t_codeTo A_t_stack A_t_facts A_t_newWords A_t_roundFrom A_t_roundAt A_t_roundTimes A_t_leastFrom A_t_rowNow A_t_bornOf A_t_trainsTo A_t_trainAt : Nat} {x_t_wordMany x_t_taped x_t_place0 x_t_length0 x_t_fault x_t_number0 x_t_open x_t_codeMany x_t_waiting x_t_saidMany x_t_clauses x_t_lines x_t_newMany x_t_rounds x_t_itFrom x_t_itTimes x_t_writtenNow x_t_picturesNow x_t_usedNow x_t_chosen x_t_fearOfChosen x_t_changesNow x_t_left0 x_t_trainMany x_t_leastTries x_t_firstTrained x_t_isKept a1 a2 : Int32} {v_t_now v_t_rhymeOf : Nat → Int32} {o_r : Int32} (hf : f_X12_greaterBy v_t_now v_t_rhymeOf a1 a2 = some o_r) : CtI l D cI cB yX12_greaterBy cX12_greaterBy 5 (some .int) 5 109 [.ref A_t, .int a1, .int a2] [oX12 A_t A_t_now A_t_aside A_t_kept A_t_rhymeOf A_t_wasRhyme A_t_wordAt x_t_wordMany A_t_tape x_t_taped x_t_place0 x_t_length0 x_t_fault x_t_number0 x_t_open x_t_codeMany x_t_waiting x_t_saidMany x_t_clauses A_t_said A_t_waitsAt A_t_saidLetter A_t_saidFrom A_t_saidHalf A_t_saidTo A_t_codes A_t_clauseOf A_t_codeFrom A_t_codeHalf A_t_codeTo A_t_stack A_t_facts x_t_lines A_t_newWords A_t_roundFrom A_t_roundAt A_t_roundTimes x_t_newMany x_t_rounds x_t_itFrom x_t_itTimes x_t_writtenNow x_t_picturesNow x_t_usedNow x_t_chosen x_t_fearOfChosen A_t_leastFrom A_t_rowNow x_t_changesNow x_t_left0 A_t_bornOf A_t_trainsTo A_t_trainAt x_t_trainMany x_t_leastTries x_t_firstTrained x_t_isKept, iA cI 293 A_t_now v_t_now, iA cI 16 A_t_rhymeOf v_t_rhymeOf] [oX12 A_t A_t_now A_t_aside A_t_kept A_t_rhymeOf A_t_wasRhyme A_t_wordAt x_t_wordMany A_t_tape x_t_taped x_t_place0 x_t_length0 x_t_fault x_t_number0 x_t_open x_t_codeMany x_t_waiting x_t_saidMany x_t_clauses A_t_said A_t_waitsAt A_t_saidLetter A_t_saidFrom A_t_saidHalf A_t_saidTo A_t_codes A_t_clauseOf A_t_codeFrom A_t_codeHalf A_t_codeTo A_t_stack A_t_facts x_t_lines A_t_newWords A_t_roundFrom A_t_roundAt A_t_roundTimes x_t_newMany x_t_rounds x_t_itFrom x_t_itTimes x_t_writtenNow x_t_picturesNow x_t_usedNow x_t_chosen x_t_fearOfChosen A_t_leastFrom A_t_rowNow x_t_changesNow x_t_left0 A_t_bornOf A_t_trainsTo A_t_trainAt x_t_trainMany x_t_leastTries x_t_firstTrained x_t_isKept, iA cI 293 A_t_now v_t_now, iA cI 16 A_t_rhymeOf v_t_rhymeOf] o_r := by
  refine x_startI (by decide) (Nat.le_of_ble_eq_true rfl) ?_
  intro p e s m below meth c A C hr hlk hA hK hP hD hS ls hl
  have hl : lv_has ls 5 [(0, .ref A_t), (1, .int a1), (2, .int a2)] := hl
  have hx := C.1
  have hb := C.2.1
  unfold f_X12_greaterBy at hf
  have hb_5 : ∀ (n_5 : Nat) (l3 : Int32) (l4 : Int32) (H : Heap) (locs : List Loc) (ls : Array Slot), lv_has ls 5 [(0, .ref A_t), (1, .int a1), (2, .int a2), (3, .int l3), (4, .int l4)] → va_P D vwCl [oX12 A_t A_t_now A_t_aside A_t_kept A_t_rhymeOf A_t_wasRhyme A_t_wordAt x_t_wordMany A_t_tape x_t_taped x_t_place0 x_t_length0 x_t_fault x_t_number0 x_t_open x_t_codeMany x_t_waiting x_t_saidMany x_t_clauses A_t_said A_t_waitsAt A_t_saidLetter A_t_saidFrom A_t_saidHalf A_t_saidTo A_t_codes A_t_clauseOf A_t_codeFrom A_t_codeHalf A_t_codeTo A_t_stack A_t_facts x_t_lines A_t_newWords A_t_roundFrom A_t_roundAt A_t_roundTimes x_t_newMany x_t_rounds x_t_itFrom x_t_itTimes x_t_writtenNow x_t_picturesNow x_t_usedNow x_t_chosen x_t_fearOfChosen A_t_leastFrom A_t_rowNow x_t_changesNow x_t_left0 A_t_bornOf A_t_trainsTo A_t_trainAt x_t_trainMany x_t_leastTries x_t_firstTrained x_t_isKept, iA cI 293 A_t_now v_t_now, iA cI 16 A_t_rhymeOf v_t_rhymeOf] H → va_D A [oX12 A_t A_t_now A_t_aside A_t_kept A_t_rhymeOf A_t_wasRhyme A_t_wordAt x_t_wordMany A_t_tape x_t_taped x_t_place0 x_t_length0 x_t_fault x_t_number0 x_t_open x_t_codeMany x_t_waiting x_t_saidMany x_t_clauses A_t_said A_t_waitsAt A_t_saidLetter A_t_saidFrom A_t_saidHalf A_t_saidTo A_t_codes A_t_clauseOf A_t_codeFrom A_t_codeHalf A_t_codeTo A_t_stack A_t_facts x_t_lines A_t_newWords A_t_roundFrom A_t_roundAt A_t_roundTimes x_t_newMany x_t_rounds x_t_itFrom x_t_itTimes x_t_writtenNow x_t_picturesNow x_t_usedNow x_t_chosen x_t_fearOfChosen A_t_leastFrom A_t_rowNow x_t_changesNow x_t_left0 A_t_bornOf A_t_trainsTo A_t_trainAt x_t_trainMany x_t_leastTries x_t_firstTrained x_t_isKept, iA cI 293 A_t_now v_t_now, iA cI 16 A_t_rhymeOf v_t_rhymeOf] → va_S A s.heap H locs → f_X12_greaterBy_b5 v_t_now v_t_rhymeOf a1 a2 n_5 l3 l4 = some o_r → W p l e { frames := 5, cells := 0, slots := 0, locals := 109 } s m ([.ref A_t, .int a1, .int a2] : List Value).toArray below meth c H locs 0 0 (MQ below (PoI D A [oX12 A_t A_t_now A_t_aside A_t_kept A_t_rhymeOf A_t_wasRhyme A_t_wordAt x_t_wordMany A_t_tape x_t_taped x_t_place0 x_t_length0 x_t_fault x_t_number0 x_t_open x_t_codeMany x_t_waiting x_t_saidMany x_t_clauses A_t_said A_t_waitsAt A_t_saidLetter A_t_saidFrom A_t_saidHalf A_t_saidTo A_t_codes A_t_clauseOf A_t_codeFrom A_t_codeHalf A_t_codeTo A_t_stack A_t_facts x_t_lines A_t_newWords A_t_roundFrom A_t_roundAt A_t_roundTimes x_t_newMany x_t_rounds x_t_itFrom x_t_itTimes x_t_writtenNow x_t_picturesNow x_t_usedNow x_t_chosen x_t_fearOfChosen A_t_leastFrom A_t_rowNow x_t_changesNow x_t_left0 A_t_bornOf A_t_trainsTo A_t_trainAt x_t_trainMany x_t_leastTries x_t_firstTrained x_t_isKept, iA cI 293 A_t_now v_t_now, iA cI 16 A_t_rhymeOf v_t_rhymeOf] o_r) ([.ref A_t, .int a1, .int a2] : List Value).toArray s 0 0 A) (F0 m 5 ls []) := by
    intro n_5
    induction n_5 with
    | zero =>
      intro l3 l4 H locs ls hl hP hD hS hf
      exact absurd hf (fun h => by rw [f_X12_greaterBy_b5] at h; cases h)
    | succ n_5 ih_5 =>
      have hb_35 : ∀ (l3 : Int32) (l4 : Int32) (H : Heap) (locs : List Loc) (ls : Array Slot), lv_has ls 5 [(0, .ref A_t), (1, .int a1), (2, .int a2), (3, .int l3), (4, .int l4)] → va_P D vwCl [oX12 A_t A_t_now A_t_aside A_t_kept A_t_rhymeOf A_t_wasRhyme A_t_wordAt x_t_wordMany A_t_tape x_t_taped x_t_place0 x_t_length0 x_t_fault x_t_number0 x_t_open x_t_codeMany x_t_waiting x_t_saidMany x_t_clauses A_t_said A_t_waitsAt A_t_saidLetter A_t_saidFrom A_t_saidHalf A_t_saidTo A_t_codes A_t_clauseOf A_t_codeFrom A_t_codeHalf A_t_codeTo A_t_stack A_t_facts x_t_lines A_t_newWords A_t_roundFrom A_t_roundAt A_t_roundTimes x_t_newMany x_t_rounds x_t_itFrom x_t_itTimes x_t_writtenNow x_t_picturesNow x_t_usedNow x_t_chosen x_t_fearOfChosen A_t_leastFrom A_t_rowNow x_t_changesNow x_t_left0 A_t_bornOf A_t_trainsTo A_t_trainAt x_t_trainMany x_t_leastTries x_t_firstTrained x_t_isKept, iA cI 293 A_t_now v_t_now, iA cI 16 A_t_rhymeOf v_t_rhymeOf] H → va_D A [oX12 A_t A_t_now A_t_aside A_t_kept A_t_rhymeOf A_t_wasRhyme A_t_wordAt x_t_wordMany A_t_tape x_t_taped x_t_place0 x_t_length0 x_t_fault x_t_number0 x_t_open x_t_codeMany x_t_waiting x_t_saidMany x_t_clauses A_t_said A_t_waitsAt A_t_saidLetter A_t_saidFrom A_t_saidHalf A_t_saidTo A_t_codes A_t_clauseOf A_t_codeFrom A_t_codeHalf A_t_codeTo A_t_stack A_t_facts x_t_lines A_t_newWords A_t_roundFrom A_t_roundAt A_t_roundTimes x_t_newMany x_t_rounds x_t_itFrom x_t_itTimes x_t_writtenNow x_t_picturesNow x_t_usedNow x_t_chosen x_t_fearOfChosen A_t_leastFrom A_t_rowNow x_t_changesNow x_t_left0 A_t_bornOf A_t_trainsTo A_t_trainAt x_t_trainMany x_t_leastTries x_t_firstTrained x_t_isKept, iA cI 293 A_t_now v_t_now, iA cI 16 A_t_rhymeOf v_t_rhymeOf] → va_S A s.heap H locs → f_X12_greaterBy_b35 a1 a2 (f_X12_greaterBy_b5 v_t_now v_t_rhymeOf a1 a2 n_5) l3 l4 = some o_r → W p l e { frames := 5, cells := 0, slots := 0, locals := 109 } s m ([.ref A_t, .int a1, .int a2] : List Value).toArray below meth c H locs 0 0 (MQ below (PoI D A [oX12 A_t A_t_now A_t_aside A_t_kept A_t_rhymeOf A_t_wasRhyme A_t_wordAt x_t_wordMany A_t_tape x_t_taped x_t_place0 x_t_length0 x_t_fault x_t_number0 x_t_open x_t_codeMany x_t_waiting x_t_saidMany x_t_clauses A_t_said A_t_waitsAt A_t_saidLetter A_t_saidFrom A_t_saidHalf A_t_saidTo A_t_codes A_t_clauseOf A_t_codeFrom A_t_codeHalf A_t_codeTo A_t_stack A_t_facts x_t_lines A_t_newWords A_t_roundFrom A_t_roundAt A_t_roundTimes x_t_newMany x_t_rounds x_t_itFrom x_t_itTimes x_t_writtenNow x_t_picturesNow x_t_usedNow x_t_chosen x_t_fearOfChosen A_t_leastFrom A_t_rowNow x_t_changesNow x_t_left0 A_t_bornOf A_t_trainsTo A_t_trainAt x_t_trainMany x_t_leastTries x_t_firstTrained x_t_isKept, iA cI 293 A_t_now v_t_now, iA cI 16 A_t_rhymeOf v_t_rhymeOf] o_r) ([.ref A_t, .int a1, .int a2] : List Value).toArray s 0 0 A) (F0 m 35 ls []) := by
        intro l3 l4 H locs ls hl hP hD hS hf
        unfold f_X12_greaterBy_b35 at hf
        refine lv_iinc (v := (l4 + (1 : Int32))) (lv' := [(4, .int (l4 + (1 : Int32))), (0, .ref A_t), (1, .int a1), (2, .int a2), (3, .int l3)]) hx hb dX12_greaterBy_35 hl (k := 4) rfl rfl (by decide) rfl (fun ls hl => ?_)
        refine lv_goto (tgt := 5) hx hb dX12_greaterBy_38 (by decide) ?_
        exact ih_5 l3 (l4 + (1 : Int32)) _ _ ls (lv_sub hl [1, 2, 3, 4, 0] rfl) hP hD hS hf
      intro l3 l4 H locs ls hl hP hD hS hf
      rw [f_X12_greaterBy_b5] at hf
      refine lv_iload hx hb dX12_greaterBy_5 (lv_at hl 4 rfl) ?_
      refine lv_bipush (v := 8) hx hb dX12_greaterBy_7 (by decide) ?_
      refine lv_icmp_ge (tgt := 41) hx hb dX12_greaterBy_9 (by decide) (fun q => ?_) (fun q => ?_)
      · have hf := if_t q hf
        refine lv_iload_n hx hb dX12_greaterBy_41 rfl (lv_at hl 3 rfl) ?_
        refine lv_iload_n hx hb dX12_greaterBy_42 rfl (lv_at hl 1 rfl) ?_
        obtain ⟨r1, hc2, hf⟩ := bd1_e hf
        refine x_callSI (ws' := [oX12 A_t A_t_now A_t_aside A_t_kept A_t_rhymeOf A_t_wasRhyme A_t_wordAt x_t_wordMany A_t_tape x_t_taped x_t_place0 x_t_length0 x_t_fault x_t_number0 x_t_open x_t_codeMany x_t_waiting x_t_saidMany x_t_clauses A_t_said A_t_waitsAt A_t_saidLetter A_t_saidFrom A_t_saidHalf A_t_saidTo A_t_codes A_t_clauseOf A_t_codeFrom A_t_codeHalf A_t_codeTo A_t_stack A_t_facts x_t_lines A_t_newWords A_t_roundFrom A_t_roundAt A_t_roundTimes x_t_newMany x_t_rounds x_t_itFrom x_t_itTimes x_t_writtenNow x_t_picturesNow x_t_usedNow x_t_chosen x_t_fearOfChosen A_t_leastFrom A_t_rowNow x_t_changesNow x_t_left0 A_t_bornOf A_t_trainsTo A_t_trainAt x_t_trainMany x_t_leastTries x_t_firstTrained x_t_isKept, iA cI 293 A_t_now v_t_now, iA cI 16 A_t_rhymeOf v_t_rhymeOf]) (rest := [.int l3]) C hK hP hD hS hA hl mf_X12_384 (c_X12_bits hc2) [] rfl rfl rfl rfl rfl rfl rfl rfl (Nat.le_of_ble_eq_true rfl) ⟨Nat.le_of_ble_eq_true rfl, Nat.le_of_ble_eq_true rfl⟩ ⟨Nat.le_refl _, Nat.le_refl _⟩ dX12_greaterBy_43 ?_
        intro H locs hP hD hS
        refine lv_iload_n hx hb dX12_greaterBy_46 rfl (lv_at hl 3 rfl) ?_
        refine lv_isub hx hb dX12_greaterBy_47 ?_
        obtain ⟨r3, hc4, hf⟩ := bd1_e hf
        refine x_callSI (ws' := [oX12 A_t A_t_now A_t_aside A_t_kept A_t_rhymeOf A_t_wasRhyme A_t_wordAt x_t_wordMany A_t_tape x_t_taped x_t_place0 x_t_length0 x_t_fault x_t_number0 x_t_open x_t_codeMany x_t_waiting x_t_saidMany x_t_clauses A_t_said A_t_waitsAt A_t_saidLetter A_t_saidFrom A_t_saidHalf A_t_saidTo A_t_codes A_t_clauseOf A_t_codeFrom A_t_codeHalf A_t_codeTo A_t_stack A_t_facts x_t_lines A_t_newWords A_t_roundFrom A_t_roundAt A_t_roundTimes x_t_newMany x_t_rounds x_t_itFrom x_t_itTimes x_t_writtenNow x_t_picturesNow x_t_usedNow x_t_chosen x_t_fearOfChosen A_t_leastFrom A_t_rowNow x_t_changesNow x_t_left0 A_t_bornOf A_t_trainsTo A_t_trainAt x_t_trainMany x_t_leastTries x_t_firstTrained x_t_isKept, iA cI 293 A_t_now v_t_now, iA cI 16 A_t_rhymeOf v_t_rhymeOf]) (rest := []) C hK hP hD hS hA hl mf_X12_102 (c_X12_max hc4) [] rfl rfl rfl rfl rfl rfl rfl rfl (Nat.le_of_ble_eq_true rfl) ⟨Nat.le_of_ble_eq_true rfl, Nat.le_of_ble_eq_true rfl⟩ ⟨Nat.le_refl _, Nat.le_refl _⟩ dX12_greaterBy_48 ?_
        intro H locs hP hD hS
        obtain rfl := ev1 hf
        exact x_iret C hr hlk hP hD hS dX12_greaterBy_51
      · have hf := if_f q hf
        refine lv_iload_n hx hb dX12_greaterBy_12 rfl (lv_at hl 1 rfl) ?_
        refine lv_iload hx hb dX12_greaterBy_13 (lv_at hl 4 rfl) ?_
        obtain ⟨r5, hc6, hf⟩ := bd1_e hf
        refine x_callSI (ws' := [oX12 A_t A_t_now A_t_aside A_t_kept A_t_rhymeOf A_t_wasRhyme A_t_wordAt x_t_wordMany A_t_tape x_t_taped x_t_place0 x_t_length0 x_t_fault x_t_number0 x_t_open x_t_codeMany x_t_waiting x_t_saidMany x_t_clauses A_t_said A_t_waitsAt A_t_saidLetter A_t_saidFrom A_t_saidHalf A_t_saidTo A_t_codes A_t_clauseOf A_t_codeFrom A_t_codeHalf A_t_codeTo A_t_stack A_t_facts x_t_lines A_t_newWords A_t_roundFrom A_t_roundAt A_t_roundTimes x_t_newMany x_t_rounds x_t_itFrom x_t_itTimes x_t_writtenNow x_t_picturesNow x_t_usedNow x_t_chosen x_t_fearOfChosen A_t_leastFrom A_t_rowNow x_t_changesNow x_t_left0 A_t_bornOf A_t_trainsTo A_t_trainAt x_t_trainMany x_t_leastTries x_t_firstTrained x_t_isKept, iA cI 293 A_t_now v_t_now, iA cI 16 A_t_rhymeOf v_t_rhymeOf]) (rest := []) C hK hP hD hS hA hl mf_X12_381 (c_X12_has hc6) [] rfl rfl rfl rfl rfl rfl rfl rfl (Nat.le_of_ble_eq_true rfl) ⟨Nat.le_of_ble_eq_true rfl, Nat.le_of_ble_eq_true rfl⟩ ⟨Nat.le_refl _, Nat.le_refl _⟩ dX12_greaterBy_15 ?_
        intro H locs hP hD hS
        refine lv_if_eq (tgt := 35) hx hb dX12_greaterBy_18 (by decide) (fun q => ?_) (fun q => ?_)
        · have hf := if_t q hf
          exact hb_35 l3 l4 _ _ ls (lv_sub hl [0, 1, 2, 3, 4] rfl) hP hD hS hf
        · have hf := if_f q hf
          refine lv_aload_n hx hb dX12_greaterBy_21 rfl (lv_at hl 0 rfl) ?_
          refine lv_iload hx hb dX12_greaterBy_22 (lv_at hl 4 rfl) ?_
          refine lv_iload_n hx hb dX12_greaterBy_24 rfl (lv_at hl 2 rfl) ?_
          obtain ⟨r7, hc8, hf⟩ := bd1_e hf
          refine x_callVI (ws' := [oX12 A_t A_t_now A_t_aside A_t_kept A_t_rhymeOf A_t_wasRhyme A_t_wordAt x_t_wordMany A_t_tape x_t_taped x_t_place0 x_t_length0 x_t_fault x_t_number0 x_t_open x_t_codeMany x_t_waiting x_t_saidMany x_t_clauses A_t_said A_t_waitsAt A_t_saidLetter A_t_saidFrom A_t_saidHalf A_t_saidTo A_t_codes A_t_clauseOf A_t_codeFrom A_t_codeHalf A_t_codeTo A_t_stack A_t_facts x_t_lines A_t_newWords A_t_roundFrom A_t_roundAt A_t_roundTimes x_t_newMany x_t_rounds x_t_itFrom x_t_itTimes x_t_writtenNow x_t_picturesNow x_t_usedNow x_t_chosen x_t_fearOfChosen A_t_leastFrom A_t_rowNow x_t_changesNow x_t_left0 A_t_bornOf A_t_trainsTo A_t_trainAt x_t_trainMany x_t_leastTries x_t_firstTrained x_t_isKept, iA cI 293 A_t_now v_t_now, iA cI 16 A_t_rhymeOf v_t_rhymeOf]) (rest := []) C hK hP hD hS hA hl mf_X12_127 (c_X12_bears hc8) [0, 1, 2] 0 12 rfl rfl rfl rfl rfl rfl rfl rfl rfl rfl (Nat.le_of_ble_eq_true rfl) ⟨Nat.le_of_ble_eq_true rfl, Nat.le_of_ble_eq_true rfl⟩ ⟨Nat.le_refl _, Nat.le_refl _⟩ dX12_greaterBy_25 ?_
          intro H locs hP hD hS
          refine lv_if_eq (tgt := 35) hx hb dX12_greaterBy_28 (by decide) (fun q => ?_) (fun q => ?_)
          · have hf := if_t q hf
            exact hb_35 l3 l4 _ _ ls (lv_sub hl [0, 1, 2, 3, 4] rfl) hP hD hS hf
          · have hf := if_f q hf
            refine lv_iload_n hx hb dX12_greaterBy_31 rfl (lv_at hl 3 rfl) ?_
            refine lv_iconst (v := 1) hx hb dX12_greaterBy_32 (by decide) ?_
            refine lv_iadd hx hb dX12_greaterBy_33 ?_
            refine lv_istore_n (lv' := [(3, .int (l3 + (1 : Int32))), (0, .ref A_t), (1, .int a1), (2, .int a2), (4, .int l4)]) hx hb dX12_greaterBy_34 rfl hl (by decide) rfl (fun ls hl => ?_)
            exact hb_35 (l3 + (1 : Int32)) l4 _ _ ls (lv_sub hl [1, 2, 3, 0, 4] rfl) hP hD hS hf
  refine lv_iconst (v := 0) hx hb dX12_greaterBy_0 (by decide) ?_
  refine lv_istore_n (lv' := [(3, .int (0 : Int32)), (0, .ref A_t), (1, .int a1), (2, .int a2)]) hx hb dX12_greaterBy_1 rfl hl (by decide) rfl (fun ls hl => ?_)
  refine lv_iconst (v := 0) hx hb dX12_greaterBy_2 (by decide) ?_
  refine lv_istore (lv' := [(4, .int (0 : Int32)), (3, .int (0 : Int32)), (0, .ref A_t), (1, .int a1), (2, .int a2)]) hx hb dX12_greaterBy_3 hl (by decide) rfl (fun ls hl => ?_)
  exact hb_5 FU (0 : Int32) (0 : Int32) _ _ ls (lv_sub hl [2, 3, 4, 1, 0] rfl) hP hD hS hf
def f_X12_next_b31 : Option (Int32) :=
  some (-1 : Int32)
def f_X12_next_b64 (a1 : Int32) (a2 : Int32) (k38 : Int32 → Int32 → Option (Int32)) (l3 : Int32) (l4 : Int32) : Option (Int32) :=
  k38 l3 (l4 + (1 : Int32))
def f_X12_next_b84 (s0 : Int32) : Option (Int32) :=
  some s0
def f_X12_next_b38 (v_t_now : (Nat → Int32)) (v_t_rhymeOf : (Nat → Int32)) (a1 : Int32) (a2 : Int32) : Nat → Int32 → Int32 → Option (Int32)
  | 0, _, _ => none
  | n + 1, l3, l4 =>
    if (16 : Int32) ≤ l4 then
      if a2 = 0 then
        f_X12_next_b84 l3
      else
        bd1 (f_X12_greaterBy v_t_now v_t_rhymeOf a1 l3) (fun r1 =>
        f_X12_next_b84 r1)
    else
      bd1 (f_X12_greaterBy v_t_now v_t_rhymeOf a1 l4) (fun r2 =>
      bd1 (f_X12_greaterBy v_t_now v_t_rhymeOf a1 l3) (fun r3 =>
      if r3 ≤ r2 then
        f_X12_next_b64 a1 a2 (f_X12_next_b38 v_t_now v_t_rhymeOf a1 a2 n) l3 l4
      else
        f_X12_next_b64 a1 a2 (f_X12_next_b38 v_t_now v_t_rhymeOf a1 a2 n) l4 l4))
def f_X12_next (v_t_now : (Nat → Int32)) (v_t_rhymeOf : (Nat → Int32)) (a1 : Int32) (a2 : Int32) : Option (Int32) :=
  bd1 (f_X12_in a1 (1 : Int32) (255 : Int32)) (fun r4 =>
  if r4 = 0 then
    f_X12_next_b31
  else
    bd1 (f_X12_toldSet v_t_now) (fun r5 =>
    if (a1 &&& (r5 ^^^ (-1 : Int32))) = 0 then
      bd1 (f_X12_in a2 (0 : Int32) (1 : Int32)) (fun r6 =>
      if r6 = 0 then
        f_X12_next_b31
      else
        f_X12_next_b38 v_t_now v_t_rhymeOf a1 a2 FU (0 : Int32) (1 : Int32))
    else
      f_X12_next_b31))
set_option maxHeartbeats 4000000 in
set_option maxRecDepth 100000 in
theorem c_X12_next {l : Launch} {D : va_G} {cI cB : ClassId} {A_t A_t_now A_t_aside A_t_kept A_t_rhymeOf A_t_wasRhyme A_t_wordAt A_t_tape A_t_said A_t_waitsAt A_t_saidLetter A_t_saidFrom A_t_saidHalf A_t_saidTo A_t_codes A_t_clauseOf A_t_codeFrom A_t_codeHalf A_t_codeTo A_t_stack A_t_facts A_t_newWords A_t_roundFrom A_t_roundAt A_t_roundTimes A_t_leastFrom A_t_rowNow A_t_bornOf A_t_trainsTo A_t_trainAt : Nat} {x_t_wordMany x_t_taped x_t_place0 x_t_length0 x_t_fault x_t_number0 x_t_open x_t_codeMany x_t_waiting x_t_saidMany x_t_clauses x_t_lines x_t_newMany x_t_rounds x_t_itFrom x_t_itTimes x_t_writtenNow x_t_picturesNow x_t_usedNow x_t_chosen x_t_fearOfChosen x_t_changesNow x_t_left0 x_t_trainMany x_t_leastTries x_t_firstTrained x_t_isKept a1 a2 : Int32} {v_t_now v_t_rhymeOf : Nat → Int32} {o_r : Int32} (hf : f_X12_next v_t_now v_t_rhymeOf a1 a2 = some o_r) : CtI l D cI cB yX12_next cX12_next 5 (some .int) 6 133 [.ref A_t, .int a1, .int a2] [oX12 A_t A_t_now A_t_aside A_t_kept A_t_rhymeOf A_t_wasRhyme A_t_wordAt x_t_wordMany A_t_tape x_t_taped x_t_place0 x_t_length0 x_t_fault x_t_number0 x_t_open x_t_codeMany x_t_waiting x_t_saidMany x_t_clauses A_t_said A_t_waitsAt A_t_saidLetter A_t_saidFrom A_t_saidHalf A_t_saidTo A_t_codes A_t_clauseOf A_t_codeFrom A_t_codeHalf A_t_codeTo A_t_stack A_t_facts x_t_lines A_t_newWords A_t_roundFrom A_t_roundAt A_t_roundTimes x_t_newMany x_t_rounds x_t_itFrom x_t_itTimes x_t_writtenNow x_t_picturesNow x_t_usedNow x_t_chosen x_t_fearOfChosen A_t_leastFrom A_t_rowNow x_t_changesNow x_t_left0 A_t_bornOf A_t_trainsTo A_t_trainAt x_t_trainMany x_t_leastTries x_t_firstTrained x_t_isKept, iA cI 293 A_t_now v_t_now, iA cI 16 A_t_rhymeOf v_t_rhymeOf] [oX12 A_t A_t_now A_t_aside A_t_kept A_t_rhymeOf A_t_wasRhyme A_t_wordAt x_t_wordMany A_t_tape x_t_taped x_t_place0 x_t_length0 x_t_fault x_t_number0 x_t_open x_t_codeMany x_t_waiting x_t_saidMany x_t_clauses A_t_said A_t_waitsAt A_t_saidLetter A_t_saidFrom A_t_saidHalf A_t_saidTo A_t_codes A_t_clauseOf A_t_codeFrom A_t_codeHalf A_t_codeTo A_t_stack A_t_facts x_t_lines A_t_newWords A_t_roundFrom A_t_roundAt A_t_roundTimes x_t_newMany x_t_rounds x_t_itFrom x_t_itTimes x_t_writtenNow x_t_picturesNow x_t_usedNow x_t_chosen x_t_fearOfChosen A_t_leastFrom A_t_rowNow x_t_changesNow x_t_left0 A_t_bornOf A_t_trainsTo A_t_trainAt x_t_trainMany x_t_leastTries x_t_firstTrained x_t_isKept, iA cI 293 A_t_now v_t_now, iA cI 16 A_t_rhymeOf v_t_rhymeOf] o_r := by
  refine x_startI (by decide) (Nat.le_of_ble_eq_true rfl) ?_
  intro p e s m below meth c A C hr hlk hA hK hP hD hS ls hl
  have hl : lv_has ls 5 [(0, .ref A_t), (1, .int a1), (2, .int a2)] := hl
  have hx := C.1
  have hb := C.2.1
  unfold f_X12_next at hf
  have hb_31 : ∀ (H : Heap) (locs : List Loc) (ls : Array Slot), lv_has ls 5 [] → va_P D vwCl [oX12 A_t A_t_now A_t_aside A_t_kept A_t_rhymeOf A_t_wasRhyme A_t_wordAt x_t_wordMany A_t_tape x_t_taped x_t_place0 x_t_length0 x_t_fault x_t_number0 x_t_open x_t_codeMany x_t_waiting x_t_saidMany x_t_clauses A_t_said A_t_waitsAt A_t_saidLetter A_t_saidFrom A_t_saidHalf A_t_saidTo A_t_codes A_t_clauseOf A_t_codeFrom A_t_codeHalf A_t_codeTo A_t_stack A_t_facts x_t_lines A_t_newWords A_t_roundFrom A_t_roundAt A_t_roundTimes x_t_newMany x_t_rounds x_t_itFrom x_t_itTimes x_t_writtenNow x_t_picturesNow x_t_usedNow x_t_chosen x_t_fearOfChosen A_t_leastFrom A_t_rowNow x_t_changesNow x_t_left0 A_t_bornOf A_t_trainsTo A_t_trainAt x_t_trainMany x_t_leastTries x_t_firstTrained x_t_isKept, iA cI 293 A_t_now v_t_now, iA cI 16 A_t_rhymeOf v_t_rhymeOf] H → va_D A [oX12 A_t A_t_now A_t_aside A_t_kept A_t_rhymeOf A_t_wasRhyme A_t_wordAt x_t_wordMany A_t_tape x_t_taped x_t_place0 x_t_length0 x_t_fault x_t_number0 x_t_open x_t_codeMany x_t_waiting x_t_saidMany x_t_clauses A_t_said A_t_waitsAt A_t_saidLetter A_t_saidFrom A_t_saidHalf A_t_saidTo A_t_codes A_t_clauseOf A_t_codeFrom A_t_codeHalf A_t_codeTo A_t_stack A_t_facts x_t_lines A_t_newWords A_t_roundFrom A_t_roundAt A_t_roundTimes x_t_newMany x_t_rounds x_t_itFrom x_t_itTimes x_t_writtenNow x_t_picturesNow x_t_usedNow x_t_chosen x_t_fearOfChosen A_t_leastFrom A_t_rowNow x_t_changesNow x_t_left0 A_t_bornOf A_t_trainsTo A_t_trainAt x_t_trainMany x_t_leastTries x_t_firstTrained x_t_isKept, iA cI 293 A_t_now v_t_now, iA cI 16 A_t_rhymeOf v_t_rhymeOf] → va_S A s.heap H locs → f_X12_next_b31 = some o_r → W p l e { frames := 6, cells := 0, slots := 0, locals := 133 } s m ([.ref A_t, .int a1, .int a2] : List Value).toArray below meth c H locs 0 0 (MQ below (PoI D A [oX12 A_t A_t_now A_t_aside A_t_kept A_t_rhymeOf A_t_wasRhyme A_t_wordAt x_t_wordMany A_t_tape x_t_taped x_t_place0 x_t_length0 x_t_fault x_t_number0 x_t_open x_t_codeMany x_t_waiting x_t_saidMany x_t_clauses A_t_said A_t_waitsAt A_t_saidLetter A_t_saidFrom A_t_saidHalf A_t_saidTo A_t_codes A_t_clauseOf A_t_codeFrom A_t_codeHalf A_t_codeTo A_t_stack A_t_facts x_t_lines A_t_newWords A_t_roundFrom A_t_roundAt A_t_roundTimes x_t_newMany x_t_rounds x_t_itFrom x_t_itTimes x_t_writtenNow x_t_picturesNow x_t_usedNow x_t_chosen x_t_fearOfChosen A_t_leastFrom A_t_rowNow x_t_changesNow x_t_left0 A_t_bornOf A_t_trainsTo A_t_trainAt x_t_trainMany x_t_leastTries x_t_firstTrained x_t_isKept, iA cI 293 A_t_now v_t_now, iA cI 16 A_t_rhymeOf v_t_rhymeOf] o_r) ([.ref A_t, .int a1, .int a2] : List Value).toArray s 0 0 A) (F0 m 31 ls []) := by
    intro H locs ls hl hP hD hS hf
    unfold f_X12_next_b31 at hf
    refine lv_iconst (v := -1) hx hb dX12_next_31 (by decide) ?_
    obtain rfl := ev1 hf
    exact x_iret C hr hlk hP hD hS dX12_next_32
  have hb_84 : ∀ (s0 : Int32) (H : Heap) (locs : List Loc) (ls : Array Slot), lv_has ls 5 [] → va_P D vwCl [oX12 A_t A_t_now A_t_aside A_t_kept A_t_rhymeOf A_t_wasRhyme A_t_wordAt x_t_wordMany A_t_tape x_t_taped x_t_place0 x_t_length0 x_t_fault x_t_number0 x_t_open x_t_codeMany x_t_waiting x_t_saidMany x_t_clauses A_t_said A_t_waitsAt A_t_saidLetter A_t_saidFrom A_t_saidHalf A_t_saidTo A_t_codes A_t_clauseOf A_t_codeFrom A_t_codeHalf A_t_codeTo A_t_stack A_t_facts x_t_lines A_t_newWords A_t_roundFrom A_t_roundAt A_t_roundTimes x_t_newMany x_t_rounds x_t_itFrom x_t_itTimes x_t_writtenNow x_t_picturesNow x_t_usedNow x_t_chosen x_t_fearOfChosen A_t_leastFrom A_t_rowNow x_t_changesNow x_t_left0 A_t_bornOf A_t_trainsTo A_t_trainAt x_t_trainMany x_t_leastTries x_t_firstTrained x_t_isKept, iA cI 293 A_t_now v_t_now, iA cI 16 A_t_rhymeOf v_t_rhymeOf] H → va_D A [oX12 A_t A_t_now A_t_aside A_t_kept A_t_rhymeOf A_t_wasRhyme A_t_wordAt x_t_wordMany A_t_tape x_t_taped x_t_place0 x_t_length0 x_t_fault x_t_number0 x_t_open x_t_codeMany x_t_waiting x_t_saidMany x_t_clauses A_t_said A_t_waitsAt A_t_saidLetter A_t_saidFrom A_t_saidHalf A_t_saidTo A_t_codes A_t_clauseOf A_t_codeFrom A_t_codeHalf A_t_codeTo A_t_stack A_t_facts x_t_lines A_t_newWords A_t_roundFrom A_t_roundAt A_t_roundTimes x_t_newMany x_t_rounds x_t_itFrom x_t_itTimes x_t_writtenNow x_t_picturesNow x_t_usedNow x_t_chosen x_t_fearOfChosen A_t_leastFrom A_t_rowNow x_t_changesNow x_t_left0 A_t_bornOf A_t_trainsTo A_t_trainAt x_t_trainMany x_t_leastTries x_t_firstTrained x_t_isKept, iA cI 293 A_t_now v_t_now, iA cI 16 A_t_rhymeOf v_t_rhymeOf] → va_S A s.heap H locs → f_X12_next_b84 s0 = some o_r → W p l e { frames := 6, cells := 0, slots := 0, locals := 133 } s m ([.ref A_t, .int a1, .int a2] : List Value).toArray below meth c H locs 0 0 (MQ below (PoI D A [oX12 A_t A_t_now A_t_aside A_t_kept A_t_rhymeOf A_t_wasRhyme A_t_wordAt x_t_wordMany A_t_tape x_t_taped x_t_place0 x_t_length0 x_t_fault x_t_number0 x_t_open x_t_codeMany x_t_waiting x_t_saidMany x_t_clauses A_t_said A_t_waitsAt A_t_saidLetter A_t_saidFrom A_t_saidHalf A_t_saidTo A_t_codes A_t_clauseOf A_t_codeFrom A_t_codeHalf A_t_codeTo A_t_stack A_t_facts x_t_lines A_t_newWords A_t_roundFrom A_t_roundAt A_t_roundTimes x_t_newMany x_t_rounds x_t_itFrom x_t_itTimes x_t_writtenNow x_t_picturesNow x_t_usedNow x_t_chosen x_t_fearOfChosen A_t_leastFrom A_t_rowNow x_t_changesNow x_t_left0 A_t_bornOf A_t_trainsTo A_t_trainAt x_t_trainMany x_t_leastTries x_t_firstTrained x_t_isKept, iA cI 293 A_t_now v_t_now, iA cI 16 A_t_rhymeOf v_t_rhymeOf] o_r) ([.ref A_t, .int a1, .int a2] : List Value).toArray s 0 0 A) (F0 m 84 ls [.int s0]) := by
    intro s0 H locs ls hl hP hD hS hf
    unfold f_X12_next_b84 at hf
    obtain rfl := ev1 hf
    exact x_iret C hr hlk hP hD hS dX12_next_84
  have hb_38 : ∀ (n_38 : Nat) (l3 : Int32) (l4 : Int32) (H : Heap) (locs : List Loc) (ls : Array Slot), lv_has ls 5 [(0, .ref A_t), (1, .int a1), (2, .int a2), (3, .int l3), (4, .int l4)] → va_P D vwCl [oX12 A_t A_t_now A_t_aside A_t_kept A_t_rhymeOf A_t_wasRhyme A_t_wordAt x_t_wordMany A_t_tape x_t_taped x_t_place0 x_t_length0 x_t_fault x_t_number0 x_t_open x_t_codeMany x_t_waiting x_t_saidMany x_t_clauses A_t_said A_t_waitsAt A_t_saidLetter A_t_saidFrom A_t_saidHalf A_t_saidTo A_t_codes A_t_clauseOf A_t_codeFrom A_t_codeHalf A_t_codeTo A_t_stack A_t_facts x_t_lines A_t_newWords A_t_roundFrom A_t_roundAt A_t_roundTimes x_t_newMany x_t_rounds x_t_itFrom x_t_itTimes x_t_writtenNow x_t_picturesNow x_t_usedNow x_t_chosen x_t_fearOfChosen A_t_leastFrom A_t_rowNow x_t_changesNow x_t_left0 A_t_bornOf A_t_trainsTo A_t_trainAt x_t_trainMany x_t_leastTries x_t_firstTrained x_t_isKept, iA cI 293 A_t_now v_t_now, iA cI 16 A_t_rhymeOf v_t_rhymeOf] H → va_D A [oX12 A_t A_t_now A_t_aside A_t_kept A_t_rhymeOf A_t_wasRhyme A_t_wordAt x_t_wordMany A_t_tape x_t_taped x_t_place0 x_t_length0 x_t_fault x_t_number0 x_t_open x_t_codeMany x_t_waiting x_t_saidMany x_t_clauses A_t_said A_t_waitsAt A_t_saidLetter A_t_saidFrom A_t_saidHalf A_t_saidTo A_t_codes A_t_clauseOf A_t_codeFrom A_t_codeHalf A_t_codeTo A_t_stack A_t_facts x_t_lines A_t_newWords A_t_roundFrom A_t_roundAt A_t_roundTimes x_t_newMany x_t_rounds x_t_itFrom x_t_itTimes x_t_writtenNow x_t_picturesNow x_t_usedNow x_t_chosen x_t_fearOfChosen A_t_leastFrom A_t_rowNow x_t_changesNow x_t_left0 A_t_bornOf A_t_trainsTo A_t_trainAt x_t_trainMany x_t_leastTries x_t_firstTrained x_t_isKept, iA cI 293 A_t_now v_t_now, iA cI 16 A_t_rhymeOf v_t_rhymeOf] → va_S A s.heap H locs → f_X12_next_b38 v_t_now v_t_rhymeOf a1 a2 n_38 l3 l4 = some o_r → W p l e { frames := 6, cells := 0, slots := 0, locals := 133 } s m ([.ref A_t, .int a1, .int a2] : List Value).toArray below meth c H locs 0 0 (MQ below (PoI D A [oX12 A_t A_t_now A_t_aside A_t_kept A_t_rhymeOf A_t_wasRhyme A_t_wordAt x_t_wordMany A_t_tape x_t_taped x_t_place0 x_t_length0 x_t_fault x_t_number0 x_t_open x_t_codeMany x_t_waiting x_t_saidMany x_t_clauses A_t_said A_t_waitsAt A_t_saidLetter A_t_saidFrom A_t_saidHalf A_t_saidTo A_t_codes A_t_clauseOf A_t_codeFrom A_t_codeHalf A_t_codeTo A_t_stack A_t_facts x_t_lines A_t_newWords A_t_roundFrom A_t_roundAt A_t_roundTimes x_t_newMany x_t_rounds x_t_itFrom x_t_itTimes x_t_writtenNow x_t_picturesNow x_t_usedNow x_t_chosen x_t_fearOfChosen A_t_leastFrom A_t_rowNow x_t_changesNow x_t_left0 A_t_bornOf A_t_trainsTo A_t_trainAt x_t_trainMany x_t_leastTries x_t_firstTrained x_t_isKept, iA cI 293 A_t_now v_t_now, iA cI 16 A_t_rhymeOf v_t_rhymeOf] o_r) ([.ref A_t, .int a1, .int a2] : List Value).toArray s 0 0 A) (F0 m 38 ls []) := by
    intro n_38
    induction n_38 with
    | zero =>
      intro l3 l4 H locs ls hl hP hD hS hf
      exact absurd hf (fun h => by rw [f_X12_next_b38] at h; cases h)
    | succ n_38 ih_38 =>
      have hb_64 : ∀ (l3 : Int32) (l4 : Int32) (H : Heap) (locs : List Loc) (ls : Array Slot), lv_has ls 5 [(0, .ref A_t), (1, .int a1), (2, .int a2), (3, .int l3), (4, .int l4)] → va_P D vwCl [oX12 A_t A_t_now A_t_aside A_t_kept A_t_rhymeOf A_t_wasRhyme A_t_wordAt x_t_wordMany A_t_tape x_t_taped x_t_place0 x_t_length0 x_t_fault x_t_number0 x_t_open x_t_codeMany x_t_waiting x_t_saidMany x_t_clauses A_t_said A_t_waitsAt A_t_saidLetter A_t_saidFrom A_t_saidHalf A_t_saidTo A_t_codes A_t_clauseOf A_t_codeFrom A_t_codeHalf A_t_codeTo A_t_stack A_t_facts x_t_lines A_t_newWords A_t_roundFrom A_t_roundAt A_t_roundTimes x_t_newMany x_t_rounds x_t_itFrom x_t_itTimes x_t_writtenNow x_t_picturesNow x_t_usedNow x_t_chosen x_t_fearOfChosen A_t_leastFrom A_t_rowNow x_t_changesNow x_t_left0 A_t_bornOf A_t_trainsTo A_t_trainAt x_t_trainMany x_t_leastTries x_t_firstTrained x_t_isKept, iA cI 293 A_t_now v_t_now, iA cI 16 A_t_rhymeOf v_t_rhymeOf] H → va_D A [oX12 A_t A_t_now A_t_aside A_t_kept A_t_rhymeOf A_t_wasRhyme A_t_wordAt x_t_wordMany A_t_tape x_t_taped x_t_place0 x_t_length0 x_t_fault x_t_number0 x_t_open x_t_codeMany x_t_waiting x_t_saidMany x_t_clauses A_t_said A_t_waitsAt A_t_saidLetter A_t_saidFrom A_t_saidHalf A_t_saidTo A_t_codes A_t_clauseOf A_t_codeFrom A_t_codeHalf A_t_codeTo A_t_stack A_t_facts x_t_lines A_t_newWords A_t_roundFrom A_t_roundAt A_t_roundTimes x_t_newMany x_t_rounds x_t_itFrom x_t_itTimes x_t_writtenNow x_t_picturesNow x_t_usedNow x_t_chosen x_t_fearOfChosen A_t_leastFrom A_t_rowNow x_t_changesNow x_t_left0 A_t_bornOf A_t_trainsTo A_t_trainAt x_t_trainMany x_t_leastTries x_t_firstTrained x_t_isKept, iA cI 293 A_t_now v_t_now, iA cI 16 A_t_rhymeOf v_t_rhymeOf] → va_S A s.heap H locs → f_X12_next_b64 a1 a2 (f_X12_next_b38 v_t_now v_t_rhymeOf a1 a2 n_38) l3 l4 = some o_r → W p l e { frames := 6, cells := 0, slots := 0, locals := 133 } s m ([.ref A_t, .int a1, .int a2] : List Value).toArray below meth c H locs 0 0 (MQ below (PoI D A [oX12 A_t A_t_now A_t_aside A_t_kept A_t_rhymeOf A_t_wasRhyme A_t_wordAt x_t_wordMany A_t_tape x_t_taped x_t_place0 x_t_length0 x_t_fault x_t_number0 x_t_open x_t_codeMany x_t_waiting x_t_saidMany x_t_clauses A_t_said A_t_waitsAt A_t_saidLetter A_t_saidFrom A_t_saidHalf A_t_saidTo A_t_codes A_t_clauseOf A_t_codeFrom A_t_codeHalf A_t_codeTo A_t_stack A_t_facts x_t_lines A_t_newWords A_t_roundFrom A_t_roundAt A_t_roundTimes x_t_newMany x_t_rounds x_t_itFrom x_t_itTimes x_t_writtenNow x_t_picturesNow x_t_usedNow x_t_chosen x_t_fearOfChosen A_t_leastFrom A_t_rowNow x_t_changesNow x_t_left0 A_t_bornOf A_t_trainsTo A_t_trainAt x_t_trainMany x_t_leastTries x_t_firstTrained x_t_isKept, iA cI 293 A_t_now v_t_now, iA cI 16 A_t_rhymeOf v_t_rhymeOf] o_r) ([.ref A_t, .int a1, .int a2] : List Value).toArray s 0 0 A) (F0 m 64 ls []) := by
        intro l3 l4 H locs ls hl hP hD hS hf
        unfold f_X12_next_b64 at hf
        refine lv_iinc (v := (l4 + (1 : Int32))) (lv' := [(4, .int (l4 + (1 : Int32))), (0, .ref A_t), (1, .int a1), (2, .int a2), (3, .int l3)]) hx hb dX12_next_64 hl (k := 4) rfl rfl (by decide) rfl (fun ls hl => ?_)
        refine lv_goto (tgt := 38) hx hb dX12_next_67 (by decide) ?_
        exact ih_38 l3 (l4 + (1 : Int32)) _ _ ls (lv_sub hl [1, 2, 3, 4, 0] rfl) hP hD hS hf
      intro l3 l4 H locs ls hl hP hD hS hf
      rw [f_X12_next_b38] at hf
      refine lv_iload hx hb dX12_next_38 (lv_at hl 4 rfl) ?_
      refine lv_bipush (v := 16) hx hb dX12_next_40 (by decide) ?_
      refine lv_icmp_ge (tgt := 70) hx hb dX12_next_42 (by decide) (fun q => ?_) (fun q => ?_)
      · have hf := if_t q hf
        refine lv_iload_n hx hb dX12_next_70 rfl (lv_at hl 2 rfl) ?_
        refine lv_if_ne (tgt := 78) hx hb dX12_next_71 (by decide) (fun q => ?_) (fun q => ?_)
        · have hf := if_f q hf
          refine lv_aload_n hx hb dX12_next_78 rfl (lv_at hl 0 rfl) ?_
          refine lv_iload_n hx hb dX12_next_79 rfl (lv_at hl 1 rfl) ?_
          refine lv_iload_n hx hb dX12_next_80 rfl (lv_at hl 3 rfl) ?_
          obtain ⟨r1, hc2, hf⟩ := bd1_e hf
          refine x_callVI (ws' := [oX12 A_t A_t_now A_t_aside A_t_kept A_t_rhymeOf A_t_wasRhyme A_t_wordAt x_t_wordMany A_t_tape x_t_taped x_t_place0 x_t_length0 x_t_fault x_t_number0 x_t_open x_t_codeMany x_t_waiting x_t_saidMany x_t_clauses A_t_said A_t_waitsAt A_t_saidLetter A_t_saidFrom A_t_saidHalf A_t_saidTo A_t_codes A_t_clauseOf A_t_codeFrom A_t_codeHalf A_t_codeTo A_t_stack A_t_facts x_t_lines A_t_newWords A_t_roundFrom A_t_roundAt A_t_roundTimes x_t_newMany x_t_rounds x_t_itFrom x_t_itTimes x_t_writtenNow x_t_picturesNow x_t_usedNow x_t_chosen x_t_fearOfChosen A_t_leastFrom A_t_rowNow x_t_changesNow x_t_left0 A_t_bornOf A_t_trainsTo A_t_trainAt x_t_trainMany x_t_leastTries x_t_firstTrained x_t_isKept, iA cI 293 A_t_now v_t_now, iA cI 16 A_t_rhymeOf v_t_rhymeOf]) (rest := []) C hK hP hD hS hA hl mf_X12_390 (c_X12_greaterBy hc2) [0, 1, 2] 0 12 rfl rfl rfl rfl rfl rfl rfl rfl rfl rfl (Nat.le_of_ble_eq_true rfl) ⟨Nat.le_of_ble_eq_true rfl, Nat.le_of_ble_eq_true rfl⟩ ⟨Nat.le_refl _, Nat.le_refl _⟩ dX12_next_81 ?_
          intro H locs hP hD hS
          exact hb_84 r1 _ _ ls (lv_sub hl [] rfl) hP hD hS hf
        · have hf := if_t q hf
          refine lv_iload_n hx hb dX12_next_74 rfl (lv_at hl 3 rfl) ?_
          refine lv_goto (tgt := 84) hx hb dX12_next_75 (by decide) ?_
          exact hb_84 l3 _ _ ls (lv_sub hl [] rfl) hP hD hS hf
      · have hf := if_f q hf
        refine lv_aload_n hx hb dX12_next_45 rfl (lv_at hl 0 rfl) ?_
        refine lv_iload_n hx hb dX12_next_46 rfl (lv_at hl 1 rfl) ?_
        refine lv_iload hx hb dX12_next_47 (lv_at hl 4 rfl) ?_
        obtain ⟨r3, hc4, hf⟩ := bd1_e hf
        refine x_callVI (ws' := [oX12 A_t A_t_now A_t_aside A_t_kept A_t_rhymeOf A_t_wasRhyme A_t_wordAt x_t_wordMany A_t_tape x_t_taped x_t_place0 x_t_length0 x_t_fault x_t_number0 x_t_open x_t_codeMany x_t_waiting x_t_saidMany x_t_clauses A_t_said A_t_waitsAt A_t_saidLetter A_t_saidFrom A_t_saidHalf A_t_saidTo A_t_codes A_t_clauseOf A_t_codeFrom A_t_codeHalf A_t_codeTo A_t_stack A_t_facts x_t_lines A_t_newWords A_t_roundFrom A_t_roundAt A_t_roundTimes x_t_newMany x_t_rounds x_t_itFrom x_t_itTimes x_t_writtenNow x_t_picturesNow x_t_usedNow x_t_chosen x_t_fearOfChosen A_t_leastFrom A_t_rowNow x_t_changesNow x_t_left0 A_t_bornOf A_t_trainsTo A_t_trainAt x_t_trainMany x_t_leastTries x_t_firstTrained x_t_isKept, iA cI 293 A_t_now v_t_now, iA cI 16 A_t_rhymeOf v_t_rhymeOf]) (rest := []) C hK hP hD hS hA hl mf_X12_390 (c_X12_greaterBy hc4) [0, 1, 2] 0 12 rfl rfl rfl rfl rfl rfl rfl rfl rfl rfl (Nat.le_of_ble_eq_true rfl) ⟨Nat.le_of_ble_eq_true rfl, Nat.le_of_ble_eq_true rfl⟩ ⟨Nat.le_refl _, Nat.le_refl _⟩ dX12_next_49 ?_
        intro H locs hP hD hS
        refine lv_aload_n hx hb dX12_next_52 rfl (lv_at hl 0 rfl) ?_
        refine lv_iload_n hx hb dX12_next_53 rfl (lv_at hl 1 rfl) ?_
        refine lv_iload_n hx hb dX12_next_54 rfl (lv_at hl 3 rfl) ?_
        obtain ⟨r5, hc6, hf⟩ := bd1_e hf
        refine x_callVI (ws' := [oX12 A_t A_t_now A_t_aside A_t_kept A_t_rhymeOf A_t_wasRhyme A_t_wordAt x_t_wordMany A_t_tape x_t_taped x_t_place0 x_t_length0 x_t_fault x_t_number0 x_t_open x_t_codeMany x_t_waiting x_t_saidMany x_t_clauses A_t_said A_t_waitsAt A_t_saidLetter A_t_saidFrom A_t_saidHalf A_t_saidTo A_t_codes A_t_clauseOf A_t_codeFrom A_t_codeHalf A_t_codeTo A_t_stack A_t_facts x_t_lines A_t_newWords A_t_roundFrom A_t_roundAt A_t_roundTimes x_t_newMany x_t_rounds x_t_itFrom x_t_itTimes x_t_writtenNow x_t_picturesNow x_t_usedNow x_t_chosen x_t_fearOfChosen A_t_leastFrom A_t_rowNow x_t_changesNow x_t_left0 A_t_bornOf A_t_trainsTo A_t_trainAt x_t_trainMany x_t_leastTries x_t_firstTrained x_t_isKept, iA cI 293 A_t_now v_t_now, iA cI 16 A_t_rhymeOf v_t_rhymeOf]) (rest := [.int r3]) C hK hP hD hS hA hl mf_X12_390 (c_X12_greaterBy hc6) [0, 1, 2] 0 12 rfl rfl rfl rfl rfl rfl rfl rfl rfl rfl (Nat.le_of_ble_eq_true rfl) ⟨Nat.le_of_ble_eq_true rfl, Nat.le_of_ble_eq_true rfl⟩ ⟨Nat.le_refl _, Nat.le_refl _⟩ dX12_next_55 ?_
        intro H locs hP hD hS
        refine lv_icmp_ge (tgt := 64) hx hb dX12_next_58 (by decide) (fun q => ?_) (fun q => ?_)
        · have hf := if_t q hf
          exact hb_64 l3 l4 _ _ ls (lv_sub hl [0, 1, 2, 3, 4] rfl) hP hD hS hf
        · have hf := if_f q hf
          refine lv_iload hx hb dX12_next_61 (lv_at hl 4 rfl) ?_
          refine lv_istore_n (lv' := [(3, .int l4), (0, .ref A_t), (1, .int a1), (2, .int a2), (4, .int l4)]) hx hb dX12_next_63 rfl hl (by decide) rfl (fun ls hl => ?_)
          exact hb_64 l4 l4 _ _ ls (lv_sub hl [1, 2, 3, 0, 4] rfl) hP hD hS hf
  refine lv_iload_n hx hb dX12_next_0 rfl (lv_at hl 1 rfl) ?_
  refine lv_iconst (v := 1) hx hb dX12_next_1 (by decide) ?_
  refine lv_sipush (v := 255) hx hb dX12_next_2 (by decide) ?_
  obtain ⟨r7, hc8, hf⟩ := bd1_e hf
  refine x_callSI (ws' := [oX12 A_t A_t_now A_t_aside A_t_kept A_t_rhymeOf A_t_wasRhyme A_t_wordAt x_t_wordMany A_t_tape x_t_taped x_t_place0 x_t_length0 x_t_fault x_t_number0 x_t_open x_t_codeMany x_t_waiting x_t_saidMany x_t_clauses A_t_said A_t_waitsAt A_t_saidLetter A_t_saidFrom A_t_saidHalf A_t_saidTo A_t_codes A_t_clauseOf A_t_codeFrom A_t_codeHalf A_t_codeTo A_t_stack A_t_facts x_t_lines A_t_newWords A_t_roundFrom A_t_roundAt A_t_roundTimes x_t_newMany x_t_rounds x_t_itFrom x_t_itTimes x_t_writtenNow x_t_picturesNow x_t_usedNow x_t_chosen x_t_fearOfChosen A_t_leastFrom A_t_rowNow x_t_changesNow x_t_left0 A_t_bornOf A_t_trainsTo A_t_trainAt x_t_trainMany x_t_leastTries x_t_firstTrained x_t_isKept, iA cI 293 A_t_now v_t_now, iA cI 16 A_t_rhymeOf v_t_rhymeOf]) (rest := []) C hK hP hD hS hA hl mf_X12_105 (c_X12_in hc8) [] rfl rfl rfl rfl rfl rfl rfl rfl (Nat.le_of_ble_eq_true rfl) ⟨Nat.le_of_ble_eq_true rfl, Nat.le_of_ble_eq_true rfl⟩ ⟨Nat.le_refl _, Nat.le_refl _⟩ dX12_next_5 ?_
  intro H locs hP hD hS
  refine lv_if_eq (tgt := 31) hx hb dX12_next_8 (by decide) (fun q => ?_) (fun q => ?_)
  · have hf := if_t q hf
    exact hb_31 _ _ ls (lv_sub hl [] rfl) hP hD hS hf
  · have hf := if_f q hf
    refine lv_iload_n hx hb dX12_next_11 rfl (lv_at hl 1 rfl) ?_
    refine lv_aload_n hx hb dX12_next_12 rfl (lv_at hl 0 rfl) ?_
    obtain ⟨r9, hc10, hf⟩ := bd1_e hf
    refine x_callVI (ws' := [oX12 A_t A_t_now A_t_aside A_t_kept A_t_rhymeOf A_t_wasRhyme A_t_wordAt x_t_wordMany A_t_tape x_t_taped x_t_place0 x_t_length0 x_t_fault x_t_number0 x_t_open x_t_codeMany x_t_waiting x_t_saidMany x_t_clauses A_t_said A_t_waitsAt A_t_saidLetter A_t_saidFrom A_t_saidHalf A_t_saidTo A_t_codes A_t_clauseOf A_t_codeFrom A_t_codeHalf A_t_codeTo A_t_stack A_t_facts x_t_lines A_t_newWords A_t_roundFrom A_t_roundAt A_t_roundTimes x_t_newMany x_t_rounds x_t_itFrom x_t_itTimes x_t_writtenNow x_t_picturesNow x_t_usedNow x_t_chosen x_t_fearOfChosen A_t_leastFrom A_t_rowNow x_t_changesNow x_t_left0 A_t_bornOf A_t_trainsTo A_t_trainAt x_t_trainMany x_t_leastTries x_t_firstTrained x_t_isKept, iA cI 293 A_t_now v_t_now, iA cI 16 A_t_rhymeOf v_t_rhymeOf]) (rest := [.int a1]) C hK hP hD hS hA hl mf_X12_387 (c_X12_toldSet hc10) [0, 1] 0 12 rfl rfl rfl rfl rfl rfl rfl rfl rfl rfl (Nat.le_of_ble_eq_true rfl) ⟨Nat.le_of_ble_eq_true rfl, Nat.le_of_ble_eq_true rfl⟩ ⟨Nat.le_refl _, Nat.le_refl _⟩ dX12_next_13 ?_
    intro H locs hP hD hS
    refine lv_iconst (v := -1) hx hb dX12_next_16 (by decide) ?_
    refine lv_ixor hx hb dX12_next_17 ?_
    refine lv_iand hx hb dX12_next_18 ?_
    refine lv_if_ne (tgt := 31) hx hb dX12_next_19 (by decide) (fun q => ?_) (fun q => ?_)
    · have hf := if_f q hf
      exact hb_31 _ _ ls (lv_sub hl [] rfl) hP hD hS hf
    · have hf := if_t q hf
      refine lv_iload_n hx hb dX12_next_22 rfl (lv_at hl 2 rfl) ?_
      refine lv_iconst (v := 0) hx hb dX12_next_23 (by decide) ?_
      refine lv_iconst (v := 1) hx hb dX12_next_24 (by decide) ?_
      obtain ⟨r11, hc12, hf⟩ := bd1_e hf
      refine x_callSI (ws' := [oX12 A_t A_t_now A_t_aside A_t_kept A_t_rhymeOf A_t_wasRhyme A_t_wordAt x_t_wordMany A_t_tape x_t_taped x_t_place0 x_t_length0 x_t_fault x_t_number0 x_t_open x_t_codeMany x_t_waiting x_t_saidMany x_t_clauses A_t_said A_t_waitsAt A_t_saidLetter A_t_saidFrom A_t_saidHalf A_t_saidTo A_t_codes A_t_clauseOf A_t_codeFrom A_t_codeHalf A_t_codeTo A_t_stack A_t_facts x_t_lines A_t_newWords A_t_roundFrom A_t_roundAt A_t_roundTimes x_t_newMany x_t_rounds x_t_itFrom x_t_itTimes x_t_writtenNow x_t_picturesNow x_t_usedNow x_t_chosen x_t_fearOfChosen A_t_leastFrom A_t_rowNow x_t_changesNow x_t_left0 A_t_bornOf A_t_trainsTo A_t_trainAt x_t_trainMany x_t_leastTries x_t_firstTrained x_t_isKept, iA cI 293 A_t_now v_t_now, iA cI 16 A_t_rhymeOf v_t_rhymeOf]) (rest := []) C hK hP hD hS hA hl mf_X12_105 (c_X12_in hc12) [] rfl rfl rfl rfl rfl rfl rfl rfl (Nat.le_of_ble_eq_true rfl) ⟨Nat.le_of_ble_eq_true rfl, Nat.le_of_ble_eq_true rfl⟩ ⟨Nat.le_refl _, Nat.le_refl _⟩ dX12_next_25 ?_
      intro H locs hP hD hS
      refine lv_if_ne (tgt := 33) hx hb dX12_next_28 (by decide) (fun q => ?_) (fun q => ?_)
      · have hf := if_f q hf
        refine lv_iconst (v := 0) hx hb dX12_next_33 (by decide) ?_
        refine lv_istore_n (lv' := [(3, .int (0 : Int32)), (0, .ref A_t), (1, .int a1), (2, .int a2)]) hx hb dX12_next_34 rfl hl (by decide) rfl (fun ls hl => ?_)
        refine lv_iconst (v := 1) hx hb dX12_next_35 (by decide) ?_
        refine lv_istore (lv' := [(4, .int (1 : Int32)), (3, .int (0 : Int32)), (0, .ref A_t), (1, .int a1), (2, .int a2)]) hx hb dX12_next_36 hl (by decide) rfl (fun ls hl => ?_)
        exact hb_38 FU (0 : Int32) (1 : Int32) _ _ ls (lv_sub hl [2, 3, 4, 1, 0] rfl) hP hD hS hf
      · have hf := if_t q hf
        exact hb_31 _ _ ls (lv_sub hl [] rfl) hP hD hS hf
