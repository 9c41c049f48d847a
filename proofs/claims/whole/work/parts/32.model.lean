def f_X12_readsRule_b110 (v_t_tape : (Nat → Int32)) (x_t_length0 : Int32) (v_t_said : (Nat → Int32)) (v_t_saidFrom : (Nat → Int32)) (v_t_saidHalf : (Nat → Int32)) (v_t_saidLetter : (Nat → Int32)) (v_t_saidTo : (Nat → Int32)) (v_t_waitsAt : (Nat → Int32)) (x_t_codeMany : Int32) (x_t_fault : Int32) (x_t_number0 : Int32) (x_t_open : Int32) (x_t_place0 : Int32) (x_t_saidMany : Int32) (x_t_waiting : Int32) : Option (Int32 × (Nat → Int32) × (Nat → Int32) × (Nat → Int32) × (Nat → Int32) × (Nat → Int32) × (Nat → Int32) × Int32 × Int32 × Int32 × Int32 × Int32 × Int32 × Int32) :=
  sI 16 v_t_saidHalf x_t_saidMany x_t_codeMany (fun w1 =>
  bd9 (f_X12_readsCondition v_t_said v_t_tape v_t_waitsAt x_t_codeMany x_t_fault x_t_length0 x_t_number0 x_t_open x_t_place0 x_t_waiting) (fun r2 w3 w4 w5 w6 w7 w8 w9 w10 =>
  if r2 = 0 then
    some ((0 : Int32), w3, v_t_saidFrom, w1, v_t_saidLetter, v_t_saidTo, w4, w5, w6, w7, w8, w9, x_t_saidMany, w10)
  else
    sI 16 v_t_saidTo x_t_saidMany w5 (fun w11 =>
    some ((1 : Int32), w3, v_t_saidFrom, w1, v_t_saidLetter, w11, w4, w5, w6, w7, w8, w9, (x_t_saidMany + (1 : Int32)), w10))))
def f_X12_readsRule_b33 (v_t_tape : (Nat → Int32)) (x_t_length0 : Int32) (v_t_said : (Nat → Int32)) (v_t_saidFrom : (Nat → Int32)) (v_t_saidHalf : (Nat → Int32)) (v_t_saidLetter : (Nat → Int32)) (v_t_saidTo : (Nat → Int32)) (v_t_waitsAt : (Nat → Int32)) (x_t_codeMany : Int32) (x_t_fault : Int32) (x_t_number0 : Int32) (x_t_open : Int32) (x_t_place0 : Int32) (x_t_saidMany : Int32) (x_t_waiting : Int32) (l1 : Int32) : Option (Int32 × (Nat → Int32) × (Nat → Int32) × (Nat → Int32) × (Nat → Int32) × (Nat → Int32) × (Nat → Int32) × Int32 × Int32 × Int32 × Int32 × Int32 × Int32 × Int32) :=
  if x_t_saidMany = (16 : Int32) then
    bd2 (f_X12_wrongAt x_t_fault (4 : Int32) x_t_place0) (fun r12 w13 =>
    zI r12 (some (r12, v_t_said, v_t_saidFrom, v_t_saidHalf, v_t_saidLetter, v_t_saidTo, v_t_waitsAt, x_t_codeMany, w13, x_t_number0, x_t_open, x_t_place0, x_t_saidMany, x_t_waiting)))
  else
    sI 16 v_t_saidLetter x_t_saidMany l1 (fun w1 =>
    sI 16 v_t_saidFrom x_t_saidMany x_t_codeMany (fun w2 =>
    if l1 = (120 : Int32) then
      f_X12_readsRule_b110 v_t_tape x_t_length0 v_t_said w2 v_t_saidHalf w1 v_t_saidTo v_t_waitsAt x_t_codeMany x_t_fault x_t_number0 (0 : Int32) (x_t_place0 + (1 : Int32)) x_t_saidMany (0 : Int32)
    else
      bd9 (f_X12_readsSum v_t_said v_t_tape v_t_waitsAt x_t_codeMany x_t_fault x_t_length0 x_t_number0 (0 : Int32) (x_t_place0 + (1 : Int32)) (0 : Int32)) (fun r3 w4 w5 w6 w7 w8 w9 w10 w11 =>
      if r3 = 0 then
        some ((0 : Int32), w4, w2, v_t_saidHalf, w1, v_t_saidTo, w5, w6, w7, w8, w9, w10, x_t_saidMany, w11)
      else
        f_X12_readsRule_b110 v_t_tape x_t_length0 w4 w2 v_t_saidHalf w1 v_t_saidTo w5 w6 w7 w8 w9 w10 x_t_saidMany w11)))
def f_X12_readsRule (v_t_said : (Nat → Int32)) (v_t_saidFrom : (Nat → Int32)) (v_t_saidHalf : (Nat → Int32)) (v_t_saidLetter : (Nat → Int32)) (v_t_saidTo : (Nat → Int32)) (v_t_tape : (Nat → Int32)) (v_t_waitsAt : (Nat → Int32)) (x_t_codeMany : Int32) (x_t_fault : Int32) (x_t_length0 : Int32) (x_t_number0 : Int32) (x_t_open : Int32) (x_t_place0 : Int32) (x_t_saidMany : Int32) (x_t_waiting : Int32) : Option (Int32 × (Nat → Int32) × (Nat → Int32) × (Nat → Int32) × (Nat → Int32) × (Nat → Int32) × (Nat → Int32) × Int32 × Int32 × Int32 × Int32 × Int32 × Int32 × Int32) :=
  bd1 (f_X12_here v_t_tape x_t_length0 x_t_place0) (fun r14 =>
  if r14 = (102 : Int32) then
    f_X12_readsRule_b33 v_t_tape x_t_length0 v_t_said v_t_saidFrom v_t_saidHalf v_t_saidLetter v_t_saidTo v_t_waitsAt x_t_codeMany x_t_fault x_t_number0 x_t_open x_t_place0 x_t_saidMany x_t_waiting r14
  else
    if r14 = (101 : Int32) then
      f_X12_readsRule_b33 v_t_tape x_t_length0 v_t_said v_t_saidFrom v_t_saidHalf v_t_saidLetter v_t_saidTo v_t_waitsAt x_t_codeMany x_t_fault x_t_number0 x_t_open x_t_place0 x_t_saidMany x_t_waiting r14
    else
      if r14 = (120 : Int32) then
        f_X12_readsRule_b33 v_t_tape x_t_length0 v_t_said v_t_saidFrom v_t_saidHalf v_t_saidLetter v_t_saidTo v_t_waitsAt x_t_codeMany x_t_fault x_t_number0 x_t_open x_t_place0 x_t_saidMany x_t_waiting r14
      else
        bd2 (f_X12_wrongAt x_t_fault (1 : Int32) x_t_place0) (fun r15 w16 =>
        zI r15 (some (r15, v_t_said, v_t_saidFrom, v_t_saidHalf, v_t_saidLetter, v_t_saidTo, v_t_waitsAt, x_t_codeMany, w16, x_t_number0, x_t_open, x_t_place0, x_t_saidMany, x_t_waiting))))
set_option maxHeartbeats 4000000 in
set_option maxRecDepth 100000 in
theorem c_X12_readsRule {l : Launch} {D : va_G} {cI cB : ClassId} {A_t A_t_now A_t_aside A_t_kept A_t_rhymeOf A_t_wasRhyme A_t_wordAt A_t_tape A_t_said A_t_waitsAt A_t_saidLetter A_t_saidFrom A_t_saidHalf A_t_saidTo A_t_codes A_t_clauseOf A_t_codeFrom A_t_codeHalf A_t_codeTo A_t_stack A_t_facts A_t_newWords A_t_roundFrom A_t_roundAt A_t_roundTimes A_t_leastFrom A_t_rowNow A_t_bornOf A_t_trainsTo A_t_trainAt : Nat} {x_t_wordMany x_t_taped x_t_place0 x_t_length0 x_t_fault x_t_number0 x_t_open x_t_codeMany x_t_waiting x_t_saidMany x_t_clauses x_t_lines x_t_newMany x_t_rounds x_t_itFrom x_t_itTimes x_t_writtenNow x_t_picturesNow x_t_usedNow x_t_chosen x_t_fearOfChosen x_t_changesNow x_t_left0 x_t_trainMany x_t_leastTries x_t_firstTrained x_t_isKept : Int32} {v_t_said v_t_saidFrom v_t_saidHalf v_t_saidLetter v_t_saidTo v_t_tape v_t_waitsAt : Nat → Int32} {o_r o_x_t_codeMany o_x_t_fault o_x_t_number0 o_x_t_open o_x_t_place0 o_x_t_saidMany o_x_t_waiting : Int32} {o_v_t_said o_v_t_saidFrom o_v_t_saidHalf o_v_t_saidLetter o_v_t_saidTo o_v_t_waitsAt : Nat → Int32} (hf : f_X12_readsRule v_t_said v_t_saidFrom v_t_saidHalf v_t_saidLetter v_t_saidTo v_t_tape v_t_waitsAt x_t_codeMany x_t_fault x_t_length0 x_t_number0 x_t_open x_t_place0 x_t_saidMany x_t_waiting = some (o_r, o_v_t_said, o_v_t_saidFrom, o_v_t_saidHalf, o_v_t_saidLetter, o_v_t_saidTo, o_v_t_waitsAt, o_x_t_codeMany, o_x_t_fault, o_x_t_number0, o_x_t_open, o_x_t_place0, o_x_t_saidMany, o_x_t_waiting)) : CtI l D cI cB yX12_readsRule cX12_readsRule 2 (some .boolean) 7 145 [.ref A_t] [oX12 A_t A_t_now A_t_aside A_t_kept A_t_rhymeOf A_t_wasRhyme A_t_wordAt x_t_wordMany A_t_tape x_t_taped x_t_place0 x_t_length0 x_t_fault x_t_number0 x_t_open x_t_codeMany x_t_waiting x_t_saidMany x_t_clauses A_t_said A_t_waitsAt A_t_saidLetter A_t_saidFrom A_t_saidHalf A_t_saidTo A_t_codes A_t_clauseOf A_t_codeFrom A_t_codeHalf A_t_codeTo A_t_stack A_t_facts x_t_lines A_t_newWords A_t_roundFrom A_t_roundAt A_t_roundTimes x_t_newMany x_t_rounds x_t_itFrom x_t_itTimes x_t_writtenNow x_t_picturesNow x_t_usedNow x_t_chosen x_t_fearOfChosen A_t_leastFrom A_t_rowNow x_t_changesNow x_t_left0 A_t_bornOf A_t_trainsTo A_t_trainAt x_t_trainMany x_t_leastTries x_t_firstTrained x_t_isKept, iA cI 260 A_t_said v_t_said, iA cI 16 A_t_saidFrom v_t_saidFrom, iA cI 16 A_t_saidHalf v_t_saidHalf, iA cI 16 A_t_saidLetter v_t_saidLetter, iA cI 16 A_t_saidTo v_t_saidTo, iA cB 260 A_t_tape v_t_tape, iA cI 260 A_t_waitsAt v_t_waitsAt] [oX12 A_t A_t_now A_t_aside A_t_kept A_t_rhymeOf A_t_wasRhyme A_t_wordAt x_t_wordMany A_t_tape x_t_taped o_x_t_place0 x_t_length0 o_x_t_fault o_x_t_number0 o_x_t_open o_x_t_codeMany o_x_t_waiting o_x_t_saidMany x_t_clauses A_t_said A_t_waitsAt A_t_saidLetter A_t_saidFrom A_t_saidHalf A_t_saidTo A_t_codes A_t_clauseOf A_t_codeFrom A_t_codeHalf A_t_codeTo A_t_stack A_t_facts x_t_lines A_t_newWords A_t_roundFrom A_t_roundAt A_t_roundTimes x_t_newMany x_t_rounds x_t_itFrom x_t_itTimes x_t_writtenNow x_t_picturesNow x_t_usedNow x_t_chosen x_t_fearOfChosen A_t_leastFrom A_t_rowNow x_t_changesNow x_t_left0 A_t_bornOf A_t_trainsTo A_t_trainAt x_t_trainMany x_t_leastTries x_t_firstTrained x_t_isKept, iA cI 260 A_t_said o_v_t_said, iA cI 16 A_t_saidFrom o_v_t_saidFrom, iA cI 16 A_t_saidHalf o_v_t_saidHalf, iA cI 16 A_t_saidLetter o_v_t_saidLetter, iA cI 16 A_t_saidTo o_v_t_saidTo, iA cB 260 A_t_tape v_t_tape, iA cI 260 A_t_waitsAt o_v_t_waitsAt] o_r := by
  refine x_startI (by decide) (Nat.le_of_ble_eq_true rfl) ?_
  intro p e s m below meth c A C hr hlk hA hK hP hD hS ls hl
  have hl : lv_has ls 2 [(0, .ref A_t)] := hl
  have hx := C.1
  have hb := C.2.1
  unfold f_X12_readsRule at hf
  have hb_110 : ∀ (v_t_said : (Nat → Int32)) (v_t_saidFrom : (Nat → Int32)) (v_t_saidHalf : (Nat → Int32)) (v_t_saidLetter : (Nat → Int32)) (v_t_saidTo : (Nat → Int32)) (v_t_waitsAt : (Nat → Int32)) (x_t_codeMany : Int32) (x_t_fault : Int32) (x_t_number0 : Int32) (x_t_open : Int32) (x_t_place0 : Int32) (x_t_saidMany : Int32) (x_t_waiting : Int32) (H : Heap) (locs : List Loc) (ls : Array Slot), lv_has ls 2 [(0, .ref A_t)] → va_P D vwCl [oX12 A_t A_t_now A_t_aside A_t_kept A_t_rhymeOf A_t_wasRhyme A_t_wordAt x_t_wordMany A_t_tape x_t_taped x_t_place0 x_t_length0 x_t_fault x_t_number0 x_t_open x_t_codeMany x_t_waiting x_t_saidMany x_t_clauses A_t_said A_t_waitsAt A_t_saidLetter A_t_saidFrom A_t_saidHalf A_t_saidTo A_t_codes A_t_clauseOf A_t_codeFrom A_t_codeHalf A_t_codeTo A_t_stack A_t_facts x_t_lines A_t_newWords A_t_roundFrom A_t_roundAt A_t_roundTimes x_t_newMany x_t_rounds x_t_itFrom x_t_itTimes x_t_writtenNow x_t_picturesNow x_t_usedNow x_t_chosen x_t_fearOfChosen A_t_leastFrom A_t_rowNow x_t_changesNow x_t_left0 A_t_bornOf A_t_trainsTo A_t_trainAt x_t_trainMany x_t_leastTries x_t_firstTrained x_t_isKept, iA cI 260 A_t_said v_t_said, iA cI 16 A_t_saidFrom v_t_saidFrom, iA cI 16 A_t_saidHalf v_t_saidHalf, iA cI 16 A_t_saidLetter v_t_saidLetter, iA cI 16 A_t_saidTo v_t_saidTo, iA cB 260 A_t_tape v_t_tape, iA cI 260 A_t_waitsAt v_t_waitsAt] H → va_D A [oX12 A_t A_t_now A_t_aside A_t_kept A_t_rhymeOf A_t_wasRhyme A_t_wordAt x_t_wordMany A_t_tape x_t_taped x_t_place0 x_t_length0 x_t_fault x_t_number0 x_t_open x_t_codeMany x_t_waiting x_t_saidMany x_t_clauses A_t_said A_t_waitsAt A_t_saidLetter A_t_saidFrom A_t_saidHalf A_t_saidTo A_t_codes A_t_clauseOf A_t_codeFrom A_t_codeHalf A_t_codeTo A_t_stack A_t_facts x_t_lines A_t_newWords A_t_roundFrom A_t_roundAt A_t_roundTimes x_t_newMany x_t_rounds x_t_itFrom x_t_itTimes x_t_writtenNow x_t_picturesNow x_t_usedNow x_t_chosen x_t_fearOfChosen A_t_leastFrom A_t_rowNow x_t_changesNow x_t_left0 A_t_bornOf A_t_trainsTo A_t_trainAt x_t_trainMany x_t_leastTries x_t_firstTrained x_t_isKept, iA cI 260 A_t_said v_t_said, iA cI 16 A_t_saidFrom v_t_saidFrom, iA cI 16 A_t_saidHalf v_t_saidHalf, iA cI 16 A_t_saidLetter v_t_saidLetter, iA cI 16 A_t_saidTo v_t_saidTo, iA cB 260 A_t_tape v_t_tape, iA cI 260 A_t_waitsAt v_t_waitsAt] → va_S A s.heap H locs → f_X12_readsRule_b110 v_t_tape x_t_length0 v_t_said v_t_saidFrom v_t_saidHalf v_t_saidLetter v_t_saidTo v_t_waitsAt x_t_codeMany x_t_fault x_t_number0 x_t_open x_t_place0 x_t_saidMany x_t_waiting = some (o_r, o_v_t_said, o_v_t_saidFrom, o_v_t_saidHalf, o_v_t_saidLetter, o_v_t_saidTo, o_v_t_waitsAt, o_x_t_codeMany, o_x_t_fault, o_x_t_number0, o_x_t_open, o_x_t_place0, o_x_t_saidMany, o_x_t_waiting) → W p l e { frames := 7, cells := 0, slots := 0, locals := 145 } s m ([.ref A_t] : List Value).toArray below meth c H locs 0 0 (MQ below (PoI D A [oX12 A_t A_t_now A_t_aside A_t_kept A_t_rhymeOf A_t_wasRhyme A_t_wordAt x_t_wordMany A_t_tape x_t_taped o_x_t_place0 x_t_length0 o_x_t_fault o_x_t_number0 o_x_t_open o_x_t_codeMany o_x_t_waiting o_x_t_saidMany x_t_clauses A_t_said A_t_waitsAt A_t_saidLetter A_t_saidFrom A_t_saidHalf A_t_saidTo A_t_codes A_t_clauseOf A_t_codeFrom A_t_codeHalf A_t_codeTo A_t_stack A_t_facts x_t_lines A_t_newWords A_t_roundFrom A_t_roundAt A_t_roundTimes x_t_newMany x_t_rounds x_t_itFrom x_t_itTimes x_t_writtenNow x_t_picturesNow x_t_usedNow x_t_chosen x_t_fearOfChosen A_t_leastFrom A_t_rowNow x_t_changesNow x_t_left0 A_t_bornOf A_t_trainsTo A_t_trainAt x_t_trainMany x_t_leastTries x_t_firstTrained x_t_isKept, iA cI 260 A_t_said o_v_t_said, iA cI 16 A_t_saidFrom o_v_t_saidFrom, iA cI 16 A_t_saidHalf o_v_t_saidHalf, iA cI 16 A_t_saidLetter o_v_t_saidLetter, iA cI 16 A_t_saidTo o_v_t_saidTo, iA cB 260 A_t_tape v_t_tape, iA cI 260 A_t_waitsAt o_v_t_waitsAt] o_r) ([.ref A_t] : List Value).toArray s 0 0 A) (F0 m 110 ls []) := by
    intro v_t_said v_t_saidFrom v_t_saidHalf v_t_saidLetter v_t_saidTo v_t_waitsAt x_t_codeMany x_t_fault x_t_number0 x_t_open x_t_place0 x_t_saidMany x_t_waiting H locs ls hl hP hD hS hf
    unfold f_X12_readsRule_b110 at hf
    refine lv_aload_n hx hb dX12_readsRule_110 rfl (lv_at hl 0 rfl) ?_
    refine x_get C hK hP fd_X12_44 0 rfl rfl dX12_readsRule_111 ?_
    refine lv_aload_n hx hb dX12_readsRule_114 rfl (lv_at hl 0 rfl) ?_
    refine x_get C hK hP fd_X12_227 0 rfl rfl dX12_readsRule_115 ?_
    refine lv_aload_n hx hb dX12_readsRule_118 rfl (lv_at hl 0 rfl) ?_
    refine x_get C hK hP fd_X12_173 0 rfl rfl dX12_readsRule_119 ?_
    obtain ⟨hi, hf⟩ := sI_e hf
    refine x_iast (ws' := [oX12 A_t A_t_now A_t_aside A_t_kept A_t_rhymeOf A_t_wasRhyme A_t_wordAt x_t_wordMany A_t_tape x_t_taped x_t_place0 x_t_length0 x_t_fault x_t_number0 x_t_open x_t_codeMany x_t_waiting x_t_saidMany x_t_clauses A_t_said A_t_waitsAt A_t_saidLetter A_t_saidFrom A_t_saidHalf A_t_saidTo A_t_codes A_t_clauseOf A_t_codeFrom A_t_codeHalf A_t_codeTo A_t_stack A_t_facts x_t_lines A_t_newWords A_t_roundFrom A_t_roundAt A_t_roundTimes x_t_newMany x_t_rounds x_t_itFrom x_t_itTimes x_t_writtenNow x_t_picturesNow x_t_usedNow x_t_chosen x_t_fearOfChosen A_t_leastFrom A_t_rowNow x_t_changesNow x_t_left0 A_t_bornOf A_t_trainsTo A_t_trainAt x_t_trainMany x_t_leastTries x_t_firstTrained x_t_isKept, iA cI 260 A_t_said v_t_said, iA cI 16 A_t_saidFrom v_t_saidFrom, iA cI 16 A_t_saidHalf (upd v_t_saidHalf x_t_saidMany.toNatClampNeg x_t_codeMany), iA cI 16 A_t_saidLetter v_t_saidLetter, iA cI 16 A_t_saidTo v_t_saidTo, iA cB 260 A_t_tape v_t_tape, iA cI 260 A_t_waitsAt v_t_waitsAt]) C hK hP hD hS 3 rfl hi rfl dX12_readsRule_122 ?_
    intro H locs hP hD hS
    refine lv_aload_n hx hb dX12_readsRule_123 rfl (lv_at hl 0 rfl) ?_
    obtain ⟨r1, w2, w3, w4, w5, w6, w7, w8, w9, hc10, hf⟩ := bd9_e hf
    refine x_callVI (ws' := [oX12 A_t A_t_now A_t_aside A_t_kept A_t_rhymeOf A_t_wasRhyme A_t_wordAt x_t_wordMany A_t_tape x_t_taped w8 x_t_length0 w5 w6 w7 w4 w9 x_t_saidMany x_t_clauses A_t_said A_t_waitsAt A_t_saidLetter A_t_saidFrom A_t_saidHalf A_t_saidTo A_t_codes A_t_clauseOf A_t_codeFrom A_t_codeHalf A_t_codeTo A_t_stack A_t_facts x_t_lines A_t_newWords A_t_roundFrom A_t_roundAt A_t_roundTimes x_t_newMany x_t_rounds x_t_itFrom x_t_itTimes x_t_writtenNow x_t_picturesNow x_t_usedNow x_t_chosen x_t_fearOfChosen A_t_leastFrom A_t_rowNow x_t_changesNow x_t_left0 A_t_bornOf A_t_trainsTo A_t_trainAt x_t_trainMany x_t_leastTries x_t_firstTrained x_t_isKept, iA cI 260 A_t_said w2, iA cI 16 A_t_saidFrom v_t_saidFrom, iA cI 16 A_t_saidHalf (upd v_t_saidHalf x_t_saidMany.toNatClampNeg x_t_codeMany), iA cI 16 A_t_saidLetter v_t_saidLetter, iA cI 16 A_t_saidTo v_t_saidTo, iA cB 260 A_t_tape v_t_tape, iA cI 260 A_t_waitsAt w3]) (rest := []) C hK hP hD hS hA hl mf_X12_230 (c_X12_readsCondition hc10) [0, 1, 6, 7] 0 12 rfl rfl rfl rfl rfl rfl rfl rfl rfl rfl (Nat.le_of_ble_eq_true rfl) ⟨Nat.le_of_ble_eq_true rfl, Nat.le_of_ble_eq_true rfl⟩ ⟨Nat.le_refl _, Nat.le_refl _⟩ dX12_readsRule_124 ?_
    intro H locs hP hD hS
    refine lv_if_ne (tgt := 132) hx hb dX12_readsRule_127 (by decide) (fun q => ?_) (fun q => ?_)
    · have hf := if_f q hf
      refine lv_aload_n hx hb dX12_readsRule_132 rfl (lv_at hl 0 rfl) ?_
      refine x_get C hK hP fd_X12_47 0 rfl rfl dX12_readsRule_133 ?_
      refine lv_aload_n hx hb dX12_readsRule_136 rfl (lv_at hl 0 rfl) ?_
      refine x_get C hK hP fd_X12_227 0 rfl rfl dX12_readsRule_137 ?_
      refine lv_aload_n hx hb dX12_readsRule_140 rfl (lv_at hl 0 rfl) ?_
      refine x_get C hK hP fd_X12_173 0 rfl rfl dX12_readsRule_141 ?_
      obtain ⟨hi, hf⟩ := sI_e hf
      refine x_iast (ws' := [oX12 A_t A_t_now A_t_aside A_t_kept A_t_rhymeOf A_t_wasRhyme A_t_wordAt x_t_wordMany A_t_tape x_t_taped w8 x_t_length0 w5 w6 w7 w4 w9 x_t_saidMany x_t_clauses A_t_said A_t_waitsAt A_t_saidLetter A_t_saidFrom A_t_saidHalf A_t_saidTo A_t_codes A_t_clauseOf A_t_codeFrom A_t_codeHalf A_t_codeTo A_t_stack A_t_facts x_t_lines A_t_newWords A_t_roundFrom A_t_roundAt A_t_roundTimes x_t_newMany x_t_rounds x_t_itFrom x_t_itTimes x_t_writtenNow x_t_picturesNow x_t_usedNow x_t_chosen x_t_fearOfChosen A_t_leastFrom A_t_rowNow x_t_changesNow x_t_left0 A_t_bornOf A_t_trainsTo A_t_trainAt x_t_trainMany x_t_leastTries x_t_firstTrained x_t_isKept, iA cI 260 A_t_said w2, iA cI 16 A_t_saidFrom v_t_saidFrom, iA cI 16 A_t_saidHalf (upd v_t_saidHalf x_t_saidMany.toNatClampNeg x_t_codeMany), iA cI 16 A_t_saidLetter v_t_saidLetter, iA cI 16 A_t_saidTo (upd v_t_saidTo x_t_saidMany.toNatClampNeg w4), iA cB 260 A_t_tape v_t_tape, iA cI 260 A_t_waitsAt w3]) C hK hP hD hS 5 rfl hi rfl dX12_readsRule_144 ?_
      intro H locs hP hD hS
      refine lv_aload_n hx hb dX12_readsRule_145 rfl (lv_at hl 0 rfl) ?_
      refine lv_aload_n hx hb dX12_readsRule_146 rfl (lv_at hl 0 rfl) ?_
      refine x_get C hK hP fd_X12_227 0 rfl rfl dX12_readsRule_147 ?_
      refine lv_iconst (v := 1) hx hb dX12_readsRule_150 (by decide) ?_
      refine lv_iadd hx hb dX12_readsRule_151 ?_
      refine x_put (ws' := [oX12 A_t A_t_now A_t_aside A_t_kept A_t_rhymeOf A_t_wasRhyme A_t_wordAt x_t_wordMany A_t_tape x_t_taped w8 x_t_length0 w5 w6 w7 w4 w9 (x_t_saidMany + (1 : Int32)) x_t_clauses A_t_said A_t_waitsAt A_t_saidLetter A_t_saidFrom A_t_saidHalf A_t_saidTo A_t_codes A_t_clauseOf A_t_codeFrom A_t_codeHalf A_t_codeTo A_t_stack A_t_facts x_t_lines A_t_newWords A_t_roundFrom A_t_roundAt A_t_roundTimes x_t_newMany x_t_rounds x_t_itFrom x_t_itTimes x_t_writtenNow x_t_picturesNow x_t_usedNow x_t_chosen x_t_fearOfChosen A_t_leastFrom A_t_rowNow x_t_changesNow x_t_left0 A_t_bornOf A_t_trainsTo A_t_trainAt x_t_trainMany x_t_leastTries x_t_firstTrained x_t_isKept, iA cI 260 A_t_said w2, iA cI 16 A_t_saidFrom v_t_saidFrom, iA cI 16 A_t_saidHalf (upd v_t_saidHalf x_t_saidMany.toNatClampNeg x_t_codeMany), iA cI 16 A_t_saidLetter v_t_saidLetter, iA cI 16 A_t_saidTo (upd v_t_saidTo x_t_saidMany.toNatClampNeg w4), iA cB 260 A_t_tape v_t_tape, iA cI 260 A_t_waitsAt w3]) C hK hP hD hS fp_X12_227 0 rfl rfl rfl (Nat.le_of_ble_eq_true rfl) rfl dX12_readsRule_152 ?_
      intro H locs hP hD hS
      refine lv_iconst (v := 1) hx hb dX12_readsRule_155 (by decide) ?_
      obtain ⟨rfl, rfl, rfl, rfl, rfl, rfl, rfl, rfl, rfl, rfl, rfl, rfl, rfl, rfl⟩ := ev14 hf
      exact x_zret C hr hlk (Or.inr rfl) hP hD hS dX12_readsRule_156
    · have hf := if_t q hf
      refine lv_iconst (v := 0) hx hb dX12_readsRule_130 (by decide) ?_
      obtain ⟨rfl, rfl, rfl, rfl, rfl, rfl, rfl, rfl, rfl, rfl, rfl, rfl, rfl, rfl⟩ := ev14 hf
      exact x_zret C hr hlk (Or.inl rfl) hP hD hS dX12_readsRule_131
  have hb_33 : ∀ (v_t_said : (Nat → Int32)) (v_t_saidFrom : (Nat → Int32)) (v_t_saidHalf : (Nat → Int32)) (v_t_saidLetter : (Nat → Int32)) (v_t_saidTo : (Nat → Int32)) (v_t_waitsAt : (Nat → Int32)) (x_t_codeMany : Int32) (x_t_fault : Int32) (x_t_number0 : Int32) (x_t_open : Int32) (x_t_place0 : Int32) (x_t_saidMany : Int32) (x_t_waiting : Int32) (l1 : Int32) (H : Heap) (locs : List Loc) (ls : Array Slot), lv_has ls 2 [(0, .ref A_t), (1, .int l1)] → va_P D vwCl [oX12 A_t A_t_now A_t_aside A_t_kept A_t_rhymeOf A_t_wasRhyme A_t_wordAt x_t_wordMany A_t_tape x_t_taped x_t_place0 x_t_length0 x_t_fault x_t_number0 x_t_open x_t_codeMany x_t_waiting x_t_saidMany x_t_clauses A_t_said A_t_waitsAt A_t_saidLetter A_t_saidFrom A_t_saidHalf A_t_saidTo A_t_codes A_t_clauseOf A_t_codeFrom A_t_codeHalf A_t_codeTo A_t_stack A_t_facts x_t_lines A_t_newWords A_t_roundFrom A_t_roundAt A_t_roundTimes x_t_newMany x_t_rounds x_t_itFrom x_t_itTimes x_t_writtenNow x_t_picturesNow x_t_usedNow x_t_chosen x_t_fearOfChosen A_t_leastFrom A_t_rowNow x_t_changesNow x_t_left0 A_t_bornOf A_t_trainsTo A_t_trainAt x_t_trainMany x_t_leastTries x_t_firstTrained x_t_isKept, iA cI 260 A_t_said v_t_said, iA cI 16 A_t_saidFrom v_t_saidFrom, iA cI 16 A_t_saidHalf v_t_saidHalf, iA cI 16 A_t_saidLetter v_t_saidLetter, iA cI 16 A_t_saidTo v_t_saidTo, iA cB 260 A_t_tape v_t_tape, iA cI 260 A_t_waitsAt v_t_waitsAt] H → va_D A [oX12 A_t A_t_now A_t_aside A_t_kept A_t_rhymeOf A_t_wasRhyme A_t_wordAt x_t_wordMany A_t_tape x_t_taped x_t_place0 x_t_length0 x_t_fault x_t_number0 x_t_open x_t_codeMany x_t_waiting x_t_saidMany x_t_clauses A_t_said A_t_waitsAt A_t_saidLetter A_t_saidFrom A_t_saidHalf A_t_saidTo A_t_codes A_t_clauseOf A_t_codeFrom A_t_codeHalf A_t_codeTo A_t_stack A_t_facts x_t_lines A_t_newWords A_t_roundFrom A_t_roundAt A_t_roundTimes x_t_newMany x_t_rounds x_t_itFrom x_t_itTimes x_t_writtenNow x_t_picturesNow x_t_usedNow x_t_chosen x_t_fearOfChosen A_t_leastFrom A_t_rowNow x_t_changesNow x_t_left0 A_t_bornOf A_t_trainsTo A_t_trainAt x_t_trainMany x_t_leastTries x_t_firstTrained x_t_isKept, iA cI 260 A_t_said v_t_said, iA cI 16 A_t_saidFrom v_t_saidFrom, iA cI 16 A_t_saidHalf v_t_saidHalf, iA cI 16 A_t_saidLetter v_t_saidLetter, iA cI 16 A_t_saidTo v_t_saidTo, iA cB 260 A_t_tape v_t_tape, iA cI 260 A_t_waitsAt v_t_waitsAt] → va_S A s.heap H locs → f_X12_readsRule_b33 v_t_tape x_t_length0 v_t_said v_t_saidFrom v_t_saidHalf v_t_saidLetter v_t_saidTo v_t_waitsAt x_t_codeMany x_t_fault x_t_number0 x_t_open x_t_place0 x_t_saidMany x_t_waiting l1 = some (o_r, o_v_t_said, o_v_t_saidFrom, o_v_t_saidHalf, o_v_t_saidLetter, o_v_t_saidTo, o_v_t_waitsAt, o_x_t_codeMany, o_x_t_fault, o_x_t_number0, o_x_t_open, o_x_t_place0, o_x_t_saidMany, o_x_t_waiting) → W p l e { frames := 7, cells := 0, slots := 0, locals := 145 } s m ([.ref A_t] : List Value).toArray below meth c H locs 0 0 (MQ below (PoI D A [oX12 A_t A_t_now A_t_aside A_t_kept A_t_rhymeOf A_t_wasRhyme A_t_wordAt x_t_wordMany A_t_tape x_t_taped o_x_t_place0 x_t_length0 o_x_t_fault o_x_t_number0 o_x_t_open o_x_t_codeMany o_x_t_waiting o_x_t_saidMany x_t_clauses A_t_said A_t_waitsAt A_t_saidLetter A_t_saidFrom A_t_saidHalf A_t_saidTo A_t_codes A_t_clauseOf A_t_codeFrom A_t_codeHalf A_t_codeTo A_t_stack A_t_facts x_t_lines A_t_newWords A_t_roundFrom A_t_roundAt A_t_roundTimes x_t_newMany x_t_rounds x_t_itFrom x_t_itTimes x_t_writtenNow x_t_picturesNow x_t_usedNow x_t_chosen x_t_fearOfChosen A_t_leastFrom A_t_rowNow x_t_changesNow x_t_left0 A_t_bornOf A_t_trainsTo A_t_trainAt x_t_trainMany x_t_leastTries x_t_firstTrained x_t_isKept, iA cI 260 A_t_said o_v_t_said, iA cI 16 A_t_saidFrom o_v_t_saidFrom, iA cI 16 A_t_saidHalf o_v_t_saidHalf, iA cI 16 A_t_saidLetter o_v_t_saidLetter, iA cI 16 A_t_saidTo o_v_t_saidTo, iA cB 260 A_t_tape v_t_tape, iA cI 260 A_t_waitsAt o_v_t_waitsAt] o_r) ([.ref A_t] : List Value).toArray s 0 0 A) (F0 m 33 ls []) := by
    intro v_t_said v_t_saidFrom v_t_saidHalf v_t_saidLetter v_t_saidTo v_t_waitsAt x_t_codeMany x_t_fault x_t_number0 x_t_open x_t_place0 x_t_saidMany x_t_waiting l1 H locs ls hl hP hD hS hf
    unfold f_X12_readsRule_b33 at hf
    refine lv_aload_n hx hb dX12_readsRule_33 rfl (lv_at hl 0 rfl) ?_
    refine x_get C hK hP fd_X12_227 0 rfl rfl dX12_readsRule_34 ?_
    refine lv_bipush (v := 16) hx hb dX12_readsRule_37 (by decide) ?_
    refine lv_icmp_ne (tgt := 52) hx hb dX12_readsRule_39 (by decide) (fun q => ?_) (fun q => ?_)
    · have hf := if_f q hf
      refine lv_aload_n hx hb dX12_readsRule_52 rfl (lv_at hl 0 rfl) ?_
      refine x_get C hK hP fd_X12_38 0 rfl rfl dX12_readsRule_53 ?_
      refine lv_aload_n hx hb dX12_readsRule_56 rfl (lv_at hl 0 rfl) ?_
      refine x_get C hK hP fd_X12_227 0 rfl rfl dX12_readsRule_57 ?_
      refine lv_iload_n hx hb dX12_readsRule_60 rfl (lv_at hl 1 rfl) ?_
      obtain ⟨hi, hf⟩ := sI_e hf
      refine x_iast (ws' := [oX12 A_t A_t_now A_t_aside A_t_kept A_t_rhymeOf A_t_wasRhyme A_t_wordAt x_t_wordMany A_t_tape x_t_taped x_t_place0 x_t_length0 x_t_fault x_t_number0 x_t_open x_t_codeMany x_t_waiting x_t_saidMany x_t_clauses A_t_said A_t_waitsAt A_t_saidLetter A_t_saidFrom A_t_saidHalf A_t_saidTo A_t_codes A_t_clauseOf A_t_codeFrom A_t_codeHalf A_t_codeTo A_t_stack A_t_facts x_t_lines A_t_newWords A_t_roundFrom A_t_roundAt A_t_roundTimes x_t_newMany x_t_rounds x_t_itFrom x_t_itTimes x_t_writtenNow x_t_picturesNow x_t_usedNow x_t_chosen x_t_fearOfChosen A_t_leastFrom A_t_rowNow x_t_changesNow x_t_left0 A_t_bornOf A_t_trainsTo A_t_trainAt x_t_trainMany x_t_leastTries x_t_firstTrained x_t_isKept, iA cI 260 A_t_said v_t_said, iA cI 16 A_t_saidFrom v_t_saidFrom, iA cI 16 A_t_saidHalf v_t_saidHalf, iA cI 16 A_t_saidLetter (upd v_t_saidLetter x_t_saidMany.toNatClampNeg l1), iA cI 16 A_t_saidTo v_t_saidTo, iA cB 260 A_t_tape v_t_tape, iA cI 260 A_t_waitsAt v_t_waitsAt]) C hK hP hD hS 4 rfl hi rfl dX12_readsRule_61 ?_
      intro H locs hP hD hS
      refine lv_aload_n hx hb dX12_readsRule_62 rfl (lv_at hl 0 rfl) ?_
      refine lv_aload_n hx hb dX12_readsRule_63 rfl (lv_at hl 0 rfl) ?_
      refine x_get C hK hP fd_X12_150 0 rfl rfl dX12_readsRule_64 ?_
      refine lv_iconst (v := 1) hx hb dX12_readsRule_67 (by decide) ?_
      refine lv_iadd hx hb dX12_readsRule_68 ?_
      refine x_put (ws' := [oX12 A_t A_t_now A_t_aside A_t_kept A_t_rhymeOf A_t_wasRhyme A_t_wordAt x_t_wordMany A_t_tape x_t_taped (x_t_place0 + (1 : Int32)) x_t_length0 x_t_fault x_t_number0 x_t_open x_t_codeMany x_t_waiting x_t_saidMany x_t_clauses A_t_said A_t_waitsAt A_t_saidLetter A_t_saidFrom A_t_saidHalf A_t_saidTo A_t_codes A_t_clauseOf A_t_codeFrom A_t_codeHalf A_t_codeTo A_t_stack A_t_facts x_t_lines A_t_newWords A_t_roundFrom A_t_roundAt A_t_roundTimes x_t_newMany x_t_rounds x_t_itFrom x_t_itTimes x_t_writtenNow x_t_picturesNow x_t_usedNow x_t_chosen x_t_fearOfChosen A_t_leastFrom A_t_rowNow x_t_changesNow x_t_left0 A_t_bornOf A_t_trainsTo A_t_trainAt x_t_trainMany x_t_leastTries x_t_firstTrained x_t_isKept, iA cI 260 A_t_said v_t_said, iA cI 16 A_t_saidFrom v_t_saidFrom, iA cI 16 A_t_saidHalf v_t_saidHalf, iA cI 16 A_t_saidLetter (upd v_t_saidLetter x_t_saidMany.toNatClampNeg l1), iA cI 16 A_t_saidTo v_t_saidTo, iA cB 260 A_t_tape v_t_tape, iA cI 260 A_t_waitsAt v_t_waitsAt]) C hK hP hD hS fp_X12_150 0 rfl rfl rfl (Nat.le_of_ble_eq_true rfl) rfl dX12_readsRule_69 ?_
      intro H locs hP hD hS
      refine lv_aload_n hx hb dX12_readsRule_72 rfl (lv_at hl 0 rfl) ?_
      refine x_get C hK hP fd_X12_41 0 rfl rfl dX12_readsRule_73 ?_
      refine lv_aload_n hx hb dX12_readsRule_76 rfl (lv_at hl 0 rfl) ?_
      refine x_get C hK hP fd_X12_227 0 rfl rfl dX12_readsRule_77 ?_
      refine lv_aload_n hx hb dX12_readsRule_80 rfl (lv_at hl 0 rfl) ?_
      refine x_get C hK hP fd_X12_173 0 rfl rfl dX12_readsRule_81 ?_
      obtain ⟨hi, hf⟩ := sI_e hf
      refine x_iast (ws' := [oX12 A_t A_t_now A_t_aside A_t_kept A_t_rhymeOf A_t_wasRhyme A_t_wordAt x_t_wordMany A_t_tape x_t_taped (x_t_place0 + (1 : Int32)) x_t_length0 x_t_fault x_t_number0 x_t_open x_t_codeMany x_t_waiting x_t_saidMany x_t_clauses A_t_said A_t_waitsAt A_t_saidLetter A_t_saidFrom A_t_saidHalf A_t_saidTo A_t_codes A_t_clauseOf A_t_codeFrom A_t_codeHalf A_t_codeTo A_t_stack A_t_facts x_t_lines A_t_newWords A_t_roundFrom A_t_roundAt A_t_roundTimes x_t_newMany x_t_rounds x_t_itFrom x_t_itTimes x_t_writtenNow x_t_picturesNow x_t_usedNow x_t_chosen x_t_fearOfChosen A_t_leastFrom A_t_rowNow x_t_changesNow x_t_left0 A_t_bornOf A_t_trainsTo A_t_trainAt x_t_trainMany x_t_leastTries x_t_firstTrained x_t_isKept, iA cI 260 A_t_said v_t_said, iA cI 16 A_t_saidFrom (upd v_t_saidFrom x_t_saidMany.toNatClampNeg x_t_codeMany), iA cI 16 A_t_saidHalf v_t_saidHalf, iA cI 16 A_t_saidLetter (upd v_t_saidLetter x_t_saidMany.toNatClampNeg l1), iA cI 16 A_t_saidTo v_t_saidTo, iA cB 260 A_t_tape v_t_tape, iA cI 260 A_t_waitsAt v_t_waitsAt]) C hK hP hD hS 2 rfl hi rfl dX12_readsRule_84 ?_
      intro H locs hP hD hS
      refine lv_aload_n hx hb dX12_readsRule_85 rfl (lv_at hl 0 rfl) ?_
      refine lv_iconst (v := 0) hx hb dX12_readsRule_86 (by decide) ?_
      refine x_put (ws' := [oX12 A_t A_t_now A_t_aside A_t_kept A_t_rhymeOf A_t_wasRhyme A_t_wordAt x_t_wordMany A_t_tape x_t_taped (x_t_place0 + (1 : Int32)) x_t_length0 x_t_fault x_t_number0 (0 : Int32) x_t_codeMany x_t_waiting x_t_saidMany x_t_clauses A_t_said A_t_waitsAt A_t_saidLetter A_t_saidFrom A_t_saidHalf A_t_saidTo A_t_codes A_t_clauseOf A_t_codeFrom A_t_codeHalf A_t_codeTo A_t_stack A_t_facts x_t_lines A_t_newWords A_t_roundFrom A_t_roundAt A_t_roundTimes x_t_newMany x_t_rounds x_t_itFrom x_t_itTimes x_t_writtenNow x_t_picturesNow x_t_usedNow x_t_chosen x_t_fearOfChosen A_t_leastFrom A_t_rowNow x_t_changesNow x_t_left0 A_t_bornOf A_t_trainsTo A_t_trainAt x_t_trainMany x_t_leastTries x_t_firstTrained x_t_isKept, iA cI 260 A_t_said v_t_said, iA cI 16 A_t_saidFrom (upd v_t_saidFrom x_t_saidMany.toNatClampNeg x_t_codeMany), iA cI 16 A_t_saidHalf v_t_saidHalf, iA cI 16 A_t_saidLetter (upd v_t_saidLetter x_t_saidMany.toNatClampNeg l1), iA cI 16 A_t_saidTo v_t_saidTo, iA cB 260 A_t_tape v_t_tape, iA cI 260 A_t_waitsAt v_t_waitsAt]) C hK hP hD hS fp_X12_177 0 rfl rfl rfl (Nat.le_of_ble_eq_true rfl) rfl dX12_readsRule_87 ?_
      intro H locs hP hD hS
      refine lv_aload_n hx hb dX12_readsRule_90 rfl (lv_at hl 0 rfl) ?_
      refine lv_iconst (v := 0) hx hb dX12_readsRule_91 (by decide) ?_
      refine x_put (ws' := [oX12 A_t A_t_now A_t_aside A_t_kept A_t_rhymeOf A_t_wasRhyme A_t_wordAt x_t_wordMany A_t_tape x_t_taped (x_t_place0 + (1 : Int32)) x_t_length0 x_t_fault x_t_number0 (0 : Int32) x_t_codeMany (0 : Int32) x_t_saidMany x_t_clauses A_t_said A_t_waitsAt A_t_saidLetter A_t_saidFrom A_t_saidHalf A_t_saidTo A_t_codes A_t_clauseOf A_t_codeFrom A_t_codeHalf A_t_codeTo A_t_stack A_t_facts x_t_lines A_t_newWords A_t_roundFrom A_t_roundAt A_t_roundTimes x_t_newMany x_t_rounds x_t_itFrom x_t_itTimes x_t_writtenNow x_t_picturesNow x_t_usedNow x_t_chosen x_t_fearOfChosen A_t_leastFrom A_t_rowNow x_t_changesNow x_t_left0 A_t_bornOf A_t_trainsTo A_t_trainAt x_t_trainMany x_t_leastTries x_t_firstTrained x_t_isKept, iA cI 260 A_t_said v_t_said, iA cI 16 A_t_saidFrom (upd v_t_saidFrom x_t_saidMany.toNatClampNeg x_t_codeMany), iA cI 16 A_t_saidHalf v_t_saidHalf, iA cI 16 A_t_saidLetter (upd v_t_saidLetter x_t_saidMany.toNatClampNeg l1), iA cI 16 A_t_saidTo v_t_saidTo, iA cB 260 A_t_tape v_t_tape, iA cI 260 A_t_waitsAt v_t_waitsAt]) C hK hP hD hS fp_X12_180 0 rfl rfl rfl (Nat.le_of_ble_eq_true rfl) rfl dX12_readsRule_92 ?_
      intro H locs hP hD hS
      refine lv_iload_n hx hb dX12_readsRule_95 rfl (lv_at hl 1 rfl) ?_
      refine lv_bipush (v := 120) hx hb dX12_readsRule_96 (by decide) ?_
      refine lv_icmp_eq (tgt := 110) hx hb dX12_readsRule_98 (by decide) (fun q => ?_) (fun q => ?_)
      · have hf := if_t q hf
        exact hb_110 v_t_said (upd v_t_saidFrom x_t_saidMany.toNatClampNeg x_t_codeMany) v_t_saidHalf (upd v_t_saidLetter x_t_saidMany.toNatClampNeg l1) v_t_saidTo v_t_waitsAt x_t_codeMany x_t_fault x_t_number0 (0 : Int32) (x_t_place0 + (1 : Int32)) x_t_saidMany (0 : Int32) _ _ ls (lv_sub hl [0] rfl) hP hD hS hf
      · have hf := if_f q hf
        refine lv_aload_n hx hb dX12_readsRule_101 rfl (lv_at hl 0 rfl) ?_
        obtain ⟨r11, w12, w13, w14, w15, w16, w17, w18, w19, hc20, hf⟩ := bd9_e hf
        refine x_callVI (ws' := [oX12 A_t A_t_now A_t_aside A_t_kept A_t_rhymeOf A_t_wasRhyme A_t_wordAt x_t_wordMany A_t_tape x_t_taped w18 x_t_length0 w15 w16 w17 w14 w19 x_t_saidMany x_t_clauses A_t_said A_t_waitsAt A_t_saidLetter A_t_saidFrom A_t_saidHalf A_t_saidTo A_t_codes A_t_clauseOf A_t_codeFrom A_t_codeHalf A_t_codeTo A_t_stack A_t_facts x_t_lines A_t_newWords A_t_roundFrom A_t_roundAt A_t_roundTimes x_t_newMany x_t_rounds x_t_itFrom x_t_itTimes x_t_writtenNow x_t_picturesNow x_t_usedNow x_t_chosen x_t_fearOfChosen A_t_leastFrom A_t_rowNow x_t_changesNow x_t_left0 A_t_bornOf A_t_trainsTo A_t_trainAt x_t_trainMany x_t_leastTries x_t_firstTrained x_t_isKept, iA cI 260 A_t_said w12, iA cI 16 A_t_saidFrom (upd v_t_saidFrom x_t_saidMany.toNatClampNeg x_t_codeMany), iA cI 16 A_t_saidHalf v_t_saidHalf, iA cI 16 A_t_saidLetter (upd v_t_saidLetter x_t_saidMany.toNatClampNeg l1), iA cI 16 A_t_saidTo v_t_saidTo, iA cB 260 A_t_tape v_t_tape, iA cI 260 A_t_waitsAt w13]) (rest := []) C hK hP hD hS hA hl mf_X12_212 (c_X12_readsSum hc20) [0, 1, 6, 7] 0 12 rfl rfl rfl rfl rfl rfl rfl rfl rfl rfl (Nat.le_of_ble_eq_true rfl) ⟨Nat.le_of_ble_eq_true rfl, Nat.le_of_ble_eq_true rfl⟩ ⟨Nat.le_refl _, Nat.le_refl _⟩ dX12_readsRule_102 ?_
        intro H locs hP hD hS
        refine lv_if_ne (tgt := 110) hx hb dX12_readsRule_105 (by decide) (fun q => ?_) (fun q => ?_)
        · have hf := if_f q hf
          exact hb_110 w12 (upd v_t_saidFrom x_t_saidMany.toNatClampNeg x_t_codeMany) v_t_saidHalf (upd v_t_saidLetter x_t_saidMany.toNatClampNeg l1) v_t_saidTo w13 w14 w15 w16 w17 w18 x_t_saidMany w19 _ _ ls (lv_sub hl [0] rfl) hP hD hS hf
        · have hf := if_t q hf
          refine lv_iconst (v := 0) hx hb dX12_readsRule_108 (by decide) ?_
          obtain ⟨rfl, rfl, rfl, rfl, rfl, rfl, rfl, rfl, rfl, rfl, rfl, rfl, rfl, rfl⟩ := ev14 hf
          exact x_zret C hr hlk (Or.inl rfl) hP hD hS dX12_readsRule_109
    · have hf := if_t q hf
      refine lv_aload_n hx hb dX12_readsRule_42 rfl (lv_at hl 0 rfl) ?_
      refine lv_iconst (v := 4) hx hb dX12_readsRule_43 (by decide) ?_
      refine lv_aload_n hx hb dX12_readsRule_44 rfl (lv_at hl 0 rfl) ?_
      refine x_get C hK hP fd_X12_150 0 rfl rfl dX12_readsRule_45 ?_
      obtain ⟨r21, w22, hc23, hf⟩ := bd2_e hf
      refine x_callVI (ws' := [oX12 A_t A_t_now A_t_aside A_t_kept A_t_rhymeOf A_t_wasRhyme A_t_wordAt x_t_wordMany A_t_tape x_t_taped x_t_place0 x_t_length0 w22 x_t_number0 x_t_open x_t_codeMany x_t_waiting x_t_saidMany x_t_clauses A_t_said A_t_waitsAt A_t_saidLetter A_t_saidFrom A_t_saidHalf A_t_saidTo A_t_codes A_t_clauseOf A_t_codeFrom A_t_codeHalf A_t_codeTo A_t_stack A_t_facts x_t_lines A_t_newWords A_t_roundFrom A_t_roundAt A_t_roundTimes x_t_newMany x_t_rounds x_t_itFrom x_t_itTimes x_t_writtenNow x_t_picturesNow x_t_usedNow x_t_chosen x_t_fearOfChosen A_t_leastFrom A_t_rowNow x_t_changesNow x_t_left0 A_t_bornOf A_t_trainsTo A_t_trainAt x_t_trainMany x_t_leastTries x_t_firstTrained x_t_isKept, iA cI 260 A_t_said v_t_said, iA cI 16 A_t_saidFrom v_t_saidFrom, iA cI 16 A_t_saidHalf v_t_saidHalf, iA cI 16 A_t_saidLetter v_t_saidLetter, iA cI 16 A_t_saidTo v_t_saidTo, iA cB 260 A_t_tape v_t_tape, iA cI 260 A_t_waitsAt v_t_waitsAt]) (rest := []) C hK hP hD hS hA hl mf_X12_163 (c_X12_wrongAt hc23) [0] 0 12 rfl rfl rfl rfl rfl rfl rfl rfl rfl rfl (Nat.le_of_ble_eq_true rfl) ⟨Nat.le_of_ble_eq_true rfl, Nat.le_of_ble_eq_true rfl⟩ ⟨Nat.le_refl _, Nat.le_refl _⟩ dX12_readsRule_48 ?_
      intro H locs hP hD hS
      obtain ⟨hz, hf⟩ := zI_e hf
      obtain ⟨rfl, rfl, rfl, rfl, rfl, rfl, rfl, rfl, rfl, rfl, rfl, rfl, rfl, rfl⟩ := ev14 hf
      exact x_zret C hr hlk hz hP hD hS dX12_readsRule_51
  refine lv_aload_n hx hb dX12_readsRule_0 rfl (lv_at hl 0 rfl) ?_
  obtain ⟨r24, hc25, hf⟩ := bd1_e hf
  refine x_callVI (ws' := [oX12 A_t A_t_now A_t_aside A_t_kept A_t_rhymeOf A_t_wasRhyme A_t_wordAt x_t_wordMany A_t_tape x_t_taped x_t_place0 x_t_length0 x_t_fault x_t_number0 x_t_open x_t_codeMany x_t_waiting x_t_saidMany x_t_clauses A_t_said A_t_waitsAt A_t_saidLetter A_t_saidFrom A_t_saidHalf A_t_saidTo A_t_codes A_t_clauseOf A_t_codeFrom A_t_codeHalf A_t_codeTo A_t_stack A_t_facts x_t_lines A_t_newWords A_t_roundFrom A_t_roundAt A_t_roundTimes x_t_newMany x_t_rounds x_t_itFrom x_t_itTimes x_t_writtenNow x_t_picturesNow x_t_usedNow x_t_chosen x_t_fearOfChosen A_t_leastFrom A_t_rowNow x_t_changesNow x_t_left0 A_t_bornOf A_t_trainsTo A_t_trainAt x_t_trainMany x_t_leastTries x_t_firstTrained x_t_isKept, iA cI 260 A_t_said v_t_said, iA cI 16 A_t_saidFrom v_t_saidFrom, iA cI 16 A_t_saidHalf v_t_saidHalf, iA cI 16 A_t_saidLetter v_t_saidLetter, iA cI 16 A_t_saidTo v_t_saidTo, iA cB 260 A_t_tape v_t_tape, iA cI 260 A_t_waitsAt v_t_waitsAt]) (rest := []) C hK hP hD hS hA hl mf_X12_156 (c_X12_here hc25) [0, 6] 0 12 rfl rfl rfl rfl rfl rfl rfl rfl rfl rfl (Nat.le_of_ble_eq_true rfl) ⟨Nat.le_of_ble_eq_true rfl, Nat.le_of_ble_eq_true rfl⟩ ⟨Nat.le_refl _, Nat.le_refl _⟩ dX12_readsRule_1 ?_
  intro H locs hP hD hS
  refine lv_istore_n (lv' := [(1, .int r24), (0, .ref A_t)]) hx hb dX12_readsRule_4 rfl hl (by decide) rfl (fun ls hl => ?_)
  refine lv_iload_n hx hb dX12_readsRule_5 rfl (lv_at hl 0 rfl) ?_
  refine lv_bipush (v := 102) hx hb dX12_readsRule_6 (by decide) ?_
  refine lv_icmp_eq (tgt := 33) hx hb dX12_readsRule_8 (by decide) (fun q => ?_) (fun q => ?_)
  · have hf := if_t q hf
    exact hb_33 v_t_said v_t_saidFrom v_t_saidHalf v_t_saidLetter v_t_saidTo v_t_waitsAt x_t_codeMany x_t_fault x_t_number0 x_t_open x_t_place0 x_t_saidMany x_t_waiting r24 _ _ ls (lv_sub hl [1, 0] rfl) hP hD hS hf
  · have hf := if_f q hf
    refine lv_iload_n hx hb dX12_readsRule_11 rfl (lv_at hl 0 rfl) ?_
    refine lv_bipush (v := 101) hx hb dX12_readsRule_12 (by decide) ?_
    refine lv_icmp_eq (tgt := 33) hx hb dX12_readsRule_14 (by decide) (fun q => ?_) (fun q => ?_)
    · have hf := if_t q hf
      exact hb_33 v_t_said v_t_saidFrom v_t_saidHalf v_t_saidLetter v_t_saidTo v_t_waitsAt x_t_codeMany x_t_fault x_t_number0 x_t_open x_t_place0 x_t_saidMany x_t_waiting r24 _ _ ls (lv_sub hl [1, 0] rfl) hP hD hS hf
    · have hf := if_f q hf
      refine lv_iload_n hx hb dX12_readsRule_17 rfl (lv_at hl 0 rfl) ?_
      refine lv_bipush (v := 120) hx hb dX12_readsRule_18 (by decide) ?_
      refine lv_icmp_eq (tgt := 33) hx hb dX12_readsRule_20 (by decide) (fun q => ?_) (fun q => ?_)
      · have hf := if_t q hf
        exact hb_33 v_t_said v_t_saidFrom v_t_saidHalf v_t_saidLetter v_t_saidTo v_t_waitsAt x_t_codeMany x_t_fault x_t_number0 x_t_open x_t_place0 x_t_saidMany x_t_waiting r24 _ _ ls (lv_sub hl [1, 0] rfl) hP hD hS hf
      · have hf := if_f q hf
        refine lv_aload_n hx hb dX12_readsRule_23 rfl (lv_at hl 1 rfl) ?_
        refine lv_iconst (v := 1) hx hb dX12_readsRule_24 (by decide) ?_
        refine lv_aload_n hx hb dX12_readsRule_25 rfl (lv_at hl 1 rfl) ?_
        refine x_get C hK hP fd_X12_150 0 rfl rfl dX12_readsRule_26 ?_
        obtain ⟨r26, w27, hc28, hf⟩ := bd2_e hf
        refine x_callVI (ws' := [oX12 A_t A_t_now A_t_aside A_t_kept A_t_rhymeOf A_t_wasRhyme A_t_wordAt x_t_wordMany A_t_tape x_t_taped x_t_place0 x_t_length0 w27 x_t_number0 x_t_open x_t_codeMany x_t_waiting x_t_saidMany x_t_clauses A_t_said A_t_waitsAt A_t_saidLetter A_t_saidFrom A_t_saidHalf A_t_saidTo A_t_codes A_t_clauseOf A_t_codeFrom A_t_codeHalf A_t_codeTo A_t_stack A_t_facts x_t_lines A_t_newWords A_t_roundFrom A_t_roundAt A_t_roundTimes x_t_newMany x_t_rounds x_t_itFrom x_t_itTimes x_t_writtenNow x_t_picturesNow x_t_usedNow x_t_chosen x_t_fearOfChosen A_t_leastFrom A_t_rowNow x_t_changesNow x_t_left0 A_t_bornOf A_t_trainsTo A_t_trainAt x_t_trainMany x_t_leastTries x_t_firstTrained x_t_isKept, iA cI 260 A_t_said v_t_said, iA cI 16 A_t_saidFrom v_t_saidFrom, iA cI 16 A_t_saidHalf v_t_saidHalf, iA cI 16 A_t_saidLetter v_t_saidLetter, iA cI 16 A_t_saidTo v_t_saidTo, iA cB 260 A_t_tape v_t_tape, iA cI 260 A_t_waitsAt v_t_waitsAt]) (rest := []) C hK hP hD hS hA hl mf_X12_163 (c_X12_wrongAt hc28) [0] 0 12 rfl rfl rfl rfl rfl rfl rfl rfl rfl rfl (Nat.le_of_ble_eq_true rfl) ⟨Nat.le_of_ble_eq_true rfl, Nat.le_of_ble_eq_true rfl⟩ ⟨Nat.le_refl _, Nat.le_refl _⟩ dX12_readsRule_29 ?_
        intro H locs hP hD hS
        obtain ⟨hz, hf⟩ := zI_e hf
        obtain ⟨rfl, rfl, rfl, rfl, rfl, rfl, rfl, rfl, rfl, rfl, rfl, rfl, rfl, rfl⟩ := ev14 hf
        exact x_zret C hr hlk hz hP hD hS dX12_readsRule_32
def f_X12_beginsText (x_t_codeMany : Int32) (x_t_length0 : Int32) (x_t_place0 : Int32) (x_t_saidMany : Int32) (a1 : Int32) : Option (Int32 × Int32 × Int32 × Int32) :=
  some ((0 : Int32), a1, (0 : Int32), (0 : Int32))
set_option maxHeartbeats 4000000 in
set_option maxRecDepth 100000 in
theorem c_X12_beginsText {l : Launch} {D : va_G} {cI cB : ClassId} {A_t A_t_now A_t_aside A_t_kept A_t_rhymeOf A_t_wasRhyme A_t_wordAt A_t_tape A_t_said A_t_waitsAt A_t_saidLetter A_t_saidFrom A_t_saidHalf A_t_saidTo A_t_codes A_t_clauseOf A_t_codeFrom A_t_codeHalf A_t_codeTo A_t_stack A_t_facts A_t_newWords A_t_roundFrom A_t_roundAt A_t_roundTimes A_t_leastFrom A_t_rowNow A_t_bornOf A_t_trainsTo A_t_trainAt : Nat} {x_t_wordMany x_t_taped x_t_place0 x_t_length0 x_t_fault x_t_number0 x_t_open x_t_codeMany x_t_waiting x_t_saidMany x_t_clauses x_t_lines x_t_newMany x_t_rounds x_t_itFrom x_t_itTimes x_t_writtenNow x_t_picturesNow x_t_usedNow x_t_chosen x_t_fearOfChosen x_t_changesNow x_t_left0 x_t_trainMany x_t_leastTries x_t_firstTrained x_t_isKept a1 : Int32} {o_x_t_codeMany o_x_t_length0 o_x_t_place0 o_x_t_saidMany : Int32} (hf : f_X12_beginsText x_t_codeMany x_t_length0 x_t_place0 x_t_saidMany a1 = some (o_x_t_codeMany, o_x_t_length0, o_x_t_place0, o_x_t_saidMany)) : CtV l D cI cB yX12_beginsText cX12_beginsText 2 0 0 [.ref A_t, .int a1] [oX12 A_t A_t_now A_t_aside A_t_kept A_t_rhymeOf A_t_wasRhyme A_t_wordAt x_t_wordMany A_t_tape x_t_taped x_t_place0 x_t_length0 x_t_fault x_t_number0 x_t_open x_t_codeMany x_t_waiting x_t_saidMany x_t_clauses A_t_said A_t_waitsAt A_t_saidLetter A_t_saidFrom A_t_saidHalf A_t_saidTo A_t_codes A_t_clauseOf A_t_codeFrom A_t_codeHalf A_t_codeTo A_t_stack A_t_facts x_t_lines A_t_newWords A_t_roundFrom A_t_roundAt A_t_roundTimes x_t_newMany x_t_rounds x_t_itFrom x_t_itTimes x_t_writtenNow x_t_picturesNow x_t_usedNow x_t_chosen x_t_fearOfChosen A_t_leastFrom A_t_rowNow x_t_changesNow x_t_left0 A_t_bornOf A_t_trainsTo A_t_trainAt x_t_trainMany x_t_leastTries x_t_firstTrained x_t_isKept] [oX12 A_t A_t_now A_t_aside A_t_kept A_t_rhymeOf A_t_wasRhyme A_t_wordAt x_t_wordMany A_t_tape x_t_taped o_x_t_place0 o_x_t_length0 x_t_fault x_t_number0 x_t_open o_x_t_codeMany x_t_waiting o_x_t_saidMany x_t_clauses A_t_said A_t_waitsAt A_t_saidLetter A_t_saidFrom A_t_saidHalf A_t_saidTo A_t_codes A_t_clauseOf A_t_codeFrom A_t_codeHalf A_t_codeTo A_t_stack A_t_facts x_t_lines A_t_newWords A_t_roundFrom A_t_roundAt A_t_roundTimes x_t_newMany x_t_rounds x_t_itFrom x_t_itTimes x_t_writtenNow x_t_picturesNow x_t_usedNow x_t_chosen x_t_fearOfChosen A_t_leastFrom A_t_rowNow x_t_changesNow x_t_left0 A_t_bornOf A_t_trainsTo A_t_trainAt x_t_trainMany x_t_leastTries x_t_firstTrained x_t_isKept] := by
  refine x_startV (by decide) (Nat.le_of_ble_eq_true rfl) ?_
  intro p e s m below meth c A C hr hlk hA hK hP hD hS ls hl
  have hl : lv_has ls 2 [(0, .ref A_t), (1, .int a1)] := hl
  have hx := C.1
  have hb := C.2.1
  unfold f_X12_beginsText at hf
  refine lv_aload_n hx hb dX12_beginsText_0 rfl (lv_at hl 0 rfl) ?_
  refine lv_iconst (v := 0) hx hb dX12_beginsText_1 (by decide) ?_
  refine x_put (ws' := [oX12 A_t A_t_now A_t_aside A_t_kept A_t_rhymeOf A_t_wasRhyme A_t_wordAt x_t_wordMany A_t_tape x_t_taped (0 : Int32) x_t_length0 x_t_fault x_t_number0 x_t_open x_t_codeMany x_t_waiting x_t_saidMany x_t_clauses A_t_said A_t_waitsAt A_t_saidLetter A_t_saidFrom A_t_saidHalf A_t_saidTo A_t_codes A_t_clauseOf A_t_codeFrom A_t_codeHalf A_t_codeTo A_t_stack A_t_facts x_t_lines A_t_newWords A_t_roundFrom A_t_roundAt A_t_roundTimes x_t_newMany x_t_rounds x_t_itFrom x_t_itTimes x_t_writtenNow x_t_picturesNow x_t_usedNow x_t_chosen x_t_fearOfChosen A_t_leastFrom A_t_rowNow x_t_changesNow x_t_left0 A_t_bornOf A_t_trainsTo A_t_trainAt x_t_trainMany x_t_leastTries x_t_firstTrained x_t_isKept]) C hK hP hD hS fp_X12_150 0 rfl rfl rfl (Nat.le_of_ble_eq_true rfl) rfl dX12_beginsText_2 ?_
  intro H locs hP hD hS
  refine lv_aload_n hx hb dX12_beginsText_5 rfl (lv_at hl 0 rfl) ?_
  refine lv_iload_n hx hb dX12_beginsText_6 rfl (lv_at hl 1 rfl) ?_
  refine x_put (ws' := [oX12 A_t A_t_now A_t_aside A_t_kept A_t_rhymeOf A_t_wasRhyme A_t_wordAt x_t_wordMany A_t_tape x_t_taped (0 : Int32) a1 x_t_fault x_t_number0 x_t_open x_t_codeMany x_t_waiting x_t_saidMany x_t_clauses A_t_said A_t_waitsAt A_t_saidLetter A_t_saidFrom A_t_saidHalf A_t_saidTo A_t_codes A_t_clauseOf A_t_codeFrom A_t_codeHalf A_t_codeTo A_t_stack A_t_facts x_t_lines A_t_newWords A_t_roundFrom A_t_roundAt A_t_roundTimes x_t_newMany x_t_rounds x_t_itFrom x_t_itTimes x_t_writtenNow x_t_picturesNow x_t_usedNow x_t_chosen x_t_fearOfChosen A_t_leastFrom A_t_rowNow x_t_changesNow x_t_left0 A_t_bornOf A_t_trainsTo A_t_trainAt x_t_trainMany x_t_leastTries x_t_firstTrained x_t_isKept]) C hK hP hD hS fp_X12_153 0 rfl rfl rfl (Nat.le_of_ble_eq_true rfl) rfl dX12_beginsText_7 ?_
  intro H locs hP hD hS
  refine lv_aload_n hx hb dX12_beginsText_10 rfl (lv_at hl 0 rfl) ?_
  refine lv_iconst (v := 0) hx hb dX12_beginsText_11 (by decide) ?_
  refine x_put (ws' := [oX12 A_t A_t_now A_t_aside A_t_kept A_t_rhymeOf A_t_wasRhyme A_t_wordAt x_t_wordMany A_t_tape x_t_taped (0 : Int32) a1 x_t_fault x_t_number0 x_t_open (0 : Int32) x_t_waiting x_t_saidMany x_t_clauses A_t_said A_t_waitsAt A_t_saidLetter A_t_saidFrom A_t_saidHalf A_t_saidTo A_t_codes A_t_clauseOf A_t_codeFrom A_t_codeHalf A_t_codeTo A_t_stack A_t_facts x_t_lines A_t_newWords A_t_roundFrom A_t_roundAt A_t_roundTimes x_t_newMany x_t_rounds x_t_itFrom x_t_itTimes x_t_writtenNow x_t_picturesNow x_t_usedNow x_t_chosen x_t_fearOfChosen A_t_leastFrom A_t_rowNow x_t_changesNow x_t_left0 A_t_bornOf A_t_trainsTo A_t_trainAt x_t_trainMany x_t_leastTries x_t_firstTrained x_t_isKept]) C hK hP hD hS fp_X12_173 0 rfl rfl rfl (Nat.le_of_ble_eq_true rfl) rfl dX12_beginsText_12 ?_
  intro H locs hP hD hS
  refine lv_aload_n hx hb dX12_beginsText_15 rfl (lv_at hl 0 rfl) ?_
  refine lv_iconst (v := 0) hx hb dX12_beginsText_16 (by decide) ?_
  refine x_put (ws' := [oX12 A_t A_t_now A_t_aside A_t_kept A_t_rhymeOf A_t_wasRhyme A_t_wordAt x_t_wordMany A_t_tape x_t_taped (0 : Int32) a1 x_t_fault x_t_number0 x_t_open (0 : Int32) x_t_waiting (0 : Int32) x_t_clauses A_t_said A_t_waitsAt A_t_saidLetter A_t_saidFrom A_t_saidHalf A_t_saidTo A_t_codes A_t_clauseOf A_t_codeFrom A_t_codeHalf A_t_codeTo A_t_stack A_t_facts x_t_lines A_t_newWords A_t_roundFrom A_t_roundAt A_t_roundTimes x_t_newMany x_t_rounds x_t_itFrom x_t_itTimes x_t_writtenNow x_t_picturesNow x_t_usedNow x_t_chosen x_t_fearOfChosen A_t_leastFrom A_t_rowNow x_t_changesNow x_t_left0 A_t_bornOf A_t_trainsTo A_t_trainAt x_t_trainMany x_t_leastTries x_t_firstTrained x_t_isKept]) C hK hP hD hS fp_X12_227 0 rfl rfl rfl (Nat.le_of_ble_eq_true rfl) rfl dX12_beginsText_17 ?_
  intro H locs hP hD hS
  obtain ⟨rfl, rfl, rfl, rfl⟩ := ev4 hf
  exact x_vret C hr hlk hP hD hS dX12_beginsText_20
def f_X12_law_b19 (v_t_clauseOf : (Nat → Int32)) (v_t_codeFrom : (Nat → Int32)) (v_t_codeHalf : (Nat → Int32)) (v_t_codeTo : (Nat → Int32)) (v_t_codes : (Nat → Int32)) (v_t_said : (Nat → Int32)) (v_t_saidFrom : (Nat → Int32)) (v_t_saidHalf : (Nat → Int32)) (v_t_saidLetter : (Nat → Int32)) (v_t_saidTo : (Nat → Int32)) (v_t_waitsAt : (Nat → Int32)) (x_t_clauses : Int32) (x_t_codeMany : Int32) (x_t_fault : Int32) (x_t_length0 : Int32) (x_t_number0 : Int32) (x_t_open : Int32) (x_t_place0 : Int32) (x_t_saidMany : Int32) (x_t_taped : Int32) (x_t_waiting : Int32) : Option (Int32 × (Nat → Int32) × (Nat → Int32) × (Nat → Int32) × (Nat → Int32) × (Nat → Int32) × (Nat → Int32) × (Nat → Int32) × (Nat → Int32) × (Nat → Int32) × (Nat → Int32) × (Nat → Int32) × Int32 × Int32 × Int32 × Int32 × Int32 × Int32 × Int32 × Int32 × Int32 × Int32) :=
  some ((-1 : Int32), v_t_clauseOf, v_t_codeFrom, v_t_codeHalf, v_t_codeTo, v_t_codes, v_t_said, v_t_saidFrom, v_t_saidHalf, v_t_saidLetter, v_t_saidTo, v_t_waitsAt, x_t_clauses, x_t_codeMany, x_t_fault, x_t_length0, x_t_number0, x_t_open, x_t_place0, x_t_saidMany, x_t_taped, x_t_waiting)
def f_X12_law_b67 (k31 : (Nat → Int32) → (Nat → Int32) → (Nat → Int32) → (Nat → Int32) → (Nat → Int32) → (Nat → Int32) → (Nat → Int32) → (Nat → Int32) → (Nat → Int32) → (Nat → Int32) → (Nat → Int32) → Int32 → Int32 → Int32 → Int32 → Int32 → Int32 → Int32 → Int32 → Int32 → Int32 → Int32 → Option (Int32 × (Nat → Int32) × (Nat → Int32) × (Nat → Int32) × (Nat → Int32) × (Nat → Int32) × (Nat → Int32) × (Nat → Int32) × (Nat → Int32) × (Nat → Int32) × (Nat → Int32) × (Nat → Int32) × Int32 × Int32 × Int32 × Int32 × Int32 × Int32 × Int32 × Int32 × Int32 × Int32)) (v_t_clauseOf : (Nat → Int32)) (v_t_codeFrom : (Nat → Int32)) (v_t_codeHalf : (Nat → Int32)) (v_t_codeTo : (Nat → Int32)) (v_t_codes : (Nat → Int32)) (v_t_said : (Nat → Int32)) (v_t_saidFrom : (Nat → Int32)) (v_t_saidHalf : (Nat → Int32)) (v_t_saidLetter : (Nat → Int32)) (v_t_saidTo : (Nat → Int32)) (v_t_waitsAt : (Nat → Int32)) (x_t_clauses : Int32) (x_t_codeMany : Int32) (x_t_fault : Int32) (x_t_length0 : Int32) (x_t_number0 : Int32) (x_t_open : Int32) (x_t_place0 : Int32) (x_t_saidMany : Int32) (x_t_taped : Int32) (x_t_waiting : Int32) (s0 : Int32) : Option (Int32 × (Nat → Int32) × (Nat → Int32) × (Nat → Int32) × (Nat → Int32) × (Nat → Int32) × (Nat → Int32) × (Nat → Int32) × (Nat → Int32) × (Nat → Int32) × (Nat → Int32) × (Nat → Int32) × Int32 × Int32 × Int32 × Int32 × Int32 × Int32 × Int32 × Int32 × Int32 × Int32) :=
  k31 v_t_clauseOf v_t_codeFrom v_t_codeHalf v_t_codeTo v_t_codes v_t_said v_t_saidFrom v_t_saidHalf v_t_saidLetter v_t_saidTo v_t_waitsAt x_t_clauses x_t_codeMany x_t_fault x_t_length0 x_t_number0 x_t_open x_t_place0 x_t_saidMany x_t_taped x_t_waiting s0
def f_X12_law_b66 (k31 : (Nat → Int32) → (Nat → Int32) → (Nat → Int32) → (Nat → Int32) → (Nat → Int32) → (Nat → Int32) → (Nat → Int32) → (Nat → Int32) → (Nat → Int32) → (Nat → Int32) → (Nat → Int32) → Int32 → Int32 → Int32 → Int32 → Int32 → Int32 → Int32 → Int32 → Int32 → Int32 → Int32 → Option (Int32 × (Nat → Int32) × (Nat → Int32) × (Nat → Int32) × (Nat → Int32) × (Nat → Int32) × (Nat → Int32) × (Nat → Int32) × (Nat → Int32) × (Nat → Int32) × (Nat → Int32) × (Nat → Int32) × Int32 × Int32 × Int32 × Int32 × Int32 × Int32 × Int32 × Int32 × Int32 × Int32)) (v_t_clauseOf : (Nat → Int32)) (v_t_codeFrom : (Nat → Int32)) (v_t_codeHalf : (Nat → Int32)) (v_t_codeTo : (Nat → Int32)) (v_t_codes : (Nat → Int32)) (v_t_said : (Nat → Int32)) (v_t_saidFrom : (Nat → Int32)) (v_t_saidHalf : (Nat → Int32)) (v_t_saidLetter : (Nat → Int32)) (v_t_saidTo : (Nat → Int32)) (v_t_waitsAt : (Nat → Int32)) (x_t_clauses : Int32) (x_t_codeMany : Int32) (x_t_fault : Int32) (x_t_length0 : Int32) (x_t_number0 : Int32) (x_t_open : Int32) (x_t_place0 : Int32) (x_t_saidMany : Int32) (x_t_taped : Int32) (x_t_waiting : Int32) : Option (Int32 × (Nat → Int32) × (Nat → Int32) × (Nat → Int32) × (Nat → Int32) × (Nat → Int32) × (Nat → Int32) × (Nat → Int32) × (Nat → Int32) × (Nat → Int32) × (Nat → Int32) × (Nat → Int32) × Int32 × Int32 × Int32 × Int32 × Int32 × Int32 × Int32 × Int32 × Int32 × Int32) :=
  f_X12_law_b67 k31 v_t_clauseOf v_t_codeFrom v_t_codeHalf v_t_codeTo v_t_codes v_t_said v_t_saidFrom v_t_saidHalf v_t_saidLetter v_t_saidTo v_t_waitsAt x_t_clauses x_t_codeMany x_t_fault x_t_length0 x_t_number0 x_t_open x_t_place0 x_t_saidMany x_t_taped x_t_waiting (0 : Int32)
def f_X12_law_b123 : Nat → (Nat → Int32) → (Nat → Int32) → (Nat → Int32) → (Nat → Int32) → (Nat → Int32) → (Nat → Int32) → (Nat → Int32) → (Nat → Int32) → (Nat → Int32) → (Nat → Int32) → (Nat → Int32) → Int32 → Int32 → Int32 → Int32 → Int32 → Int32 → Int32 → Int32 → Int32 → Int32 → Int32 → Option (Int32 × (Nat → Int32) × (Nat → Int32) × (Nat → Int32) × (Nat → Int32) × (Nat → Int32) × (Nat → Int32) × (Nat → Int32) × (Nat → Int32) × (Nat → Int32) × (Nat → Int32) × (Nat → Int32) × Int32 × Int32 × Int32 × Int32 × Int32 × Int32 × Int32 × Int32 × Int32 × Int32)
  | 0, _, _, _, _, _, _, _, _, _, _, _, _, _, _, _, _, _, _, _, _, _, _ => none
  | n + 1, v_t_clauseOf, v_t_codeFrom, v_t_codeHalf, v_t_codeTo, v_t_codes, v_t_said, v_t_saidFrom, v_t_saidHalf, v_t_saidLetter, v_t_saidTo, v_t_waitsAt, x_t_clauses, x_t_codeMany, x_t_fault, x_t_length0, x_t_number0, x_t_open, x_t_place0, x_t_saidMany, x_t_taped, x_t_waiting, l3 =>
    if x_t_saidMany ≤ l3 then
      some (x_t_saidMany, v_t_clauseOf, v_t_codeFrom, v_t_codeHalf, v_t_codeTo, v_t_codes, v_t_said, v_t_saidFrom, v_t_saidHalf, v_t_saidLetter, v_t_saidTo, v_t_waitsAt, x_t_clauses, x_t_codeMany, x_t_fault, x_t_length0, x_t_number0, x_t_open, x_t_place0, x_t_saidMany, x_t_taped, x_t_waiting)
    else
      gI 16 v_t_saidLetter l3 (fun g1 =>
      sI 16 v_t_clauseOf l3 g1 (fun w2 =>
      gI 16 v_t_saidFrom l3 (fun g3 =>
      sI 16 v_t_codeFrom l3 g3 (fun w4 =>
      gI 16 v_t_saidHalf l3 (fun g5 =>
      sI 16 v_t_codeHalf l3 g5 (fun w6 =>
      gI 16 v_t_saidTo l3 (fun g7 =>
      sI 16 v_t_codeTo l3 g7 (fun w8 =>
      f_X12_law_b123 n w2 w4 w6 w8 v_t_codes v_t_said v_t_saidFrom v_t_saidHalf v_t_saidLetter v_t_saidTo v_t_waitsAt x_t_clauses x_t_codeMany x_t_fault x_t_length0 x_t_number0 x_t_open x_t_place0 x_t_saidMany x_t_taped x_t_waiting (l3 + (1 : Int32))))))))))
def f_X12_law_b95 : Nat → (Nat → Int32) → (Nat → Int32) → (Nat → Int32) → (Nat → Int32) → (Nat → Int32) → (Nat → Int32) → (Nat → Int32) → (Nat → Int32) → (Nat → Int32) → (Nat → Int32) → (Nat → Int32) → Int32 → Int32 → Int32 → Int32 → Int32 → Int32 → Int32 → Int32 → Int32 → Int32 → Int32 → Option (Int32 × (Nat → Int32) × (Nat → Int32) × (Nat → Int32) × (Nat → Int32) × (Nat → Int32) × (Nat → Int32) × (Nat → Int32) × (Nat → Int32) × (Nat → Int32) × (Nat → Int32) × (Nat → Int32) × Int32 × Int32 × Int32 × Int32 × Int32 × Int32 × Int32 × Int32 × Int32 × Int32)
  | 0, _, _, _, _, _, _, _, _, _, _, _, _, _, _, _, _, _, _, _, _, _, _ => none
  | n + 1, v_t_clauseOf, v_t_codeFrom, v_t_codeHalf, v_t_codeTo, v_t_codes, v_t_said, v_t_saidFrom, v_t_saidHalf, v_t_saidLetter, v_t_saidTo, v_t_waitsAt, x_t_clauses, x_t_codeMany, x_t_fault, x_t_length0, x_t_number0, x_t_open, x_t_place0, x_t_saidMany, x_t_taped, x_t_waiting, l3 =>
    if x_t_codeMany ≤ l3 then
      f_X12_law_b123 FU v_t_clauseOf v_t_codeFrom v_t_codeHalf v_t_codeTo v_t_codes v_t_said v_t_saidFrom v_t_saidHalf v_t_saidLetter v_t_saidTo v_t_waitsAt x_t_clauses x_t_codeMany x_t_fault x_t_length0 x_t_number0 x_t_open x_t_place0 x_t_saidMany x_t_taped x_t_waiting (0 : Int32)
    else
      gI 260 v_t_said l3 (fun g1 =>
      sI 260 v_t_codes l3 g1 (fun w2 =>
      f_X12_law_b95 n v_t_clauseOf v_t_codeFrom v_t_codeHalf v_t_codeTo w2 v_t_said v_t_saidFrom v_t_saidHalf v_t_saidLetter v_t_saidTo v_t_waitsAt x_t_clauses x_t_codeMany x_t_fault x_t_length0 x_t_number0 x_t_open x_t_place0 x_t_saidMany x_t_taped x_t_waiting (l3 + (1 : Int32))))
def f_X12_law_b71 (v_t_clauseOf : (Nat → Int32)) (v_t_codeFrom : (Nat → Int32)) (v_t_codeHalf : (Nat → Int32)) (v_t_codeTo : (Nat → Int32)) (v_t_codes : (Nat → Int32)) (v_t_said : (Nat → Int32)) (v_t_saidFrom : (Nat → Int32)) (v_t_saidHalf : (Nat → Int32)) (v_t_saidLetter : (Nat → Int32)) (v_t_saidTo : (Nat → Int32)) (v_t_waitsAt : (Nat → Int32)) (x_t_clauses : Int32) (x_t_codeMany : Int32) (x_t_fault : Int32) (x_t_length0 : Int32) (x_t_number0 : Int32) (x_t_open : Int32) (x_t_place0 : Int32) (x_t_saidMany : Int32) (x_t_taped : Int32) (x_t_waiting : Int32) (l2 : Int32) : Option (Int32 × (Nat → Int32) × (Nat → Int32) × (Nat → Int32) × (Nat → Int32) × (Nat → Int32) × (Nat → Int32) × (Nat → Int32) × (Nat → Int32) × (Nat → Int32) × (Nat → Int32) × (Nat → Int32) × Int32 × Int32 × Int32 × Int32 × Int32 × Int32 × Int32 × Int32 × Int32 × Int32) :=
  if l2 = 0 then
    some (x_t_fault, v_t_clauseOf, v_t_codeFrom, v_t_codeHalf, v_t_codeTo, v_t_codes, v_t_said, v_t_saidFrom, v_t_saidHalf, v_t_saidLetter, v_t_saidTo, v_t_waitsAt, x_t_clauses, x_t_codeMany, x_t_fault, x_t_length0, x_t_number0, x_t_open, x_t_place0, x_t_saidMany, (0 : Int32), x_t_waiting)
  else
    f_X12_law_b95 FU v_t_clauseOf v_t_codeFrom v_t_codeHalf v_t_codeTo v_t_codes v_t_said v_t_saidFrom v_t_saidHalf v_t_saidLetter v_t_saidTo v_t_waitsAt x_t_saidMany x_t_codeMany x_t_fault x_t_length0 x_t_number0 x_t_open x_t_place0 x_t_saidMany (0 : Int32) x_t_waiting (0 : Int32)
def f_X12_law_b31 (v_t_tape : (Nat → Int32)) : Nat → (Nat → Int32) → (Nat → Int32) → (Nat → Int32) → (Nat → Int32) → (Nat → Int32) → (Nat → Int32) → (Nat → Int32) → (Nat → Int32) → (Nat → Int32) → (Nat → Int32) → (Nat → Int32) → Int32 → Int32 → Int32 → Int32 → Int32 → Int32 → Int32 → Int32 → Int32 → Int32 → Int32 → Option (Int32 × (Nat → Int32) × (Nat → Int32) × (Nat → Int32) × (Nat → Int32) × (Nat → Int32) × (Nat → Int32) × (Nat → Int32) × (Nat → Int32) × (Nat → Int32) × (Nat → Int32) × (Nat → Int32) × Int32 × Int32 × Int32 × Int32 × Int32 × Int32 × Int32 × Int32 × Int32 × Int32)
  | 0, _, _, _, _, _, _, _, _, _, _, _, _, _, _, _, _, _, _, _, _, _, _ => none
  | n + 1, v_t_clauseOf, v_t_codeFrom, v_t_codeHalf, v_t_codeTo, v_t_codes, v_t_said, v_t_saidFrom, v_t_saidHalf, v_t_saidLetter, v_t_saidTo, v_t_waitsAt, x_t_clauses, x_t_codeMany, x_t_fault, x_t_length0, x_t_number0, x_t_open, x_t_place0, x_t_saidMany, x_t_taped, x_t_waiting, l2 =>
    if l2 = 0 then
      f_X12_law_b71 v_t_clauseOf v_t_codeFrom v_t_codeHalf v_t_codeTo v_t_codes v_t_said v_t_saidFrom v_t_saidHalf v_t_saidLetter v_t_saidTo v_t_waitsAt x_t_clauses x_t_codeMany x_t_fault x_t_length0 x_t_number0 x_t_open x_t_place0 x_t_saidMany x_t_taped x_t_waiting l2
    else
      if x_t_length0 ≤ x_t_place0 then
        f_X12_law_b71 v_t_clauseOf v_t_codeFrom v_t_codeHalf v_t_codeTo v_t_codes v_t_said v_t_saidFrom v_t_saidHalf v_t_saidLetter v_t_saidTo v_t_waitsAt x_t_clauses x_t_codeMany x_t_fault x_t_length0 x_t_number0 x_t_open x_t_place0 x_t_saidMany x_t_taped x_t_waiting l2
      else
        bd3 (f_X12_takes v_t_tape x_t_fault x_t_length0 x_t_place0 (59 : Int32)) (fun r1 w2 w3 =>
        if r1 = 0 then
          f_X12_law_b66 (f_X12_law_b31 v_t_tape n) v_t_clauseOf v_t_codeFrom v_t_codeHalf v_t_codeTo v_t_codes v_t_said v_t_saidFrom v_t_saidHalf v_t_saidLetter v_t_saidTo v_t_waitsAt x_t_clauses x_t_codeMany w2 x_t_length0 x_t_number0 x_t_open w3 x_t_saidMany x_t_taped x_t_waiting
        else
          bd14 (f_X12_readsRule v_t_said v_t_saidFrom v_t_saidHalf v_t_saidLetter v_t_saidTo v_t_tape v_t_waitsAt x_t_codeMany w2 x_t_length0 x_t_number0 x_t_open w3 x_t_saidMany x_t_waiting) (fun r4 w5 w6 w7 w8 w9 w10 w11 w12 w13 w14 w15 w16 w17 =>
          if r4 = 0 then
            f_X12_law_b66 (f_X12_law_b31 v_t_tape n) v_t_clauseOf v_t_codeFrom v_t_codeHalf v_t_codeTo v_t_codes w5 w6 w7 w8 w9 w10 x_t_clauses w11 w12 x_t_length0 w13 w14 w15 w16 x_t_taped w17
          else
            f_X12_law_b67 (f_X12_law_b31 v_t_tape n) v_t_clauseOf v_t_codeFrom v_t_codeHalf v_t_codeTo v_t_codes w5 w6 w7 w8 w9 w10 x_t_clauses w11 w12 x_t_length0 w13 w14 w15 w16 x_t_taped w17 (1 : Int32)))
def f_X12_law (v_t_clauseOf : (Nat → Int32)) (v_t_codeFrom : (Nat → Int32)) (v_t_codeHalf : (Nat → Int32)) (v_t_codeTo : (Nat → Int32)) (v_t_codes : (Nat → Int32)) (v_t_said : (Nat → Int32)) (v_t_saidFrom : (Nat → Int32)) (v_t_saidHalf : (Nat → Int32)) (v_t_saidLetter : (Nat → Int32)) (v_t_saidTo : (Nat → Int32)) (v_t_tape : (Nat → Int32)) (v_t_waitsAt : (Nat → Int32)) (x_t_clauses : Int32) (x_t_codeMany : Int32) (x_t_fault : Int32) (x_t_length0 : Int32) (x_t_number0 : Int32) (x_t_open : Int32) (x_t_place0 : Int32) (x_t_saidMany : Int32) (x_t_taped : Int32) (x_t_waiting : Int32) (a1 : Int32) : Option (Int32 × (Nat → Int32) × (Nat → Int32) × (Nat → Int32) × (Nat → Int32) × (Nat → Int32) × (Nat → Int32) × (Nat → Int32) × (Nat → Int32) × (Nat → Int32) × (Nat → Int32) × (Nat → Int32) × Int32 × Int32 × Int32 × Int32 × Int32 × Int32 × Int32 × Int32 × Int32 × Int32) :=
  bd1 (f_X12_in a1 (1 : Int32) (240 : Int32)) (fun r18 =>
  if r18 = 0 then
    f_X12_law_b19 v_t_clauseOf v_t_codeFrom v_t_codeHalf v_t_codeTo v_t_codes v_t_said v_t_saidFrom v_t_saidHalf v_t_saidLetter v_t_saidTo v_t_waitsAt x_t_clauses x_t_codeMany x_t_fault x_t_length0 x_t_number0 x_t_open x_t_place0 x_t_saidMany x_t_taped x_t_waiting
  else
    if a1 ≤ x_t_taped then
      bd4 (f_X12_beginsText x_t_codeMany x_t_length0 x_t_place0 x_t_saidMany a1) (fun w19 w20 w21 w22 =>
      bd14 (f_X12_readsRule v_t_said v_t_saidFrom v_t_saidHalf v_t_saidLetter v_t_saidTo v_t_tape v_t_waitsAt w19 x_t_fault w20 x_t_number0 x_t_open w21 w22 x_t_waiting) (fun r23 w24 w25 w26 w27 w28 w29 w30 w31 w32 w33 w34 w35 w36 =>
      f_X12_law_b31 v_t_tape FU v_t_clauseOf v_t_codeFrom v_t_codeHalf v_t_codeTo v_t_codes w24 w25 w26 w27 w28 w29 x_t_clauses w30 w31 w20 w32 w33 w34 w35 x_t_taped w36 r23))
    else
      f_X12_law_b19 v_t_clauseOf v_t_codeFrom v_t_codeHalf v_t_codeTo v_t_codes v_t_said v_t_saidFrom v_t_saidHalf v_t_saidLetter v_t_saidTo v_t_waitsAt x_t_clauses x_t_codeMany x_t_fault x_t_length0 x_t_number0 x_t_open x_t_place0 x_t_saidMany x_t_taped x_t_waiting)
set_option maxHeartbeats 4000000 in
set_option maxRecDepth 100000 in
theorem c_X12_law {l : Launch} {D : va_G} {cI cB : ClassId} {A_t A_t_now A_t_aside A_t_kept A_t_rhymeOf A_t_wasRhyme A_t_wordAt A_t_tape A_t_said A_t_waitsAt A_t_saidLetter A_t_saidFrom A_t_saidHalf A_t_saidTo A_t_codes A_t_clauseOf A_t_codeFrom A_t_codeHalf A_t_codeTo A_t_stack A_t_facts A_t_newWords A_t_roundFrom A_t_roundAt A_t_roundTimes A_t_leastFrom A_t_rowNow A_t_bornOf A_t_trainsTo A_t_trainAt : Nat} {x_t_wordMany x_t_taped x_t_place0 x_t_length0 x_t_fault x_t_number0 x_t_open x_t_codeMany x_t_waiting x_t_saidMany x_t_clauses x_t_lines x_t_newMany x_t_rounds x_t_itFrom x_t_itTimes x_t_writtenNow x_t_picturesNow x_t_usedNow x_t_chosen x_t_fearOfChosen x_t_changesNow x_t_left0 x_t_trainMany x_t_leastTries x_t_firstTrained x_t_isKept a1 : Int32} {v_t_clauseOf v_t_codeFrom v_t_codeHalf v_t_codeTo v_t_codes v_t_said v_t_saidFrom v_t_saidHalf v_t_saidLetter v_t_saidTo v_t_tape v_t_waitsAt : Nat → Int32} {o_r o_x_t_clauses o_x_t_codeMany o_x_t_fault o_x_t_length0 o_x_t_number0 o_x_t_open o_x_t_place0 o_x_t_saidMany o_x_t_taped o_x_t_waiting : Int32} {o_v_t_clauseOf o_v_t_codeFrom o_v_t_codeHalf o_v_t_codeTo o_v_t_codes o_v_t_said o_v_t_saidFrom o_v_t_saidHalf o_v_t_saidLetter o_v_t_saidTo o_v_t_waitsAt : Nat → Int32} (hf : f_X12_law v_t_clauseOf v_t_codeFrom v_t_codeHalf v_t_codeTo v_t_codes v_t_said v_t_saidFrom v_t_saidHalf v_t_saidLetter v_t_saidTo v_t_tape v_t_waitsAt x_t_clauses x_t_codeMany x_t_fault x_t_length0 x_t_number0 x_t_open x_t_place0 x_t_saidMany x_t_taped x_t_waiting a1 = some (o_r, o_v_t_clauseOf, o_v_t_codeFrom, o_v_t_codeHalf, o_v_t_codeTo, o_v_t_codes, o_v_t_said, o_v_t_saidFrom, o_v_t_saidHalf, o_v_t_saidLetter, o_v_t_saidTo, o_v_t_waitsAt, o_x_t_clauses, o_x_t_codeMany, o_x_t_fault, o_x_t_length0, o_x_t_number0, o_x_t_open, o_x_t_place0, o_x_t_saidMany, o_x_t_taped, o_x_t_waiting)) : CtI l D cI cB yX12_law cX12_law 4 (some .int) 8 166 [.ref A_t, .int a1] [oX12 A_t A_t_now A_t_aside A_t_kept A_t_rhymeOf A_t_wasRhyme A_t_wordAt x_t_wordMany A_t_tape x_t_taped x_t_place0 x_t_length0 x_t_fault x_t_number0 x_t_open x_t_codeMany x_t_waiting x_t_saidMany x_t_clauses A_t_said A_t_waitsAt A_t_saidLetter A_t_saidFrom A_t_saidHalf A_t_saidTo A_t_codes A_t_clauseOf A_t_codeFrom A_t_codeHalf A_t_codeTo A_t_stack A_t_facts x_t_lines A_t_newWords A_t_roundFrom A_t_roundAt A_t_roundTimes x_t_newMany x_t_rounds x_t_itFrom x_t_itTimes x_t_writtenNow x_t_picturesNow x_t_usedNow x_t_chosen x_t_fearOfChosen A_t_leastFrom A_t_rowNow x_t_changesNow x_t_left0 A_t_bornOf A_t_trainsTo A_t_trainAt x_t_trainMany x_t_leastTries x_t_firstTrained x_t_isKept, iA cI 16 A_t_clauseOf v_t_clauseOf, iA cI 16 A_t_codeFrom v_t_codeFrom, iA cI 16 A_t_codeHalf v_t_codeHalf, iA cI 16 A_t_codeTo v_t_codeTo, iA cI 260 A_t_codes v_t_codes, iA cI 260 A_t_said v_t_said, iA cI 16 A_t_saidFrom v_t_saidFrom, iA cI 16 A_t_saidHalf v_t_saidHalf, iA cI 16 A_t_saidLetter v_t_saidLetter, iA cI 16 A_t_saidTo v_t_saidTo, iA cB 260 A_t_tape v_t_tape, iA cI 260 A_t_waitsAt v_t_waitsAt] [oX12 A_t A_t_now A_t_aside A_t_kept A_t_rhymeOf A_t_wasRhyme A_t_wordAt x_t_wordMany A_t_tape o_x_t_taped o_x_t_place0 o_x_t_length0 o_x_t_fault o_x_t_number0 o_x_t_open o_x_t_codeMany o_x_t_waiting o_x_t_saidMany o_x_t_clauses A_t_said A_t_waitsAt A_t_saidLetter A_t_saidFrom A_t_saidHalf A_t_saidTo A_t_codes A_t_clauseOf A_t_codeFrom A_t_codeHalf A_t_codeTo A_t_stack A_t_facts x_t_lines A_t_newWords A_t_roundFrom A_t_roundAt A_t_roundTimes x_t_newMany x_t_rounds x_t_itFrom x_t_itTimes x_t_writtenNow x_t_picturesNow x_t_usedNow x_t_chosen x_t_fearOfChosen A_t_leastFrom A_t_rowNow x_t_changesNow x_t_left0 A_t_bornOf A_t_trainsTo A_t_trainAt x_t_trainMany x_t_leastTries x_t_firstTrained x_t_isKept, iA cI 16 A_t_clauseOf o_v_t_clauseOf, iA cI 16 A_t_codeFrom o_v_t_codeFrom, iA cI 16 A_t_codeHalf o_v_t_codeHalf, iA cI 16 A_t_codeTo o_v_t_codeTo, iA cI 260 A_t_codes o_v_t_codes, iA cI 260 A_t_said o_v_t_said, iA cI 16 A_t_saidFrom o_v_t_saidFrom, iA cI 16 A_t_saidHalf o_v_t_saidHalf, iA cI 16 A_t_saidLetter o_v_t_saidLetter, iA cI 16 A_t_saidTo o_v_t_saidTo, iA cB 260 A_t_tape v_t_tape, iA cI 260 A_t_waitsAt o_v_t_waitsAt] o_r := by
  refine x_startI (by decide) (Nat.le_of_ble_eq_true rfl) ?_
  intro p e s m below meth c A C hr hlk hA hK hP hD hS ls hl
  have hl : lv_has ls 4 [(0, .ref A_t), (1, .int a1)] := hl
  have hx := C.1
  have hb := C.2.1
  unfold f_X12_law at hf
  have hb_19 : ∀ (v_t_clauseOf : (Nat → Int32)) (v_t_codeFrom : (Nat → Int32)) (v_t_codeHalf : (Nat → Int32)) (v_t_codeTo : (Nat → Int32)) (v_t_codes : (Nat → Int32)) (v_t_said : (Nat → Int32)) (v_t_saidFrom : (Nat → Int32)) (v_t_saidHalf : (Nat → Int32)) (v_t_saidLetter : (Nat → Int32)) (v_t_saidTo : (Nat → Int32)) (v_t_waitsAt : (Nat → Int32)) (x_t_clauses : Int32) (x_t_codeMany : Int32) (x_t_fault : Int32) (x_t_length0 : Int32) (x_t_number0 : Int32) (x_t_open : Int32) (x_t_place0 : Int32) (x_t_saidMany : Int32) (x_t_taped : Int32) (x_t_waiting : Int32) (H : Heap) (locs : List Loc) (ls : Array Slot), lv_has ls 4 [] → va_P D vwCl [oX12 A_t A_t_now A_t_aside A_t_kept A_t_rhymeOf A_t_wasRhyme A_t_wordAt x_t_wordMany A_t_tape x_t_taped x_t_place0 x_t_length0 x_t_fault x_t_number0 x_t_open x_t_codeMany x_t_waiting x_t_saidMany x_t_clauses A_t_said A_t_waitsAt A_t_saidLetter A_t_saidFrom A_t_saidHalf A_t_saidTo A_t_codes A_t_clauseOf A_t_codeFrom A_t_codeHalf A_t_codeTo A_t_stack A_t_facts x_t_lines A_t_newWords A_t_roundFrom A_t_roundAt A_t_roundTimes x_t_newMany x_t_rounds x_t_itFrom x_t_itTimes x_t_writtenNow x_t_picturesNow x_t_usedNow x_t_chosen x_t_fearOfChosen A_t_leastFrom A_t_rowNow x_t_changesNow x_t_left0 A_t_bornOf A_t_trainsTo A_t_trainAt x_t_trainMany x_t_leastTries x_t_firstTrained x_t_isKept, iA cI 16 A_t_clauseOf v_t_clauseOf, iA cI 16 A_t_codeFrom v_t_codeFrom, iA cI 16 A_t_codeHalf v_t_codeHalf, iA cI 16 A_t_codeTo v_t_codeTo, iA cI 260 A_t_codes v_t_codes, iA cI 260 A_t_said v_t_said, iA cI 16 A_t_saidFrom v_t_saidFrom, iA cI 16 A_t_saidHalf v_t_saidHalf, iA cI 16 A_t_saidLetter v_t_saidLetter, iA cI 16 A_t_saidTo v_t_saidTo, iA cB 260 A_t_tape v_t_tape, iA cI 260 A_t_waitsAt v_t_waitsAt] H → va_D A [oX12 A_t A_t_now A_t_aside A_t_kept A_t_rhymeOf A_t_wasRhyme A_t_wordAt x_t_wordMany A_t_tape x_t_taped x_t_place0 x_t_length0 x_t_fault x_t_number0 x_t_open x_t_codeMany x_t_waiting x_t_saidMany x_t_clauses A_t_said A_t_waitsAt A_t_saidLetter A_t_saidFrom A_t_saidHalf A_t_saidTo A_t_codes A_t_clauseOf A_t_codeFrom A_t_codeHalf A_t_codeTo A_t_stack A_t_facts x_t_lines A_t_newWords A_t_roundFrom A_t_roundAt A_t_roundTimes x_t_newMany x_t_rounds x_t_itFrom x_t_itTimes x_t_writtenNow x_t_picturesNow x_t_usedNow x_t_chosen x_t_fearOfChosen A_t_leastFrom A_t_rowNow x_t_changesNow x_t_left0 A_t_bornOf A_t_trainsTo A_t_trainAt x_t_trainMany x_t_leastTries x_t_firstTrained x_t_isKept, iA cI 16 A_t_clauseOf v_t_clauseOf, iA cI 16 A_t_codeFrom v_t_codeFrom, iA cI 16 A_t_codeHalf v_t_codeHalf, iA cI 16 A_t_codeTo v_t_codeTo, iA cI 260 A_t_codes v_t_codes, iA cI 260 A_t_said v_t_said, iA cI 16 A_t_saidFrom v_t_saidFrom, iA cI 16 A_t_saidHalf v_t_saidHalf, iA cI 16 A_t_saidLetter v_t_saidLetter, iA cI 16 A_t_saidTo v_t_saidTo, iA cB 260 A_t_tape v_t_tape, iA cI 260 A_t_waitsAt v_t_waitsAt] → va_S A s.heap H locs → f_X12_law_b19 v_t_clauseOf v_t_codeFrom v_t_codeHalf v_t_codeTo v_t_codes v_t_said v_t_saidFrom v_t_saidHalf v_t_saidLetter v_t_saidTo v_t_waitsAt x_t_clauses x_t_codeMany x_t_fault x_t_length0 x_t_number0 x_t_open x_t_place0 x_t_saidMany x_t_taped x_t_waiting = some (o_r, o_v_t_clauseOf, o_v_t_codeFrom, o_v_t_codeHalf, o_v_t_codeTo, o_v_t_codes, o_v_t_said, o_v_t_saidFrom, o_v_t_saidHalf, o_v_t_saidLetter, o_v_t_saidTo, o_v_t_waitsAt, o_x_t_clauses, o_x_t_codeMany, o_x_t_fault, o_x_t_length0, o_x_t_number0, o_x_t_open, o_x_t_place0, o_x_t_saidMany, o_x_t_taped, o_x_t_waiting) → W p l e { frames := 8, cells := 0, slots := 0, locals := 166 } s m ([.ref A_t, .int a1] : List Value).toArray below meth c H locs 0 0 (MQ below (PoI D A [oX12 A_t A_t_now A_t_aside A_t_kept A_t_rhymeOf A_t_wasRhyme A_t_wordAt x_t_wordMany A_t_tape o_x_t_taped o_x_t_place0 o_x_t_length0 o_x_t_fault o_x_t_number0 o_x_t_open o_x_t_codeMany o_x_t_waiting o_x_t_saidMany o_x_t_clauses A_t_said A_t_waitsAt A_t_saidLetter A_t_saidFrom A_t_saidHalf A_t_saidTo A_t_codes A_t_clauseOf A_t_codeFrom A_t_codeHalf A_t_codeTo A_t_stack A_t_facts x_t_lines A_t_newWords A_t_roundFrom A_t_roundAt A_t_roundTimes x_t_newMany x_t_rounds x_t_itFrom x_t_itTimes x_t_writtenNow x_t_picturesNow x_t_usedNow x_t_chosen x_t_fearOfChosen A_t_leastFrom A_t_rowNow x_t_changesNow x_t_left0 A_t_bornOf A_t_trainsTo A_t_trainAt x_t_trainMany x_t_leastTries x_t_firstTrained x_t_isKept, iA cI 16 A_t_clauseOf o_v_t_clauseOf, iA cI 16 A_t_codeFrom o_v_t_codeFrom, iA cI 16 A_t_codeHalf o_v_t_codeHalf, iA cI 16 A_t_codeTo o_v_t_codeTo, iA cI 260 A_t_codes o_v_t_codes, iA cI 260 A_t_said o_v_t_said, iA cI 16 A_t_saidFrom o_v_t_saidFrom, iA cI 16 A_t_saidHalf o_v_t_saidHalf, iA cI 16 A_t_saidLetter o_v_t_saidLetter, iA cI 16 A_t_saidTo o_v_t_saidTo, iA cB 260 A_t_tape v_t_tape, iA cI 260 A_t_waitsAt o_v_t_waitsAt] o_r) ([.ref A_t, .int a1] : List Value).toArray s 0 0 A) (F0 m 19 ls []) := by
    intro v_t_clauseOf v_t_codeFrom v_t_codeHalf v_t_codeTo v_t_codes v_t_said v_t_saidFrom v_t_saidHalf v_t_saidLetter v_t_saidTo v_t_waitsAt x_t_clauses x_t_codeMany x_t_fault x_t_length0 x_t_number0 x_t_open x_t_place0 x_t_saidMany x_t_taped x_t_waiting H locs ls hl hP hD hS hf
    unfold f_X12_law_b19 at hf
    refine lv_iconst (v := -1) hx hb dX12_law_19 (by decide) ?_
    obtain ⟨rfl, rfl, rfl, rfl, rfl, rfl, rfl, rfl, rfl, rfl, rfl, rfl, rfl, rfl, rfl, rfl, rfl, rfl, rfl, rfl, rfl, rfl⟩ := ev22 hf
    exact x_iret C hr hlk hP hD hS dX12_law_20
  have hb_123 : ∀ (n_123 : Nat) (v_t_clauseOf : (Nat → Int32)) (v_t_codeFrom : (Nat → Int32)) (v_t_codeHalf : (Nat → Int32)) (v_t_codeTo : (Nat → Int32)) (v_t_codes : (Nat → Int32)) (v_t_said : (Nat → Int32)) (v_t_saidFrom : (Nat → Int32)) (v_t_saidHalf : (Nat → Int32)) (v_t_saidLetter : (Nat → Int32)) (v_t_saidTo : (Nat → Int32)) (v_t_waitsAt : (Nat → Int32)) (x_t_clauses : Int32) (x_t_codeMany : Int32) (x_t_fault : Int32) (x_t_length0 : Int32) (x_t_number0 : Int32) (x_t_open : Int32) (x_t_place0 : Int32) (x_t_saidMany : Int32) (x_t_taped : Int32) (x_t_waiting : Int32) (l3 : Int32) (H : Heap) (locs : List Loc) (ls : Array Slot), lv_has ls 4 [(0, .ref A_t), (3, .int l3)] → va_P D vwCl [oX12 A_t A_t_now A_t_aside A_t_kept A_t_rhymeOf A_t_wasRhyme A_t_wordAt x_t_wordMany A_t_tape x_t_taped x_t_place0 x_t_length0 x_t_fault x_t_number0 x_t_open x_t_codeMany x_t_waiting x_t_saidMany x_t_clauses A_t_said A_t_waitsAt A_t_saidLetter A_t_saidFrom A_t_saidHalf A_t_saidTo A_t_codes A_t_clauseOf A_t_codeFrom A_t_codeHalf A_t_codeTo A_t_stack A_t_facts x_t_lines A_t_newWords A_t_roundFrom A_t_roundAt A_t_roundTimes x_t_newMany x_t_rounds x_t_itFrom x_t_itTimes x_t_writtenNow x_t_picturesNow x_t_usedNow x_t_chosen x_t_fearOfChosen A_t_leastFrom A_t_rowNow x_t_changesNow x_t_left0 A_t_bornOf A_t_trainsTo A_t_trainAt x_t_trainMany x_t_leastTries x_t_firstTrained x_t_isKept, iA cI 16 A_t_clauseOf v_t_clauseOf, iA cI 16 A_t_codeFrom v_t_codeFrom, iA cI 16 A_t_codeHalf v_t_codeHalf, iA cI 16 A_t_codeTo v_t_codeTo, iA cI 260 A_t_codes v_t_codes, iA cI 260 A_t_said v_t_said, iA cI 16 A_t_saidFrom v_t_saidFrom, iA cI 16 A_t_saidHalf v_t_saidHalf, iA cI 16 A_t_saidLetter v_t_saidLetter, iA cI 16 A_t_saidTo v_t_saidTo, iA cB 260 A_t_tape v_t_tape, iA cI 260 A_t_waitsAt v_t_waitsAt] H → va_D A [oX12 A_t A_t_now A_t_aside A_t_kept A_t_rhymeOf A_t_wasRhyme A_t_wordAt x_t_wordMany A_t_tape x_t_taped x_t_place0 x_t_length0 x_t_fault x_t_number0 x_t_open x_t_codeMany x_t_waiting x_t_saidMany x_t_clauses A_t_said A_t_waitsAt A_t_saidLetter A_t_saidFrom A_t_saidHalf A_t_saidTo A_t_codes A_t_clauseOf A_t_codeFrom A_t_codeHalf A_t_codeTo A_t_stack A_t_facts x_t_lines A_t_newWords A_t_roundFrom A_t_roundAt A_t_roundTimes x_t_newMany x_t_rounds x_t_itFrom x_t_itTimes x_t_writtenNow x_t_picturesNow x_t_usedNow x_t_chosen x_t_fearOfChosen A_t_leastFrom A_t_rowNow x_t_changesNow x_t_left0 A_t_bornOf A_t_trainsTo A_t_trainAt x_t_trainMany x_t_leastTries x_t_firstTrained x_t_isKept, iA cI 16 A_t_clauseOf v_t_clauseOf, iA cI 16 A_t_codeFrom v_t_codeFrom, iA cI 16 A_t_codeHalf v_t_codeHalf, iA cI 16 A_t_codeTo v_t_codeTo, iA cI 260 A_t_codes v_t_codes, iA cI 260 A_t_said v_t_said, iA cI 16 A_t_saidFrom v_t_saidFrom, iA cI 16 A_t_saidHalf v_t_saidHalf, iA cI 16 A_t_saidLetter v_t_saidLetter, iA cI 16 A_t_saidTo v_t_saidTo, iA cB 260 A_t_tape v_t_tape, iA cI 260 A_t_waitsAt v_t_waitsAt] → va_S A s.heap H locs → f_X12_law_b123 n_123 v_t_clauseOf v_t_codeFrom v_t_codeHalf v_t_codeTo v_t_codes v_t_said v_t_saidFrom v_t_saidHalf v_t_saidLetter v_t_saidTo v_t_waitsAt x_t_clauses x_t_codeMany x_t_fault x_t_length0 x_t_number0 x_t_open x_t_place0 x_t_saidMany x_t_taped x_t_waiting l3 = some (o_r, o_v_t_clauseOf, o_v_t_codeFrom, o_v_t_codeHalf, o_v_t_codeTo, o_v_t_codes, o_v_t_said, o_v_t_saidFrom, o_v_t_saidHalf, o_v_t_saidLetter, o_v_t_saidTo, o_v_t_waitsAt, o_x_t_clauses, o_x_t_codeMany, o_x_t_fault, o_x_t_length0, o_x_t_number0, o_x_t_open, o_x_t_place0, o_x_t_saidMany, o_x_t_taped, o_x_t_waiting) → W p l e { frames := 8, cells := 0, slots := 0, locals := 166 } s m ([.ref A_t, .int a1] : List Value).toArray below meth c H locs 0 0 (MQ below (PoI D A [oX12 A_t A_t_now A_t_aside A_t_kept A_t_rhymeOf A_t_wasRhyme A_t_wordAt x_t_wordMany A_t_tape o_x_t_taped o_x_t_place0 o_x_t_length0 o_x_t_fault o_x_t_number0 o_x_t_open o_x_t_codeMany o_x_t_waiting o_x_t_saidMany o_x_t_clauses A_t_said A_t_waitsAt A_t_saidLetter A_t_saidFrom A_t_saidHalf A_t_saidTo A_t_codes A_t_clauseOf A_t_codeFrom A_t_codeHalf A_t_codeTo A_t_stack A_t_facts x_t_lines A_t_newWords A_t_roundFrom A_t_roundAt A_t_roundTimes x_t_newMany x_t_rounds x_t_itFrom x_t_itTimes x_t_writtenNow x_t_picturesNow x_t_usedNow x_t_chosen x_t_fearOfChosen A_t_leastFrom A_t_rowNow x_t_changesNow x_t_left0 A_t_bornOf A_t_trainsTo A_t_trainAt x_t_trainMany x_t_leastTries x_t_firstTrained x_t_isKept, iA cI 16 A_t_clauseOf o_v_t_clauseOf, iA cI 16 A_t_codeFrom o_v_t_codeFrom, iA cI 16 A_t_codeHalf o_v_t_codeHalf, iA cI 16 A_t_codeTo o_v_t_codeTo, iA cI 260 A_t_codes o_v_t_codes, iA cI 260 A_t_said o_v_t_said, iA cI 16 A_t_saidFrom o_v_t_saidFrom, iA cI 16 A_t_saidHalf o_v_t_saidHalf, iA cI 16 A_t_saidLetter o_v_t_saidLetter, iA cI 16 A_t_saidTo o_v_t_saidTo, iA cB 260 A_t_tape v_t_tape, iA cI 260 A_t_waitsAt o_v_t_waitsAt] o_r) ([.ref A_t, .int a1] : List Value).toArray s 0 0 A) (F0 m 123 ls []) := by
    intro n_123
    induction n_123 with
    | zero =>
      intro v_t_clauseOf v_t_codeFrom v_t_codeHalf v_t_codeTo v_t_codes v_t_said v_t_saidFrom v_t_saidHalf v_t_saidLetter v_t_saidTo v_t_waitsAt x_t_clauses x_t_codeMany x_t_fault x_t_length0 x_t_number0 x_t_open x_t_place0 x_t_saidMany x_t_taped x_t_waiting l3 H locs ls hl hP hD hS hf
      exact absurd hf (fun h => by rw [f_X12_law_b123] at h; cases h)
    | succ n_123 ih_123 =>
      intro v_t_clauseOf v_t_codeFrom v_t_codeHalf v_t_codeTo v_t_codes v_t_said v_t_saidFrom v_t_saidHalf v_t_saidLetter v_t_saidTo v_t_waitsAt x_t_clauses x_t_codeMany x_t_fault x_t_length0 x_t_number0 x_t_open x_t_place0 x_t_saidMany x_t_taped x_t_waiting l3 H locs ls hl hP hD hS hf
      rw [f_X12_law_b123] at hf
      refine lv_iload_n hx hb dX12_law_123 rfl (lv_at hl 1 rfl) ?_
      refine lv_aload_n hx hb dX12_law_124 rfl (lv_at hl 0 rfl) ?_
      refine x_get C hK hP fd_X12_227 0 rfl rfl dX12_law_125 ?_
      refine lv_icmp_ge (tgt := 185) hx hb dX12_law_128 (by decide) (fun q => ?_) (fun q => ?_)
      · have hf := if_t q hf
        refine lv_aload_n hx hb dX12_law_185 rfl (lv_at hl 0 rfl) ?_
        refine x_get C hK hP fd_X12_227 0 rfl rfl dX12_law_186 ?_
        obtain ⟨rfl, rfl, rfl, rfl, rfl, rfl, rfl, rfl, rfl, rfl, rfl, rfl, rfl, rfl, rfl, rfl, rfl, rfl, rfl, rfl, rfl, rfl⟩ := ev22 hf
        exact x_iret C hr hlk hP hD hS dX12_law_189
      · have hf := if_f q hf
        refine lv_aload_n hx hb dX12_law_131 rfl (lv_at hl 0 rfl) ?_
        refine x_get C hK hP fd_X12_53 0 rfl rfl dX12_law_132 ?_
        refine lv_iload_n hx hb dX12_law_135 rfl (lv_at hl 1 rfl) ?_
        refine lv_aload_n hx hb dX12_law_136 rfl (lv_at hl 0 rfl) ?_
        refine x_get C hK hP fd_X12_38 0 rfl rfl dX12_law_137 ?_
        refine lv_iload_n hx hb dX12_law_140 rfl (lv_at hl 1 rfl) ?_
        obtain ⟨hi, hf⟩ := gI_e hf
        refine x_iald C hK hP 9 rfl hi dX12_law_141 ?_
        obtain ⟨hi, hf⟩ := sI_e hf
        refine x_iast (ws' := [oX12 A_t A_t_now A_t_aside A_t_kept A_t_rhymeOf A_t_wasRhyme A_t_wordAt x_t_wordMany A_t_tape x_t_taped x_t_place0 x_t_length0 x_t_fault x_t_number0 x_t_open x_t_codeMany x_t_waiting x_t_saidMany x_t_clauses A_t_said A_t_waitsAt A_t_saidLetter A_t_saidFrom A_t_saidHalf A_t_saidTo A_t_codes A_t_clauseOf A_t_codeFrom A_t_codeHalf A_t_codeTo A_t_stack A_t_facts x_t_lines A_t_newWords A_t_roundFrom A_t_roundAt A_t_roundTimes x_t_newMany x_t_rounds x_t_itFrom x_t_itTimes x_t_writtenNow x_t_picturesNow x_t_usedNow x_t_chosen x_t_fearOfChosen A_t_leastFrom A_t_rowNow x_t_changesNow x_t_left0 A_t_bornOf A_t_trainsTo A_t_trainAt x_t_trainMany x_t_leastTries x_t_firstTrained x_t_isKept, iA cI 16 A_t_clauseOf (upd v_t_clauseOf l3.toNatClampNeg (v_t_saidLetter l3.toNatClampNeg)), iA cI 16 A_t_codeFrom v_t_codeFrom, iA cI 16 A_t_codeHalf v_t_codeHalf, iA cI 16 A_t_codeTo v_t_codeTo, iA cI 260 A_t_codes v_t_codes, iA cI 260 A_t_said v_t_said, iA cI 16 A_t_saidFrom v_t_saidFrom, iA cI 16 A_t_saidHalf v_t_saidHalf, iA cI 16 A_t_saidLetter v_t_saidLetter, iA cI 16 A_t_saidTo v_t_saidTo, iA cB 260 A_t_tape v_t_tape, iA cI 260 A_t_waitsAt v_t_waitsAt]) C hK hP hD hS 1 rfl hi rfl dX12_law_142 ?_
        intro H locs hP hD hS
        refine lv_aload_n hx hb dX12_law_143 rfl (lv_at hl 0 rfl) ?_
        refine x_get C hK hP fd_X12_56 0 rfl rfl dX12_law_144 ?_
        refine lv_iload_n hx hb dX12_law_147 rfl (lv_at hl 1 rfl) ?_
        refine lv_aload_n hx hb dX12_law_148 rfl (lv_at hl 0 rfl) ?_
        refine x_get C hK hP fd_X12_41 0 rfl rfl dX12_law_149 ?_
        refine lv_iload_n hx hb dX12_law_152 rfl (lv_at hl 1 rfl) ?_
        obtain ⟨hi, hf⟩ := gI_e hf
        refine x_iald C hK hP 7 rfl hi dX12_law_153 ?_
        obtain ⟨hi, hf⟩ := sI_e hf
        refine x_iast (ws' := [oX12 A_t A_t_now A_t_aside A_t_kept A_t_rhymeOf A_t_wasRhyme A_t_wordAt x_t_wordMany A_t_tape x_t_taped x_t_place0 x_t_length0 x_t_fault x_t_number0 x_t_open x_t_codeMany x_t_waiting x_t_saidMany x_t_clauses A_t_said A_t_waitsAt A_t_saidLetter A_t_saidFrom A_t_saidHalf A_t_saidTo A_t_codes A_t_clauseOf A_t_codeFrom A_t_codeHalf A_t_codeTo A_t_stack A_t_facts x_t_lines A_t_newWords A_t_roundFrom A_t_roundAt A_t_roundTimes x_t_newMany x_t_rounds x_t_itFrom x_t_itTimes x_t_writtenNow x_t_picturesNow x_t_usedNow x_t_chosen x_t_fearOfChosen A_t_leastFrom A_t_rowNow x_t_changesNow x_t_left0 A_t_bornOf A_t_trainsTo A_t_trainAt x_t_trainMany x_t_leastTries x_t_firstTrained x_t_isKept, iA cI 16 A_t_clauseOf (upd v_t_clauseOf l3.toNatClampNeg (v_t_saidLetter l3.toNatClampNeg)), iA cI 16 A_t_codeFrom (upd v_t_codeFrom l3.toNatClampNeg (v_t_saidFrom l3.toNatClampNeg)), iA cI 16 A_t_codeHalf v_t_codeHalf, iA cI 16 A_t_codeTo v_t_codeTo, iA cI 260 A_t_codes v_t_codes, iA cI 260 A_t_said v_t_said, iA cI 16 A_t_saidFrom v_t_saidFrom, iA cI 16 A_t_saidHalf v_t_saidHalf, iA cI 16 A_t_saidLetter v_t_saidLetter, iA cI 16 A_t_saidTo v_t_saidTo, iA cB 260 A_t_tape v_t_tape, iA cI 260 A_t_waitsAt v_t_waitsAt]) C hK hP hD hS 2 rfl hi rfl dX12_law_154 ?_
        intro H locs hP hD hS
        refine lv_aload_n hx hb dX12_law_155 rfl (lv_at hl 0 rfl) ?_
        refine x_get C hK hP fd_X12_59 0 rfl rfl dX12_law_156 ?_
        refine lv_iload_n hx hb dX12_law_159 rfl (lv_at hl 1 rfl) ?_
        refine lv_aload_n hx hb dX12_law_160 rfl (lv_at hl 0 rfl) ?_
        refine x_get C hK hP fd_X12_44 0 rfl rfl dX12_law_161 ?_
        refine lv_iload_n hx hb dX12_law_164 rfl (lv_at hl 1 rfl) ?_
        obtain ⟨hi, hf⟩ := gI_e hf
        refine x_iald C hK hP 8 rfl hi dX12_law_165 ?_
        obtain ⟨hi, hf⟩ := sI_e hf
        refine x_iast (ws' := [oX12 A_t A_t_now A_t_aside A_t_kept A_t_rhymeOf A_t_wasRhyme A_t_wordAt x_t_wordMany A_t_tape x_t_taped x_t_place0 x_t_length0 x_t_fault x_t_number0 x_t_open x_t_codeMany x_t_waiting x_t_saidMany x_t_clauses A_t_said A_t_waitsAt A_t_saidLetter A_t_saidFrom A_t_saidHalf A_t_saidTo A_t_codes A_t_clauseOf A_t_codeFrom A_t_codeHalf A_t_codeTo A_t_stack A_t_facts x_t_lines A_t_newWords A_t_roundFrom A_t_roundAt A_t_roundTimes x_t_newMany x_t_rounds x_t_itFrom x_t_itTimes x_t_writtenNow x_t_picturesNow x_t_usedNow x_t_chosen x_t_fearOfChosen A_t_leastFrom A_t_rowNow x_t_changesNow x_t_left0 A_t_bornOf A_t_trainsTo A_t_trainAt x_t_trainMany x_t_leastTries x_t_firstTrained x_t_isKept, iA cI 16 A_t_clauseOf (upd v_t_clauseOf l3.toNatClampNeg (v_t_saidLetter l3.toNatClampNeg)), iA cI 16 A_t_codeFrom (upd v_t_codeFrom l3.toNatClampNeg (v_t_saidFrom l3.toNatClampNeg)), iA cI 16 A_t_codeHalf (upd v_t_codeHalf l3.toNatClampNeg (v_t_saidHalf l3.toNatClampNeg)), iA cI 16 A_t_codeTo v_t_codeTo, iA cI 260 A_t_codes v_t_codes, iA cI 260 A_t_said v_t_said, iA cI 16 A_t_saidFrom v_t_saidFrom, iA cI 16 A_t_saidHalf v_t_saidHalf, iA cI 16 A_t_saidLetter v_t_saidLetter, iA cI 16 A_t_saidTo v_t_saidTo, iA cB 260 A_t_tape v_t_tape, iA cI 260 A_t_waitsAt v_t_waitsAt]) C hK hP hD hS 3 rfl hi rfl dX12_law_166 ?_
        intro H locs hP hD hS
        refine lv_aload_n hx hb dX12_law_167 rfl (lv_at hl 0 rfl) ?_
        refine x_get C hK hP fd_X12_62 0 rfl rfl dX12_law_168 ?_
        refine lv_iload_n hx hb dX12_law_171 rfl (lv_at hl 1 rfl) ?_
        refine lv_aload_n hx hb dX12_law_172 rfl (lv_at hl 0 rfl) ?_
        refine x_get C hK hP fd_X12_47 0 rfl rfl dX12_law_173 ?_
        refine lv_iload_n hx hb dX12_law_176 rfl (lv_at hl 1 rfl) ?_
        obtain ⟨hi, hf⟩ := gI_e hf
        refine x_iald C hK hP 10 rfl hi dX12_law_177 ?_
        obtain ⟨hi, hf⟩ := sI_e hf
        refine x_iast (ws' := [oX12 A_t A_t_now A_t_aside A_t_kept A_t_rhymeOf A_t_wasRhyme A_t_wordAt x_t_wordMany A_t_tape x_t_taped x_t_place0 x_t_length0 x_t_fault x_t_number0 x_t_open x_t_codeMany x_t_waiting x_t_saidMany x_t_clauses A_t_said A_t_waitsAt A_t_saidLetter A_t_saidFrom A_t_saidHalf A_t_saidTo A_t_codes A_t_clauseOf A_t_codeFrom A_t_codeHalf A_t_codeTo A_t_stack A_t_facts x_t_lines A_t_newWords A_t_roundFrom A_t_roundAt A_t_roundTimes x_t_newMany x_t_rounds x_t_itFrom x_t_itTimes x_t_writtenNow x_t_picturesNow x_t_usedNow x_t_chosen x_t_fearOfChosen A_t_leastFrom A_t_rowNow x_t_changesNow x_t_left0 A_t_bornOf A_t_trainsTo A_t_trainAt x_t_trainMany x_t_leastTries x_t_firstTrained x_t_isKept, iA cI 16 A_t_clauseOf (upd v_t_clauseOf l3.toNatClampNeg (v_t_saidLetter l3.toNatClampNeg)), iA cI 16 A_t_codeFrom (upd v_t_codeFrom l3.toNatClampNeg (v_t_saidFrom l3.toNatClampNeg)), iA cI 16 A_t_codeHalf (upd v_t_codeHalf l3.toNatClampNeg (v_t_saidHalf l3.toNatClampNeg)), iA cI 16 A_t_codeTo (upd v_t_codeTo l3.toNatClampNeg (v_t_saidTo l3.toNatClampNeg)), iA cI 260 A_t_codes v_t_codes, iA cI 260 A_t_said v_t_said, iA cI 16 A_t_saidFrom v_t_saidFrom, iA cI 16 A_t_saidHalf v_t_saidHalf, iA cI 16 A_t_saidLetter v_t_saidLetter, iA cI 16 A_t_saidTo v_t_saidTo, iA cB 260 A_t_tape v_t_tape, iA cI 260 A_t_waitsAt v_t_waitsAt]) C hK hP hD hS 4 rfl hi rfl dX12_law_178 ?_
        intro H locs hP hD hS
        refine lv_iinc (v := (l3 + (1 : Int32))) (lv' := [(3, .int (l3 + (1 : Int32))), (0, .ref A_t)]) hx hb dX12_law_179 hl (k := 1) rfl rfl (by decide) rfl (fun ls hl => ?_)
        refine lv_goto (tgt := 123) hx hb dX12_law_182 (by decide) ?_
        exact ih_123 (upd v_t_clauseOf l3.toNatClampNeg (v_t_saidLetter l3.toNatClampNeg)) (upd v_t_codeFrom l3.toNatClampNeg (v_t_saidFrom l3.toNatClampNeg)) (upd v_t_codeHalf l3.toNatClampNeg (v_t_saidHalf l3.toNatClampNeg)) (upd v_t_codeTo l3.toNatClampNeg (v_t_saidTo l3.toNatClampNeg)) v_t_codes v_t_said v_t_saidFrom v_t_saidHalf v_t_saidLetter v_t_saidTo v_t_waitsAt x_t_clauses x_t_codeMany x_t_fault x_t_length0 x_t_number0 x_t_open x_t_place0 x_t_saidMany x_t_taped x_t_waiting (l3 + (1 : Int32)) _ _ ls (lv_sub hl [1, 0] rfl) hP hD hS hf
  have hb_95 : ∀ (n_95 : Nat) (v_t_clauseOf : (Nat → Int32)) (v_t_codeFrom : (Nat → Int32)) (v_t_codeHalf : (Nat → Int32)) (v_t_codeTo : (Nat → Int32)) (v_t_codes : (Nat → Int32)) (v_t_said : (Nat → Int32)) (v_t_saidFrom : (Nat → Int32)) (v_t_saidHalf : (Nat → Int32)) (v_t_saidLetter : (Nat → Int32)) (v_t_saidTo : (Nat → Int32)) (v_t_waitsAt : (Nat → Int32)) (x_t_clauses : Int32) (x_t_codeMany : Int32) (x_t_fault : Int32) (x_t_length0 : Int32) (x_t_number0 : Int32) (x_t_open : Int32) (x_t_place0 : Int32) (x_t_saidMany : Int32) (x_t_taped : Int32) (x_t_waiting : Int32) (l3 : Int32) (H : Heap) (locs : List Loc) (ls : Array Slot), lv_has ls 4 [(0, .ref A_t), (3, .int l3)] → va_P D vwCl [oX12 A_t A_t_now A_t_aside A_t_kept A_t_rhymeOf A_t_wasRhyme A_t_wordAt x_t_wordMany A_t_tape x_t_taped x_t_place0 x_t_length0 x_t_fault x_t_number0 x_t_open x_t_codeMany x_t_waiting x_t_saidMany x_t_clauses A_t_said A_t_waitsAt A_t_saidLetter A_t_saidFrom A_t_saidHalf A_t_saidTo A_t_codes A_t_clauseOf A_t_codeFrom A_t_codeHalf A_t_codeTo A_t_stack A_t_facts x_t_lines A_t_newWords A_t_roundFrom A_t_roundAt A_t_roundTimes x_t_newMany x_t_rounds x_t_itFrom x_t_itTimes x_t_writtenNow x_t_picturesNow x_t_usedNow x_t_chosen x_t_fearOfChosen A_t_leastFrom A_t_rowNow x_t_changesNow x_t_left0 A_t_bornOf A_t_trainsTo A_t_trainAt x_t_trainMany x_t_leastTries x_t_firstTrained x_t_isKept, iA cI 16 A_t_clauseOf v_t_clauseOf, iA cI 16 A_t_codeFrom v_t_codeFrom, iA cI 16 A_t_codeHalf v_t_codeHalf, iA cI 16 A_t_codeTo v_t_codeTo, iA cI 260 A_t_codes v_t_codes, iA cI 260 A_t_said v_t_said, iA cI 16 A_t_saidFrom v_t_saidFrom, iA cI 16 A_t_saidHalf v_t_saidHalf, iA cI 16 A_t_saidLetter v_t_saidLetter, iA cI 16 A_t_saidTo v_t_saidTo, iA cB 260 A_t_tape v_t_tape, iA cI 260 A_t_waitsAt v_t_waitsAt] H → va_D A [oX12 A_t A_t_now A_t_aside A_t_kept A_t_rhymeOf A_t_wasRhyme A_t_wordAt x_t_wordMany A_t_tape x_t_taped x_t_place0 x_t_length0 x_t_fault x_t_number0 x_t_open x_t_codeMany x_t_waiting x_t_saidMany x_t_clauses A_t_said A_t_waitsAt A_t_saidLetter A_t_saidFrom A_t_saidHalf A_t_saidTo A_t_codes A_t_clauseOf A_t_codeFrom A_t_codeHalf A_t_codeTo A_t_stack A_t_facts x_t_lines A_t_newWords A_t_roundFrom A_t_roundAt A_t_roundTimes x_t_newMany x_t_rounds x_t_itFrom x_t_itTimes x_t_writtenNow x_t_picturesNow x_t_usedNow x_t_chosen x_t_fearOfChosen A_t_leastFrom A_t_rowNow x_t_changesNow x_t_left0 A_t_bornOf A_t_trainsTo A_t_trainAt x_t_trainMany x_t_leastTries x_t_firstTrained x_t_isKept, iA cI 16 A_t_clauseOf v_t_clauseOf, iA cI 16 A_t_codeFrom v_t_codeFrom, iA cI 16 A_t_codeHalf v_t_codeHalf, iA cI 16 A_t_codeTo v_t_codeTo, iA cI 260 A_t_codes v_t_codes, iA cI 260 A_t_said v_t_said, iA cI 16 A_t_saidFrom v_t_saidFrom, iA cI 16 A_t_saidHalf v_t_saidHalf, iA cI 16 A_t_saidLetter v_t_saidLetter, iA cI 16 A_t_saidTo v_t_saidTo, iA cB 260 A_t_tape v_t_tape, iA cI 260 A_t_waitsAt v_t_waitsAt] → va_S A s.heap H locs → f_X12_law_b95 n_95 v_t_clauseOf v_t_codeFrom v_t_codeHalf v_t_codeTo v_t_codes v_t_said v_t_saidFrom v_t_saidHalf v_t_saidLetter v_t_saidTo v_t_waitsAt x_t_clauses x_t_codeMany x_t_fault x_t_length0 x_t_number0 x_t_open x_t_place0 x_t_saidMany x_t_taped x_t_waiting l3 = some (o_r, o_v_t_clauseOf, o_v_t_codeFrom, o_v_t_codeHalf, o_v_t_codeTo, o_v_t_codes, o_v_t_said, o_v_t_saidFrom, o_v_t_saidHalf, o_v_t_saidLetter, o_v_t_saidTo, o_v_t_waitsAt, o_x_t_clauses, o_x_t_codeMany, o_x_t_fault, o_x_t_length0, o_x_t_number0, o_x_t_open, o_x_t_place0, o_x_t_saidMany, o_x_t_taped, o_x_t_waiting) → W p l e { frames := 8, cells := 0, slots := 0, locals := 166 } s m ([.ref A_t, .int a1] : List Value).toArray below meth c H locs 0 0 (MQ below (PoI D A [oX12 A_t A_t_now A_t_aside A_t_kept A_t_rhymeOf A_t_wasRhyme A_t_wordAt x_t_wordMany A_t_tape o_x_t_taped o_x_t_place0 o_x_t_length0 o_x_t_fault o_x_t_number0 o_x_t_open o_x_t_codeMany o_x_t_waiting o_x_t_saidMany o_x_t_clauses A_t_said A_t_waitsAt A_t_saidLetter A_t_saidFrom A_t_saidHalf A_t_saidTo A_t_codes A_t_clauseOf A_t_codeFrom A_t_codeHalf A_t_codeTo A_t_stack A_t_facts x_t_lines A_t_newWords A_t_roundFrom A_t_roundAt A_t_roundTimes x_t_newMany x_t_rounds x_t_itFrom x_t_itTimes x_t_writtenNow x_t_picturesNow x_t_usedNow x_t_chosen x_t_fearOfChosen A_t_leastFrom A_t_rowNow x_t_changesNow x_t_left0 A_t_bornOf A_t_trainsTo A_t_trainAt x_t_trainMany x_t_leastTries x_t_firstTrained x_t_isKept, iA cI 16 A_t_clauseOf o_v_t_clauseOf, iA cI 16 A_t_codeFrom o_v_t_codeFrom, iA cI 16 A_t_codeHalf o_v_t_codeHalf, iA cI 16 A_t_codeTo o_v_t_codeTo, iA cI 260 A_t_codes o_v_t_codes, iA cI 260 A_t_said o_v_t_said, iA cI 16 A_t_saidFrom o_v_t_saidFrom, iA cI 16 A_t_saidHalf o_v_t_saidHalf, iA cI 16 A_t_saidLetter o_v_t_saidLetter, iA cI 16 A_t_saidTo o_v_t_saidTo, iA cB 260 A_t_tape v_t_tape, iA cI 260 A_t_waitsAt o_v_t_waitsAt] o_r) ([.ref A_t, .int a1] : List Value).toArray s 0 0 A) (F0 m 95 ls []) := by
    intro n_95
    induction n_95 with
    | zero =>
      intro v_t_clauseOf v_t_codeFrom v_t_codeHalf v_t_codeTo v_t_codes v_t_said v_t_saidFrom v_t_saidHalf v_t_saidLetter v_t_saidTo v_t_waitsAt x_t_clauses x_t_codeMany x_t_fault x_t_length0 x_t_number0 x_t_open x_t_place0 x_t_saidMany x_t_taped x_t_waiting l3 H locs ls hl hP hD hS hf
      exact absurd hf (fun h => by rw [f_X12_law_b95] at h; cases h)
    | succ n_95 ih_95 =>
      intro v_t_clauseOf v_t_codeFrom v_t_codeHalf v_t_codeTo v_t_codes v_t_said v_t_saidFrom v_t_saidHalf v_t_saidLetter v_t_saidTo v_t_waitsAt x_t_clauses x_t_codeMany x_t_fault x_t_length0 x_t_number0 x_t_open x_t_place0 x_t_saidMany x_t_taped x_t_waiting l3 H locs ls hl hP hD hS hf
      rw [f_X12_law_b95] at hf
      refine lv_iload_n hx hb dX12_law_95 rfl (lv_at hl 1 rfl) ?_
      refine lv_aload_n hx hb dX12_law_96 rfl (lv_at hl 0 rfl) ?_
      refine x_get C hK hP fd_X12_173 0 rfl rfl dX12_law_97 ?_
      refine lv_icmp_ge (tgt := 121) hx hb dX12_law_100 (by decide) (fun q => ?_) (fun q => ?_)
      · have hf := if_t q hf
        refine lv_iconst (v := 0) hx hb dX12_law_121 (by decide) ?_
        refine lv_istore_n (lv' := [(3, .int (0 : Int32)), (0, .ref A_t)]) hx hb dX12_law_122 rfl hl (by decide) rfl (fun ls hl => ?_)
        exact hb_123 FU v_t_clauseOf v_t_codeFrom v_t_codeHalf v_t_codeTo v_t_codes v_t_said v_t_saidFrom v_t_saidHalf v_t_saidLetter v_t_saidTo v_t_waitsAt x_t_clauses x_t_codeMany x_t_fault x_t_length0 x_t_number0 x_t_open x_t_place0 x_t_saidMany x_t_taped x_t_waiting (0 : Int32) _ _ ls (lv_sub hl [1, 0] rfl) hP hD hS hf
      · have hf := if_f q hf
        refine lv_aload_n hx hb dX12_law_103 rfl (lv_at hl 0 rfl) ?_
        refine x_get C hK hP fd_X12_50 0 rfl rfl dX12_law_104 ?_
        refine lv_iload_n hx hb dX12_law_107 rfl (lv_at hl 1 rfl) ?_
        refine lv_aload_n hx hb dX12_law_108 rfl (lv_at hl 0 rfl) ?_
        refine x_get C hK hP fd_X12_32 0 rfl rfl dX12_law_109 ?_
        refine lv_iload_n hx hb dX12_law_112 rfl (lv_at hl 1 rfl) ?_
        obtain ⟨hi, hf⟩ := gI_e hf
        refine x_iald C hK hP 6 rfl hi dX12_law_113 ?_
        obtain ⟨hi, hf⟩ := sI_e hf
        refine x_iast (ws' := [oX12 A_t A_t_now A_t_aside A_t_kept A_t_rhymeOf A_t_wasRhyme A_t_wordAt x_t_wordMany A_t_tape x_t_taped x_t_place0 x_t_length0 x_t_fault x_t_number0 x_t_open x_t_codeMany x_t_waiting x_t_saidMany x_t_clauses A_t_said A_t_waitsAt A_t_saidLetter A_t_saidFrom A_t_saidHalf A_t_saidTo A_t_codes A_t_clauseOf A_t_codeFrom A_t_codeHalf A_t_codeTo A_t_stack A_t_facts x_t_lines A_t_newWords A_t_roundFrom A_t_roundAt A_t_roundTimes x_t_newMany x_t_rounds x_t_itFrom x_t_itTimes x_t_writtenNow x_t_picturesNow x_t_usedNow x_t_chosen x_t_fearOfChosen A_t_leastFrom A_t_rowNow x_t_changesNow x_t_left0 A_t_bornOf A_t_trainsTo A_t_trainAt x_t_trainMany x_t_leastTries x_t_firstTrained x_t_isKept, iA cI 16 A_t_clauseOf v_t_clauseOf, iA cI 16 A_t_codeFrom v_t_codeFrom, iA cI 16 A_t_codeHalf v_t_codeHalf, iA cI 16 A_t_codeTo v_t_codeTo, iA cI 260 A_t_codes (upd v_t_codes l3.toNatClampNeg (v_t_said l3.toNatClampNeg)), iA cI 260 A_t_said v_t_said, iA cI 16 A_t_saidFrom v_t_saidFrom, iA cI 16 A_t_saidHalf v_t_saidHalf, iA cI 16 A_t_saidLetter v_t_saidLetter, iA cI 16 A_t_saidTo v_t_saidTo, iA cB 260 A_t_tape v_t_tape, iA cI 260 A_t_waitsAt v_t_waitsAt]) C hK hP hD hS 5 rfl hi rfl dX12_law_114 ?_
        intro H locs hP hD hS
        refine lv_iinc (v := (l3 + (1 : Int32))) (lv' := [(3, .int (l3 + (1 : Int32))), (0, .ref A_t)]) hx hb dX12_law_115 hl (k := 1) rfl rfl (by decide) rfl (fun ls hl => ?_)
        refine lv_goto (tgt := 95) hx hb dX12_law_118 (by decide) ?_
        exact ih_95 v_t_clauseOf v_t_codeFrom v_t_codeHalf v_t_codeTo (upd v_t_codes l3.toNatClampNeg (v_t_said l3.toNatClampNeg)) v_t_said v_t_saidFrom v_t_saidHalf v_t_saidLetter v_t_saidTo v_t_waitsAt x_t_clauses x_t_codeMany x_t_fault x_t_length0 x_t_number0 x_t_open x_t_place0 x_t_saidMany x_t_taped x_t_waiting (l3 + (1 : Int32)) _ _ ls (lv_sub hl [1, 0] rfl) hP hD hS hf
  have hb_71 : ∀ (v_t_clauseOf : (Nat → Int32)) (v_t_codeFrom : (Nat → Int32)) (v_t_codeHalf : (Nat → Int32)) (v_t_codeTo : (Nat → Int32)) (v_t_codes : (Nat → Int32)) (v_t_said : (Nat → Int32)) (v_t_saidFrom : (Nat → Int32)) (v_t_saidHalf : (Nat → Int32)) (v_t_saidLetter : (Nat → Int32)) (v_t_saidTo : (Nat → Int32)) (v_t_waitsAt : (Nat → Int32)) (x_t_clauses : Int32) (x_t_codeMany : Int32) (x_t_fault : Int32) (x_t_length0 : Int32) (x_t_number0 : Int32) (x_t_open : Int32) (x_t_place0 : Int32) (x_t_saidMany : Int32) (x_t_taped : Int32) (x_t_waiting : Int32) (l2 : Int32) (H : Heap) (locs : List Loc) (ls : Array Slot), lv_has ls 4 [(0, .ref A_t), (2, .int l2)] → va_P D vwCl [oX12 A_t A_t_now A_t_aside A_t_kept A_t_rhymeOf A_t_wasRhyme A_t_wordAt x_t_wordMany A_t_tape x_t_taped x_t_place0 x_t_length0 x_t_fault x_t_number0 x_t_open x_t_codeMany x_t_waiting x_t_saidMany x_t_clauses A_t_said A_t_waitsAt A_t_saidLetter A_t_saidFrom A_t_saidHalf A_t_saidTo A_t_codes A_t_clauseOf A_t_codeFrom A_t_codeHalf A_t_codeTo A_t_stack A_t_facts x_t_lines A_t_newWords A_t_roundFrom A_t_roundAt A_t_roundTimes x_t_newMany x_t_rounds x_t_itFrom x_t_itTimes x_t_writtenNow x_t_picturesNow x_t_usedNow x_t_chosen x_t_fearOfChosen A_t_leastFrom A_t_rowNow x_t_changesNow x_t_left0 A_t_bornOf A_t_trainsTo A_t_trainAt x_t_trainMany x_t_leastTries x_t_firstTrained x_t_isKept, iA cI 16 A_t_clauseOf v_t_clauseOf, iA cI 16 A_t_codeFrom v_t_codeFrom, iA cI 16 A_t_codeHalf v_t_codeHalf, iA cI 16 A_t_codeTo v_t_codeTo, iA cI 260 A_t_codes v_t_codes, iA cI 260 A_t_said v_t_said, iA cI 16 A_t_saidFrom v_t_saidFrom, iA cI 16 A_t_saidHalf v_t_saidHalf, iA cI 16 A_t_saidLetter v_t_saidLetter, iA cI 16 A_t_saidTo v_t_saidTo, iA cB 260 A_t_tape v_t_tape, iA cI 260 A_t_waitsAt v_t_waitsAt] H → va_D A [oX12 A_t A_t_now A_t_aside A_t_kept A_t_rhymeOf A_t_wasRhyme A_t_wordAt x_t_wordMany A_t_tape x_t_taped x_t_place0 x_t_length0 x_t_fault x_t_number0 x_t_open x_t_codeMany x_t_waiting x_t_saidMany x_t_clauses A_t_said A_t_waitsAt A_t_saidLetter A_t_saidFrom A_t_saidHalf A_t_saidTo A_t_codes A_t_clauseOf A_t_codeFrom A_t_codeHalf A_t_codeTo A_t_stack A_t_facts x_t_lines A_t_newWords A_t_roundFrom A_t_roundAt A_t_roundTimes x_t_newMany x_t_rounds x_t_itFrom x_t_itTimes x_t_writtenNow x_t_picturesNow x_t_usedNow x_t_chosen x_t_fearOfChosen A_t_leastFrom A_t_rowNow x_t_changesNow x_t_left0 A_t_bornOf A_t_trainsTo A_t_trainAt x_t_trainMany x_t_leastTries x_t_firstTrained x_t_isKept, iA cI 16 A_t_clauseOf v_t_clauseOf, iA cI 16 A_t_codeFrom v_t_codeFrom, iA cI 16 A_t_codeHalf v_t_codeHalf, iA cI 16 A_t_codeTo v_t_codeTo, iA cI 260 A_t_codes v_t_codes, iA cI 260 A_t_said v_t_said, iA cI 16 A_t_saidFrom v_t_saidFrom, iA cI 16 A_t_saidHalf v_t_saidHalf, iA cI 16 A_t_saidLetter v_t_saidLetter, iA cI 16 A_t_saidTo v_t_saidTo, iA cB 260 A_t_tape v_t_tape, iA cI 260 A_t_waitsAt v_t_waitsAt] → va_S A s.heap H locs → f_X12_law_b71 v_t_clauseOf v_t_codeFrom v_t_codeHalf v_t_codeTo v_t_codes v_t_said v_t_saidFrom v_t_saidHalf v_t_saidLetter v_t_saidTo v_t_waitsAt x_t_clauses x_t_codeMany x_t_fault x_t_length0 x_t_number0 x_t_open x_t_place0 x_t_saidMany x_t_taped x_t_waiting l2 = some (o_r, o_v_t_clauseOf, o_v_t_codeFrom, o_v_t_codeHalf, o_v_t_codeTo, o_v_t_codes, o_v_t_said, o_v_t_saidFrom, o_v_t_saidHalf, o_v_t_saidLetter, o_v_t_saidTo, o_v_t_waitsAt, o_x_t_clauses, o_x_t_codeMany, o_x_t_fault, o_x_t_length0, o_x_t_number0, o_x_t_open, o_x_t_place0, o_x_t_saidMany, o_x_t_taped, o_x_t_waiting) → W p l e { frames := 8, cells := 0, slots := 0, locals := 166 } s m ([.ref A_t, .int a1] : List Value).toArray below meth c H locs 0 0 (MQ below (PoI D A [oX12 A_t A_t_now A_t_aside A_t_kept A_t_rhymeOf A_t_wasRhyme A_t_wordAt x_t_wordMany A_t_tape o_x_t_taped o_x_t_place0 o_x_t_length0 o_x_t_fault o_x_t_number0 o_x_t_open o_x_t_codeMany o_x_t_waiting o_x_t_saidMany o_x_t_clauses A_t_said A_t_waitsAt A_t_saidLetter A_t_saidFrom A_t_saidHalf A_t_saidTo A_t_codes A_t_clauseOf A_t_codeFrom A_t_codeHalf A_t_codeTo A_t_stack A_t_facts x_t_lines A_t_newWords A_t_roundFrom A_t_roundAt A_t_roundTimes x_t_newMany x_t_rounds x_t_itFrom x_t_itTimes x_t_writtenNow x_t_picturesNow x_t_usedNow x_t_chosen x_t_fearOfChosen A_t_leastFrom A_t_rowNow x_t_changesNow x_t_left0 A_t_bornOf A_t_trainsTo A_t_trainAt x_t_trainMany x_t_leastTries x_t_firstTrained x_t_isKept, iA cI 16 A_t_clauseOf o_v_t_clauseOf, iA cI 16 A_t_codeFrom o_v_t_codeFrom, iA cI 16 A_t_codeHalf o_v_t_codeHalf, iA cI 16 A_t_codeTo o_v_t_codeTo, iA cI 260 A_t_codes o_v_t_codes, iA cI 260 A_t_said o_v_t_said, iA cI 16 A_t_saidFrom o_v_t_saidFrom, iA cI 16 A_t_saidHalf o_v_t_saidHalf, iA cI 16 A_t_saidLetter o_v_t_saidLetter, iA cI 16 A_t_saidTo o_v_t_saidTo, iA cB 260 A_t_tape v_t_tape, iA cI 260 A_t_waitsAt o_v_t_waitsAt] o_r) ([.ref A_t, .int a1] : List Value).toArray s 0 0 A) (F0 m 71 ls []) := by
    intro v_t_clauseOf v_t_codeFrom v_t_codeHalf v_t_codeTo v_t_codes v_t_said v_t_saidFrom v_t_saidHalf v_t_saidLetter v_t_saidTo v_t_waitsAt x_t_clauses x_t_codeMany x_t_fault x_t_length0 x_t_number0 x_t_open x_t_place0 x_t_saidMany x_t_taped x_t_waiting l2 H locs ls hl hP hD hS hf
    unfold f_X12_law_b71 at hf
    refine lv_aload_n hx hb dX12_law_71 rfl (lv_at hl 0 rfl) ?_
    refine lv_iconst (v := 0) hx hb dX12_law_72 (by decide) ?_
    refine x_put (ws' := [oX12 A_t A_t_now A_t_aside A_t_kept A_t_rhymeOf A_t_wasRhyme A_t_wordAt x_t_wordMany A_t_tape (0 : Int32) x_t_place0 x_t_length0 x_t_fault x_t_number0 x_t_open x_t_codeMany x_t_waiting x_t_saidMany x_t_clauses A_t_said A_t_waitsAt A_t_saidLetter A_t_saidFrom A_t_saidHalf A_t_saidTo A_t_codes A_t_clauseOf A_t_codeFrom A_t_codeHalf A_t_codeTo A_t_stack A_t_facts x_t_lines A_t_newWords A_t_roundFrom A_t_roundAt A_t_roundTimes x_t_newMany x_t_rounds x_t_itFrom x_t_itTimes x_t_writtenNow x_t_picturesNow x_t_usedNow x_t_chosen x_t_fearOfChosen A_t_leastFrom A_t_rowNow x_t_changesNow x_t_left0 A_t_bornOf A_t_trainsTo A_t_trainAt x_t_trainMany x_t_leastTries x_t_firstTrained x_t_isKept, iA cI 16 A_t_clauseOf v_t_clauseOf, iA cI 16 A_t_codeFrom v_t_codeFrom, iA cI 16 A_t_codeHalf v_t_codeHalf, iA cI 16 A_t_codeTo v_t_codeTo, iA cI 260 A_t_codes v_t_codes, iA cI 260 A_t_said v_t_said, iA cI 16 A_t_saidFrom v_t_saidFrom, iA cI 16 A_t_saidHalf v_t_saidHalf, iA cI 16 A_t_saidLetter v_t_saidLetter, iA cI 16 A_t_saidTo v_t_saidTo, iA cB 260 A_t_tape v_t_tape, iA cI 260 A_t_waitsAt v_t_waitsAt]) C hK hP hD hS fp_X12_143 0 rfl rfl rfl (Nat.le_of_ble_eq_true rfl) rfl dX12_law_73 ?_
    intro H locs hP hD hS
    refine lv_iload_n hx hb dX12_law_76 rfl (lv_at hl 1 rfl) ?_
    refine lv_if_ne (tgt := 85) hx hb dX12_law_77 (by decide) (fun q => ?_) (fun q => ?_)
    · have hf := if_f q hf
      refine lv_aload_n hx hb dX12_law_85 rfl (lv_at hl 0 rfl) ?_
      refine lv_aload_n hx hb dX12_law_86 rfl (lv_at hl 0 rfl) ?_
      refine x_get C hK hP fd_X12_227 0 rfl rfl dX12_law_87 ?_
      refine x_put (ws' := [oX12 A_t A_t_now A_t_aside A_t_kept A_t_rhymeOf A_t_wasRhyme A_t_wordAt x_t_wordMany A_t_tape (0 : Int32) x_t_place0 x_t_length0 x_t_fault x_t_number0 x_t_open x_t_codeMany x_t_waiting x_t_saidMany x_t_saidMany A_t_said A_t_waitsAt A_t_saidLetter A_t_saidFrom A_t_saidHalf A_t_saidTo A_t_codes A_t_clauseOf A_t_codeFrom A_t_codeHalf A_t_codeTo A_t_stack A_t_facts x_t_lines A_t_newWords A_t_roundFrom A_t_roundAt A_t_roundTimes x_t_newMany x_t_rounds x_t_itFrom x_t_itTimes x_t_writtenNow x_t_picturesNow x_t_usedNow x_t_chosen x_t_fearOfChosen A_t_leastFrom A_t_rowNow x_t_changesNow x_t_left0 A_t_bornOf A_t_trainsTo A_t_trainAt x_t_trainMany x_t_leastTries x_t_firstTrained x_t_isKept, iA cI 16 A_t_clauseOf v_t_clauseOf, iA cI 16 A_t_codeFrom v_t_codeFrom, iA cI 16 A_t_codeHalf v_t_codeHalf, iA cI 16 A_t_codeTo v_t_codeTo, iA cI 260 A_t_codes v_t_codes, iA cI 260 A_t_said v_t_said, iA cI 16 A_t_saidFrom v_t_saidFrom, iA cI 16 A_t_saidHalf v_t_saidHalf, iA cI 16 A_t_saidLetter v_t_saidLetter, iA cI 16 A_t_saidTo v_t_saidTo, iA cB 260 A_t_tape v_t_tape, iA cI 260 A_t_waitsAt v_t_waitsAt]) C hK hP hD hS fp_X12_242 0 rfl rfl rfl (Nat.le_of_ble_eq_true rfl) rfl dX12_law_90 ?_
      intro H locs hP hD hS
      refine lv_iconst (v := 0) hx hb dX12_law_93 (by decide) ?_
      refine lv_istore_n (lv' := [(3, .int (0 : Int32)), (0, .ref A_t), (2, .int l2)]) hx hb dX12_law_94 rfl hl (by decide) rfl (fun ls hl => ?_)
      exact hb_95 FU v_t_clauseOf v_t_codeFrom v_t_codeHalf v_t_codeTo v_t_codes v_t_said v_t_saidFrom v_t_saidHalf v_t_saidLetter v_t_saidTo v_t_waitsAt x_t_saidMany x_t_codeMany x_t_fault x_t_length0 x_t_number0 x_t_open x_t_place0 x_t_saidMany (0 : Int32) x_t_waiting (0 : Int32) _ _ ls (lv_sub hl [1, 0] rfl) hP hD hS hf
    · have hf := if_t q hf
      refine lv_aload_n hx hb dX12_law_80 rfl (lv_at hl 0 rfl) ?_
      refine x_get C hK hP fd_X12_160 0 rfl rfl dX12_law_81 ?_
      obtain ⟨rfl, rfl, rfl, rfl, rfl, rfl, rfl, rfl, rfl, rfl, rfl, rfl, rfl, rfl, rfl, rfl, rfl, rfl, rfl, rfl, rfl, rfl⟩ := ev22 hf
      exact x_iret C hr hlk hP hD hS dX12_law_84
  have hb_31 : ∀ (n_31 : Nat) (v_t_clauseOf : (Nat → Int32)) (v_t_codeFrom : (Nat → Int32)) (v_t_codeHalf : (Nat → Int32)) (v_t_codeTo : (Nat → Int32)) (v_t_codes : (Nat → Int32)) (v_t_said : (Nat → Int32)) (v_t_saidFrom : (Nat → Int32)) (v_t_saidHalf : (Nat → Int32)) (v_t_saidLetter : (Nat → Int32)) (v_t_saidTo : (Nat → Int32)) (v_t_waitsAt : (Nat → Int32)) (x_t_clauses : Int32) (x_t_codeMany : Int32) (x_t_fault : Int32) (x_t_length0 : Int32) (x_t_number0 : Int32) (x_t_open : Int32) (x_t_place0 : Int32) (x_t_saidMany : Int32) (x_t_taped : Int32) (x_t_waiting : Int32) (l2 : Int32) (H : Heap) (locs : List Loc) (ls : Array Slot), lv_has ls 4 [(0, .ref A_t), (2, .int l2)] → va_P D vwCl [oX12 A_t A_t_now A_t_aside A_t_kept A_t_rhymeOf A_t_wasRhyme A_t_wordAt x_t_wordMany A_t_tape x_t_taped x_t_place0 x_t_length0 x_t_fault x_t_number0 x_t_open x_t_codeMany x_t_waiting x_t_saidMany x_t_clauses A_t_said A_t_waitsAt A_t_saidLetter A_t_saidFrom A_t_saidHalf A_t_saidTo A_t_codes A_t_clauseOf A_t_codeFrom A_t_codeHalf A_t_codeTo A_t_stack A_t_facts x_t_lines A_t_newWords A_t_roundFrom A_t_roundAt A_t_roundTimes x_t_newMany x_t_rounds x_t_itFrom x_t_itTimes x_t_writtenNow x_t_picturesNow x_t_usedNow x_t_chosen x_t_fearOfChosen A_t_leastFrom A_t_rowNow x_t_changesNow x_t_left0 A_t_bornOf A_t_trainsTo A_t_trainAt x_t_trainMany x_t_leastTries x_t_firstTrained x_t_isKept, iA cI 16 A_t_clauseOf v_t_clauseOf, iA cI 16 A_t_codeFrom v_t_codeFrom, iA cI 16 A_t_codeHalf v_t_codeHalf, iA cI 16 A_t_codeTo v_t_codeTo, iA cI 260 A_t_codes v_t_codes, iA cI 260 A_t_said v_t_said, iA cI 16 A_t_saidFrom v_t_saidFrom, iA cI 16 A_t_saidHalf v_t_saidHalf, iA cI 16 A_t_saidLetter v_t_saidLetter, iA cI 16 A_t_saidTo v_t_saidTo, iA cB 260 A_t_tape v_t_tape, iA cI 260 A_t_waitsAt v_t_waitsAt] H → va_D A [oX12 A_t A_t_now A_t_aside A_t_kept A_t_rhymeOf A_t_wasRhyme A_t_wordAt x_t_wordMany A_t_tape x_t_taped x_t_place0 x_t_length0 x_t_fault x_t_number0 x_t_open x_t_codeMany x_t_waiting x_t_saidMany x_t_clauses A_t_said A_t_waitsAt A_t_saidLetter A_t_saidFrom A_t_saidHalf A_t_saidTo A_t_codes A_t_clauseOf A_t_codeFrom A_t_codeHalf A_t_codeTo A_t_stack A_t_facts x_t_lines A_t_newWords A_t_roundFrom A_t_roundAt A_t_roundTimes x_t_newMany x_t_rounds x_t_itFrom x_t_itTimes x_t_writtenNow x_t_picturesNow x_t_usedNow x_t_chosen x_t_fearOfChosen A_t_leastFrom A_t_rowNow x_t_changesNow x_t_left0 A_t_bornOf A_t_trainsTo A_t_trainAt x_t_trainMany x_t_leastTries x_t_firstTrained x_t_isKept, iA cI 16 A_t_clauseOf v_t_clauseOf, iA cI 16 A_t_codeFrom v_t_codeFrom, iA cI 16 A_t_codeHalf v_t_codeHalf, iA cI 16 A_t_codeTo v_t_codeTo, iA cI 260 A_t_codes v_t_codes, iA cI 260 A_t_said v_t_said, iA cI 16 A_t_saidFrom v_t_saidFrom, iA cI 16 A_t_saidHalf v_t_saidHalf, iA cI 16 A_t_saidLetter v_t_saidLetter, iA cI 16 A_t_saidTo v_t_saidTo, iA cB 260 A_t_tape v_t_tape, iA cI 260 A_t_waitsAt v_t_waitsAt] → va_S A s.heap H locs → f_X12_law_b31 v_t_tape n_31 v_t_clauseOf v_t_codeFrom v_t_codeHalf v_t_codeTo v_t_codes v_t_said v_t_saidFrom v_t_saidHalf v_t_saidLetter v_t_saidTo v_t_waitsAt x_t_clauses x_t_codeMany x_t_fault x_t_length0 x_t_number0 x_t_open x_t_place0 x_t_saidMany x_t_taped x_t_waiting l2 = some (o_r, o_v_t_clauseOf, o_v_t_codeFrom, o_v_t_codeHalf, o_v_t_codeTo, o_v_t_codes, o_v_t_said, o_v_t_saidFrom, o_v_t_saidHalf, o_v_t_saidLetter, o_v_t_saidTo, o_v_t_waitsAt, o_x_t_clauses, o_x_t_codeMany, o_x_t_fault, o_x_t_length0, o_x_t_number0, o_x_t_open, o_x_t_place0, o_x_t_saidMany, o_x_t_taped, o_x_t_waiting) → W p l e { frames := 8, cells := 0, slots := 0, locals := 166 } s m ([.ref A_t, .int a1] : List Value).toArray below meth c H locs 0 0 (MQ below (PoI D A [oX12 A_t A_t_now A_t_aside A_t_kept A_t_rhymeOf A_t_wasRhyme A_t_wordAt x_t_wordMany A_t_tape o_x_t_taped o_x_t_place0 o_x_t_length0 o_x_t_fault o_x_t_number0 o_x_t_open o_x_t_codeMany o_x_t_waiting o_x_t_saidMany o_x_t_clauses A_t_said A_t_waitsAt A_t_saidLetter A_t_saidFrom A_t_saidHalf A_t_saidTo A_t_codes A_t_clauseOf A_t_codeFrom A_t_codeHalf A_t_codeTo A_t_stack A_t_facts x_t_lines A_t_newWords A_t_roundFrom A_t_roundAt A_t_roundTimes x_t_newMany x_t_rounds x_t_itFrom x_t_itTimes x_t_writtenNow x_t_picturesNow x_t_usedNow x_t_chosen x_t_fearOfChosen A_t_leastFrom A_t_rowNow x_t_changesNow x_t_left0 A_t_bornOf A_t_trainsTo A_t_trainAt x_t_trainMany x_t_leastTries x_t_firstTrained x_t_isKept, iA cI 16 A_t_clauseOf o_v_t_clauseOf, iA cI 16 A_t_codeFrom o_v_t_codeFrom, iA cI 16 A_t_codeHalf o_v_t_codeHalf, iA cI 16 A_t_codeTo o_v_t_codeTo, iA cI 260 A_t_codes o_v_t_codes, iA cI 260 A_t_said o_v_t_said, iA cI 16 A_t_saidFrom o_v_t_saidFrom, iA cI 16 A_t_saidHalf o_v_t_saidHalf, iA cI 16 A_t_saidLetter o_v_t_saidLetter, iA cI 16 A_t_saidTo o_v_t_saidTo, iA cB 260 A_t_tape v_t_tape, iA cI 260 A_t_waitsAt o_v_t_waitsAt] o_r) ([.ref A_t, .int a1] : List Value).toArray s 0 0 A) (F0 m 31 ls []) := by
    intro n_31
    induction n_31 with
    | zero =>
      intro v_t_clauseOf v_t_codeFrom v_t_codeHalf v_t_codeTo v_t_codes v_t_said v_t_saidFrom v_t_saidHalf v_t_saidLetter v_t_saidTo v_t_waitsAt x_t_clauses x_t_codeMany x_t_fault x_t_length0 x_t_number0 x_t_open x_t_place0 x_t_saidMany x_t_taped x_t_waiting l2 H locs ls hl hP hD hS hf
      exact absurd hf (fun h => by rw [f_X12_law_b31] at h; cases h)
    | succ n_31 ih_31 =>
      have hb_67 : ∀ (v_t_clauseOf : (Nat → Int32)) (v_t_codeFrom : (Nat → Int32)) (v_t_codeHalf : (Nat → Int32)) (v_t_codeTo : (Nat → Int32)) (v_t_codes : (Nat → Int32)) (v_t_said : (Nat → Int32)) (v_t_saidFrom : (Nat → Int32)) (v_t_saidHalf : (Nat → Int32)) (v_t_saidLetter : (Nat → Int32)) (v_t_saidTo : (Nat → Int32)) (v_t_waitsAt : (Nat → Int32)) (x_t_clauses : Int32) (x_t_codeMany : Int32) (x_t_fault : Int32) (x_t_length0 : Int32) (x_t_number0 : Int32) (x_t_open : Int32) (x_t_place0 : Int32) (x_t_saidMany : Int32) (x_t_taped : Int32) (x_t_waiting : Int32) (s0 : Int32) (H : Heap) (locs : List Loc) (ls : Array Slot), lv_has ls 4 [(0, .ref A_t)] → va_P D vwCl [oX12 A_t A_t_now A_t_aside A_t_kept A_t_rhymeOf A_t_wasRhyme A_t_wordAt x_t_wordMany A_t_tape x_t_taped x_t_place0 x_t_length0 x_t_fault x_t_number0 x_t_open x_t_codeMany x_t_waiting x_t_saidMany x_t_clauses A_t_said A_t_waitsAt A_t_saidLetter A_t_saidFrom A_t_saidHalf A_t_saidTo A_t_codes A_t_clauseOf A_t_codeFrom A_t_codeHalf A_t_codeTo A_t_stack A_t_facts x_t_lines A_t_newWords A_t_roundFrom A_t_roundAt A_t_roundTimes x_t_newMany x_t_rounds x_t_itFrom x_t_itTimes x_t_writtenNow x_t_picturesNow x_t_usedNow x_t_chosen x_t_fearOfChosen A_t_leastFrom A_t_rowNow x_t_changesNow x_t_left0 A_t_bornOf A_t_trainsTo A_t_trainAt x_t_trainMany x_t_leastTries x_t_firstTrained x_t_isKept, iA cI 16 A_t_clauseOf v_t_clauseOf, iA cI 16 A_t_codeFrom v_t_codeFrom, iA cI 16 A_t_codeHalf v_t_codeHalf, iA cI 16 A_t_codeTo v_t_codeTo, iA cI 260 A_t_codes v_t_codes, iA cI 260 A_t_said v_t_said, iA cI 16 A_t_saidFrom v_t_saidFrom, iA cI 16 A_t_saidHalf v_t_saidHalf, iA cI 16 A_t_saidLetter v_t_saidLetter, iA cI 16 A_t_saidTo v_t_saidTo, iA cB 260 A_t_tape v_t_tape, iA cI 260 A_t_waitsAt v_t_waitsAt] H → va_D A [oX12 A_t A_t_now A_t_aside A_t_kept A_t_rhymeOf A_t_wasRhyme A_t_wordAt x_t_wordMany A_t_tape x_t_taped x_t_place0 x_t_length0 x_t_fault x_t_number0 x_t_open x_t_codeMany x_t_waiting x_t_saidMany x_t_clauses A_t_said A_t_waitsAt A_t_saidLetter A_t_saidFrom A_t_saidHalf A_t_saidTo A_t_codes A_t_clauseOf A_t_codeFrom A_t_codeHalf A_t_codeTo A_t_stack A_t_facts x_t_lines A_t_newWords A_t_roundFrom A_t_roundAt A_t_roundTimes x_t_newMany x_t_rounds x_t_itFrom x_t_itTimes x_t_writtenNow x_t_picturesNow x_t_usedNow x_t_chosen x_t_fearOfChosen A_t_leastFrom A_t_rowNow x_t_changesNow x_t_left0 A_t_bornOf A_t_trainsTo A_t_trainAt x_t_trainMany x_t_leastTries x_t_firstTrained x_t_isKept, iA cI 16 A_t_clauseOf v_t_clauseOf, iA cI 16 A_t_codeFrom v_t_codeFrom, iA cI 16 A_t_codeHalf v_t_codeHalf, iA cI 16 A_t_codeTo v_t_codeTo, iA cI 260 A_t_codes v_t_codes, iA cI 260 A_t_said v_t_said, iA cI 16 A_t_saidFrom v_t_saidFrom, iA cI 16 A_t_saidHalf v_t_saidHalf, iA cI 16 A_t_saidLetter v_t_saidLetter, iA cI 16 A_t_saidTo v_t_saidTo, iA cB 260 A_t_tape v_t_tape, iA cI 260 A_t_waitsAt v_t_waitsAt] → va_S A s.heap H locs → f_X12_law_b67 (f_X12_law_b31 v_t_tape n_31) v_t_clauseOf v_t_codeFrom v_t_codeHalf v_t_codeTo v_t_codes v_t_said v_t_saidFrom v_t_saidHalf v_t_saidLetter v_t_saidTo v_t_waitsAt x_t_clauses x_t_codeMany x_t_fault x_t_length0 x_t_number0 x_t_open x_t_place0 x_t_saidMany x_t_taped x_t_waiting s0 = some (o_r, o_v_t_clauseOf, o_v_t_codeFrom, o_v_t_codeHalf, o_v_t_codeTo, o_v_t_codes, o_v_t_said, o_v_t_saidFrom, o_v_t_saidHalf, o_v_t_saidLetter, o_v_t_saidTo, o_v_t_waitsAt, o_x_t_clauses, o_x_t_codeMany, o_x_t_fault, o_x_t_length0, o_x_t_number0, o_x_t_open, o_x_t_place0, o_x_t_saidMany, o_x_t_taped, o_x_t_waiting) → W p l e { frames := 8, cells := 0, slots := 0, locals := 166 } s m ([.ref A_t, .int a1] : List Value).toArray below meth c H locs 0 0 (MQ below (PoI D A [oX12 A_t A_t_now A_t_aside A_t_kept A_t_rhymeOf A_t_wasRhyme A_t_wordAt x_t_wordMany A_t_tape o_x_t_taped o_x_t_place0 o_x_t_length0 o_x_t_fault o_x_t_number0 o_x_t_open o_x_t_codeMany o_x_t_waiting o_x_t_saidMany o_x_t_clauses A_t_said A_t_waitsAt A_t_saidLetter A_t_saidFrom A_t_saidHalf A_t_saidTo A_t_codes A_t_clauseOf A_t_codeFrom A_t_codeHalf A_t_codeTo A_t_stack A_t_facts x_t_lines A_t_newWords A_t_roundFrom A_t_roundAt A_t_roundTimes x_t_newMany x_t_rounds x_t_itFrom x_t_itTimes x_t_writtenNow x_t_picturesNow x_t_usedNow x_t_chosen x_t_fearOfChosen A_t_leastFrom A_t_rowNow x_t_changesNow x_t_left0 A_t_bornOf A_t_trainsTo A_t_trainAt x_t_trainMany x_t_leastTries x_t_firstTrained x_t_isKept, iA cI 16 A_t_clauseOf o_v_t_clauseOf, iA cI 16 A_t_codeFrom o_v_t_codeFrom, iA cI 16 A_t_codeHalf o_v_t_codeHalf, iA cI 16 A_t_codeTo o_v_t_codeTo, iA cI 260 A_t_codes o_v_t_codes, iA cI 260 A_t_said o_v_t_said, iA cI 16 A_t_saidFrom o_v_t_saidFrom, iA cI 16 A_t_saidHalf o_v_t_saidHalf, iA cI 16 A_t_saidLetter o_v_t_saidLetter, iA cI 16 A_t_saidTo o_v_t_saidTo, iA cB 260 A_t_tape v_t_tape, iA cI 260 A_t_waitsAt o_v_t_waitsAt] o_r) ([.ref A_t, .int a1] : List Value).toArray s 0 0 A) (F0 m 67 ls [.int s0]) := by
        intro v_t_clauseOf v_t_codeFrom v_t_codeHalf v_t_codeTo v_t_codes v_t_said v_t_saidFrom v_t_saidHalf v_t_saidLetter v_t_saidTo v_t_waitsAt x_t_clauses x_t_codeMany x_t_fault x_t_length0 x_t_number0 x_t_open x_t_place0 x_t_saidMany x_t_taped x_t_waiting s0 H locs ls hl hP hD hS hf
        unfold f_X12_law_b67 at hf
        refine lv_istore_n (lv' := [(2, .int s0), (0, .ref A_t)]) hx hb dX12_law_67 rfl hl (by decide) rfl (fun ls hl => ?_)
        refine lv_goto (tgt := 31) hx hb dX12_law_68 (by decide) ?_
        exact ih_31 v_t_clauseOf v_t_codeFrom v_t_codeHalf v_t_codeTo v_t_codes v_t_said v_t_saidFrom v_t_saidHalf v_t_saidLetter v_t_saidTo v_t_waitsAt x_t_clauses x_t_codeMany x_t_fault x_t_length0 x_t_number0 x_t_open x_t_place0 x_t_saidMany x_t_taped x_t_waiting s0 _ _ ls (lv_sub hl [1, 0] rfl) hP hD hS hf
      have hb_66 : ∀ (v_t_clauseOf : (Nat → Int32)) (v_t_codeFrom : (Nat → Int32)) (v_t_codeHalf : (Nat → Int32)) (v_t_codeTo : (Nat → Int32)) (v_t_codes : (Nat → Int32)) (v_t_said : (Nat → Int32)) (v_t_saidFrom : (Nat → Int32)) (v_t_saidHalf : (Nat → Int32)) (v_t_saidLetter : (Nat → Int32)) (v_t_saidTo : (Nat → Int32)) (v_t_waitsAt : (Nat → Int32)) (x_t_clauses : Int32) (x_t_codeMany : Int32) (x_t_fault : Int32) (x_t_length0 : Int32) (x_t_number0 : Int32) (x_t_open : Int32) (x_t_place0 : Int32) (x_t_saidMany : Int32) (x_t_taped : Int32) (x_t_waiting : Int32) (H : Heap) (locs : List Loc) (ls : Array Slot), lv_has ls 4 [(0, .ref A_t)] → va_P D vwCl [oX12 A_t A_t_now A_t_aside A_t_kept A_t_rhymeOf A_t_wasRhyme A_t_wordAt x_t_wordMany A_t_tape x_t_taped x_t_place0 x_t_length0 x_t_fault x_t_number0 x_t_open x_t_codeMany x_t_waiting x_t_saidMany x_t_clauses A_t_said A_t_waitsAt A_t_saidLetter A_t_saidFrom A_t_saidHalf A_t_saidTo A_t_codes A_t_clauseOf A_t_codeFrom A_t_codeHalf A_t_codeTo A_t_stack A_t_facts x_t_lines A_t_newWords A_t_roundFrom A_t_roundAt A_t_roundTimes x_t_newMany x_t_rounds x_t_itFrom x_t_itTimes x_t_writtenNow x_t_picturesNow x_t_usedNow x_t_chosen x_t_fearOfChosen A_t_leastFrom A_t_rowNow x_t_changesNow x_t_left0 A_t_bornOf A_t_trainsTo A_t_trainAt x_t_trainMany x_t_leastTries x_t_firstTrained x_t_isKept, iA cI 16 A_t_clauseOf v_t_clauseOf, iA cI 16 A_t_codeFrom v_t_codeFrom, iA cI 16 A_t_codeHalf v_t_codeHalf, iA cI 16 A_t_codeTo v_t_codeTo, iA cI 260 A_t_codes v_t_codes, iA cI 260 A_t_said v_t_said, iA cI 16 A_t_saidFrom v_t_saidFrom, iA cI 16 A_t_saidHalf v_t_saidHalf, iA cI 16 A_t_saidLetter v_t_saidLetter, iA cI 16 A_t_saidTo v_t_saidTo, iA cB 260 A_t_tape v_t_tape, iA cI 260 A_t_waitsAt v_t_waitsAt] H → va_D A [oX12 A_t A_t_now A_t_aside A_t_kept A_t_rhymeOf A_t_wasRhyme A_t_wordAt x_t_wordMany A_t_tape x_t_taped x_t_place0 x_t_length0 x_t_fault x_t_number0 x_t_open x_t_codeMany x_t_waiting x_t_saidMany x_t_clauses A_t_said A_t_waitsAt A_t_saidLetter A_t_saidFrom A_t_saidHalf A_t_saidTo A_t_codes A_t_clauseOf A_t_codeFrom A_t_codeHalf A_t_codeTo A_t_stack A_t_facts x_t_lines A_t_newWords A_t_roundFrom A_t_roundAt A_t_roundTimes x_t_newMany x_t_rounds x_t_itFrom x_t_itTimes x_t_writtenNow x_t_picturesNow x_t_usedNow x_t_chosen x_t_fearOfChosen A_t_leastFrom A_t_rowNow x_t_changesNow x_t_left0 A_t_bornOf A_t_trainsTo A_t_trainAt x_t_trainMany x_t_leastTries x_t_firstTrained x_t_isKept, iA cI 16 A_t_clauseOf v_t_clauseOf, iA cI 16 A_t_codeFrom v_t_codeFrom, iA cI 16 A_t_codeHalf v_t_codeHalf, iA cI 16 A_t_codeTo v_t_codeTo, iA cI 260 A_t_codes v_t_codes, iA cI 260 A_t_said v_t_said, iA cI 16 A_t_saidFrom v_t_saidFrom, iA cI 16 A_t_saidHalf v_t_saidHalf, iA cI 16 A_t_saidLetter v_t_saidLetter, iA cI 16 A_t_saidTo v_t_saidTo, iA cB 260 A_t_tape v_t_tape, iA cI 260 A_t_waitsAt v_t_waitsAt] → va_S A s.heap H locs → f_X12_law_b66 (f_X12_law_b31 v_t_tape n_31) v_t_clauseOf v_t_codeFrom v_t_codeHalf v_t_codeTo v_t_codes v_t_said v_t_saidFrom v_t_saidHalf v_t_saidLetter v_t_saidTo v_t_waitsAt x_t_clauses x_t_codeMany x_t_fault x_t_length0 x_t_number0 x_t_open x_t_place0 x_t_saidMany x_t_taped x_t_waiting = some (o_r, o_v_t_clauseOf, o_v_t_codeFrom, o_v_t_codeHalf, o_v_t_codeTo, o_v_t_codes, o_v_t_said, o_v_t_saidFrom, o_v_t_saidHalf, o_v_t_saidLetter, o_v_t_saidTo, o_v_t_waitsAt, o_x_t_clauses, o_x_t_codeMany, o_x_t_fault, o_x_t_length0, o_x_t_number0, o_x_t_open, o_x_t_place0, o_x_t_saidMany, o_x_t_taped, o_x_t_waiting) → W p l e { frames := 8, cells := 0, slots := 0, locals := 166 } s m ([.ref A_t, .int a1] : List Value).toArray below meth c H locs 0 0 (MQ below (PoI D A [oX12 A_t A_t_now A_t_aside A_t_kept A_t_rhymeOf A_t_wasRhyme A_t_wordAt x_t_wordMany A_t_tape o_x_t_taped o_x_t_place0 o_x_t_length0 o_x_t_fault o_x_t_number0 o_x_t_open o_x_t_codeMany o_x_t_waiting o_x_t_saidMany o_x_t_clauses A_t_said A_t_waitsAt A_t_saidLetter A_t_saidFrom A_t_saidHalf A_t_saidTo A_t_codes A_t_clauseOf A_t_codeFrom A_t_codeHalf A_t_codeTo A_t_stack A_t_facts x_t_lines A_t_newWords A_t_roundFrom A_t_roundAt A_t_roundTimes x_t_newMany x_t_rounds x_t_itFrom x_t_itTimes x_t_writtenNow x_t_picturesNow x_t_usedNow x_t_chosen x_t_fearOfChosen A_t_leastFrom A_t_rowNow x_t_changesNow x_t_left0 A_t_bornOf A_t_trainsTo A_t_trainAt x_t_trainMany x_t_leastTries x_t_firstTrained x_t_isKept, iA cI 16 A_t_clauseOf o_v_t_clauseOf, iA cI 16 A_t_codeFrom o_v_t_codeFrom, iA cI 16 A_t_codeHalf o_v_t_codeHalf, iA cI 16 A_t_codeTo o_v_t_codeTo, iA cI 260 A_t_codes o_v_t_codes, iA cI 260 A_t_said o_v_t_said, iA cI 16 A_t_saidFrom o_v_t_saidFrom, iA cI 16 A_t_saidHalf o_v_t_saidHalf, iA cI 16 A_t_saidLetter o_v_t_saidLetter, iA cI 16 A_t_saidTo o_v_t_saidTo, iA cB 260 A_t_tape v_t_tape, iA cI 260 A_t_waitsAt o_v_t_waitsAt] o_r) ([.ref A_t, .int a1] : List Value).toArray s 0 0 A) (F0 m 66 ls []) := by
        intro v_t_clauseOf v_t_codeFrom v_t_codeHalf v_t_codeTo v_t_codes v_t_said v_t_saidFrom v_t_saidHalf v_t_saidLetter v_t_saidTo v_t_waitsAt x_t_clauses x_t_codeMany x_t_fault x_t_length0 x_t_number0 x_t_open x_t_place0 x_t_saidMany x_t_taped x_t_waiting H locs ls hl hP hD hS hf
        unfold f_X12_law_b66 at hf
        refine lv_iconst (v := 0) hx hb dX12_law_66 (by decide) ?_
        exact hb_67 v_t_clauseOf v_t_codeFrom v_t_codeHalf v_t_codeTo v_t_codes v_t_said v_t_saidFrom v_t_saidHalf v_t_saidLetter v_t_saidTo v_t_waitsAt x_t_clauses x_t_codeMany x_t_fault x_t_length0 x_t_number0 x_t_open x_t_place0 x_t_saidMany x_t_taped x_t_waiting (0 : Int32) _ _ ls (lv_sub hl [0] rfl) hP hD hS hf
      intro v_t_clauseOf v_t_codeFrom v_t_codeHalf v_t_codeTo v_t_codes v_t_said v_t_saidFrom v_t_saidHalf v_t_saidLetter v_t_saidTo v_t_waitsAt x_t_clauses x_t_codeMany x_t_fault x_t_length0 x_t_number0 x_t_open x_t_place0 x_t_saidMany x_t_taped x_t_waiting l2 H locs ls hl hP hD hS hf
      rw [f_X12_law_b31] at hf
      refine lv_iload_n hx hb dX12_law_31 rfl (lv_at hl 1 rfl) ?_
      refine lv_if_eq (tgt := 71) hx hb dX12_law_32 (by decide) (fun q => ?_) (fun q => ?_)
      · have hf := if_t q hf
        exact hb_71 v_t_clauseOf v_t_codeFrom v_t_codeHalf v_t_codeTo v_t_codes v_t_said v_t_saidFrom v_t_saidHalf v_t_saidLetter v_t_saidTo v_t_waitsAt x_t_clauses x_t_codeMany x_t_fault x_t_length0 x_t_number0 x_t_open x_t_place0 x_t_saidMany x_t_taped x_t_waiting l2 _ _ ls (lv_sub hl [0, 1] rfl) hP hD hS hf
      · have hf := if_f q hf
        refine lv_aload_n hx hb dX12_law_35 rfl (lv_at hl 0 rfl) ?_
        refine x_get C hK hP fd_X12_150 0 rfl rfl dX12_law_36 ?_
        refine lv_aload_n hx hb dX12_law_39 rfl (lv_at hl 0 rfl) ?_
        refine x_get C hK hP fd_X12_153 0 rfl rfl dX12_law_40 ?_
        refine lv_icmp_ge (tgt := 71) hx hb dX12_law_43 (by decide) (fun q => ?_) (fun q => ?_)
        · have hf := if_t q hf
          exact hb_71 v_t_clauseOf v_t_codeFrom v_t_codeHalf v_t_codeTo v_t_codes v_t_said v_t_saidFrom v_t_saidHalf v_t_saidLetter v_t_saidTo v_t_waitsAt x_t_clauses x_t_codeMany x_t_fault x_t_length0 x_t_number0 x_t_open x_t_place0 x_t_saidMany x_t_taped x_t_waiting l2 _ _ ls (lv_sub hl [0, 1] rfl) hP hD hS hf
        · have hf := if_f q hf
          refine lv_aload_n hx hb dX12_law_46 rfl (lv_at hl 0 rfl) ?_
          refine lv_bipush (v := 59) hx hb dX12_law_47 (by decide) ?_
          obtain ⟨r1, w2, w3, hc4, hf⟩ := bd3_e hf
          refine x_callVI (ws' := [oX12 A_t A_t_now A_t_aside A_t_kept A_t_rhymeOf A_t_wasRhyme A_t_wordAt x_t_wordMany A_t_tape x_t_taped w3 x_t_length0 w2 x_t_number0 x_t_open x_t_codeMany x_t_waiting x_t_saidMany x_t_clauses A_t_said A_t_waitsAt A_t_saidLetter A_t_saidFrom A_t_saidHalf A_t_saidTo A_t_codes A_t_clauseOf A_t_codeFrom A_t_codeHalf A_t_codeTo A_t_stack A_t_facts x_t_lines A_t_newWords A_t_roundFrom A_t_roundAt A_t_roundTimes x_t_newMany x_t_rounds x_t_itFrom x_t_itTimes x_t_writtenNow x_t_picturesNow x_t_usedNow x_t_chosen x_t_fearOfChosen A_t_leastFrom A_t_rowNow x_t_changesNow x_t_left0 A_t_bornOf A_t_trainsTo A_t_trainAt x_t_trainMany x_t_leastTries x_t_firstTrained x_t_isKept, iA cI 16 A_t_clauseOf v_t_clauseOf, iA cI 16 A_t_codeFrom v_t_codeFrom, iA cI 16 A_t_codeHalf v_t_codeHalf, iA cI 16 A_t_codeTo v_t_codeTo, iA cI 260 A_t_codes v_t_codes, iA cI 260 A_t_said v_t_said, iA cI 16 A_t_saidFrom v_t_saidFrom, iA cI 16 A_t_saidHalf v_t_saidHalf, iA cI 16 A_t_saidLetter v_t_saidLetter, iA cI 16 A_t_saidTo v_t_saidTo, iA cB 260 A_t_tape v_t_tape, iA cI 260 A_t_waitsAt v_t_waitsAt]) (rest := []) C hK hP hD hS hA hl mf_X12_239 (c_X12_takes hc4) [0, 11] 0 12 rfl rfl rfl rfl rfl rfl rfl rfl rfl rfl (Nat.le_of_ble_eq_true rfl) ⟨Nat.le_of_ble_eq_true rfl, Nat.le_of_ble_eq_true rfl⟩ ⟨Nat.le_refl _, Nat.le_refl _⟩ dX12_law_49 ?_
          intro H locs hP hD hS
          refine lv_if_eq (tgt := 66) hx hb dX12_law_52 (by decide) (fun q => ?_) (fun q => ?_)
          · have hf := if_t q hf
            exact hb_66 v_t_clauseOf v_t_codeFrom v_t_codeHalf v_t_codeTo v_t_codes v_t_said v_t_saidFrom v_t_saidHalf v_t_saidLetter v_t_saidTo v_t_waitsAt x_t_clauses x_t_codeMany w2 x_t_length0 x_t_number0 x_t_open w3 x_t_saidMany x_t_taped x_t_waiting _ _ ls (lv_sub hl [0] rfl) hP hD hS hf
          · have hf := if_f q hf
            refine lv_aload_n hx hb dX12_law_55 rfl (lv_at hl 0 rfl) ?_
            obtain ⟨r5, w6, w7, w8, w9, w10, w11, w12, w13, w14, w15, w16, w17, w18, hc19, hf⟩ := bd14_e hf
            refine x_callVI (ws' := [oX12 A_t A_t_now A_t_aside A_t_kept A_t_rhymeOf A_t_wasRhyme A_t_wordAt x_t_wordMany A_t_tape x_t_taped w16 x_t_length0 w13 w14 w15 w12 w18 w17 x_t_clauses A_t_said A_t_waitsAt A_t_saidLetter A_t_saidFrom A_t_saidHalf A_t_saidTo A_t_codes A_t_clauseOf A_t_codeFrom A_t_codeHalf A_t_codeTo A_t_stack A_t_facts x_t_lines A_t_newWords A_t_roundFrom A_t_roundAt A_t_roundTimes x_t_newMany x_t_rounds x_t_itFrom x_t_itTimes x_t_writtenNow x_t_picturesNow x_t_usedNow x_t_chosen x_t_fearOfChosen A_t_leastFrom A_t_rowNow x_t_changesNow x_t_left0 A_t_bornOf A_t_trainsTo A_t_trainAt x_t_trainMany x_t_leastTries x_t_firstTrained x_t_isKept, iA cI 16 A_t_clauseOf v_t_clauseOf, iA cI 16 A_t_codeFrom v_t_codeFrom, iA cI 16 A_t_codeHalf v_t_codeHalf, iA cI 16 A_t_codeTo v_t_codeTo, iA cI 260 A_t_codes v_t_codes, iA cI 260 A_t_said w6, iA cI 16 A_t_saidFrom w7, iA cI 16 A_t_saidHalf w8, iA cI 16 A_t_saidLetter w9, iA cI 16 A_t_saidTo w10, iA cB 260 A_t_tape v_t_tape, iA cI 260 A_t_waitsAt w11]) (rest := []) C hK hP hD hS hA hl mf_X12_236 (c_X12_readsRule hc19) [0, 6, 7, 8, 9, 10, 11, 12] 0 12 rfl rfl rfl rfl rfl rfl rfl rfl rfl rfl (Nat.le_of_ble_eq_true rfl) ⟨Nat.le_of_ble_eq_true rfl, Nat.le_of_ble_eq_true rfl⟩ ⟨Nat.le_refl _, Nat.le_refl _⟩ dX12_law_56 ?_
            intro H locs hP hD hS
            refine lv_if_eq (tgt := 66) hx hb dX12_law_59 (by decide) (fun q => ?_) (fun q => ?_)
            · have hf := if_t q hf
              exact hb_66 v_t_clauseOf v_t_codeFrom v_t_codeHalf v_t_codeTo v_t_codes w6 w7 w8 w9 w10 w11 x_t_clauses w12 w13 x_t_length0 w14 w15 w16 w17 x_t_taped w18 _ _ ls (lv_sub hl [0] rfl) hP hD hS hf
            · have hf := if_f q hf
              refine lv_iconst (v := 1) hx hb dX12_law_62 (by decide) ?_
              refine lv_goto (tgt := 67) hx hb dX12_law_63 (by decide) ?_
              exact hb_67 v_t_clauseOf v_t_codeFrom v_t_codeHalf v_t_codeTo v_t_codes w6 w7 w8 w9 w10 w11 x_t_clauses w12 w13 x_t_length0 w14 w15 w16 w17 x_t_taped w18 (1 : Int32) _ _ ls (lv_sub hl [0] rfl) hP hD hS hf
  refine lv_iload_n hx hb dX12_law_0 rfl (lv_at hl 1 rfl) ?_
  refine lv_iconst (v := 1) hx hb dX12_law_1 (by decide) ?_
  refine lv_sipush (v := 240) hx hb dX12_law_2 (by decide) ?_
  obtain ⟨r20, hc21, hf⟩ := bd1_e hf
  refine x_callSI (ws' := [oX12 A_t A_t_now A_t_aside A_t_kept A_t_rhymeOf A_t_wasRhyme A_t_wordAt x_t_wordMany A_t_tape x_t_taped x_t_place0 x_t_length0 x_t_fault x_t_number0 x_t_open x_t_codeMany x_t_waiting x_t_saidMany x_t_clauses A_t_said A_t_waitsAt A_t_saidLetter A_t_saidFrom A_t_saidHalf A_t_saidTo A_t_codes A_t_clauseOf A_t_codeFrom A_t_codeHalf A_t_codeTo A_t_stack A_t_facts x_t_lines A_t_newWords A_t_roundFrom A_t_roundAt A_t_roundTimes x_t_newMany x_t_rounds x_t_itFrom x_t_itTimes x_t_writtenNow x_t_picturesNow x_t_usedNow x_t_chosen x_t_fearOfChosen A_t_leastFrom A_t_rowNow x_t_changesNow x_t_left0 A_t_bornOf A_t_trainsTo A_t_trainAt x_t_trainMany x_t_leastTries x_t_firstTrained x_t_isKept, iA cI 16 A_t_clauseOf v_t_clauseOf, iA cI 16 A_t_codeFrom v_t_codeFrom, iA cI 16 A_t_codeHalf v_t_codeHalf, iA cI 16 A_t_codeTo v_t_codeTo, iA cI 260 A_t_codes v_t_codes, iA cI 260 A_t_said v_t_said, iA cI 16 A_t_saidFrom v_t_saidFrom, iA cI 16 A_t_saidHalf v_t_saidHalf, iA cI 16 A_t_saidLetter v_t_saidLetter, iA cI 16 A_t_saidTo v_t_saidTo, iA cB 260 A_t_tape v_t_tape, iA cI 260 A_t_waitsAt v_t_waitsAt]) (rest := []) C hK hP hD hS hA hl mf_X12_105 (c_X12_in hc21) [] rfl rfl rfl rfl rfl rfl rfl rfl (Nat.le_of_ble_eq_true rfl) ⟨Nat.le_of_ble_eq_true rfl, Nat.le_of_ble_eq_true rfl⟩ ⟨Nat.le_refl _, Nat.le_refl _⟩ dX12_law_5 ?_
  intro H locs hP hD hS
  refine lv_if_eq (tgt := 19) hx hb dX12_law_8 (by decide) (fun q => ?_) (fun q => ?_)
  · have hf := if_t q hf
    exact hb_19 v_t_clauseOf v_t_codeFrom v_t_codeHalf v_t_codeTo v_t_codes v_t_said v_t_saidFrom v_t_saidHalf v_t_saidLetter v_t_saidTo v_t_waitsAt x_t_clauses x_t_codeMany x_t_fault x_t_length0 x_t_number0 x_t_open x_t_place0 x_t_saidMany x_t_taped x_t_waiting _ _ ls (lv_sub hl [] rfl) hP hD hS hf
  · have hf := if_f q hf
    refine lv_iload_n hx hb dX12_law_11 rfl (lv_at hl 1 rfl) ?_
    refine lv_aload_n hx hb dX12_law_12 rfl (lv_at hl 0 rfl) ?_
    refine x_get C hK hP fd_X12_143 0 rfl rfl dX12_law_13 ?_
    refine lv_icmp_le (tgt := 21) hx hb dX12_law_16 (by decide) (fun q => ?_) (fun q => ?_)
    · have hf := if_t q hf
      refine lv_aload_n hx hb dX12_law_21 rfl (lv_at hl 0 rfl) ?_
      refine lv_iload_n hx hb dX12_law_22 rfl (lv_at hl 1 rfl) ?_
      obtain ⟨w22, w23, w24, w25, hc26, hf⟩ := bd4_e hf
      refine x_callVV (ws' := [oX12 A_t A_t_now A_t_aside A_t_kept A_t_rhymeOf A_t_wasRhyme A_t_wordAt x_t_wordMany A_t_tape x_t_taped w24 w23 x_t_fault x_t_number0 x_t_open w22 x_t_waiting w25 x_t_clauses A_t_said A_t_waitsAt A_t_saidLetter A_t_saidFrom A_t_saidHalf A_t_saidTo A_t_codes A_t_clauseOf A_t_codeFrom A_t_codeHalf A_t_codeTo A_t_stack A_t_facts x_t_lines A_t_newWords A_t_roundFrom A_t_roundAt A_t_roundTimes x_t_newMany x_t_rounds x_t_itFrom x_t_itTimes x_t_writtenNow x_t_picturesNow x_t_usedNow x_t_chosen x_t_fearOfChosen A_t_leastFrom A_t_rowNow x_t_changesNow x_t_left0 A_t_bornOf A_t_trainsTo A_t_trainAt x_t_trainMany x_t_leastTries x_t_firstTrained x_t_isKept, iA cI 16 A_t_clauseOf v_t_clauseOf, iA cI 16 A_t_codeFrom v_t_codeFrom, iA cI 16 A_t_codeHalf v_t_codeHalf, iA cI 16 A_t_codeTo v_t_codeTo, iA cI 260 A_t_codes v_t_codes, iA cI 260 A_t_said v_t_said, iA cI 16 A_t_saidFrom v_t_saidFrom, iA cI 16 A_t_saidHalf v_t_saidHalf, iA cI 16 A_t_saidLetter v_t_saidLetter, iA cI 16 A_t_saidTo v_t_saidTo, iA cB 260 A_t_tape v_t_tape, iA cI 260 A_t_waitsAt v_t_waitsAt]) (rest := []) C hK hP hD hS hA hl mf_X12_233 (c_X12_beginsText hc26) [0] 0 12 rfl rfl rfl rfl rfl rfl rfl rfl rfl rfl (Nat.le_of_ble_eq_true rfl) ⟨Nat.le_of_ble_eq_true rfl, Nat.le_of_ble_eq_true rfl⟩ ⟨Nat.le_refl _, Nat.le_refl _⟩ dX12_law_23 ?_
      intro H locs hP hD hS
      refine lv_aload_n hx hb dX12_law_26 rfl (lv_at hl 0 rfl) ?_
      obtain ⟨r27, w28, w29, w30, w31, w32, w33, w34, w35, w36, w37, w38, w39, w40, hc41, hf⟩ := bd14_e hf
      refine x_callVI (ws' := [oX12 A_t A_t_now A_t_aside A_t_kept A_t_rhymeOf A_t_wasRhyme A_t_wordAt x_t_wordMany A_t_tape x_t_taped w38 w23 w35 w36 w37 w34 w40 w39 x_t_clauses A_t_said A_t_waitsAt A_t_saidLetter A_t_saidFrom A_t_saidHalf A_t_saidTo A_t_codes A_t_clauseOf A_t_codeFrom A_t_codeHalf A_t_codeTo A_t_stack A_t_facts x_t_lines A_t_newWords A_t_roundFrom A_t_roundAt A_t_roundTimes x_t_newMany x_t_rounds x_t_itFrom x_t_itTimes x_t_writtenNow x_t_picturesNow x_t_usedNow x_t_chosen x_t_fearOfChosen A_t_leastFrom A_t_rowNow x_t_changesNow x_t_left0 A_t_bornOf A_t_trainsTo A_t_trainAt x_t_trainMany x_t_leastTries x_t_firstTrained x_t_isKept, iA cI 16 A_t_clauseOf v_t_clauseOf, iA cI 16 A_t_codeFrom v_t_codeFrom, iA cI 16 A_t_codeHalf v_t_codeHalf, iA cI 16 A_t_codeTo v_t_codeTo, iA cI 260 A_t_codes v_t_codes, iA cI 260 A_t_said w28, iA cI 16 A_t_saidFrom w29, iA cI 16 A_t_saidHalf w30, iA cI 16 A_t_saidLetter w31, iA cI 16 A_t_saidTo w32, iA cB 260 A_t_tape v_t_tape, iA cI 260 A_t_waitsAt w33]) (rest := []) C hK hP hD hS hA hl mf_X12_236 (c_X12_readsRule hc41) [0, 6, 7, 8, 9, 10, 11, 12] 0 12 rfl rfl rfl rfl rfl rfl rfl rfl rfl rfl (Nat.le_of_ble_eq_true rfl) ⟨Nat.le_of_ble_eq_true rfl, Nat.le_of_ble_eq_true rfl⟩ ⟨Nat.le_refl _, Nat.le_refl _⟩ dX12_law_27 ?_
      intro H locs hP hD hS
      refine lv_istore_n (lv' := [(2, .int r27), (0, .ref A_t), (1, .int a1)]) hx hb dX12_law_30 rfl hl (by decide) rfl (fun ls hl => ?_)
      exact hb_31 FU v_t_clauseOf v_t_codeFrom v_t_codeHalf v_t_codeTo v_t_codes w28 w29 w30 w31 w32 w33 x_t_clauses w34 w35 w23 w36 w37 w38 w39 x_t_taped w40 r27 _ _ ls (lv_sub hl [1, 0] rfl) hP hD hS hf
    · have hf := if_f q hf
      exact hb_19 v_t_clauseOf v_t_codeFrom v_t_codeHalf v_t_codeTo v_t_codes v_t_said v_t_saidFrom v_t_saidHalf v_t_saidLetter v_t_saidTo v_t_waitsAt x_t_clauses x_t_codeMany x_t_fault x_t_length0 x_t_number0 x_t_open x_t_place0 x_t_saidMany x_t_taped x_t_waiting _ _ ls (lv_sub hl [] rfl) hP hD hS hf
def f_X12_reckon_b74 (s0 : Int32) : Option (Int32) :=
  some s0
def f_X12_reckon_b85 (s0 : Int32) : Option (Int32) :=
  some s0
def f_X12_reckon_b96 (s0 : Int32) : Option (Int32) :=
  some s0
def f_X12_reckon (a0 : Int32) (a1 : Int32) (a2 : Int32) : Option (Int32) :=
  if a0 = (2 : Int32) then
    some (a1 + a2)
  else
  if a0 = (3 : Int32) then
    some (a1 - a2)
  else
  if a0 = (4 : Int32) then
    some (a1 * a2)
  else
  if a0 = (5 : Int32) then
    dI a1 a2 (fun g1 =>
    some g1)
  else
  if a0 = (6 : Int32) then
    rI a1 a2 (fun g2 =>
    some g2)
  else
  if a0 = (7 : Int32) then
    if a2 ≤ a1 then
      f_X12_reckon_b74 (0 : Int32)
    else
      f_X12_reckon_b74 (1 : Int32)
  else
  if a0 = (8 : Int32) then
    if a1 ≤ a2 then
      f_X12_reckon_b85 (0 : Int32)
    else
      f_X12_reckon_b85 (1 : Int32)
  else
    if a1 = a2 then
      f_X12_reckon_b96 (1 : Int32)
    else
      f_X12_reckon_b96 (0 : Int32)
set_option maxHeartbeats 4000000 in
set_option maxRecDepth 100000 in
theorem c_X12_reckon {l : Launch} {D : va_G} {cI cB : ClassId} {a0 a1 a2 : Int32} {o_r : Int32} (hf : f_X12_reckon a0 a1 a2 = some o_r) : CtI l D cI cB yX12_reckon cX12_reckon 3 (some .int) 0 0 [.int a0, .int a1, .int a2] [] [] o_r := by
  refine x_startI (by decide) (Nat.le_of_ble_eq_true rfl) ?_
  intro p e s m below meth c A C hr hlk hA hK hP hD hS ls hl
  have hl : lv_has ls 3 [(0, .int a0), (1, .int a1), (2, .int a2)] := hl
  have hx := C.1
  have hb := C.2.1
  unfold f_X12_reckon at hf
  have hb_74 : ∀ (s0 : Int32) (H : Heap) (locs : List Loc) (ls : Array Slot), lv_has ls 3 [] → va_P D vwCl [] H → va_D A [] → va_S A s.heap H locs → f_X12_reckon_b74 s0 = some o_r → W p l e { frames := 0, cells := 0, slots := 0, locals := 0 } s m ([.int a0, .int a1, .int a2] : List Value).toArray below meth c H locs 0 0 (MQ below (PoI D A [] o_r) ([.int a0, .int a1, .int a2] : List Value).toArray s 0 0 A) (F0 m 74 ls [.int s0]) := by
    intro s0 H locs ls hl hP hD hS hf
    unfold f_X12_reckon_b74 at hf
    obtain rfl := ev1 hf
    exact x_iret C hr hlk hP hD hS dX12_reckon_74
  have hb_85 : ∀ (s0 : Int32) (H : Heap) (locs : List Loc) (ls : Array Slot), lv_has ls 3 [] → va_P D vwCl [] H → va_D A [] → va_S A s.heap H locs → f_X12_reckon_b85 s0 = some o_r → W p l e { frames := 0, cells := 0, slots := 0, locals := 0 } s m ([.int a0, .int a1, .int a2] : List Value).toArray below meth c H locs 0 0 (MQ below (PoI D A [] o_r) ([.int a0, .int a1, .int a2] : List Value).toArray s 0 0 A) (F0 m 85 ls [.int s0]) := by
    intro s0 H locs ls hl hP hD hS hf
    unfold f_X12_reckon_b85 at hf
    obtain rfl := ev1 hf
    exact x_iret C hr hlk hP hD hS dX12_reckon_85
  have hb_96 : ∀ (s0 : Int32) (H : Heap) (locs : List Loc) (ls : Array Slot), lv_has ls 3 [] → va_P D vwCl [] H → va_D A [] → va_S A s.heap H locs → f_X12_reckon_b96 s0 = some o_r → W p l e { frames := 0, cells := 0, slots := 0, locals := 0 } s m ([.int a0, .int a1, .int a2] : List Value).toArray below meth c H locs 0 0 (MQ below (PoI D A [] o_r) ([.int a0, .int a1, .int a2] : List Value).toArray s 0 0 A) (F0 m 96 ls [.int s0]) := by
    intro s0 H locs ls hl hP hD hS hf
    unfold f_X12_reckon_b96 at hf
    obtain rfl := ev1 hf
    exact x_iret C hr hlk hP hD hS dX12_reckon_96
  refine lv_iload_n hx hb dX12_reckon_0 rfl (lv_at hl 0 rfl) ?_
  by_cases q_2 : a0 = (2 : Int32)
  · have hf := if_t q_2 hf
    refine lv_tableIn (tgt := 44) hx hb dX12_reckon_1 (by rw [q_2]; decide) (by rw [q_2]; decide) (by rw [q_2]; rfl) (by decide) ?_
    refine lv_iload_n hx hb dX12_reckon_44 rfl (lv_at hl 1 rfl) ?_
    refine lv_iload_n hx hb dX12_reckon_45 rfl (lv_at hl 2 rfl) ?_
    refine lv_iadd hx hb dX12_reckon_46 ?_
    obtain rfl := ev1 hf
    exact x_iret C hr hlk hP hD hS dX12_reckon_47
  have hf := if_f q_2 hf
  by_cases q_3 : a0 = (3 : Int32)
  · have hf := if_t q_3 hf
    refine lv_tableIn (tgt := 48) hx hb dX12_reckon_1 (by rw [q_3]; decide) (by rw [q_3]; decide) (by rw [q_3]; rfl) (by decide) ?_
    refine lv_iload_n hx hb dX12_reckon_48 rfl (lv_at hl 1 rfl) ?_
    refine lv_iload_n hx hb dX12_reckon_49 rfl (lv_at hl 2 rfl) ?_
    refine lv_isub hx hb dX12_reckon_50 ?_
    obtain rfl := ev1 hf
    exact x_iret C hr hlk hP hD hS dX12_reckon_51
  have hf := if_f q_3 hf
  by_cases q_4 : a0 = (4 : Int32)
  · have hf := if_t q_4 hf
    refine lv_tableIn (tgt := 52) hx hb dX12_reckon_1 (by rw [q_4]; decide) (by rw [q_4]; decide) (by rw [q_4]; rfl) (by decide) ?_
    refine lv_iload_n hx hb dX12_reckon_52 rfl (lv_at hl 1 rfl) ?_
    refine lv_iload_n hx hb dX12_reckon_53 rfl (lv_at hl 2 rfl) ?_
    refine lv_imul hx hb dX12_reckon_54 ?_
    obtain rfl := ev1 hf
    exact x_iret C hr hlk hP hD hS dX12_reckon_55
  have hf := if_f q_4 hf
  by_cases q_5 : a0 = (5 : Int32)
  · have hf := if_t q_5 hf
    refine lv_tableIn (tgt := 56) hx hb dX12_reckon_1 (by rw [q_5]; decide) (by rw [q_5]; decide) (by rw [q_5]; rfl) (by decide) ?_
    refine lv_iload_n hx hb dX12_reckon_56 rfl (lv_at hl 1 rfl) ?_
    refine lv_iload_n hx hb dX12_reckon_57 rfl (lv_at hl 2 rfl) ?_
    obtain ⟨hz, hf⟩ := dI_e hf
    refine lv_idiv hx hb dX12_reckon_58 hz ?_
    obtain rfl := ev1 hf
    exact x_iret C hr hlk hP hD hS dX12_reckon_59
  have hf := if_f q_5 hf
  by_cases q_6 : a0 = (6 : Int32)
  · have hf := if_t q_6 hf
    refine lv_tableIn (tgt := 60) hx hb dX12_reckon_1 (by rw [q_6]; decide) (by rw [q_6]; decide) (by rw [q_6]; rfl) (by decide) ?_
    refine lv_iload_n hx hb dX12_reckon_60 rfl (lv_at hl 1 rfl) ?_
    refine lv_iload_n hx hb dX12_reckon_61 rfl (lv_at hl 2 rfl) ?_
    obtain ⟨hz, hf⟩ := rI_e hf
    refine lv_irem hx hb dX12_reckon_62 hz ?_
    obtain rfl := ev1 hf
    exact x_iret C hr hlk hP hD hS dX12_reckon_63
  have hf := if_f q_6 hf
  by_cases q_7 : a0 = (7 : Int32)
  · have hf := if_t q_7 hf
    refine lv_tableIn (tgt := 64) hx hb dX12_reckon_1 (by rw [q_7]; decide) (by rw [q_7]; decide) (by rw [q_7]; rfl) (by decide) ?_
    refine lv_iload_n hx hb dX12_reckon_64 rfl (lv_at hl 1 rfl) ?_
    refine lv_iload_n hx hb dX12_reckon_65 rfl (lv_at hl 2 rfl) ?_
    refine lv_icmp_ge (tgt := 73) hx hb dX12_reckon_66 (by decide) (fun q => ?_) (fun q => ?_)
    · have hf := if_t q hf
      refine lv_iconst (v := 0) hx hb dX12_reckon_73 (by decide) ?_
      exact hb_74 (0 : Int32) _ _ ls (lv_sub hl [] rfl) hP hD hS hf
    · have hf := if_f q hf
      refine lv_iconst (v := 1) hx hb dX12_reckon_69 (by decide) ?_
      refine lv_goto (tgt := 74) hx hb dX12_reckon_70 (by decide) ?_
      exact hb_74 (1 : Int32) _ _ ls (lv_sub hl [] rfl) hP hD hS hf
  have hf := if_f q_7 hf
  by_cases q_8 : a0 = (8 : Int32)
  · have hf := if_t q_8 hf
    refine lv_tableIn (tgt := 75) hx hb dX12_reckon_1 (by rw [q_8]; decide) (by rw [q_8]; decide) (by rw [q_8]; rfl) (by decide) ?_
    refine lv_iload_n hx hb dX12_reckon_75 rfl (lv_at hl 1 rfl) ?_
    refine lv_iload_n hx hb dX12_reckon_76 rfl (lv_at hl 2 rfl) ?_
    refine lv_icmp_le (tgt := 84) hx hb dX12_reckon_77 (by decide) (fun q => ?_) (fun q => ?_)
    · have hf := if_t q hf
      refine lv_iconst (v := 0) hx hb dX12_reckon_84 (by decide) ?_
      exact hb_85 (0 : Int32) _ _ ls (lv_sub hl [] rfl) hP hD hS hf
    · have hf := if_f q hf
      refine lv_iconst (v := 1) hx hb dX12_reckon_80 (by decide) ?_
      refine lv_goto (tgt := 85) hx hb dX12_reckon_81 (by decide) ?_
      exact hb_85 (1 : Int32) _ _ ls (lv_sub hl [] rfl) hP hD hS hf
  have hf := if_f q_8 hf
  have eq_2 : a0.toInt ≠ 2 := fun h => q_2 (Int32.toInt_inj.mp (h.trans (by decide)))
  have eq_3 : a0.toInt ≠ 3 := fun h => q_3 (Int32.toInt_inj.mp (h.trans (by decide)))
  have eq_4 : a0.toInt ≠ 4 := fun h => q_4 (Int32.toInt_inj.mp (h.trans (by decide)))
  have eq_5 : a0.toInt ≠ 5 := fun h => q_5 (Int32.toInt_inj.mp (h.trans (by decide)))
  have eq_6 : a0.toInt ≠ 6 := fun h => q_6 (Int32.toInt_inj.mp (h.trans (by decide)))
  have eq_7 : a0.toInt ≠ 7 := fun h => q_7 (Int32.toInt_inj.mp (h.trans (by decide)))
  have eq_8 : a0.toInt ≠ 8 := fun h => q_8 (Int32.toInt_inj.mp (h.trans (by decide)))
  refine lv_tableOut (tgt := 86) hx hb dX12_reckon_1 (by omega) (by decide) ?_
  refine lv_iload_n hx hb dX12_reckon_86 rfl (lv_at hl 1 rfl) ?_
  refine lv_iload_n hx hb dX12_reckon_87 rfl (lv_at hl 2 rfl) ?_
  refine lv_icmp_ne (tgt := 95) hx hb dX12_reckon_88 (by decide) (fun q => ?_) (fun q => ?_)
  · have hf := if_f q hf
    refine lv_iconst (v := 0) hx hb dX12_reckon_95 (by decide) ?_
    exact hb_96 (0 : Int32) _ _ ls (lv_sub hl [] rfl) hP hD hS hf
  · have hf := if_t q hf
    refine lv_iconst (v := 1) hx hb dX12_reckon_91 (by decide) ?_
    refine lv_goto (tgt := 96) hx hb dX12_reckon_92 (by decide) ?_
    exact hb_96 (1 : Int32) _ _ ls (lv_sub hl [] rfl) hP hD hS hf
def f_X12_reckonsTo_b230 (a2 : Int32) (k16 : (Nat → Int32) → Int32 → Int32 → Int32 → Option (Int32 × (Nat → Int32))) (v_t_stack : (Nat → Int32)) (l3 : Int32) (l4 : Int32) (l5 : Int32) : Option (Int32 × (Nat → Int32)) :=
  k16 v_t_stack l3 l4 l5
def f_X12_reckonsTo_b85 (a2 : Int32) (k16 : (Nat → Int32) → Int32 → Int32 → Int32 → Option (Int32 × (Nat → Int32))) (v_t_stack : (Nat → Int32)) (s1 : Int32) (s2 : Int32) (l3 : Int32) (l4 : Int32) (l5 : Int32) : Option (Int32 × (Nat → Int32)) :=
  sI 260 v_t_stack s1 s2 (fun w1 =>
  f_X12_reckonsTo_b230 a2 k16 w1 (l3 + (1 : Int32)) l4 l5)
def f_X12_reckonsTo_b63 (v_t_facts : (Nat → Int32)) (a2 : Int32) (k16 : (Nat → Int32) → Int32 → Int32 → Int32 → Option (Int32 × (Nat → Int32))) (v_t_stack : (Nat → Int32)) (l3 : Int32) (l4 : Int32) (l5 : Int32) (l6 : Int32) (l7 : Int32) : Option (Int32 × (Nat → Int32)) :=
  if l6 = 0 then
    f_X12_reckonsTo_b85 a2 k16 v_t_stack l3 l7 l3 l4 l5
  else
    gI 10 v_t_facts l7 (fun g1 =>
    f_X12_reckonsTo_b85 a2 k16 v_t_stack l3 g1 l3 l4 l5)
def f_X12_reckonsTo_b155 (a2 : Int32) (k16 : (Nat → Int32) → Int32 → Int32 → Int32 → Option (Int32 × (Nat → Int32))) (v_t_stack : (Nat → Int32)) (s0 : Int32) (s1 : Int32) (l3 : Int32) (l4 : Int32) (l5 : Int32) (l7 : Int32) : Option (Int32 × (Nat → Int32)) :=
  if s0 = s1 then
    f_X12_reckonsTo_b230 a2 k16 v_t_stack l3 l4 (l4 + l7)
  else
    f_X12_reckonsTo_b230 a2 k16 v_t_stack (l3 - (1 : Int32)) l4 l5
def f_X12_reckonsTo_b135 (a2 : Int32) (k16 : (Nat → Int32) → Int32 → Int32 → Int32 → Option (Int32 × (Nat → Int32))) (v_t_stack : (Nat → Int32)) (l3 : Int32) (l4 : Int32) (l5 : Int32) (l6 : Int32) (l7 : Int32) : Option (Int32 × (Nat → Int32)) :=
  gI 260 v_t_stack (l3 - (1 : Int32)) (fun g1 =>
  if l6 = (12 : Int32) then
    f_X12_reckonsTo_b155 a2 k16 v_t_stack g1 (1 : Int32) l3 l4 l5 l7
  else
    f_X12_reckonsTo_b155 a2 k16 v_t_stack g1 (0 : Int32) l3 l4 l5 l7)
def f_X12_reckonsTo_b203 (a2 : Int32) (k16 : (Nat → Int32) → Int32 → Int32 → Int32 → Option (Int32 × (Nat → Int32))) (v_t_stack : (Nat → Int32)) (l3 : Int32) (l4 : Int32) (l5 : Int32) (l6 : Int32) : Option (Int32 × (Nat → Int32)) :=
  gI 260 v_t_stack (l3 - (1 : Int32)) (fun g1 =>
  gI 260 v_t_stack l3 (fun g2 =>
  bd1 (f_X12_reckon l6 g1 g2) (fun r3 =>
  sI 260 v_t_stack (l3 - (1 : Int32)) r3 (fun w4 =>
  f_X12_reckonsTo_b230 a2 k16 w4 l3 l4 l5))))
def f_X12_reckonsTo_b192 (a2 : Int32) (k16 : (Nat → Int32) → Int32 → Int32 → Int32 → Option (Int32 × (Nat → Int32))) (v_t_stack : (Nat → Int32)) (l3 : Int32) (l4 : Int32) (l5 : Int32) (l6 : Int32) : Option (Int32 × (Nat → Int32)) :=
  gI 260 v_t_stack l3 (fun g1 =>
  if g1 = 0 then
    some ((0 : Int32), v_t_stack)
  else
    f_X12_reckonsTo_b203 a2 k16 v_t_stack l3 l4 l5 l6)
def f_X12_reckonsTo_b16 (v_t_codes : (Nat → Int32)) (v_t_facts : (Nat → Int32)) (a2 : Int32) : Nat → (Nat → Int32) → Int32 → Int32 → Int32 → Option (Int32 × (Nat → Int32))
  | 0, _, _, _, _ => none
  | n + 1, v_t_stack, l3, l4, l5 =>
    if a2 ≤ l5 then
      gI 260 v_t_stack (0 : Int32) (fun g1 =>
      some (g1, v_t_stack))
    else
      gI 260 v_t_codes l5 (fun g2 =>
      dI g2 (1048576 : Int32) (fun g3 =>
      gI 260 v_t_codes l5 (fun g4 =>
      rI g4 (1048576 : Int32) (fun g5 =>
      if g3 = 0 then
        f_X12_reckonsTo_b63 v_t_facts a2 (f_X12_reckonsTo_b16 v_t_codes v_t_facts a2 n) v_t_stack l3 l4 (l5 + (1 : Int32)) g3 g5
      else
        if g3 = (1 : Int32) then
          f_X12_reckonsTo_b63 v_t_facts a2 (f_X12_reckonsTo_b16 v_t_codes v_t_facts a2 n) v_t_stack l3 l4 (l5 + (1 : Int32)) g3 g5
        else
          if g3 = (10 : Int32) then
            gI 260 v_t_stack (l3 - (1 : Int32)) (fun g6 =>
            sI 260 v_t_stack (l3 - (1 : Int32)) ((1 : Int32) - g6) (fun w7 =>
            f_X12_reckonsTo_b230 a2 (f_X12_reckonsTo_b16 v_t_codes v_t_facts a2 n) w7 l3 l4 (l5 + (1 : Int32))))
          else
            if g3 = (11 : Int32) then
              f_X12_reckonsTo_b135 a2 (f_X12_reckonsTo_b16 v_t_codes v_t_facts a2 n) v_t_stack l3 l4 (l5 + (1 : Int32)) g3 g5
            else
              if g3 = (12 : Int32) then
                f_X12_reckonsTo_b135 a2 (f_X12_reckonsTo_b16 v_t_codes v_t_facts a2 n) v_t_stack l3 l4 (l5 + (1 : Int32)) g3 g5
              else
                if g3 = (5 : Int32) then
                  f_X12_reckonsTo_b192 a2 (f_X12_reckonsTo_b16 v_t_codes v_t_facts a2 n) v_t_stack (l3 - (1 : Int32)) l4 (l5 + (1 : Int32)) g3
                else
                  if g3 = (6 : Int32) then
                    f_X12_reckonsTo_b192 a2 (f_X12_reckonsTo_b16 v_t_codes v_t_facts a2 n) v_t_stack (l3 - (1 : Int32)) l4 (l5 + (1 : Int32)) g3
                  else
                    f_X12_reckonsTo_b203 a2 (f_X12_reckonsTo_b16 v_t_codes v_t_facts a2 n) v_t_stack (l3 - (1 : Int32)) l4 (l5 + (1 : Int32)) g3))))
def f_X12_reckonsTo (v_t_codes : (Nat → Int32)) (v_t_facts : (Nat → Int32)) (v_t_stack : (Nat → Int32)) (a1 : Int32) (a2 : Int32) : Option (Int32 × (Nat → Int32)) :=
  dI a1 (260 : Int32) (fun g8 =>
  f_X12_reckonsTo_b16 v_t_codes v_t_facts a2 FU v_t_stack (0 : Int32) ((260 : Int32) * g8) a1)
set_option maxHeartbeats 4000000 in
set_option maxRecDepth 100000 in
theorem c_X12_reckonsTo {l : Launch} {D : va_G} {cI cB : ClassId} {A_t A_t_now A_t_aside A_t_kept A_t_rhymeOf A_t_wasRhyme A_t_wordAt A_t_tape A_t_said A_t_waitsAt A_t_saidLetter A_t_saidFrom A_t_saidHalf A_t_saidTo A_t_codes A_t_clauseOf A_t_codeFrom A_t_codeHalf A_t_codeTo A_t_stack A_t_facts A_t_newWords A_t_roundFrom A_t_roundAt A_t_roundTimes A_t_leastFrom A_t_rowNow A_t_bornOf A_t_trainsTo A_t_trainAt : Nat} {x_t_wordMany x_t_taped x_t_place0 x_t_length0 x_t_fault x_t_number0 x_t_open x_t_codeMany x_t_waiting x_t_saidMany x_t_clauses x_t_lines x_t_newMany x_t_rounds x_t_itFrom x_t_itTimes x_t_writtenNow x_t_picturesNow x_t_usedNow x_t_chosen x_t_fearOfChosen x_t_changesNow x_t_left0 x_t_trainMany x_t_leastTries x_t_firstTrained x_t_isKept a1 a2 : Int32} {v_t_codes v_t_facts v_t_stack : Nat → Int32} {o_r : Int32} {o_v_t_stack : Nat → Int32} (hf : f_X12_reckonsTo v_t_codes v_t_facts v_t_stack a1 a2 = some (o_r, o_v_t_stack)) : CtI l D cI cB yX12_reckonsTo cX12_reckonsTo 8 (some .int) 1 22 [.ref A_t, .int a1, .int a2] [oX12 A_t A_t_now A_t_aside A_t_kept A_t_rhymeOf A_t_wasRhyme A_t_wordAt x_t_wordMany A_t_tape x_t_taped x_t_place0 x_t_length0 x_t_fault x_t_number0 x_t_open x_t_codeMany x_t_waiting x_t_saidMany x_t_clauses A_t_said A_t_waitsAt A_t_saidLetter A_t_saidFrom A_t_saidHalf A_t_saidTo A_t_codes A_t_clauseOf A_t_codeFrom A_t_codeHalf A_t_codeTo A_t_stack A_t_facts x_t_lines A_t_newWords A_t_roundFrom A_t_roundAt A_t_roundTimes x_t_newMany x_t_rounds x_t_itFrom x_t_itTimes x_t_writtenNow x_t_picturesNow x_t_usedNow x_t_chosen x_t_fearOfChosen A_t_leastFrom A_t_rowNow x_t_changesNow x_t_left0 A_t_bornOf A_t_trainsTo A_t_trainAt x_t_trainMany x_t_leastTries x_t_firstTrained x_t_isKept, iA cI 260 A_t_codes v_t_codes, iA cI 10 A_t_facts v_t_facts, iA cI 260 A_t_stack v_t_stack] [oX12 A_t A_t_now A_t_aside A_t_kept A_t_rhymeOf A_t_wasRhyme A_t_wordAt x_t_wordMany A_t_tape x_t_taped x_t_place0 x_t_length0 x_t_fault x_t_number0 x_t_open x_t_codeMany x_t_waiting x_t_saidMany x_t_clauses A_t_said A_t_waitsAt A_t_saidLetter A_t_saidFrom A_t_saidHalf A_t_saidTo A_t_codes A_t_clauseOf A_t_codeFrom A_t_codeHalf A_t_codeTo A_t_stack A_t_facts x_t_lines A_t_newWords A_t_roundFrom A_t_roundAt A_t_roundTimes x_t_newMany x_t_rounds x_t_itFrom x_t_itTimes x_t_writtenNow x_t_picturesNow x_t_usedNow x_t_chosen x_t_fearOfChosen A_t_leastFrom A_t_rowNow x_t_changesNow x_t_left0 A_t_bornOf A_t_trainsTo A_t_trainAt x_t_trainMany x_t_leastTries x_t_firstTrained x_t_isKept, iA cI 260 A_t_codes v_t_codes, iA cI 10 A_t_facts v_t_facts, iA cI 260 A_t_stack o_v_t_stack] o_r := by
  refine x_startI (by decide) (Nat.le_of_ble_eq_true rfl) ?_
  intro p e s m below meth c A C hr hlk hA hK hP hD hS ls hl
  have hl : lv_has ls 8 [(0, .ref A_t), (1, .int a1), (2, .int a2)] := hl
  have hx := C.1
  have hb := C.2.1
  unfold f_X12_reckonsTo at hf
  have hb_16 : ∀ (n_16 : Nat) (v_t_stack : (Nat → Int32)) (l3 : Int32) (l4 : Int32) (l5 : Int32) (H : Heap) (locs : List Loc) (ls : Array Slot), lv_has ls 8 [(0, .ref A_t), (2, .int a2), (3, .int l3), (4, .int l4), (5, .int l5)] → va_P D vwCl [oX12 A_t A_t_now A_t_aside A_t_kept A_t_rhymeOf A_t_wasRhyme A_t_wordAt x_t_wordMany A_t_tape x_t_taped x_t_place0 x_t_length0 x_t_fault x_t_number0 x_t_open x_t_codeMany x_t_waiting x_t_saidMany x_t_clauses A_t_said A_t_waitsAt A_t_saidLetter A_t_saidFrom A_t_saidHalf A_t_saidTo A_t_codes A_t_clauseOf A_t_codeFrom A_t_codeHalf A_t_codeTo A_t_stack A_t_facts x_t_lines A_t_newWords A_t_roundFrom A_t_roundAt A_t_roundTimes x_t_newMany x_t_rounds x_t_itFrom x_t_itTimes x_t_writtenNow x_t_picturesNow x_t_usedNow x_t_chosen x_t_fearOfChosen A_t_leastFrom A_t_rowNow x_t_changesNow x_t_left0 A_t_bornOf A_t_trainsTo A_t_trainAt x_t_trainMany x_t_leastTries x_t_firstTrained x_t_isKept, iA cI 260 A_t_codes v_t_codes, iA cI 10 A_t_facts v_t_facts, iA cI 260 A_t_stack v_t_stack] H → va_D A [oX12 A_t A_t_now A_t_aside A_t_kept A_t_rhymeOf A_t_wasRhyme A_t_wordAt x_t_wordMany A_t_tape x_t_taped x_t_place0 x_t_length0 x_t_fault x_t_number0 x_t_open x_t_codeMany x_t_waiting x_t_saidMany x_t_clauses A_t_said A_t_waitsAt A_t_saidLetter A_t_saidFrom A_t_saidHalf A_t_saidTo A_t_codes A_t_clauseOf A_t_codeFrom A_t_codeHalf A_t_codeTo A_t_stack A_t_facts x_t_lines A_t_newWords A_t_roundFrom A_t_roundAt A_t_roundTimes x_t_newMany x_t_rounds x_t_itFrom x_t_itTimes x_t_writtenNow x_t_picturesNow x_t_usedNow x_t_chosen x_t_fearOfChosen A_t_leastFrom A_t_rowNow x_t_changesNow x_t_left0 A_t_bornOf A_t_trainsTo A_t_trainAt x_t_trainMany x_t_leastTries x_t_firstTrained x_t_isKept, iA cI 260 A_t_codes v_t_codes, iA cI 10 A_t_facts v_t_facts, iA cI 260 A_t_stack v_t_stack] → va_S A s.heap H locs → f_X12_reckonsTo_b16 v_t_codes v_t_facts a2 n_16 v_t_stack l3 l4 l5 = some (o_r, o_v_t_stack) → W p l e { frames := 1, cells := 0, slots := 0, locals := 22 } s m ([.ref A_t, .int a1, .int a2] : List Value).toArray below meth c H locs 0 0 (MQ below (PoI D A [oX12 A_t A_t_now A_t_aside A_t_kept A_t_rhymeOf A_t_wasRhyme A_t_wordAt x_t_wordMany A_t_tape x_t_taped x_t_place0 x_t_length0 x_t_fault x_t_number0 x_t_open x_t_codeMany x_t_waiting x_t_saidMany x_t_clauses A_t_said A_t_waitsAt A_t_saidLetter A_t_saidFrom A_t_saidHalf A_t_saidTo A_t_codes A_t_clauseOf A_t_codeFrom A_t_codeHalf A_t_codeTo A_t_stack A_t_facts x_t_lines A_t_newWords A_t_roundFrom A_t_roundAt A_t_roundTimes x_t_newMany x_t_rounds x_t_itFrom x_t_itTimes x_t_writtenNow x_t_picturesNow x_t_usedNow x_t_chosen x_t_fearOfChosen A_t_leastFrom A_t_rowNow x_t_changesNow x_t_left0 A_t_bornOf A_t_trainsTo A_t_trainAt x_t_trainMany x_t_leastTries x_t_firstTrained x_t_isKept, iA cI 260 A_t_codes v_t_codes, iA cI 10 A_t_facts v_t_facts, iA cI 260 A_t_stack o_v_t_stack] o_r) ([.ref A_t, .int a1, .int a2] : List Value).toArray s 0 0 A) (F0 m 16 ls []) := by
    intro n_16
    induction n_16 with
    | zero =>
      intro v_t_stack l3 l4 l5 H locs ls hl hP hD hS hf
      exact absurd hf (fun h => by rw [f_X12_reckonsTo_b16] at h; cases h)
    | succ n_16 ih_16 =>
      have hb_230 : ∀ (v_t_stack : (Nat → Int32)) (l3 : Int32) (l4 : Int32) (l5 : Int32) (H : Heap) (locs : List Loc) (ls : Array Slot), lv_has ls 8 [(0, .ref A_t), (2, .int a2), (3, .int l3), (4, .int l4), (5, .int l5)] → va_P D vwCl [oX12 A_t A_t_now A_t_aside A_t_kept A_t_rhymeOf A_t_wasRhyme A_t_wordAt x_t_wordMany A_t_tape x_t_taped x_t_place0 x_t_length0 x_t_fault x_t_number0 x_t_open x_t_codeMany x_t_waiting x_t_saidMany x_t_clauses A_t_said A_t_waitsAt A_t_saidLetter A_t_saidFrom A_t_saidHalf A_t_saidTo A_t_codes A_t_clauseOf A_t_codeFrom A_t_codeHalf A_t_codeTo A_t_stack A_t_facts x_t_lines A_t_newWords A_t_roundFrom A_t_roundAt A_t_roundTimes x_t_newMany x_t_rounds x_t_itFrom x_t_itTimes x_t_writtenNow x_t_picturesNow x_t_usedNow x_t_chosen x_t_fearOfChosen A_t_leastFrom A_t_rowNow x_t_changesNow x_t_left0 A_t_bornOf A_t_trainsTo A_t_trainAt x_t_trainMany x_t_leastTries x_t_firstTrained x_t_isKept, iA cI 260 A_t_codes v_t_codes, iA cI 10 A_t_facts v_t_facts, iA cI 260 A_t_stack v_t_stack] H → va_D A [oX12 A_t A_t_now A_t_aside A_t_kept A_t_rhymeOf A_t_wasRhyme A_t_wordAt x_t_wordMany A_t_tape x_t_taped x_t_place0 x_t_length0 x_t_fault x_t_number0 x_t_open x_t_codeMany x_t_waiting x_t_saidMany x_t_clauses A_t_said A_t_waitsAt A_t_saidLetter A_t_saidFrom A_t_saidHalf A_t_saidTo A_t_codes A_t_clauseOf A_t_codeFrom A_t_codeHalf A_t_codeTo A_t_stack A_t_facts x_t_lines A_t_newWords A_t_roundFrom A_t_roundAt A_t_roundTimes x_t_newMany x_t_rounds x_t_itFrom x_t_itTimes x_t_writtenNow x_t_picturesNow x_t_usedNow x_t_chosen x_t_fearOfChosen A_t_leastFrom A_t_rowNow x_t_changesNow x_t_left0 A_t_bornOf A_t_trainsTo A_t_trainAt x_t_trainMany x_t_leastTries x_t_firstTrained x_t_isKept, iA cI 260 A_t_codes v_t_codes, iA cI 10 A_t_facts v_t_facts, iA cI 260 A_t_stack v_t_stack] → va_S A s.heap H locs → f_X12_reckonsTo_b230 a2 (f_X12_reckonsTo_b16 v_t_codes v_t_facts a2 n_16) v_t_stack l3 l4 l5 = some (o_r, o_v_t_stack) → W p l e { frames := 1, cells := 0, slots := 0, locals := 22 } s m ([.ref A_t, .int a1, .int a2] : List Value).toArray below meth c H locs 0 0 (MQ below (PoI D A [oX12 A_t A_t_now A_t_aside A_t_kept A_t_rhymeOf A_t_wasRhyme A_t_wordAt x_t_wordMany A_t_tape x_t_taped x_t_place0 x_t_length0 x_t_fault x_t_number0 x_t_open x_t_codeMany x_t_waiting x_t_saidMany x_t_clauses A_t_said A_t_waitsAt A_t_saidLetter A_t_saidFrom A_t_saidHalf A_t_saidTo A_t_codes A_t_clauseOf A_t_codeFrom A_t_codeHalf A_t_codeTo A_t_stack A_t_facts x_t_lines A_t_newWords A_t_roundFrom A_t_roundAt A_t_roundTimes x_t_newMany x_t_rounds x_t_itFrom x_t_itTimes x_t_writtenNow x_t_picturesNow x_t_usedNow x_t_chosen x_t_fearOfChosen A_t_leastFrom A_t_rowNow x_t_changesNow x_t_left0 A_t_bornOf A_t_trainsTo A_t_trainAt x_t_trainMany x_t_leastTries x_t_firstTrained x_t_isKept, iA cI 260 A_t_codes v_t_codes, iA cI 10 A_t_facts v_t_facts, iA cI 260 A_t_stack o_v_t_stack] o_r) ([.ref A_t, .int a1, .int a2] : List Value).toArray s 0 0 A) (F0 m 230 ls []) := by
        intro v_t_stack l3 l4 l5 H locs ls hl hP hD hS hf
        unfold f_X12_reckonsTo_b230 at hf
        refine lv_goto (tgt := 16) hx hb dX12_reckonsTo_230 (by decide) ?_
        exact ih_16 v_t_stack l3 l4 l5 _ _ ls (lv_sub hl [0, 1, 2, 3, 4] rfl) hP hD hS hf
      have hb_85 : ∀ (v_t_stack : (Nat → Int32)) (s1 : Int32) (s2 : Int32) (l3 : Int32) (l4 : Int32) (l5 : Int32) (H : Heap) (locs : List Loc) (ls : Array Slot), lv_has ls 8 [(0, .ref A_t), (2, .int a2), (3, .int l3), (4, .int l4), (5, .int l5)] → va_P D vwCl [oX12 A_t A_t_now A_t_aside A_t_kept A_t_rhymeOf A_t_wasRhyme A_t_wordAt x_t_wordMany A_t_tape x_t_taped x_t_place0 x_t_length0 x_t_fault x_t_number0 x_t_open x_t_codeMany x_t_waiting x_t_saidMany x_t_clauses A_t_said A_t_waitsAt A_t_saidLetter A_t_saidFrom A_t_saidHalf A_t_saidTo A_t_codes A_t_clauseOf A_t_codeFrom A_t_codeHalf A_t_codeTo A_t_stack A_t_facts x_t_lines A_t_newWords A_t_roundFrom A_t_roundAt A_t_roundTimes x_t_newMany x_t_rounds x_t_itFrom x_t_itTimes x_t_writtenNow x_t_picturesNow x_t_usedNow x_t_chosen x_t_fearOfChosen A_t_leastFrom A_t_rowNow x_t_changesNow x_t_left0 A_t_bornOf A_t_trainsTo A_t_trainAt x_t_trainMany x_t_leastTries x_t_firstTrained x_t_isKept, iA cI 260 A_t_codes v_t_codes, iA cI 10 A_t_facts v_t_facts, iA cI 260 A_t_stack v_t_stack] H → va_D A [oX12 A_t A_t_now A_t_aside A_t_kept A_t_rhymeOf A_t_wasRhyme A_t_wordAt x_t_wordMany A_t_tape x_t_taped x_t_place0 x_t_length0 x_t_fault x_t_number0 x_t_open x_t_codeMany x_t_waiting x_t_saidMany x_t_clauses A_t_said A_t_waitsAt A_t_saidLetter A_t_saidFrom A_t_saidHalf A_t_saidTo A_t_codes A_t_clauseOf A_t_codeFrom A_t_codeHalf A_t_codeTo A_t_stack A_t_facts x_t_lines A_t_newWords A_t_roundFrom A_t_roundAt A_t_roundTimes x_t_newMany x_t_rounds x_t_itFrom x_t_itTimes x_t_writtenNow x_t_picturesNow x_t_usedNow x_t_chosen x_t_fearOfChosen A_t_leastFrom A_t_rowNow x_t_changesNow x_t_left0 A_t_bornOf A_t_trainsTo A_t_trainAt x_t_trainMany x_t_leastTries x_t_firstTrained x_t_isKept, iA cI 260 A_t_codes v_t_codes, iA cI 10 A_t_facts v_t_facts, iA cI 260 A_t_stack v_t_stack] → va_S A s.heap H locs → f_X12_reckonsTo_b85 a2 (f_X12_reckonsTo_b16 v_t_codes v_t_facts a2 n_16) v_t_stack s1 s2 l3 l4 l5 = some (o_r, o_v_t_stack) → W p l e { frames := 1, cells := 0, slots := 0, locals := 22 } s m ([.ref A_t, .int a1, .int a2] : List Value).toArray below meth c H locs 0 0 (MQ below (PoI D A [oX12 A_t A_t_now A_t_aside A_t_kept A_t_rhymeOf A_t_wasRhyme A_t_wordAt x_t_wordMany A_t_tape x_t_taped x_t_place0 x_t_length0 x_t_fault x_t_number0 x_t_open x_t_codeMany x_t_waiting x_t_saidMany x_t_clauses A_t_said A_t_waitsAt A_t_saidLetter A_t_saidFrom A_t_saidHalf A_t_saidTo A_t_codes A_t_clauseOf A_t_codeFrom A_t_codeHalf A_t_codeTo A_t_stack A_t_facts x_t_lines A_t_newWords A_t_roundFrom A_t_roundAt A_t_roundTimes x_t_newMany x_t_rounds x_t_itFrom x_t_itTimes x_t_writtenNow x_t_picturesNow x_t_usedNow x_t_chosen x_t_fearOfChosen A_t_leastFrom A_t_rowNow x_t_changesNow x_t_left0 A_t_bornOf A_t_trainsTo A_t_trainAt x_t_trainMany x_t_leastTries x_t_firstTrained x_t_isKept, iA cI 260 A_t_codes v_t_codes, iA cI 10 A_t_facts v_t_facts, iA cI 260 A_t_stack o_v_t_stack] o_r) ([.ref A_t, .int a1, .int a2] : List Value).toArray s 0 0 A) (F0 m 85 ls [.int s2, .int s1, .ref A_t_stack]) := by
        intro v_t_stack s1 s2 l3 l4 l5 H locs ls hl hP hD hS hf
        unfold f_X12_reckonsTo_b85 at hf
        obtain ⟨hi, hf⟩ := sI_e hf
        refine x_iast (ws' := [oX12 A_t A_t_now A_t_aside A_t_kept A_t_rhymeOf A_t_wasRhyme A_t_wordAt x_t_wordMany A_t_tape x_t_taped x_t_place0 x_t_length0 x_t_fault x_t_number0 x_t_open x_t_codeMany x_t_waiting x_t_saidMany x_t_clauses A_t_said A_t_waitsAt A_t_saidLetter A_t_saidFrom A_t_saidHalf A_t_saidTo A_t_codes A_t_clauseOf A_t_codeFrom A_t_codeHalf A_t_codeTo A_t_stack A_t_facts x_t_lines A_t_newWords A_t_roundFrom A_t_roundAt A_t_roundTimes x_t_newMany x_t_rounds x_t_itFrom x_t_itTimes x_t_writtenNow x_t_picturesNow x_t_usedNow x_t_chosen x_t_fearOfChosen A_t_leastFrom A_t_rowNow x_t_changesNow x_t_left0 A_t_bornOf A_t_trainsTo A_t_trainAt x_t_trainMany x_t_leastTries x_t_firstTrained x_t_isKept, iA cI 260 A_t_codes v_t_codes, iA cI 10 A_t_facts v_t_facts, iA cI 260 A_t_stack (upd v_t_stack s1.toNatClampNeg s2)]) C hK hP hD hS 3 rfl hi rfl dX12_reckonsTo_85 ?_
        intro H locs hP hD hS
        refine lv_iload_n hx hb dX12_reckonsTo_86 rfl (lv_at hl 2 rfl) ?_
        refine lv_iconst (v := 1) hx hb dX12_reckonsTo_87 (by decide) ?_
        refine lv_iadd hx hb dX12_reckonsTo_88 ?_
        refine lv_istore_n (lv' := [(3, .int (l3 + (1 : Int32))), (0, .ref A_t), (2, .int a2), (4, .int l4), (5, .int l5)]) hx hb dX12_reckonsTo_89 rfl hl (by decide) rfl (fun ls hl => ?_)
        refine lv_goto (tgt := 230) hx hb dX12_reckonsTo_90 (by decide) ?_
        exact hb_230 (upd v_t_stack s1.toNatClampNeg s2) (l3 + (1 : Int32)) l4 l5 _ _ ls (lv_sub hl [1, 2, 0, 3, 4] rfl) hP hD hS hf
      have hb_63 : ∀ (v_t_stack : (Nat → Int32)) (l3 : Int32) (l4 : Int32) (l5 : Int32) (l6 : Int32) (l7 : Int32) (H : Heap) (locs : List Loc) (ls : Array Slot), lv_has ls 8 [(0, .ref A_t), (2, .int a2), (3, .int l3), (4, .int l4), (5, .int l5), (6, .int l6), (7, .int l7)] → va_P D vwCl [oX12 A_t A_t_now A_t_aside A_t_kept A_t_rhymeOf A_t_wasRhyme A_t_wordAt x_t_wordMany A_t_tape x_t_taped x_t_place0 x_t_length0 x_t_fault x_t_number0 x_t_open x_t_codeMany x_t_waiting x_t_saidMany x_t_clauses A_t_said A_t_waitsAt A_t_saidLetter A_t_saidFrom A_t_saidHalf A_t_saidTo A_t_codes A_t_clauseOf A_t_codeFrom A_t_codeHalf A_t_codeTo A_t_stack A_t_facts x_t_lines A_t_newWords A_t_roundFrom A_t_roundAt A_t_roundTimes x_t_newMany x_t_rounds x_t_itFrom x_t_itTimes x_t_writtenNow x_t_picturesNow x_t_usedNow x_t_chosen x_t_fearOfChosen A_t_leastFrom A_t_rowNow x_t_changesNow x_t_left0 A_t_bornOf A_t_trainsTo A_t_trainAt x_t_trainMany x_t_leastTries x_t_firstTrained x_t_isKept, iA cI 260 A_t_codes v_t_codes, iA cI 10 A_t_facts v_t_facts, iA cI 260 A_t_stack v_t_stack] H → va_D A [oX12 A_t A_t_now A_t_aside A_t_kept A_t_rhymeOf A_t_wasRhyme A_t_wordAt x_t_wordMany A_t_tape x_t_taped x_t_place0 x_t_length0 x_t_fault x_t_number0 x_t_open x_t_codeMany x_t_waiting x_t_saidMany x_t_clauses A_t_said A_t_waitsAt A_t_saidLetter A_t_saidFrom A_t_saidHalf A_t_saidTo A_t_codes A_t_clauseOf A_t_codeFrom A_t_codeHalf A_t_codeTo A_t_stack A_t_facts x_t_lines A_t_newWords A_t_roundFrom A_t_roundAt A_t_roundTimes x_t_newMany x_t_rounds x_t_itFrom x_t_itTimes x_t_writtenNow x_t_picturesNow x_t_usedNow x_t_chosen x_t_fearOfChosen A_t_leastFrom A_t_rowNow x_t_changesNow x_t_left0 A_t_bornOf A_t_trainsTo A_t_trainAt x_t_trainMany x_t_leastTries x_t_firstTrained x_t_isKept, iA cI 260 A_t_codes v_t_codes, iA cI 10 A_t_facts v_t_facts, iA cI 260 A_t_stack v_t_stack] → va_S A s.heap H locs → f_X12_reckonsTo_b63 v_t_facts a2 (f_X12_reckonsTo_b16 v_t_codes v_t_facts a2 n_16) v_t_stack l3 l4 l5 l6 l7 = some (o_r, o_v_t_stack) → W p l e { frames := 1, cells := 0, slots := 0, locals := 22 } s m ([.ref A_t, .int a1, .int a2] : List Value).toArray below meth c H locs 0 0 (MQ below (PoI D A [oX12 A_t A_t_now A_t_aside A_t_kept A_t_rhymeOf A_t_wasRhyme A_t_wordAt x_t_wordMany A_t_tape x_t_taped x_t_place0 x_t_length0 x_t_fault x_t_number0 x_t_open x_t_codeMany x_t_waiting x_t_saidMany x_t_clauses A_t_said A_t_waitsAt A_t_saidLetter A_t_saidFrom A_t_saidHalf A_t_saidTo A_t_codes A_t_clauseOf A_t_codeFrom A_t_codeHalf A_t_codeTo A_t_stack A_t_facts x_t_lines A_t_newWords A_t_roundFrom A_t_roundAt A_t_roundTimes x_t_newMany x_t_rounds x_t_itFrom x_t_itTimes x_t_writtenNow x_t_picturesNow x_t_usedNow x_t_chosen x_t_fearOfChosen A_t_leastFrom A_t_rowNow x_t_changesNow x_t_left0 A_t_bornOf A_t_trainsTo A_t_trainAt x_t_trainMany x_t_leastTries x_t_firstTrained x_t_isKept, iA cI 260 A_t_codes v_t_codes, iA cI 10 A_t_facts v_t_facts, iA cI 260 A_t_stack o_v_t_stack] o_r) ([.ref A_t, .int a1, .int a2] : List Value).toArray s 0 0 A) (F0 m 63 ls []) := by
        intro v_t_stack l3 l4 l5 l6 l7 H locs ls hl hP hD hS hf
        unfold f_X12_reckonsTo_b63 at hf
        refine lv_aload_n hx hb dX12_reckonsTo_63 rfl (lv_at hl 0 rfl) ?_
        refine x_get C hK hP fd_X12_65 0 rfl rfl dX12_reckonsTo_64 ?_
        refine lv_iload_n hx hb dX12_reckonsTo_67 rfl (lv_at hl 2 rfl) ?_
        refine lv_iload hx hb dX12_reckonsTo_68 (lv_at hl 5 rfl) ?_
        refine lv_if_ne (tgt := 78) hx hb dX12_reckonsTo_70 (by decide) (fun q => ?_) (fun q => ?_)
        · have hf := if_f q hf
          refine lv_aload_n hx hb dX12_reckonsTo_78 rfl (lv_at hl 0 rfl) ?_
          refine x_get C hK hP fd_X12_68 0 rfl rfl dX12_reckonsTo_79 ?_
          refine lv_iload hx hb dX12_reckonsTo_82 (lv_at hl 6 rfl) ?_
          obtain ⟨hi, hf⟩ := gI_e hf
          refine x_iald C hK hP 2 rfl hi dX12_reckonsTo_84 ?_
          exact hb_85 v_t_stack l3 (v_t_facts l7.toNatClampNeg) l3 l4 l5 _ _ ls (lv_sub hl [0, 1, 2, 3, 4] rfl) hP hD hS hf
        · have hf := if_t q hf
          refine lv_iload hx hb dX12_reckonsTo_73 (lv_at hl 6 rfl) ?_
          refine lv_goto (tgt := 85) hx hb dX12_reckonsTo_75 (by decide) ?_
          exact hb_85 v_t_stack l3 l7 l3 l4 l5 _ _ ls (lv_sub hl [0, 1, 2, 3, 4] rfl) hP hD hS hf
      have hb_155 : ∀ (v_t_stack : (Nat → Int32)) (s0 : Int32) (s1 : Int32) (l3 : Int32) (l4 : Int32) (l5 : Int32) (l7 : Int32) (H : Heap) (locs : List Loc) (ls : Array Slot), lv_has ls 8 [(0, .ref A_t), (2, .int a2), (3, .int l3), (4, .int l4), (5, .int l5), (7, .int l7)] → va_P D vwCl [oX12 A_t A_t_now A_t_aside A_t_kept A_t_rhymeOf A_t_wasRhyme A_t_wordAt x_t_wordMany A_t_tape x_t_taped x_t_place0 x_t_length0 x_t_fault x_t_number0 x_t_open x_t_codeMany x_t_waiting x_t_saidMany x_t_clauses A_t_said A_t_waitsAt A_t_saidLetter A_t_saidFrom A_t_saidHalf A_t_saidTo A_t_codes A_t_clauseOf A_t_codeFrom A_t_codeHalf A_t_codeTo A_t_stack A_t_facts x_t_lines A_t_newWords A_t_roundFrom A_t_roundAt A_t_roundTimes x_t_newMany x_t_rounds x_t_itFrom x_t_itTimes x_t_writtenNow x_t_picturesNow x_t_usedNow x_t_chosen x_t_fearOfChosen A_t_leastFrom A_t_rowNow x_t_changesNow x_t_left0 A_t_bornOf A_t_trainsTo A_t_trainAt x_t_trainMany x_t_leastTries x_t_firstTrained x_t_isKept, iA cI 260 A_t_codes v_t_codes, iA cI 10 A_t_facts v_t_facts, iA cI 260 A_t_stack v_t_stack] H → va_D A [oX12 A_t A_t_now A_t_aside A_t_kept A_t_rhymeOf A_t_wasRhyme A_t_wordAt x_t_wordMany A_t_tape x_t_taped x_t_place0 x_t_length0 x_t_fault x_t_number0 x_t_open x_t_codeMany x_t_waiting x_t_saidMany x_t_clauses A_t_said A_t_waitsAt A_t_saidLetter A_t_saidFrom A_t_saidHalf A_t_saidTo A_t_codes A_t_clauseOf A_t_codeFrom A_t_codeHalf A_t_codeTo A_t_stack A_t_facts x_t_lines A_t_newWords A_t_roundFrom A_t_roundAt A_t_roundTimes x_t_newMany x_t_rounds x_t_itFrom x_t_itTimes x_t_writtenNow x_t_picturesNow x_t_usedNow x_t_chosen x_t_fearOfChosen A_t_leastFrom A_t_rowNow x_t_changesNow x_t_left0 A_t_bornOf A_t_trainsTo A_t_trainAt x_t_trainMany x_t_leastTries x_t_firstTrained x_t_isKept, iA cI 260 A_t_codes v_t_codes, iA cI 10 A_t_facts v_t_facts, iA cI 260 A_t_stack v_t_stack] → va_S A s.heap H locs → f_X12_reckonsTo_b155 a2 (f_X12_reckonsTo_b16 v_t_codes v_t_facts a2 n_16) v_t_stack s0 s1 l3 l4 l5 l7 = some (o_r, o_v_t_stack) → W p l e { frames := 1, cells := 0, slots := 0, locals := 22 } s m ([.ref A_t, .int a1, .int a2] : List Value).toArray below meth c H locs 0 0 (MQ below (PoI D A [oX12 A_t A_t_now A_t_aside A_t_kept A_t_rhymeOf A_t_wasRhyme A_t_wordAt x_t_wordMany A_t_tape x_t_taped x_t_place0 x_t_length0 x_t_fault x_t_number0 x_t_open x_t_codeMany x_t_waiting x_t_saidMany x_t_clauses A_t_said A_t_waitsAt A_t_saidLetter A_t_saidFrom A_t_saidHalf A_t_saidTo A_t_codes A_t_clauseOf A_t_codeFrom A_t_codeHalf A_t_codeTo A_t_stack A_t_facts x_t_lines A_t_newWords A_t_roundFrom A_t_roundAt A_t_roundTimes x_t_newMany x_t_rounds x_t_itFrom x_t_itTimes x_t_writtenNow x_t_picturesNow x_t_usedNow x_t_chosen x_t_fearOfChosen A_t_leastFrom A_t_rowNow x_t_changesNow x_t_left0 A_t_bornOf A_t_trainsTo A_t_trainAt x_t_trainMany x_t_leastTries x_t_firstTrained x_t_isKept, iA cI 260 A_t_codes v_t_codes, iA cI 10 A_t_facts v_t_facts, iA cI 260 A_t_stack o_v_t_stack] o_r) ([.ref A_t, .int a1, .int a2] : List Value).toArray s 0 0 A) (F0 m 155 ls [.int s1, .int s0]) := by
        intro v_t_stack s0 s1 l3 l4 l5 l7 H locs ls hl hP hD hS hf
        unfold f_X12_reckonsTo_b155 at hf
        refine lv_icmp_ne (tgt := 168) hx hb dX12_reckonsTo_155 (by decide) (fun q => ?_) (fun q => ?_)
        · have hf := if_f q hf
          refine lv_iload_n hx hb dX12_reckonsTo_168 rfl (lv_at hl 2 rfl) ?_
          refine lv_iconst (v := 1) hx hb dX12_reckonsTo_169 (by decide) ?_
          refine lv_isub hx hb dX12_reckonsTo_170 ?_
          refine lv_istore_n (lv' := [(3, .int (l3 - (1 : Int32))), (0, .ref A_t), (2, .int a2), (4, .int l4), (5, .int l5), (7, .int l7)]) hx hb dX12_reckonsTo_171 rfl hl (by decide) rfl (fun ls hl => ?_)
          refine lv_goto (tgt := 230) hx hb dX12_reckonsTo_172 (by decide) ?_
          exact hb_230 v_t_stack (l3 - (1 : Int32)) l4 l5 _ _ ls (lv_sub hl [1, 2, 0, 3, 4] rfl) hP hD hS hf
        · have hf := if_t q hf
          refine lv_iload hx hb dX12_reckonsTo_158 (lv_at hl 3 rfl) ?_
          refine lv_iload hx hb dX12_reckonsTo_160 (lv_at hl 5 rfl) ?_
          refine lv_iadd hx hb dX12_reckonsTo_162 ?_
          refine lv_istore (lv' := [(5, .int (l4 + l7)), (0, .ref A_t), (2, .int a2), (3, .int l3), (4, .int l4), (7, .int l7)]) hx hb dX12_reckonsTo_163 hl (by decide) rfl (fun ls hl => ?_)
          refine lv_goto (tgt := 230) hx hb dX12_reckonsTo_165 (by decide) ?_
          exact hb_230 v_t_stack l3 l4 (l4 + l7) _ _ ls (lv_sub hl [1, 2, 3, 4, 0] rfl) hP hD hS hf
      have hb_135 : ∀ (v_t_stack : (Nat → Int32)) (l3 : Int32) (l4 : Int32) (l5 : Int32) (l6 : Int32) (l7 : Int32) (H : Heap) (locs : List Loc) (ls : Array Slot), lv_has ls 8 [(0, .ref A_t), (2, .int a2), (3, .int l3), (4, .int l4), (5, .int l5), (6, .int l6), (7, .int l7)] → va_P D vwCl [oX12 A_t A_t_now A_t_aside A_t_kept A_t_rhymeOf A_t_wasRhyme A_t_wordAt x_t_wordMany A_t_tape x_t_taped x_t_place0 x_t_length0 x_t_fault x_t_number0 x_t_open x_t_codeMany x_t_waiting x_t_saidMany x_t_clauses A_t_said A_t_waitsAt A_t_saidLetter A_t_saidFrom A_t_saidHalf A_t_saidTo A_t_codes A_t_clauseOf A_t_codeFrom A_t_codeHalf A_t_codeTo A_t_stack A_t_facts x_t_lines A_t_newWords A_t_roundFrom A_t_roundAt A_t_roundTimes x_t_newMany x_t_rounds x_t_itFrom x_t_itTimes x_t_writtenNow x_t_picturesNow x_t_usedNow x_t_chosen x_t_fearOfChosen A_t_leastFrom A_t_rowNow x_t_changesNow x_t_left0 A_t_bornOf A_t_trainsTo A_t_trainAt x_t_trainMany x_t_leastTries x_t_firstTrained x_t_isKept, iA cI 260 A_t_codes v_t_codes, iA cI 10 A_t_facts v_t_facts, iA cI 260 A_t_stack v_t_stack] H → va_D A [oX12 A_t A_t_now A_t_aside A_t_kept A_t_rhymeOf A_t_wasRhyme A_t_wordAt x_t_wordMany A_t_tape x_t_taped x_t_place0 x_t_length0 x_t_fault x_t_number0 x_t_open x_t_codeMany x_t_waiting x_t_saidMany x_t_clauses A_t_said A_t_waitsAt A_t_saidLetter A_t_saidFrom A_t_saidHalf A_t_saidTo A_t_codes A_t_clauseOf A_t_codeFrom A_t_codeHalf A_t_codeTo A_t_stack A_t_facts x_t_lines A_t_newWords A_t_roundFrom A_t_roundAt A_t_roundTimes x_t_newMany x_t_rounds x_t_itFrom x_t_itTimes x_t_writtenNow x_t_picturesNow x_t_usedNow x_t_chosen x_t_fearOfChosen A_t_leastFrom A_t_rowNow x_t_changesNow x_t_left0 A_t_bornOf A_t_trainsTo A_t_trainAt x_t_trainMany x_t_leastTries x_t_firstTrained x_t_isKept, iA cI 260 A_t_codes v_t_codes, iA cI 10 A_t_facts v_t_facts, iA cI 260 A_t_stack v_t_stack] → va_S A s.heap H locs → f_X12_reckonsTo_b135 a2 (f_X12_reckonsTo_b16 v_t_codes v_t_facts a2 n_16) v_t_stack l3 l4 l5 l6 l7 = some (o_r, o_v_t_stack) → W p l e { frames := 1, cells := 0, slots := 0, locals := 22 } s m ([.ref A_t, .int a1, .int a2] : List Value).toArray below meth c H locs 0 0 (MQ below (PoI D A [oX12 A_t A_t_now A_t_aside A_t_kept A_t_rhymeOf A_t_wasRhyme A_t_wordAt x_t_wordMany A_t_tape x_t_taped x_t_place0 x_t_length0 x_t_fault x_t_number0 x_t_open x_t_codeMany x_t_waiting x_t_saidMany x_t_clauses A_t_said A_t_waitsAt A_t_saidLetter A_t_saidFrom A_t_saidHalf A_t_saidTo A_t_codes A_t_clauseOf A_t_codeFrom A_t_codeHalf A_t_codeTo A_t_stack A_t_facts x_t_lines A_t_newWords A_t_roundFrom A_t_roundAt A_t_roundTimes x_t_newMany x_t_rounds x_t_itFrom x_t_itTimes x_t_writtenNow x_t_picturesNow x_t_usedNow x_t_chosen x_t_fearOfChosen A_t_leastFrom A_t_rowNow x_t_changesNow x_t_left0 A_t_bornOf A_t_trainsTo A_t_trainAt x_t_trainMany x_t_leastTries x_t_firstTrained x_t_isKept, iA cI 260 A_t_codes v_t_codes, iA cI 10 A_t_facts v_t_facts, iA cI 260 A_t_stack o_v_t_stack] o_r) ([.ref A_t, .int a1, .int a2] : List Value).toArray s 0 0 A) (F0 m 135 ls []) := by
        intro v_t_stack l3 l4 l5 l6 l7 H locs ls hl hP hD hS hf
        unfold f_X12_reckonsTo_b135 at hf
        refine lv_aload_n hx hb dX12_reckonsTo_135 rfl (lv_at hl 0 rfl) ?_
        refine x_get C hK hP fd_X12_65 0 rfl rfl dX12_reckonsTo_136 ?_
        refine lv_iload_n hx hb dX12_reckonsTo_139 rfl (lv_at hl 2 rfl) ?_
        refine lv_iconst (v := 1) hx hb dX12_reckonsTo_140 (by decide) ?_
        refine lv_isub hx hb dX12_reckonsTo_141 ?_
        obtain ⟨hi, hf⟩ := gI_e hf
        refine x_iald C hK hP 3 rfl hi dX12_reckonsTo_142 ?_
        refine lv_iload hx hb dX12_reckonsTo_143 (lv_at hl 5 rfl) ?_
        refine lv_bipush (v := 12) hx hb dX12_reckonsTo_145 (by decide) ?_
        refine lv_icmp_ne (tgt := 154) hx hb dX12_reckonsTo_147 (by decide) (fun q => ?_) (fun q => ?_)
        · have hf := if_f q hf
          refine lv_iconst (v := 0) hx hb dX12_reckonsTo_154 (by decide) ?_
          exact hb_155 v_t_stack (v_t_stack (l3 - (1 : Int32)).toNatClampNeg) (0 : Int32) l3 l4 l5 l7 _ _ ls (lv_sub hl [0, 1, 2, 3, 4, 6] rfl) hP hD hS hf
        · have hf := if_t q hf
          refine lv_iconst (v := 1) hx hb dX12_reckonsTo_150 (by decide) ?_
          refine lv_goto (tgt := 155) hx hb dX12_reckonsTo_151 (by decide) ?_
          exact hb_155 v_t_stack (v_t_stack (l3 - (1 : Int32)).toNatClampNeg) (1 : Int32) l3 l4 l5 l7 _ _ ls (lv_sub hl [0, 1, 2, 3, 4, 6] rfl) hP hD hS hf
      have hb_203 : ∀ (v_t_stack : (Nat → Int32)) (l3 : Int32) (l4 : Int32) (l5 : Int32) (l6 : Int32) (H : Heap) (locs : List Loc) (ls : Array Slot), lv_has ls 8 [(0, .ref A_t), (2, .int a2), (3, .int l3), (4, .int l4), (5, .int l5), (6, .int l6)] → va_P D vwCl [oX12 A_t A_t_now A_t_aside A_t_kept A_t_rhymeOf A_t_wasRhyme A_t_wordAt x_t_wordMany A_t_tape x_t_taped x_t_place0 x_t_length0 x_t_fault x_t_number0 x_t_open x_t_codeMany x_t_waiting x_t_saidMany x_t_clauses A_t_said A_t_waitsAt A_t_saidLetter A_t_saidFrom A_t_saidHalf A_t_saidTo A_t_codes A_t_clauseOf A_t_codeFrom A_t_codeHalf A_t_codeTo A_t_stack A_t_facts x_t_lines A_t_newWords A_t_roundFrom A_t_roundAt A_t_roundTimes x_t_newMany x_t_rounds x_t_itFrom x_t_itTimes x_t_writtenNow x_t_picturesNow x_t_usedNow x_t_chosen x_t_fearOfChosen A_t_leastFrom A_t_rowNow x_t_changesNow x_t_left0 A_t_bornOf A_t_trainsTo A_t_trainAt x_t_trainMany x_t_leastTries x_t_firstTrained x_t_isKept, iA cI 260 A_t_codes v_t_codes, iA cI 10 A_t_facts v_t_facts, iA cI 260 A_t_stack v_t_stack] H → va_D A [oX12 A_t A_t_now A_t_aside A_t_kept A_t_rhymeOf A_t_wasRhyme A_t_wordAt x_t_wordMany A_t_tape x_t_taped x_t_place0 x_t_length0 x_t_fault x_t_number0 x_t_open x_t_codeMany x_t_waiting x_t_saidMany x_t_clauses A_t_said A_t_waitsAt A_t_saidLetter A_t_saidFrom A_t_saidHalf A_t_saidTo A_t_codes A_t_clauseOf A_t_codeFrom A_t_codeHalf A_t_codeTo A_t_stack A_t_facts x_t_lines A_t_newWords A_t_roundFrom A_t_roundAt A_t_roundTimes x_t_newMany x_t_rounds x_t_itFrom x_t_itTimes x_t_writtenNow x_t_picturesNow x_t_usedNow x_t_chosen x_t_fearOfChosen A_t_leastFrom A_t_rowNow x_t_changesNow x_t_left0 A_t_bornOf A_t_trainsTo A_t_trainAt x_t_trainMany x_t_leastTries x_t_firstTrained x_t_isKept, iA cI 260 A_t_codes v_t_codes, iA cI 10 A_t_facts v_t_facts, iA cI 260 A_t_stack v_t_stack] → va_S A s.heap H locs → f_X12_reckonsTo_b203 a2 (f_X12_reckonsTo_b16 v_t_codes v_t_facts a2 n_16) v_t_stack l3 l4 l5 l6 = some (o_r, o_v_t_stack) → W p l e { frames := 1, cells := 0, slots := 0, locals := 22 } s m ([.ref A_t, .int a1, .int a2] : List Value).toArray below meth c H locs 0 0 (MQ below (PoI D A [oX12 A_t A_t_now A_t_aside A_t_kept A_t_rhymeOf A_t_wasRhyme A_t_wordAt x_t_wordMany A_t_tape x_t_taped x_t_place0 x_t_length0 x_t_fault x_t_number0 x_t_open x_t_codeMany x_t_waiting x_t_saidMany x_t_clauses A_t_said A_t_waitsAt A_t_saidLetter A_t_saidFrom A_t_saidHalf A_t_saidTo A_t_codes A_t_clauseOf A_t_codeFrom A_t_codeHalf A_t_codeTo A_t_stack A_t_facts x_t_lines A_t_newWords A_t_roundFrom A_t_roundAt A_t_roundTimes x_t_newMany x_t_rounds x_t_itFrom x_t_itTimes x_t_writtenNow x_t_picturesNow x_t_usedNow x_t_chosen x_t_fearOfChosen A_t_leastFrom A_t_rowNow x_t_changesNow x_t_left0 A_t_bornOf A_t_trainsTo A_t_trainAt x_t_trainMany x_t_leastTries x_t_firstTrained x_t_isKept, iA cI 260 A_t_codes v_t_codes, iA cI 10 A_t_facts v_t_facts, iA cI 260 A_t_stack o_v_t_stack] o_r) ([.ref A_t, .int a1, .int a2] : List Value).toArray s 0 0 A) (F0 m 203 ls []) := by
        intro v_t_stack l3 l4 l5 l6 H locs ls hl hP hD hS hf
        unfold f_X12_reckonsTo_b203 at hf
        refine lv_aload_n hx hb dX12_reckonsTo_203 rfl (lv_at hl 0 rfl) ?_
        refine x_get C hK hP fd_X12_65 0 rfl rfl dX12_reckonsTo_204 ?_
        refine lv_iload_n hx hb dX12_reckonsTo_207 rfl (lv_at hl 2 rfl) ?_
        refine lv_iconst (v := 1) hx hb dX12_reckonsTo_208 (by decide) ?_
        refine lv_isub hx hb dX12_reckonsTo_209 ?_
        refine lv_iload hx hb dX12_reckonsTo_210 (lv_at hl 5 rfl) ?_
        refine lv_aload_n hx hb dX12_reckonsTo_212 rfl (lv_at hl 0 rfl) ?_
        refine x_get C hK hP fd_X12_65 0 rfl rfl dX12_reckonsTo_213 ?_
        refine lv_iload_n hx hb dX12_reckonsTo_216 rfl (lv_at hl 2 rfl) ?_
        refine lv_iconst (v := 1) hx hb dX12_reckonsTo_217 (by decide) ?_
        refine lv_isub hx hb dX12_reckonsTo_218 ?_
        obtain ⟨hi, hf⟩ := gI_e hf
        refine x_iald C hK hP 3 rfl hi dX12_reckonsTo_219 ?_
        refine lv_aload_n hx hb dX12_reckonsTo_220 rfl (lv_at hl 0 rfl) ?_
        refine x_get C hK hP fd_X12_65 0 rfl rfl dX12_reckonsTo_221 ?_
        refine lv_iload_n hx hb dX12_reckonsTo_224 rfl (lv_at hl 2 rfl) ?_
        obtain ⟨hi, hf⟩ := gI_e hf
        refine x_iald C hK hP 3 rfl hi dX12_reckonsTo_225 ?_
        obtain ⟨r1, hc2, hf⟩ := bd1_e hf
        refine x_callSI (ws' := [oX12 A_t A_t_now A_t_aside A_t_kept A_t_rhymeOf A_t_wasRhyme A_t_wordAt x_t_wordMany A_t_tape x_t_taped x_t_place0 x_t_length0 x_t_fault x_t_number0 x_t_open x_t_codeMany x_t_waiting x_t_saidMany x_t_clauses A_t_said A_t_waitsAt A_t_saidLetter A_t_saidFrom A_t_saidHalf A_t_saidTo A_t_codes A_t_clauseOf A_t_codeFrom A_t_codeHalf A_t_codeTo A_t_stack A_t_facts x_t_lines A_t_newWords A_t_roundFrom A_t_roundAt A_t_roundTimes x_t_newMany x_t_rounds x_t_itFrom x_t_itTimes x_t_writtenNow x_t_picturesNow x_t_usedNow x_t_chosen x_t_fearOfChosen A_t_leastFrom A_t_rowNow x_t_changesNow x_t_left0 A_t_bornOf A_t_trainsTo A_t_trainAt x_t_trainMany x_t_leastTries x_t_firstTrained x_t_isKept, iA cI 260 A_t_codes v_t_codes, iA cI 10 A_t_facts v_t_facts, iA cI 260 A_t_stack v_t_stack]) (rest := [.int (l3 - (1 : Int32)), .ref A_t_stack]) C hK hP hD hS hA hl mf_X12_245 (c_X12_reckon hc2) [] rfl rfl rfl rfl rfl rfl rfl rfl (Nat.le_of_ble_eq_true rfl) ⟨Nat.le_of_ble_eq_true rfl, Nat.le_of_ble_eq_true rfl⟩ ⟨Nat.le_refl _, Nat.le_refl _⟩ dX12_reckonsTo_226 ?_
        intro H locs hP hD hS
        obtain ⟨hi, hf⟩ := sI_e hf
        refine x_iast (ws' := [oX12 A_t A_t_now A_t_aside A_t_kept A_t_rhymeOf A_t_wasRhyme A_t_wordAt x_t_wordMany A_t_tape x_t_taped x_t_place0 x_t_length0 x_t_fault x_t_number0 x_t_open x_t_codeMany x_t_waiting x_t_saidMany x_t_clauses A_t_said A_t_waitsAt A_t_saidLetter A_t_saidFrom A_t_saidHalf A_t_saidTo A_t_codes A_t_clauseOf A_t_codeFrom A_t_codeHalf A_t_codeTo A_t_stack A_t_facts x_t_lines A_t_newWords A_t_roundFrom A_t_roundAt A_t_roundTimes x_t_newMany x_t_rounds x_t_itFrom x_t_itTimes x_t_writtenNow x_t_picturesNow x_t_usedNow x_t_chosen x_t_fearOfChosen A_t_leastFrom A_t_rowNow x_t_changesNow x_t_left0 A_t_bornOf A_t_trainsTo A_t_trainAt x_t_trainMany x_t_leastTries x_t_firstTrained x_t_isKept, iA cI 260 A_t_codes v_t_codes, iA cI 10 A_t_facts v_t_facts, iA cI 260 A_t_stack (upd v_t_stack (l3 - (1 : Int32)).toNatClampNeg r1)]) C hK hP hD hS 3 rfl hi rfl dX12_reckonsTo_229 ?_
        intro H locs hP hD hS
        exact hb_230 (upd v_t_stack (l3 - (1 : Int32)).toNatClampNeg r1) l3 l4 l5 _ _ ls (lv_sub hl [0, 1, 2, 3, 4] rfl) hP hD hS hf
      have hb_192 : ∀ (v_t_stack : (Nat → Int32)) (l3 : Int32) (l4 : Int32) (l5 : Int32) (l6 : Int32) (H : Heap) (locs : List Loc) (ls : Array Slot), lv_has ls 8 [(0, .ref A_t), (2, .int a2), (3, .int l3), (4, .int l4), (5, .int l5), (6, .int l6)] → va_P D vwCl [oX12 A_t A_t_now A_t_aside A_t_kept A_t_rhymeOf A_t_wasRhyme A_t_wordAt x_t_wordMany A_t_tape x_t_taped x_t_place0 x_t_length0 x_t_fault x_t_number0 x_t_open x_t_codeMany x_t_waiting x_t_saidMany x_t_clauses A_t_said A_t_waitsAt A_t_saidLetter A_t_saidFrom A_t_saidHalf A_t_saidTo A_t_codes A_t_clauseOf A_t_codeFrom A_t_codeHalf A_t_codeTo A_t_stack A_t_facts x_t_lines A_t_newWords A_t_roundFrom A_t_roundAt A_t_roundTimes x_t_newMany x_t_rounds x_t_itFrom x_t_itTimes x_t_writtenNow x_t_picturesNow x_t_usedNow x_t_chosen x_t_fearOfChosen A_t_leastFrom A_t_rowNow x_t_changesNow x_t_left0 A_t_bornOf A_t_trainsTo A_t_trainAt x_t_trainMany x_t_leastTries x_t_firstTrained x_t_isKept, iA cI 260 A_t_codes v_t_codes, iA cI 10 A_t_facts v_t_facts, iA cI 260 A_t_stack v_t_stack] H → va_D A [oX12 A_t A_t_now A_t_aside A_t_kept A_t_rhymeOf A_t_wasRhyme A_t_wordAt x_t_wordMany A_t_tape x_t_taped x_t_place0 x_t_length0 x_t_fault x_t_number0 x_t_open x_t_codeMany x_t_waiting x_t_saidMany x_t_clauses A_t_said A_t_waitsAt A_t_saidLetter A_t_saidFrom A_t_saidHalf A_t_saidTo A_t_codes A_t_clauseOf A_t_codeFrom A_t_codeHalf A_t_codeTo A_t_stack A_t_facts x_t_lines A_t_newWords A_t_roundFrom A_t_roundAt A_t_roundTimes x_t_newMany x_t_rounds x_t_itFrom x_t_itTimes x_t_writtenNow x_t_picturesNow x_t_usedNow x_t_chosen x_t_fearOfChosen A_t_leastFrom A_t_rowNow x_t_changesNow x_t_left0 A_t_bornOf A_t_trainsTo A_t_trainAt x_t_trainMany x_t_leastTries x_t_firstTrained x_t_isKept, iA cI 260 A_t_codes v_t_codes, iA cI 10 A_t_facts v_t_facts, iA cI 260 A_t_stack v_t_stack] → va_S A s.heap H locs → f_X12_reckonsTo_b192 a2 (f_X12_reckonsTo_b16 v_t_codes v_t_facts a2 n_16) v_t_stack l3 l4 l5 l6 = some (o_r, o_v_t_stack) → W p l e { frames := 1, cells := 0, slots := 0, locals := 22 } s m ([.ref A_t, .int a1, .int a2] : List Value).toArray below meth c H locs 0 0 (MQ below (PoI D A [oX12 A_t A_t_now A_t_aside A_t_kept A_t_rhymeOf A_t_wasRhyme A_t_wordAt x_t_wordMany A_t_tape x_t_taped x_t_place0 x_t_length0 x_t_fault x_t_number0 x_t_open x_t_codeMany x_t_waiting x_t_saidMany x_t_clauses A_t_said A_t_waitsAt A_t_saidLetter A_t_saidFrom A_t_saidHalf A_t_saidTo A_t_codes A_t_clauseOf A_t_codeFrom A_t_codeHalf A_t_codeTo A_t_stack A_t_facts x_t_lines A_t_newWords A_t_roundFrom A_t_roundAt A_t_roundTimes x_t_newMany x_t_rounds x_t_itFrom x_t_itTimes x_t_writtenNow x_t_picturesNow x_t_usedNow x_t_chosen x_t_fearOfChosen A_t_leastFrom A_t_rowNow x_t_changesNow x_t_left0 A_t_bornOf A_t_trainsTo A_t_trainAt x_t_trainMany x_t_leastTries x_t_firstTrained x_t_isKept, iA cI 260 A_t_codes v_t_codes, iA cI 10 A_t_facts v_t_facts, iA cI 260 A_t_stack o_v_t_stack] o_r) ([.ref A_t, .int a1, .int a2] : List Value).toArray s 0 0 A) (F0 m 192 ls []) := by
        intro v_t_stack l3 l4 l5 l6 H locs ls hl hP hD hS hf
        unfold f_X12_reckonsTo_b192 at hf
        refine lv_aload_n hx hb dX12_reckonsTo_192 rfl (lv_at hl 0 rfl) ?_
        refine x_get C hK hP fd_X12_65 0 rfl rfl dX12_reckonsTo_193 ?_
        refine lv_iload_n hx hb dX12_reckonsTo_196 rfl (lv_at hl 2 rfl) ?_
        obtain ⟨hi, hf⟩ := gI_e hf
        refine x_iald C hK hP 3 rfl hi dX12_reckonsTo_197 ?_
        refine lv_if_ne (tgt := 203) hx hb dX12_reckonsTo_198 (by decide) (fun q => ?_) (fun q => ?_)
        · have hf := if_f q hf
          exact hb_203 v_t_stack l3 l4 l5 l6 _ _ ls (lv_sub hl [0, 1, 2, 3, 4, 5] rfl) hP hD hS hf
        · have hf := if_t q hf
          refine lv_iconst (v := 0) hx hb dX12_reckonsTo_201 (by decide) ?_
          obtain ⟨rfl, rfl⟩ := ev2 hf
          exact x_iret C hr hlk hP hD hS dX12_reckonsTo_202
      intro v_t_stack l3 l4 l5 H locs ls hl hP hD hS hf
      rw [f_X12_reckonsTo_b16] at hf
      refine lv_iload hx hb dX12_reckonsTo_16 (lv_at hl 4 rfl) ?_
      refine lv_iload_n hx hb dX12_reckonsTo_18 rfl (lv_at hl 1 rfl) ?_
      refine lv_icmp_ge (tgt := 233) hx hb dX12_reckonsTo_19 (by decide) (fun q => ?_) (fun q => ?_)
      · have hf := if_t q hf
        refine lv_aload_n hx hb dX12_reckonsTo_233 rfl (lv_at hl 0 rfl) ?_
        refine x_get C hK hP fd_X12_65 0 rfl rfl dX12_reckonsTo_234 ?_
        refine lv_iconst (v := 0) hx hb dX12_reckonsTo_237 (by decide) ?_
        obtain ⟨hi, hf⟩ := gI_e hf
        refine x_iald C hK hP 3 rfl hi dX12_reckonsTo_238 ?_
        obtain ⟨rfl, rfl⟩ := ev2 hf
        exact x_iret C hr hlk hP hD hS dX12_reckonsTo_239
      · have hf := if_f q hf
        refine lv_aload_n hx hb dX12_reckonsTo_22 rfl (lv_at hl 0 rfl) ?_
        refine x_get C hK hP fd_X12_50 0 rfl rfl dX12_reckonsTo_23 ?_
        refine lv_iload hx hb dX12_reckonsTo_26 (lv_at hl 4 rfl) ?_
        obtain ⟨hi, hf⟩ := gI_e hf
        refine x_iald C hK hP 1 rfl hi dX12_reckonsTo_28 ?_
        refine x_ldc C kc_X12_176 dX12_reckonsTo_29 ?_
        obtain ⟨hz, hf⟩ := dI_e hf
        refine lv_idiv hx hb dX12_reckonsTo_31 hz ?_
        refine lv_istore (lv' := [(6, .int ((v_t_codes l5.toNatClampNeg) / (1048576 : Int32))), (0, .ref A_t), (2, .int a2), (3, .int l3), (4, .int l4), (5, .int l5)]) hx hb dX12_reckonsTo_32 hl (by decide) rfl (fun ls hl => ?_)
        refine lv_aload_n hx hb dX12_reckonsTo_34 rfl (lv_at hl 1 rfl) ?_
        refine x_get C hK hP fd_X12_50 0 rfl rfl dX12_reckonsTo_35 ?_
        refine lv_iload hx hb dX12_reckonsTo_38 (lv_at hl 5 rfl) ?_
        obtain ⟨hi, hf⟩ := gI_e hf
        refine x_iald C hK hP 1 rfl hi dX12_reckonsTo_40 ?_
        refine x_ldc C kc_X12_176 dX12_reckonsTo_41 ?_
        obtain ⟨hz, hf⟩ := rI_e hf
        refine lv_irem hx hb dX12_reckonsTo_43 hz ?_
        refine lv_istore (lv' := [(7, .int ((v_t_codes l5.toNatClampNeg) - (v_t_codes l5.toNatClampNeg) / (1048576 : Int32) * (1048576 : Int32))), (6, .int ((v_t_codes l5.toNatClampNeg) / (1048576 : Int32))), (0, .ref A_t), (2, .int a2), (3, .int l3), (4, .int l4), (5, .int l5)]) hx hb dX12_reckonsTo_44 hl (by decide) rfl (fun ls hl => ?_)
        refine lv_iload hx hb dX12_reckonsTo_46 (lv_at hl 6 rfl) ?_
        refine lv_iconst (v := 1) hx hb dX12_reckonsTo_48 (by decide) ?_
        refine lv_iadd hx hb dX12_reckonsTo_49 ?_
        refine lv_istore (lv' := [(5, .int (l5 + (1 : Int32))), (7, .int ((v_t_codes l5.toNatClampNeg) - (v_t_codes l5.toNatClampNeg) / (1048576 : Int32) * (1048576 : Int32))), (6, .int ((v_t_codes l5.toNatClampNeg) / (1048576 : Int32))), (0, .ref A_t), (2, .int a2), (3, .int l3), (4, .int l4)]) hx hb dX12_reckonsTo_50 hl (by decide) rfl (fun ls hl => ?_)
        refine lv_iload hx hb dX12_reckonsTo_52 (lv_at hl 2 rfl) ?_
        refine lv_if_eq (tgt := 63) hx hb dX12_reckonsTo_54 (by decide) (fun q => ?_) (fun q => ?_)
        · have hf := if_t q hf
          exact hb_63 v_t_stack l3 l4 (l5 + (1 : Int32)) ((v_t_codes l5.toNatClampNeg) / (1048576 : Int32)) ((v_t_codes l5.toNatClampNeg) - (v_t_codes l5.toNatClampNeg) / (1048576 : Int32) * (1048576 : Int32)) _ _ ls (lv_sub hl [3, 4, 5, 6, 0, 2, 1] rfl) hP hD hS hf
        · have hf := if_f q hf
          refine lv_iload hx hb dX12_reckonsTo_57 (lv_at hl 2 rfl) ?_
          refine lv_iconst (v := 1) hx hb dX12_reckonsTo_59 (by decide) ?_
          refine lv_icmp_ne (tgt := 93) hx hb dX12_reckonsTo_60 (by decide) (fun q => ?_) (fun q => ?_)
          · have hf := if_f q hf
            refine lv_iload hx hb dX12_reckonsTo_93 (lv_at hl 2 rfl) ?_
            refine lv_bipush (v := 10) hx hb dX12_reckonsTo_95 (by decide) ?_
            refine lv_icmp_ne (tgt := 121) hx hb dX12_reckonsTo_97 (by decide) (fun q => ?_) (fun q => ?_)
            · have hf := if_f q hf
              refine lv_iload hx hb dX12_reckonsTo_121 (lv_at hl 2 rfl) ?_
              refine lv_bipush (v := 11) hx hb dX12_reckonsTo_123 (by decide) ?_
              refine lv_icmp_eq (tgt := 135) hx hb dX12_reckonsTo_125 (by decide) (fun q => ?_) (fun q => ?_)
              · have hf := if_t q hf
                exact hb_135 v_t_stack l3 l4 (l5 + (1 : Int32)) ((v_t_codes l5.toNatClampNeg) / (1048576 : Int32)) ((v_t_codes l5.toNatClampNeg) - (v_t_codes l5.toNatClampNeg) / (1048576 : Int32) * (1048576 : Int32)) _ _ ls (lv_sub hl [3, 4, 5, 6, 0, 2, 1] rfl) hP hD hS hf
              · have hf := if_f q hf
                refine lv_iload hx hb dX12_reckonsTo_128 (lv_at hl 2 rfl) ?_
                refine lv_bipush (v := 12) hx hb dX12_reckonsTo_130 (by decide) ?_
                refine lv_icmp_ne (tgt := 175) hx hb dX12_reckonsTo_132 (by decide) (fun q => ?_) (fun q => ?_)
                · have hf := if_f q hf
                  refine lv_iload_n hx hb dX12_reckonsTo_175 rfl (lv_at hl 5 rfl) ?_
                  refine lv_iconst (v := 1) hx hb dX12_reckonsTo_176 (by decide) ?_
                  refine lv_isub hx hb dX12_reckonsTo_177 ?_
                  refine lv_istore_n (lv' := [(3, .int (l3 - (1 : Int32))), (5, .int (l5 + (1 : Int32))), (7, .int ((v_t_codes l5.toNatClampNeg) - (v_t_codes l5.toNatClampNeg) / (1048576 : Int32) * (1048576 : Int32))), (6, .int ((v_t_codes l5.toNatClampNeg) / (1048576 : Int32))), (0, .ref A_t), (2, .int a2), (4, .int l4)]) hx hb dX12_reckonsTo_178 rfl hl (by decide) rfl (fun ls hl => ?_)
                  refine lv_iload hx hb dX12_reckonsTo_179 (lv_at hl 3 rfl) ?_
                  refine lv_iconst (v := 5) hx hb dX12_reckonsTo_181 (by decide) ?_
                  refine lv_icmp_eq (tgt := 192) hx hb dX12_reckonsTo_182 (by decide) (fun q => ?_) (fun q => ?_)
                  · have hf := if_t q hf
                    exact hb_192 v_t_stack (l3 - (1 : Int32)) l4 (l5 + (1 : Int32)) ((v_t_codes l5.toNatClampNeg) / (1048576 : Int32)) _ _ ls (lv_sub hl [4, 5, 0, 6, 1, 3] rfl) hP hD hS hf
                  · have hf := if_f q hf
                    refine lv_iload hx hb dX12_reckonsTo_185 (lv_at hl 3 rfl) ?_
                    refine lv_bipush (v := 6) hx hb dX12_reckonsTo_187 (by decide) ?_
                    refine lv_icmp_ne (tgt := 203) hx hb dX12_reckonsTo_189 (by decide) (fun q => ?_) (fun q => ?_)
                    · have hf := if_f q hf
                      exact hb_203 v_t_stack (l3 - (1 : Int32)) l4 (l5 + (1 : Int32)) ((v_t_codes l5.toNatClampNeg) / (1048576 : Int32)) _ _ ls (lv_sub hl [4, 5, 0, 6, 1, 3] rfl) hP hD hS hf
                    · have hf := if_t q hf
                      exact hb_192 v_t_stack (l3 - (1 : Int32)) l4 (l5 + (1 : Int32)) ((v_t_codes l5.toNatClampNeg) / (1048576 : Int32)) _ _ ls (lv_sub hl [4, 5, 0, 6, 1, 3] rfl) hP hD hS hf
                · have hf := if_t q hf
                  exact hb_135 v_t_stack l3 l4 (l5 + (1 : Int32)) ((v_t_codes l5.toNatClampNeg) / (1048576 : Int32)) ((v_t_codes l5.toNatClampNeg) - (v_t_codes l5.toNatClampNeg) / (1048576 : Int32) * (1048576 : Int32)) _ _ ls (lv_sub hl [3, 4, 5, 6, 0, 2, 1] rfl) hP hD hS hf
            · have hf := if_t q hf
              refine lv_aload_n hx hb dX12_reckonsTo_100 rfl (lv_at hl 3 rfl) ?_
              refine x_get C hK hP fd_X12_65 0 rfl rfl dX12_reckonsTo_101 ?_
              refine lv_iload_n hx hb dX12_reckonsTo_104 rfl (lv_at hl 5 rfl) ?_
              refine lv_iconst (v := 1) hx hb dX12_reckonsTo_105 (by decide) ?_
              refine lv_isub hx hb dX12_reckonsTo_106 ?_
              refine lv_iconst (v := 1) hx hb dX12_reckonsTo_107 (by decide) ?_
              refine lv_aload_n hx hb dX12_reckonsTo_108 rfl (lv_at hl 3 rfl) ?_
              refine x_get C hK hP fd_X12_65 0 rfl rfl dX12_reckonsTo_109 ?_
              refine lv_iload_n hx hb dX12_reckonsTo_112 rfl (lv_at hl 5 rfl) ?_
              refine lv_iconst (v := 1) hx hb dX12_reckonsTo_113 (by decide) ?_
              refine lv_isub hx hb dX12_reckonsTo_114 ?_
              obtain ⟨hi, hf⟩ := gI_e hf
              refine x_iald C hK hP 3 rfl hi dX12_reckonsTo_115 ?_
              refine lv_isub hx hb dX12_reckonsTo_116 ?_
              obtain ⟨hi, hf⟩ := sI_e hf
              refine x_iast (ws' := [oX12 A_t A_t_now A_t_aside A_t_kept A_t_rhymeOf A_t_wasRhyme A_t_wordAt x_t_wordMany A_t_tape x_t_taped x_t_place0 x_t_length0 x_t_fault x_t_number0 x_t_open x_t_codeMany x_t_waiting x_t_saidMany x_t_clauses A_t_said A_t_waitsAt A_t_saidLetter A_t_saidFrom A_t_saidHalf A_t_saidTo A_t_codes A_t_clauseOf A_t_codeFrom A_t_codeHalf A_t_codeTo A_t_stack A_t_facts x_t_lines A_t_newWords A_t_roundFrom A_t_roundAt A_t_roundTimes x_t_newMany x_t_rounds x_t_itFrom x_t_itTimes x_t_writtenNow x_t_picturesNow x_t_usedNow x_t_chosen x_t_fearOfChosen A_t_leastFrom A_t_rowNow x_t_changesNow x_t_left0 A_t_bornOf A_t_trainsTo A_t_trainAt x_t_trainMany x_t_leastTries x_t_firstTrained x_t_isKept, iA cI 260 A_t_codes v_t_codes, iA cI 10 A_t_facts v_t_facts, iA cI 260 A_t_stack (upd v_t_stack (l3 - (1 : Int32)).toNatClampNeg ((1 : Int32) - (v_t_stack (l3 - (1 : Int32)).toNatClampNeg)))]) C hK hP hD hS 3 rfl hi rfl dX12_reckonsTo_117 ?_
              intro H locs hP hD hS
              refine lv_goto (tgt := 230) hx hb dX12_reckonsTo_118 (by decide) ?_
              exact hb_230 (upd v_t_stack (l3 - (1 : Int32)).toNatClampNeg ((1 : Int32) - (v_t_stack (l3 - (1 : Int32)).toNatClampNeg))) l3 l4 (l5 + (1 : Int32)) _ _ ls (lv_sub hl [3, 4, 5, 6, 0] rfl) hP hD hS hf
          · have hf := if_t q hf
            exact hb_63 v_t_stack l3 l4 (l5 + (1 : Int32)) ((v_t_codes l5.toNatClampNeg) / (1048576 : Int32)) ((v_t_codes l5.toNatClampNeg) - (v_t_codes l5.toNatClampNeg) / (1048576 : Int32) * (1048576 : Int32)) _ _ ls (lv_sub hl [3, 4, 5, 6, 0, 2, 1] rfl) hP hD hS hf
  refine lv_iconst (v := 0) hx hb dX12_reckonsTo_0 (by decide) ?_
  refine lv_istore_n (lv' := [(3, .int (0 : Int32)), (0, .ref A_t), (1, .int a1), (2, .int a2)]) hx hb dX12_reckonsTo_1 rfl hl (by decide) rfl (fun ls hl => ?_)
  refine lv_sipush (v := 260) hx hb dX12_reckonsTo_2 (by decide) ?_
  refine lv_iload_n hx hb dX12_reckonsTo_5 rfl (lv_at hl 2 rfl) ?_
  refine lv_sipush (v := 260) hx hb dX12_reckonsTo_6 (by decide) ?_
  obtain ⟨hz, hf⟩ := dI_e hf
  refine lv_idiv hx hb dX12_reckonsTo_9 hz ?_
  refine lv_imul hx hb dX12_reckonsTo_10 ?_
  refine lv_istore (lv' := [(4, .int ((260 : Int32) * (a1 / (260 : Int32)))), (3, .int (0 : Int32)), (0, .ref A_t), (1, .int a1), (2, .int a2)]) hx hb dX12_reckonsTo_11 hl (by decide) rfl (fun ls hl => ?_)
  refine lv_iload_n hx hb dX12_reckonsTo_13 rfl (lv_at hl 3 rfl) ?_
  refine lv_istore (lv' := [(5, .int a1), (4, .int ((260 : Int32) * (a1 / (260 : Int32)))), (3, .int (0 : Int32)), (0, .ref A_t), (1, .int a1), (2, .int a2)]) hx hb dX12_reckonsTo_14 hl (by decide) rfl (fun ls hl => ?_)
  exact hb_16 FU v_t_stack (0 : Int32) ((260 : Int32) * (a1 / (260 : Int32))) a1 _ _ ls (lv_sub hl [3, 5, 2, 1, 0] rfl) hP hD hS hf
def f_X12_byLaw_b89 (v_t_stack : (Nat → Int32)) (s0 : Int32) : Option (Int32 × (Nat → Int32)) :=
  some (s0, v_t_stack)
def f_X12_byLaw_b90 (a1 : Int32) (a2 : Int32) (a3 : Int32) (k3 : (Nat → Int32) → Int32 → Option (Int32 × (Nat → Int32))) (v_t_stack : (Nat → Int32)) (l4 : Int32) : Option (Int32 × (Nat → Int32)) :=
  k3 v_t_stack (l4 + (1 : Int32))
def f_X12_byLaw_b3 (v_t_clauseOf : (Nat → Int32)) (v_t_codeFrom : (Nat → Int32)) (v_t_codeHalf : (Nat → Int32)) (v_t_codeTo : (Nat → Int32)) (v_t_codes : (Nat → Int32)) (v_t_facts : (Nat → Int32)) (x_t_clauses : Int32) (a1 : Int32) (a2 : Int32) (a3 : Int32) : Nat → (Nat → Int32) → Int32 → Option (Int32 × (Nat → Int32))
  | 0, _, _ => none
  | n + 1, v_t_stack, l4 =>
    if x_t_clauses ≤ l4 then
      some (a3, v_t_stack)
    else
      gI 16 v_t_clauseOf l4 (fun g1 =>
      if g1 = a1 then
        gI 16 v_t_codeHalf l4 (fun g2 =>
        gI 16 v_t_codeTo l4 (fun g3 =>
        bd2 (f_X12_reckonsTo v_t_codes v_t_facts v_t_stack g2 g3) (fun r4 w5 =>
        if r4 = (1 : Int32) then
          gI 16 v_t_codeFrom l4 (fun g6 =>
          gI 16 v_t_codeHalf l4 (fun g7 =>
          bd2 (f_X12_reckonsTo v_t_codes v_t_facts w5 g6 g7) (fun r8 w9 =>
          if 0 ≤ r8 then
            if r8 ≤ a2 then
              f_X12_byLaw_b89 w9 r8
            else
              f_X12_byLaw_b89 w9 a2
          else
            f_X12_byLaw_b89 w9 (0 : Int32))))
        else
          f_X12_byLaw_b90 a1 a2 a3 (f_X12_byLaw_b3 v_t_clauseOf v_t_codeFrom v_t_codeHalf v_t_codeTo v_t_codes v_t_facts x_t_clauses a1 a2 a3 n) w5 l4)))
      else
        f_X12_byLaw_b90 a1 a2 a3 (f_X12_byLaw_b3 v_t_clauseOf v_t_codeFrom v_t_codeHalf v_t_codeTo v_t_codes v_t_facts x_t_clauses a1 a2 a3 n) v_t_stack l4)
def f_X12_byLaw (v_t_clauseOf : (Nat → Int32)) (v_t_codeFrom : (Nat → Int32)) (v_t_codeHalf : (Nat → Int32)) (v_t_codeTo : (Nat → Int32)) (v_t_codes : (Nat → Int32)) (v_t_facts : (Nat → Int32)) (v_t_stack : (Nat → Int32)) (x_t_clauses : Int32) (a1 : Int32) (a2 : Int32) (a3 : Int32) : Option (Int32 × (Nat → Int32)) :=
  f_X12_byLaw_b3 v_t_clauseOf v_t_codeFrom v_t_codeHalf v_t_codeTo v_t_codes v_t_facts x_t_clauses a1 a2 a3 FU v_t_stack (0 : Int32)
set_option maxHeartbeats 4000000 in
set_option maxRecDepth 100000 in
theorem c_X12_byLaw {l : Launch} {D : va_G} {cI cB : ClassId} {A_t A_t_now A_t_aside A_t_kept A_t_rhymeOf A_t_wasRhyme A_t_wordAt A_t_tape A_t_said A_t_waitsAt A_t_saidLetter A_t_saidFrom A_t_saidHalf A_t_saidTo A_t_codes A_t_clauseOf A_t_codeFrom A_t_codeHalf A_t_codeTo A_t_stack A_t_facts A_t_newWords A_t_roundFrom A_t_roundAt A_t_roundTimes A_t_leastFrom A_t_rowNow A_t_bornOf A_t_trainsTo A_t_trainAt : Nat} {x_t_wordMany x_t_taped x_t_place0 x_t_length0 x_t_fault x_t_number0 x_t_open x_t_codeMany x_t_waiting x_t_saidMany x_t_clauses x_t_lines x_t_newMany x_t_rounds x_t_itFrom x_t_itTimes x_t_writtenNow x_t_picturesNow x_t_usedNow x_t_chosen x_t_fearOfChosen x_t_changesNow x_t_left0 x_t_trainMany x_t_leastTries x_t_firstTrained x_t_isKept a1 a2 a3 : Int32} {v_t_clauseOf v_t_codeFrom v_t_codeHalf v_t_codeTo v_t_codes v_t_facts v_t_stack : Nat → Int32} {o_r : Int32} {o_v_t_stack : Nat → Int32} (hf : f_X12_byLaw v_t_clauseOf v_t_codeFrom v_t_codeHalf v_t_codeTo v_t_codes v_t_facts v_t_stack x_t_clauses a1 a2 a3 = some (o_r, o_v_t_stack)) : CtI l D cI cB yX12_byLaw cX12_byLaw 6 (some .int) 2 49 [.ref A_t, .int a1, .int a2, .int a3] [oX12 A_t A_t_now A_t_aside A_t_kept A_t_rhymeOf A_t_wasRhyme A_t_wordAt x_t_wordMany A_t_tape x_t_taped x_t_place0 x_t_length0 x_t_fault x_t_number0 x_t_open x_t_codeMany x_t_waiting x_t_saidMany x_t_clauses A_t_said A_t_waitsAt A_t_saidLetter A_t_saidFrom A_t_saidHalf A_t_saidTo A_t_codes A_t_clauseOf A_t_codeFrom A_t_codeHalf A_t_codeTo A_t_stack A_t_facts x_t_lines A_t_newWords A_t_roundFrom A_t_roundAt A_t_roundTimes x_t_newMany x_t_rounds x_t_itFrom x_t_itTimes x_t_writtenNow x_t_picturesNow x_t_usedNow x_t_chosen x_t_fearOfChosen A_t_leastFrom A_t_rowNow x_t_changesNow x_t_left0 A_t_bornOf A_t_trainsTo A_t_trainAt x_t_trainMany x_t_leastTries x_t_firstTrained x_t_isKept, iA cI 16 A_t_clauseOf v_t_clauseOf, iA cI 16 A_t_codeFrom v_t_codeFrom, iA cI 16 A_t_codeHalf v_t_codeHalf, iA cI 16 A_t_codeTo v_t_codeTo, iA cI 260 A_t_codes v_t_codes, iA cI 10 A_t_facts v_t_facts, iA cI 260 A_t_stack v_t_stack] [oX12 A_t A_t_now A_t_aside A_t_kept A_t_rhymeOf A_t_wasRhyme A_t_wordAt x_t_wordMany A_t_tape x_t_taped x_t_place0 x_t_length0 x_t_fault x_t_number0 x_t_open x_t_codeMany x_t_waiting x_t_saidMany x_t_clauses A_t_said A_t_waitsAt A_t_saidLetter A_t_saidFrom A_t_saidHalf A_t_saidTo A_t_codes A_t_clauseOf A_t_codeFrom A_t_codeHalf A_t_codeTo A_t_stack A_t_facts x_t_lines A_t_newWords A_t_roundFrom A_t_roundAt A_t_roundTimes x_t_newMany x_t_rounds x_t_itFrom x_t_itTimes x_t_writtenNow x_t_picturesNow x_t_usedNow x_t_chosen x_t_fearOfChosen A_t_leastFrom A_t_rowNow x_t_changesNow x_t_left0 A_t_bornOf A_t_trainsTo A_t_trainAt x_t_trainMany x_t_leastTries x_t_firstTrained x_t_isKept, iA cI 16 A_t_clauseOf v_t_clauseOf, iA cI 16 A_t_codeFrom v_t_codeFrom, iA cI 16 A_t_codeHalf v_t_codeHalf, iA cI 16 A_t_codeTo v_t_codeTo, iA cI 260 A_t_codes v_t_codes, iA cI 10 A_t_facts v_t_facts, iA cI 260 A_t_stack o_v_t_stack] o_r := by
  refine x_startI (by decide) (Nat.le_of_ble_eq_true rfl) ?_
  intro p e s m below meth c A C hr hlk hA hK hP hD hS ls hl
  have hl : lv_has ls 6 [(0, .ref A_t), (1, .int a1), (2, .int a2), (3, .int a3)] := hl
  have hx := C.1
  have hb := C.2.1
  unfold f_X12_byLaw at hf
  have hb_89 : ∀ (v_t_stack : (Nat → Int32)) (s0 : Int32) (H : Heap) (locs : List Loc) (ls : Array Slot), lv_has ls 6 [] → va_P D vwCl [oX12 A_t A_t_now A_t_aside A_t_kept A_t_rhymeOf A_t_wasRhyme A_t_wordAt x_t_wordMany A_t_tape x_t_taped x_t_place0 x_t_length0 x_t_fault x_t_number0 x_t_open x_t_codeMany x_t_waiting x_t_saidMany x_t_clauses A_t_said A_t_waitsAt A_t_saidLetter A_t_saidFrom A_t_saidHalf A_t_saidTo A_t_codes A_t_clauseOf A_t_codeFrom A_t_codeHalf A_t_codeTo A_t_stack A_t_facts x_t_lines A_t_newWords A_t_roundFrom A_t_roundAt A_t_roundTimes x_t_newMany x_t_rounds x_t_itFrom x_t_itTimes x_t_writtenNow x_t_picturesNow x_t_usedNow x_t_chosen x_t_fearOfChosen A_t_leastFrom A_t_rowNow x_t_changesNow x_t_left0 A_t_bornOf A_t_trainsTo A_t_trainAt x_t_trainMany x_t_leastTries x_t_firstTrained x_t_isKept, iA cI 16 A_t_clauseOf v_t_clauseOf, iA cI 16 A_t_codeFrom v_t_codeFrom, iA cI 16 A_t_codeHalf v_t_codeHalf, iA cI 16 A_t_codeTo v_t_codeTo, iA cI 260 A_t_codes v_t_codes, iA cI 10 A_t_facts v_t_facts, iA cI 260 A_t_stack v_t_stack] H → va_D A [oX12 A_t A_t_now A_t_aside A_t_kept A_t_rhymeOf A_t_wasRhyme A_t_wordAt x_t_wordMany A_t_tape x_t_taped x_t_place0 x_t_length0 x_t_fault x_t_number0 x_t_open x_t_codeMany x_t_waiting x_t_saidMany x_t_clauses A_t_said A_t_waitsAt A_t_saidLetter A_t_saidFrom A_t_saidHalf A_t_saidTo A_t_codes A_t_clauseOf A_t_codeFrom A_t_codeHalf A_t_codeTo A_t_stack A_t_facts x_t_lines A_t_newWords A_t_roundFrom A_t_roundAt A_t_roundTimes x_t_newMany x_t_rounds x_t_itFrom x_t_itTimes x_t_writtenNow x_t_picturesNow x_t_usedNow x_t_chosen x_t_fearOfChosen A_t_leastFrom A_t_rowNow x_t_changesNow x_t_left0 A_t_bornOf A_t_trainsTo A_t_trainAt x_t_trainMany x_t_leastTries x_t_firstTrained x_t_isKept, iA cI 16 A_t_clauseOf v_t_clauseOf, iA cI 16 A_t_codeFrom v_t_codeFrom, iA cI 16 A_t_codeHalf v_t_codeHalf, iA cI 16 A_t_codeTo v_t_codeTo, iA cI 260 A_t_codes v_t_codes, iA cI 10 A_t_facts v_t_facts, iA cI 260 A_t_stack v_t_stack] → va_S A s.heap H locs → f_X12_byLaw_b89 v_t_stack s0 = some (o_r, o_v_t_stack) → W p l e { frames := 2, cells := 0, slots := 0, locals := 49 } s m ([.ref A_t, .int a1, .int a2, .int a3] : List Value).toArray below meth c H locs 0 0 (MQ below (PoI D A [oX12 A_t A_t_now A_t_aside A_t_kept A_t_rhymeOf A_t_wasRhyme A_t_wordAt x_t_wordMany A_t_tape x_t_taped x_t_place0 x_t_length0 x_t_fault x_t_number0 x_t_open x_t_codeMany x_t_waiting x_t_saidMany x_t_clauses A_t_said A_t_waitsAt A_t_saidLetter A_t_saidFrom A_t_saidHalf A_t_saidTo A_t_codes A_t_clauseOf A_t_codeFrom A_t_codeHalf A_t_codeTo A_t_stack A_t_facts x_t_lines A_t_newWords A_t_roundFrom A_t_roundAt A_t_roundTimes x_t_newMany x_t_rounds x_t_itFrom x_t_itTimes x_t_writtenNow x_t_picturesNow x_t_usedNow x_t_chosen x_t_fearOfChosen A_t_leastFrom A_t_rowNow x_t_changesNow x_t_left0 A_t_bornOf A_t_trainsTo A_t_trainAt x_t_trainMany x_t_leastTries x_t_firstTrained x_t_isKept, iA cI 16 A_t_clauseOf v_t_clauseOf, iA cI 16 A_t_codeFrom v_t_codeFrom, iA cI 16 A_t_codeHalf v_t_codeHalf, iA cI 16 A_t_codeTo v_t_codeTo, iA cI 260 A_t_codes v_t_codes, iA cI 10 A_t_facts v_t_facts, iA cI 260 A_t_stack o_v_t_stack] o_r) ([.ref A_t, .int a1, .int a2, .int a3] : List Value).toArray s 0 0 A) (F0 m 89 ls [.int s0]) := by
    intro v_t_stack s0 H locs ls hl hP hD hS hf
    unfold f_X12_byLaw_b89 at hf
    obtain ⟨rfl, rfl⟩ := ev2 hf
    exact x_iret C hr hlk hP hD hS dX12_byLaw_89
  have hb_3 : ∀ (n_3 : Nat) (v_t_stack : (Nat → Int32)) (l4 : Int32) (H : Heap) (locs : List Loc) (ls : Array Slot), lv_has ls 6 [(0, .ref A_t), (1, .int a1), (2, .int a2), (3, .int a3), (4, .int l4)] → va_P D vwCl [oX12 A_t A_t_now A_t_aside A_t_kept A_t_rhymeOf A_t_wasRhyme A_t_wordAt x_t_wordMany A_t_tape x_t_taped x_t_place0 x_t_length0 x_t_fault x_t_number0 x_t_open x_t_codeMany x_t_waiting x_t_saidMany x_t_clauses A_t_said A_t_waitsAt A_t_saidLetter A_t_saidFrom A_t_saidHalf A_t_saidTo A_t_codes A_t_clauseOf A_t_codeFrom A_t_codeHalf A_t_codeTo A_t_stack A_t_facts x_t_lines A_t_newWords A_t_roundFrom A_t_roundAt A_t_roundTimes x_t_newMany x_t_rounds x_t_itFrom x_t_itTimes x_t_writtenNow x_t_picturesNow x_t_usedNow x_t_chosen x_t_fearOfChosen A_t_leastFrom A_t_rowNow x_t_changesNow x_t_left0 A_t_bornOf A_t_trainsTo A_t_trainAt x_t_trainMany x_t_leastTries x_t_firstTrained x_t_isKept, iA cI 16 A_t_clauseOf v_t_clauseOf, iA cI 16 A_t_codeFrom v_t_codeFrom, iA cI 16 A_t_codeHalf v_t_codeHalf, iA cI 16 A_t_codeTo v_t_codeTo, iA cI 260 A_t_codes v_t_codes, iA cI 10 A_t_facts v_t_facts, iA cI 260 A_t_stack v_t_stack] H → va_D A [oX12 A_t A_t_now A_t_aside A_t_kept A_t_rhymeOf A_t_wasRhyme A_t_wordAt x_t_wordMany A_t_tape x_t_taped x_t_place0 x_t_length0 x_t_fault x_t_number0 x_t_open x_t_codeMany x_t_waiting x_t_saidMany x_t_clauses A_t_said A_t_waitsAt A_t_saidLetter A_t_saidFrom A_t_saidHalf A_t_saidTo A_t_codes A_t_clauseOf A_t_codeFrom A_t_codeHalf A_t_codeTo A_t_stack A_t_facts x_t_lines A_t_newWords A_t_roundFrom A_t_roundAt A_t_roundTimes x_t_newMany x_t_rounds x_t_itFrom x_t_itTimes x_t_writtenNow x_t_picturesNow x_t_usedNow x_t_chosen x_t_fearOfChosen A_t_leastFrom A_t_rowNow x_t_changesNow x_t_left0 A_t_bornOf A_t_trainsTo A_t_trainAt x_t_trainMany x_t_leastTries x_t_firstTrained x_t_isKept, iA cI 16 A_t_clauseOf v_t_clauseOf, iA cI 16 A_t_codeFrom v_t_codeFrom, iA cI 16 A_t_codeHalf v_t_codeHalf, iA cI 16 A_t_codeTo v_t_codeTo, iA cI 260 A_t_codes v_t_codes, iA cI 10 A_t_facts v_t_facts, iA cI 260 A_t_stack v_t_stack] → va_S A s.heap H locs → f_X12_byLaw_b3 v_t_clauseOf v_t_codeFrom v_t_codeHalf v_t_codeTo v_t_codes v_t_facts x_t_clauses a1 a2 a3 n_3 v_t_stack l4 = some (o_r, o_v_t_stack) → W p l e { frames := 2, cells := 0, slots := 0, locals := 49 } s m ([.ref A_t, .int a1, .int a2, .int a3] : List Value).toArray below meth c H locs 0 0 (MQ below (PoI D A [oX12 A_t A_t_now A_t_aside A_t_kept A_t_rhymeOf A_t_wasRhyme A_t_wordAt x_t_wordMany A_t_tape x_t_taped x_t_place0 x_t_length0 x_t_fault x_t_number0 x_t_open x_t_codeMany x_t_waiting x_t_saidMany x_t_clauses A_t_said A_t_waitsAt A_t_saidLetter A_t_saidFrom A_t_saidHalf A_t_saidTo A_t_codes A_t_clauseOf A_t_codeFrom A_t_codeHalf A_t_codeTo A_t_stack A_t_facts x_t_lines A_t_newWords A_t_roundFrom A_t_roundAt A_t_roundTimes x_t_newMany x_t_rounds x_t_itFrom x_t_itTimes x_t_writtenNow x_t_picturesNow x_t_usedNow x_t_chosen x_t_fearOfChosen A_t_leastFrom A_t_rowNow x_t_changesNow x_t_left0 A_t_bornOf A_t_trainsTo A_t_trainAt x_t_trainMany x_t_leastTries x_t_firstTrained x_t_isKept, iA cI 16 A_t_clauseOf v_t_clauseOf, iA cI 16 A_t_codeFrom v_t_codeFrom, iA cI 16 A_t_codeHalf v_t_codeHalf, iA cI 16 A_t_codeTo v_t_codeTo, iA cI 260 A_t_codes v_t_codes, iA cI 10 A_t_facts v_t_facts, iA cI 260 A_t_stack o_v_t_stack] o_r) ([.ref A_t, .int a1, .int a2, .int a3] : List Value).toArray s 0 0 A) (F0 m 3 ls []) := by
    intro n_3
    induction n_3 with
    | zero =>
      intro v_t_stack l4 H locs ls hl hP hD hS hf
      exact absurd hf (fun h => by rw [f_X12_byLaw_b3] at h; cases h)
    | succ n_3 ih_3 =>
      have hb_90 : ∀ (v_t_stack : (Nat → Int32)) (l4 : Int32) (H : Heap) (locs : List Loc) (ls : Array Slot), lv_has ls 6 [(0, .ref A_t), (1, .int a1), (2, .int a2), (3, .int a3), (4, .int l4)] → va_P D vwCl [oX12 A_t A_t_now A_t_aside A_t_kept A_t_rhymeOf A_t_wasRhyme A_t_wordAt x_t_wordMany A_t_tape x_t_taped x_t_place0 x_t_length0 x_t_fault x_t_number0 x_t_open x_t_codeMany x_t_waiting x_t_saidMany x_t_clauses A_t_said A_t_waitsAt A_t_saidLetter A_t_saidFrom A_t_saidHalf A_t_saidTo A_t_codes A_t_clauseOf A_t_codeFrom A_t_codeHalf A_t_codeTo A_t_stack A_t_facts x_t_lines A_t_newWords A_t_roundFrom A_t_roundAt A_t_roundTimes x_t_newMany x_t_rounds x_t_itFrom x_t_itTimes x_t_writtenNow x_t_picturesNow x_t_usedNow x_t_chosen x_t_fearOfChosen A_t_leastFrom A_t_rowNow x_t_changesNow x_t_left0 A_t_bornOf A_t_trainsTo A_t_trainAt x_t_trainMany x_t_leastTries x_t_firstTrained x_t_isKept, iA cI 16 A_t_clauseOf v_t_clauseOf, iA cI 16 A_t_codeFrom v_t_codeFrom, iA cI 16 A_t_codeHalf v_t_codeHalf, iA cI 16 A_t_codeTo v_t_codeTo, iA cI 260 A_t_codes v_t_codes, iA cI 10 A_t_facts v_t_facts, iA cI 260 A_t_stack v_t_stack] H → va_D A [oX12 A_t A_t_now A_t_aside A_t_kept A_t_rhymeOf A_t_wasRhyme A_t_wordAt x_t_wordMany A_t_tape x_t_taped x_t_place0 x_t_length0 x_t_fault x_t_number0 x_t_open x_t_codeMany x_t_waiting x_t_saidMany x_t_clauses A_t_said A_t_waitsAt A_t_saidLetter A_t_saidFrom A_t_saidHalf A_t_saidTo A_t_codes A_t_clauseOf A_t_codeFrom A_t_codeHalf A_t_codeTo A_t_stack A_t_facts x_t_lines A_t_newWords A_t_roundFrom A_t_roundAt A_t_roundTimes x_t_newMany x_t_rounds x_t_itFrom x_t_itTimes x_t_writtenNow x_t_picturesNow x_t_usedNow x_t_chosen x_t_fearOfChosen A_t_leastFrom A_t_rowNow x_t_changesNow x_t_left0 A_t_bornOf A_t_trainsTo A_t_trainAt x_t_trainMany x_t_leastTries x_t_firstTrained x_t_isKept, iA cI 16 A_t_clauseOf v_t_clauseOf, iA cI 16 A_t_codeFrom v_t_codeFrom, iA cI 16 A_t_codeHalf v_t_codeHalf, iA cI 16 A_t_codeTo v_t_codeTo, iA cI 260 A_t_codes v_t_codes, iA cI 10 A_t_facts v_t_facts, iA cI 260 A_t_stack v_t_stack] → va_S A s.heap H locs → f_X12_byLaw_b90 a1 a2 a3 (f_X12_byLaw_b3 v_t_clauseOf v_t_codeFrom v_t_codeHalf v_t_codeTo v_t_codes v_t_facts x_t_clauses a1 a2 a3 n_3) v_t_stack l4 = some (o_r, o_v_t_stack) → W p l e { frames := 2, cells := 0, slots := 0, locals := 49 } s m ([.ref A_t, .int a1, .int a2, .int a3] : List Value).toArray below meth c H locs 0 0 (MQ below (PoI D A [oX12 A_t A_t_now A_t_aside A_t_kept A_t_rhymeOf A_t_wasRhyme A_t_wordAt x_t_wordMany A_t_tape x_t_taped x_t_place0 x_t_length0 x_t_fault x_t_number0 x_t_open x_t_codeMany x_t_waiting x_t_saidMany x_t_clauses A_t_said A_t_waitsAt A_t_saidLetter A_t_saidFrom A_t_saidHalf A_t_saidTo A_t_codes A_t_clauseOf A_t_codeFrom A_t_codeHalf A_t_codeTo A_t_stack A_t_facts x_t_lines A_t_newWords A_t_roundFrom A_t_roundAt A_t_roundTimes x_t_newMany x_t_rounds x_t_itFrom x_t_itTimes x_t_writtenNow x_t_picturesNow x_t_usedNow x_t_chosen x_t_fearOfChosen A_t_leastFrom A_t_rowNow x_t_changesNow x_t_left0 A_t_bornOf A_t_trainsTo A_t_trainAt x_t_trainMany x_t_leastTries x_t_firstTrained x_t_isKept, iA cI 16 A_t_clauseOf v_t_clauseOf, iA cI 16 A_t_codeFrom v_t_codeFrom, iA cI 16 A_t_codeHalf v_t_codeHalf, iA cI 16 A_t_codeTo v_t_codeTo, iA cI 260 A_t_codes v_t_codes, iA cI 10 A_t_facts v_t_facts, iA cI 260 A_t_stack o_v_t_stack] o_r) ([.ref A_t, .int a1, .int a2, .int a3] : List Value).toArray s 0 0 A) (F0 m 90 ls []) := by
        intro v_t_stack l4 H locs ls hl hP hD hS hf
        unfold f_X12_byLaw_b90 at hf
        refine lv_iinc (v := (l4 + (1 : Int32))) (lv' := [(4, .int (l4 + (1 : Int32))), (0, .ref A_t), (1, .int a1), (2, .int a2), (3, .int a3)]) hx hb dX12_byLaw_90 hl (k := 4) rfl rfl (by decide) rfl (fun ls hl => ?_)
        refine lv_goto (tgt := 3) hx hb dX12_byLaw_93 (by decide) ?_
        exact ih_3 v_t_stack (l4 + (1 : Int32)) _ _ ls (lv_sub hl [1, 2, 3, 4, 0] rfl) hP hD hS hf
      intro v_t_stack l4 H locs ls hl hP hD hS hf
      rw [f_X12_byLaw_b3] at hf
      refine lv_iload hx hb dX12_byLaw_3 (lv_at hl 4 rfl) ?_
      refine lv_aload_n hx hb dX12_byLaw_5 rfl (lv_at hl 0 rfl) ?_
      refine x_get C hK hP fd_X12_242 0 rfl rfl dX12_byLaw_6 ?_
      refine lv_icmp_ge (tgt := 96) hx hb dX12_byLaw_9 (by decide) (fun q => ?_) (fun q => ?_)
      · have hf := if_t q hf
        refine lv_iload_n hx hb dX12_byLaw_96 rfl (lv_at hl 3 rfl) ?_
        obtain ⟨rfl, rfl⟩ := ev2 hf
        exact x_iret C hr hlk hP hD hS dX12_byLaw_97
      · have hf := if_f q hf
        refine lv_aload_n hx hb dX12_byLaw_12 rfl (lv_at hl 0 rfl) ?_
        refine x_get C hK hP fd_X12_53 0 rfl rfl dX12_byLaw_13 ?_
        refine lv_iload hx hb dX12_byLaw_16 (lv_at hl 4 rfl) ?_
        obtain ⟨hi, hf⟩ := gI_e hf
        refine x_iald C hK hP 1 rfl hi dX12_byLaw_18 ?_
        refine lv_iload_n hx hb dX12_byLaw_19 rfl (lv_at hl 1 rfl) ?_
        refine lv_icmp_ne (tgt := 90) hx hb dX12_byLaw_20 (by decide) (fun q => ?_) (fun q => ?_)
        · have hf := if_f q hf
          exact hb_90 v_t_stack l4 _ _ ls (lv_sub hl [0, 1, 2, 3, 4] rfl) hP hD hS hf
        · have hf := if_t q hf
          refine lv_aload_n hx hb dX12_byLaw_23 rfl (lv_at hl 0 rfl) ?_
          refine lv_aload_n hx hb dX12_byLaw_24 rfl (lv_at hl 0 rfl) ?_
          refine x_get C hK hP fd_X12_59 0 rfl rfl dX12_byLaw_25 ?_
          refine lv_iload hx hb dX12_byLaw_28 (lv_at hl 4 rfl) ?_
          obtain ⟨hi, hf⟩ := gI_e hf
          refine x_iald C hK hP 3 rfl hi dX12_byLaw_30 ?_
          refine lv_aload_n hx hb dX12_byLaw_31 rfl (lv_at hl 0 rfl) ?_
          refine x_get C hK hP fd_X12_62 0 rfl rfl dX12_byLaw_32 ?_
          refine lv_iload hx hb dX12_byLaw_35 (lv_at hl 4 rfl) ?_
          obtain ⟨hi, hf⟩ := gI_e hf
          refine x_iald C hK hP 4 rfl hi dX12_byLaw_37 ?_
          obtain ⟨r1, w2, hc3, hf⟩ := bd2_e hf
          refine x_callVI (ws' := [oX12 A_t A_t_now A_t_aside A_t_kept A_t_rhymeOf A_t_wasRhyme A_t_wordAt x_t_wordMany A_t_tape x_t_taped x_t_place0 x_t_length0 x_t_fault x_t_number0 x_t_open x_t_codeMany x_t_waiting x_t_saidMany x_t_clauses A_t_said A_t_waitsAt A_t_saidLetter A_t_saidFrom A_t_saidHalf A_t_saidTo A_t_codes A_t_clauseOf A_t_codeFrom A_t_codeHalf A_t_codeTo A_t_stack A_t_facts x_t_lines A_t_newWords A_t_roundFrom A_t_roundAt A_t_roundTimes x_t_newMany x_t_rounds x_t_itFrom x_t_itTimes x_t_writtenNow x_t_picturesNow x_t_usedNow x_t_chosen x_t_fearOfChosen A_t_leastFrom A_t_rowNow x_t_changesNow x_t_left0 A_t_bornOf A_t_trainsTo A_t_trainAt x_t_trainMany x_t_leastTries x_t_firstTrained x_t_isKept, iA cI 16 A_t_clauseOf v_t_clauseOf, iA cI 16 A_t_codeFrom v_t_codeFrom, iA cI 16 A_t_codeHalf v_t_codeHalf, iA cI 16 A_t_codeTo v_t_codeTo, iA cI 260 A_t_codes v_t_codes, iA cI 10 A_t_facts v_t_facts, iA cI 260 A_t_stack w2]) (rest := []) C hK hP hD hS hA hl mf_X12_248 (c_X12_reckonsTo hc3) [0, 5, 6, 7] 0 12 rfl rfl rfl rfl rfl rfl rfl rfl rfl rfl (Nat.le_of_ble_eq_true rfl) ⟨Nat.le_of_ble_eq_true rfl, Nat.le_of_ble_eq_true rfl⟩ ⟨Nat.le_refl _, Nat.le_refl _⟩ dX12_byLaw_38 ?_
          intro H locs hP hD hS
          refine lv_iconst (v := 1) hx hb dX12_byLaw_41 (by decide) ?_
          refine lv_icmp_eq (tgt := 48) hx hb dX12_byLaw_42 (by decide) (fun q => ?_) (fun q => ?_)
          · have hf := if_t q hf
            refine lv_aload_n hx hb dX12_byLaw_48 rfl (lv_at hl 0 rfl) ?_
            refine lv_aload_n hx hb dX12_byLaw_49 rfl (lv_at hl 0 rfl) ?_
            refine x_get C hK hP fd_X12_56 0 rfl rfl dX12_byLaw_50 ?_
            refine lv_iload hx hb dX12_byLaw_53 (lv_at hl 4 rfl) ?_
            obtain ⟨hi, hf⟩ := gI_e hf
            refine x_iald C hK hP 2 rfl hi dX12_byLaw_55 ?_
            refine lv_aload_n hx hb dX12_byLaw_56 rfl (lv_at hl 0 rfl) ?_
            refine x_get C hK hP fd_X12_59 0 rfl rfl dX12_byLaw_57 ?_
            refine lv_iload hx hb dX12_byLaw_60 (lv_at hl 4 rfl) ?_
            obtain ⟨hi, hf⟩ := gI_e hf
            refine x_iald C hK hP 3 rfl hi dX12_byLaw_62 ?_
            obtain ⟨r4, w5, hc6, hf⟩ := bd2_e hf
            refine x_callVI (ws' := [oX12 A_t A_t_now A_t_aside A_t_kept A_t_rhymeOf A_t_wasRhyme A_t_wordAt x_t_wordMany A_t_tape x_t_taped x_t_place0 x_t_length0 x_t_fault x_t_number0 x_t_open x_t_codeMany x_t_waiting x_t_saidMany x_t_clauses A_t_said A_t_waitsAt A_t_saidLetter A_t_saidFrom A_t_saidHalf A_t_saidTo A_t_codes A_t_clauseOf A_t_codeFrom A_t_codeHalf A_t_codeTo A_t_stack A_t_facts x_t_lines A_t_newWords A_t_roundFrom A_t_roundAt A_t_roundTimes x_t_newMany x_t_rounds x_t_itFrom x_t_itTimes x_t_writtenNow x_t_picturesNow x_t_usedNow x_t_chosen x_t_fearOfChosen A_t_leastFrom A_t_rowNow x_t_changesNow x_t_left0 A_t_bornOf A_t_trainsTo A_t_trainAt x_t_trainMany x_t_leastTries x_t_firstTrained x_t_isKept, iA cI 16 A_t_clauseOf v_t_clauseOf, iA cI 16 A_t_codeFrom v_t_codeFrom, iA cI 16 A_t_codeHalf v_t_codeHalf, iA cI 16 A_t_codeTo v_t_codeTo, iA cI 260 A_t_codes v_t_codes, iA cI 10 A_t_facts v_t_facts, iA cI 260 A_t_stack w5]) (rest := []) C hK hP hD hS hA hl mf_X12_248 (c_X12_reckonsTo hc6) [0, 5, 6, 7] 0 12 rfl rfl rfl rfl rfl rfl rfl rfl rfl rfl (Nat.le_of_ble_eq_true rfl) ⟨Nat.le_of_ble_eq_true rfl, Nat.le_of_ble_eq_true rfl⟩ ⟨Nat.le_refl _, Nat.le_refl _⟩ dX12_byLaw_63 ?_
            intro H locs hP hD hS
            refine lv_istore (lv' := [(5, .int r4), (0, .ref A_t), (1, .int a1), (2, .int a2), (3, .int a3), (4, .int l4)]) hx hb dX12_byLaw_66 hl (by decide) rfl (fun ls hl => ?_)
            refine lv_iload hx hb dX12_byLaw_68 (lv_at hl 0 rfl) ?_
            refine lv_if_ge (tgt := 77) hx hb dX12_byLaw_70 (by decide) (fun q => ?_) (fun q => ?_)
            · have hf := if_t q hf
              refine lv_iload hx hb dX12_byLaw_77 (lv_at hl 0 rfl) ?_
              refine lv_iload_n hx hb dX12_byLaw_79 rfl (lv_at hl 3 rfl) ?_
              refine lv_icmp_le (tgt := 87) hx hb dX12_byLaw_80 (by decide) (fun q => ?_) (fun q => ?_)
              · have hf := if_t q hf
                refine lv_iload hx hb dX12_byLaw_87 (lv_at hl 0 rfl) ?_
                exact hb_89 w5 r4 _ _ ls (lv_sub hl [] rfl) hP hD hS hf
              · have hf := if_f q hf
                refine lv_iload_n hx hb dX12_byLaw_83 rfl (lv_at hl 3 rfl) ?_
                refine lv_goto (tgt := 89) hx hb dX12_byLaw_84 (by decide) ?_
                exact hb_89 w5 a2 _ _ ls (lv_sub hl [] rfl) hP hD hS hf
            · have hf := if_f q hf
              refine lv_iconst (v := 0) hx hb dX12_byLaw_73 (by decide) ?_
              refine lv_goto (tgt := 89) hx hb dX12_byLaw_74 (by decide) ?_
              exact hb_89 w5 (0 : Int32) _ _ ls (lv_sub hl [] rfl) hP hD hS hf
          · have hf := if_f q hf
            refine lv_goto (tgt := 90) hx hb dX12_byLaw_45 (by decide) ?_
            exact hb_90 w2 l4 _ _ ls (lv_sub hl [0, 1, 2, 3, 4] rfl) hP hD hS hf
  refine lv_iconst (v := 0) hx hb dX12_byLaw_0 (by decide) ?_
  refine lv_istore (lv' := [(4, .int (0 : Int32)), (0, .ref A_t), (1, .int a1), (2, .int a2), (3, .int a3)]) hx hb dX12_byLaw_1 hl (by decide) rfl (fun ls hl => ?_)
  exact hb_3 FU v_t_stack (0 : Int32) _ _ ls (lv_sub hl [1, 2, 3, 4, 0] rfl) hP hD hS hf
def f_X12_holdsAny_b42 (a1 : Int32) (k2 : (Nat → Int32) → Int32 → Option (Int32 × (Nat → Int32))) (v_t_stack : (Nat → Int32)) (l2 : Int32) : Option (Int32 × (Nat → Int32)) :=
  k2 v_t_stack (l2 + (1 : Int32))
def f_X12_holdsAny_b2 (v_t_clauseOf : (Nat → Int32)) (v_t_codeHalf : (Nat → Int32)) (v_t_codeTo : (Nat → Int32)) (v_t_codes : (Nat → Int32)) (v_t_facts : (Nat → Int32)) (x_t_clauses : Int32) (a1 : Int32) : Nat → (Nat → Int32) → Int32 → Option (Int32 × (Nat → Int32))
  | 0, _, _ => none
  | n + 1, v_t_stack, l2 =>
    if x_t_clauses ≤ l2 then
      some ((0 : Int32), v_t_stack)
    else
      gI 16 v_t_clauseOf l2 (fun g1 =>
      if g1 = a1 then
        gI 16 v_t_codeHalf l2 (fun g2 =>
        gI 16 v_t_codeTo l2 (fun g3 =>
        bd2 (f_X12_reckonsTo v_t_codes v_t_facts v_t_stack g2 g3) (fun r4 w5 =>
        if r4 = (1 : Int32) then
          some ((1 : Int32), w5)
        else
          f_X12_holdsAny_b42 a1 (f_X12_holdsAny_b2 v_t_clauseOf v_t_codeHalf v_t_codeTo v_t_codes v_t_facts x_t_clauses a1 n) w5 l2)))
      else
        f_X12_holdsAny_b42 a1 (f_X12_holdsAny_b2 v_t_clauseOf v_t_codeHalf v_t_codeTo v_t_codes v_t_facts x_t_clauses a1 n) v_t_stack l2)
def f_X12_holdsAny (v_t_clauseOf : (Nat → Int32)) (v_t_codeHalf : (Nat → Int32)) (v_t_codeTo : (Nat → Int32)) (v_t_codes : (Nat → Int32)) (v_t_facts : (Nat → Int32)) (v_t_stack : (Nat → Int32)) (x_t_clauses : Int32) (a1 : Int32) : Option (Int32 × (Nat → Int32)) :=
  f_X12_holdsAny_b2 v_t_clauseOf v_t_codeHalf v_t_codeTo v_t_codes v_t_facts x_t_clauses a1 FU v_t_stack (0 : Int32)
set_option maxHeartbeats 4000000 in
set_option maxRecDepth 100000 in
theorem c_X12_holdsAny {l : Launch} {D : va_G} {cI cB : ClassId} {A_t A_t_now A_t_aside A_t_kept A_t_rhymeOf A_t_wasRhyme A_t_wordAt A_t_tape A_t_said A_t_waitsAt A_t_saidLetter A_t_saidFrom A_t_saidHalf A_t_saidTo A_t_codes A_t_clauseOf A_t_codeFrom A_t_codeHalf A_t_codeTo A_t_stack A_t_facts A_t_newWords A_t_roundFrom A_t_roundAt A_t_roundTimes A_t_leastFrom A_t_rowNow A_t_bornOf A_t_trainsTo A_t_trainAt : Nat} {x_t_wordMany x_t_taped x_t_place0 x_t_length0 x_t_fault x_t_number0 x_t_open x_t_codeMany x_t_waiting x_t_saidMany x_t_clauses x_t_lines x_t_newMany x_t_rounds x_t_itFrom x_t_itTimes x_t_writtenNow x_t_picturesNow x_t_usedNow x_t_chosen x_t_fearOfChosen x_t_changesNow x_t_left0 x_t_trainMany x_t_leastTries x_t_firstTrained x_t_isKept a1 : Int32} {v_t_clauseOf v_t_codeHalf v_t_codeTo v_t_codes v_t_facts v_t_stack : Nat → Int32} {o_r : Int32} {o_v_t_stack : Nat → Int32} (hf : f_X12_holdsAny v_t_clauseOf v_t_codeHalf v_t_codeTo v_t_codes v_t_facts v_t_stack x_t_clauses a1 = some (o_r, o_v_t_stack)) : CtI l D cI cB yX12_holdsAny cX12_holdsAny 3 (some .boolean) 2 49 [.ref A_t, .int a1] [oX12 A_t A_t_now A_t_aside A_t_kept A_t_rhymeOf A_t_wasRhyme A_t_wordAt x_t_wordMany A_t_tape x_t_taped x_t_place0 x_t_length0 x_t_fault x_t_number0 x_t_open x_t_codeMany x_t_waiting x_t_saidMany x_t_clauses A_t_said A_t_waitsAt A_t_saidLetter A_t_saidFrom A_t_saidHalf A_t_saidTo A_t_codes A_t_clauseOf A_t_codeFrom A_t_codeHalf A_t_codeTo A_t_stack A_t_facts x_t_lines A_t_newWords A_t_roundFrom A_t_roundAt A_t_roundTimes x_t_newMany x_t_rounds x_t_itFrom x_t_itTimes x_t_writtenNow x_t_picturesNow x_t_usedNow x_t_chosen x_t_fearOfChosen A_t_leastFrom A_t_rowNow x_t_changesNow x_t_left0 A_t_bornOf A_t_trainsTo A_t_trainAt x_t_trainMany x_t_leastTries x_t_firstTrained x_t_isKept, iA cI 16 A_t_clauseOf v_t_clauseOf, iA cI 16 A_t_codeHalf v_t_codeHalf, iA cI 16 A_t_codeTo v_t_codeTo, iA cI 260 A_t_codes v_t_codes, iA cI 10 A_t_facts v_t_facts, iA cI 260 A_t_stack v_t_stack] [oX12 A_t A_t_now A_t_aside A_t_kept A_t_rhymeOf A_t_wasRhyme A_t_wordAt x_t_wordMany A_t_tape x_t_taped x_t_place0 x_t_length0 x_t_fault x_t_number0 x_t_open x_t_codeMany x_t_waiting x_t_saidMany x_t_clauses A_t_said A_t_waitsAt A_t_saidLetter A_t_saidFrom A_t_saidHalf A_t_saidTo A_t_codes A_t_clauseOf A_t_codeFrom A_t_codeHalf A_t_codeTo A_t_stack A_t_facts x_t_lines A_t_newWords A_t_roundFrom A_t_roundAt A_t_roundTimes x_t_newMany x_t_rounds x_t_itFrom x_t_itTimes x_t_writtenNow x_t_picturesNow x_t_usedNow x_t_chosen x_t_fearOfChosen A_t_leastFrom A_t_rowNow x_t_changesNow x_t_left0 A_t_bornOf A_t_trainsTo A_t_trainAt x_t_trainMany x_t_leastTries x_t_firstTrained x_t_isKept, iA cI 16 A_t_clauseOf v_t_clauseOf, iA cI 16 A_t_codeHalf v_t_codeHalf, iA cI 16 A_t_codeTo v_t_codeTo, iA cI 260 A_t_codes v_t_codes, iA cI 10 A_t_facts v_t_facts, iA cI 260 A_t_stack o_v_t_stack] o_r := by
  refine x_startI (by decide) (Nat.le_of_ble_eq_true rfl) ?_
  intro p e s m below meth c A C hr hlk hA hK hP hD hS ls hl
  have hl : lv_has ls 3 [(0, .ref A_t), (1, .int a1)] := hl
  have hx := C.1
  have hb := C.2.1
  unfold f_X12_holdsAny at hf
  have hb_2 : ∀ (n_2 : Nat) (v_t_stack : (Nat → Int32)) (l2 : Int32) (H : Heap) (locs : List Loc) (ls : Array Slot), lv_has ls 3 [(0, .ref A_t), (1, .int a1), (2, .int l2)] → va_P D vwCl [oX12 A_t A_t_now A_t_aside A_t_kept A_t_rhymeOf A_t_wasRhyme A_t_wordAt x_t_wordMany A_t_tape x_t_taped x_t_place0 x_t_length0 x_t_fault x_t_number0 x_t_open x_t_codeMany x_t_waiting x_t_saidMany x_t_clauses A_t_said A_t_waitsAt A_t_saidLetter A_t_saidFrom A_t_saidHalf A_t_saidTo A_t_codes A_t_clauseOf A_t_codeFrom A_t_codeHalf A_t_codeTo A_t_stack A_t_facts x_t_lines A_t_newWords A_t_roundFrom A_t_roundAt A_t_roundTimes x_t_newMany x_t_rounds x_t_itFrom x_t_itTimes x_t_writtenNow x_t_picturesNow x_t_usedNow x_t_chosen x_t_fearOfChosen A_t_leastFrom A_t_rowNow x_t_changesNow x_t_left0 A_t_bornOf A_t_trainsTo A_t_trainAt x_t_trainMany x_t_leastTries x_t_firstTrained x_t_isKept, iA cI 16 A_t_clauseOf v_t_clauseOf, iA cI 16 A_t_codeHalf v_t_codeHalf, iA cI 16 A_t_codeTo v_t_codeTo, iA cI 260 A_t_codes v_t_codes, iA cI 10 A_t_facts v_t_facts, iA cI 260 A_t_stack v_t_stack] H → va_D A [oX12 A_t A_t_now A_t_aside A_t_kept A_t_rhymeOf A_t_wasRhyme A_t_wordAt x_t_wordMany A_t_tape x_t_taped x_t_place0 x_t_length0 x_t_fault x_t_number0 x_t_open x_t_codeMany x_t_waiting x_t_saidMany x_t_clauses A_t_said A_t_waitsAt A_t_saidLetter A_t_saidFrom A_t_saidHalf A_t_saidTo A_t_codes A_t_clauseOf A_t_codeFrom A_t_codeHalf A_t_codeTo A_t_stack A_t_facts x_t_lines A_t_newWords A_t_roundFrom A_t_roundAt A_t_roundTimes x_t_newMany x_t_rounds x_t_itFrom x_t_itTimes x_t_writtenNow x_t_picturesNow x_t_usedNow x_t_chosen x_t_fearOfChosen A_t_leastFrom A_t_rowNow x_t_changesNow x_t_left0 A_t_bornOf A_t_trainsTo A_t_trainAt x_t_trainMany x_t_leastTries x_t_firstTrained x_t_isKept, iA cI 16 A_t_clauseOf v_t_clauseOf, iA cI 16 A_t_codeHalf v_t_codeHalf, iA cI 16 A_t_codeTo v_t_codeTo, iA cI 260 A_t_codes v_t_codes, iA cI 10 A_t_facts v_t_facts, iA cI 260 A_t_stack v_t_stack] → va_S A s.heap H locs → f_X12_holdsAny_b2 v_t_clauseOf v_t_codeHalf v_t_codeTo v_t_codes v_t_facts x_t_clauses a1 n_2 v_t_stack l2 = some (o_r, o_v_t_stack) → W p l e { frames := 2, cells := 0, slots := 0, locals := 49 } s m ([.ref A_t, .int a1] : List Value).toArray below meth c H locs 0 0 (MQ below (PoI D A [oX12 A_t A_t_now A_t_aside A_t_kept A_t_rhymeOf A_t_wasRhyme A_t_wordAt x_t_wordMany A_t_tape x_t_taped x_t_place0 x_t_length0 x_t_fault x_t_number0 x_t_open x_t_codeMany x_t_waiting x_t_saidMany x_t_clauses A_t_said A_t_waitsAt A_t_saidLetter A_t_saidFrom A_t_saidHalf A_t_saidTo A_t_codes A_t_clauseOf A_t_codeFrom A_t_codeHalf A_t_codeTo A_t_stack A_t_facts x_t_lines A_t_newWords A_t_roundFrom A_t_roundAt A_t_roundTimes x_t_newMany x_t_rounds x_t_itFrom x_t_itTimes x_t_writtenNow x_t_picturesNow x_t_usedNow x_t_chosen x_t_fearOfChosen A_t_leastFrom A_t_rowNow x_t_changesNow x_t_left0 A_t_bornOf A_t_trainsTo A_t_trainAt x_t_trainMany x_t_leastTries x_t_firstTrained x_t_isKept, iA cI 16 A_t_clauseOf v_t_clauseOf, iA cI 16 A_t_codeHalf v_t_codeHalf, iA cI 16 A_t_codeTo v_t_codeTo, iA cI 260 A_t_codes v_t_codes, iA cI 10 A_t_facts v_t_facts, iA cI 260 A_t_stack o_v_t_stack] o_r) ([.ref A_t, .int a1] : List Value).toArray s 0 0 A) (F0 m 2 ls []) := by
    intro n_2
    induction n_2 with
    | zero =>
      intro v_t_stack l2 H locs ls hl hP hD hS hf
      exact absurd hf (fun h => by rw [f_X12_holdsAny_b2] at h; cases h)
    | succ n_2 ih_2 =>
      have hb_42 : ∀ (v_t_stack : (Nat → Int32)) (l2 : Int32) (H : Heap) (locs : List Loc) (ls : Array Slot), lv_has ls 3 [(0, .ref A_t), (1, .int a1), (2, .int l2)] → va_P D vwCl [oX12 A_t A_t_now A_t_aside A_t_kept A_t_rhymeOf A_t_wasRhyme A_t_wordAt x_t_wordMany A_t_tape x_t_taped x_t_place0 x_t_length0 x_t_fault x_t_number0 x_t_open x_t_codeMany x_t_waiting x_t_saidMany x_t_clauses A_t_said A_t_waitsAt A_t_saidLetter A_t_saidFrom A_t_saidHalf A_t_saidTo A_t_codes A_t_clauseOf A_t_codeFrom A_t_codeHalf A_t_codeTo A_t_stack A_t_facts x_t_lines A_t_newWords A_t_roundFrom A_t_roundAt A_t_roundTimes x_t_newMany x_t_rounds x_t_itFrom x_t_itTimes x_t_writtenNow x_t_picturesNow x_t_usedNow x_t_chosen x_t_fearOfChosen A_t_leastFrom A_t_rowNow x_t_changesNow x_t_left0 A_t_bornOf A_t_trainsTo A_t_trainAt x_t_trainMany x_t_leastTries x_t_firstTrained x_t_isKept, iA cI 16 A_t_clauseOf v_t_clauseOf, iA cI 16 A_t_codeHalf v_t_codeHalf, iA cI 16 A_t_codeTo v_t_codeTo, iA cI 260 A_t_codes v_t_codes, iA cI 10 A_t_facts v_t_facts, iA cI 260 A_t_stack v_t_stack] H → va_D A [oX12 A_t A_t_now A_t_aside A_t_kept A_t_rhymeOf A_t_wasRhyme A_t_wordAt x_t_wordMany A_t_tape x_t_taped x_t_place0 x_t_length0 x_t_fault x_t_number0 x_t_open x_t_codeMany x_t_waiting x_t_saidMany x_t_clauses A_t_said A_t_waitsAt A_t_saidLetter A_t_saidFrom A_t_saidHalf A_t_saidTo A_t_codes A_t_clauseOf A_t_codeFrom A_t_codeHalf A_t_codeTo A_t_stack A_t_facts x_t_lines A_t_newWords A_t_roundFrom A_t_roundAt A_t_roundTimes x_t_newMany x_t_rounds x_t_itFrom x_t_itTimes x_t_writtenNow x_t_picturesNow x_t_usedNow x_t_chosen x_t_fearOfChosen A_t_leastFrom A_t_rowNow x_t_changesNow x_t_left0 A_t_bornOf A_t_trainsTo A_t_trainAt x_t_trainMany x_t_leastTries x_t_firstTrained x_t_isKept, iA cI 16 A_t_clauseOf v_t_clauseOf, iA cI 16 A_t_codeHalf v_t_codeHalf, iA cI 16 A_t_codeTo v_t_codeTo, iA cI 260 A_t_codes v_t_codes, iA cI 10 A_t_facts v_t_facts, iA cI 260 A_t_stack v_t_stack] → va_S A s.heap H locs → f_X12_holdsAny_b42 a1 (f_X12_holdsAny_b2 v_t_clauseOf v_t_codeHalf v_t_codeTo v_t_codes v_t_facts x_t_clauses a1 n_2) v_t_stack l2 = some (o_r, o_v_t_stack) → W p l e { frames := 2, cells := 0, slots := 0, locals := 49 } s m ([.ref A_t, .int a1] : List Value).toArray below meth c H locs 0 0 (MQ below (PoI D A [oX12 A_t A_t_now A_t_aside A_t_kept A_t_rhymeOf A_t_wasRhyme A_t_wordAt x_t_wordMany A_t_tape x_t_taped x_t_place0 x_t_length0 x_t_fault x_t_number0 x_t_open x_t_codeMany x_t_waiting x_t_saidMany x_t_clauses A_t_said A_t_waitsAt A_t_saidLetter A_t_saidFrom A_t_saidHalf A_t_saidTo A_t_codes A_t_clauseOf A_t_codeFrom A_t_codeHalf A_t_codeTo A_t_stack A_t_facts x_t_lines A_t_newWords A_t_roundFrom A_t_roundAt A_t_roundTimes x_t_newMany x_t_rounds x_t_itFrom x_t_itTimes x_t_writtenNow x_t_picturesNow x_t_usedNow x_t_chosen x_t_fearOfChosen A_t_leastFrom A_t_rowNow x_t_changesNow x_t_left0 A_t_bornOf A_t_trainsTo A_t_trainAt x_t_trainMany x_t_leastTries x_t_firstTrained x_t_isKept, iA cI 16 A_t_clauseOf v_t_clauseOf, iA cI 16 A_t_codeHalf v_t_codeHalf, iA cI 16 A_t_codeTo v_t_codeTo, iA cI 260 A_t_codes v_t_codes, iA cI 10 A_t_facts v_t_facts, iA cI 260 A_t_stack o_v_t_stack] o_r) ([.ref A_t, .int a1] : List Value).toArray s 0 0 A) (F0 m 42 ls []) := by
        intro v_t_stack l2 H locs ls hl hP hD hS hf
        unfold f_X12_holdsAny_b42 at hf
        refine lv_iinc (v := (l2 + (1 : Int32))) (lv' := [(2, .int (l2 + (1 : Int32))), (0, .ref A_t), (1, .int a1)]) hx hb dX12_holdsAny_42 hl (k := 2) rfl rfl (by decide) rfl (fun ls hl => ?_)
        refine lv_goto (tgt := 2) hx hb dX12_holdsAny_45 (by decide) ?_
        exact ih_2 v_t_stack (l2 + (1 : Int32)) _ _ ls (lv_sub hl [1, 2, 0] rfl) hP hD hS hf
      intro v_t_stack l2 H locs ls hl hP hD hS hf
      rw [f_X12_holdsAny_b2] at hf
      refine lv_iload_n hx hb dX12_holdsAny_2 rfl (lv_at hl 2 rfl) ?_
      refine lv_aload_n hx hb dX12_holdsAny_3 rfl (lv_at hl 0 rfl) ?_
      refine x_get C hK hP fd_X12_242 0 rfl rfl dX12_holdsAny_4 ?_
      refine lv_icmp_ge (tgt := 48) hx hb dX12_holdsAny_7 (by decide) (fun q => ?_) (fun q => ?_)
      · have hf := if_t q hf
        refine lv_iconst (v := 0) hx hb dX12_holdsAny_48 (by decide) ?_
        obtain ⟨rfl, rfl⟩ := ev2 hf
        exact x_zret C hr hlk (Or.inl rfl) hP hD hS dX12_holdsAny_49
      · have hf := if_f q hf
        refine lv_aload_n hx hb dX12_holdsAny_10 rfl (lv_at hl 0 rfl) ?_
        refine x_get C hK hP fd_X12_53 0 rfl rfl dX12_holdsAny_11 ?_
        refine lv_iload_n hx hb dX12_holdsAny_14 rfl (lv_at hl 2 rfl) ?_
        obtain ⟨hi, hf⟩ := gI_e hf
        refine x_iald C hK hP 1 rfl hi dX12_holdsAny_15 ?_
        refine lv_iload_n hx hb dX12_holdsAny_16 rfl (lv_at hl 1 rfl) ?_
        refine lv_icmp_ne (tgt := 42) hx hb dX12_holdsAny_17 (by decide) (fun q => ?_) (fun q => ?_)
        · have hf := if_f q hf
          exact hb_42 v_t_stack l2 _ _ ls (lv_sub hl [0, 1, 2] rfl) hP hD hS hf
        · have hf := if_t q hf
          refine lv_aload_n hx hb dX12_holdsAny_20 rfl (lv_at hl 0 rfl) ?_
          refine lv_aload_n hx hb dX12_holdsAny_21 rfl (lv_at hl 0 rfl) ?_
          refine x_get C hK hP fd_X12_59 0 rfl rfl dX12_holdsAny_22 ?_
          refine lv_iload_n hx hb dX12_holdsAny_25 rfl (lv_at hl 2 rfl) ?_
          obtain ⟨hi, hf⟩ := gI_e hf
          refine x_iald C hK hP 2 rfl hi dX12_holdsAny_26 ?_
          refine lv_aload_n hx hb dX12_holdsAny_27 rfl (lv_at hl 0 rfl) ?_
          refine x_get C hK hP fd_X12_62 0 rfl rfl dX12_holdsAny_28 ?_
          refine lv_iload_n hx hb dX12_holdsAny_31 rfl (lv_at hl 2 rfl) ?_
          obtain ⟨hi, hf⟩ := gI_e hf
          refine x_iald C hK hP 3 rfl hi dX12_holdsAny_32 ?_
          obtain ⟨r1, w2, hc3, hf⟩ := bd2_e hf
          refine x_callVI (ws' := [oX12 A_t A_t_now A_t_aside A_t_kept A_t_rhymeOf A_t_wasRhyme A_t_wordAt x_t_wordMany A_t_tape x_t_taped x_t_place0 x_t_length0 x_t_fault x_t_number0 x_t_open x_t_codeMany x_t_waiting x_t_saidMany x_t_clauses A_t_said A_t_waitsAt A_t_saidLetter A_t_saidFrom A_t_saidHalf A_t_saidTo A_t_codes A_t_clauseOf A_t_codeFrom A_t_codeHalf A_t_codeTo A_t_stack A_t_facts x_t_lines A_t_newWords A_t_roundFrom A_t_roundAt A_t_roundTimes x_t_newMany x_t_rounds x_t_itFrom x_t_itTimes x_t_writtenNow x_t_picturesNow x_t_usedNow x_t_chosen x_t_fearOfChosen A_t_leastFrom A_t_rowNow x_t_changesNow x_t_left0 A_t_bornOf A_t_trainsTo A_t_trainAt x_t_trainMany x_t_leastTries x_t_firstTrained x_t_isKept, iA cI 16 A_t_clauseOf v_t_clauseOf, iA cI 16 A_t_codeHalf v_t_codeHalf, iA cI 16 A_t_codeTo v_t_codeTo, iA cI 260 A_t_codes v_t_codes, iA cI 10 A_t_facts v_t_facts, iA cI 260 A_t_stack w2]) (rest := []) C hK hP hD hS hA hl mf_X12_248 (c_X12_reckonsTo hc3) [0, 4, 5, 6] 0 12 rfl rfl rfl rfl rfl rfl rfl rfl rfl rfl (Nat.le_of_ble_eq_true rfl) ⟨Nat.le_of_ble_eq_true rfl, Nat.le_of_ble_eq_true rfl⟩ ⟨Nat.le_refl _, Nat.le_refl _⟩ dX12_holdsAny_33 ?_
          intro H locs hP hD hS
          refine lv_iconst (v := 1) hx hb dX12_holdsAny_36 (by decide) ?_
          refine lv_icmp_ne (tgt := 42) hx hb dX12_holdsAny_37 (by decide) (fun q => ?_) (fun q => ?_)
          · have hf := if_f q hf
            exact hb_42 w2 l2 _ _ ls (lv_sub hl [0, 1, 2] rfl) hP hD hS hf
          · have hf := if_t q hf
            refine lv_iconst (v := 1) hx hb dX12_holdsAny_40 (by decide) ?_
            obtain ⟨rfl, rfl⟩ := ev2 hf
            exact x_zret C hr hlk (Or.inr rfl) hP hD hS dX12_holdsAny_41
  refine lv_iconst (v := 0) hx hb dX12_holdsAny_0 (by decide) ?_
  refine lv_istore_n (lv' := [(2, .int (0 : Int32)), (0, .ref A_t), (1, .int a1)]) hx hb dX12_holdsAny_1 rfl hl (by decide) rfl (fun ls hl => ?_)
  exact hb_2 FU v_t_stack (0 : Int32) _ _ ls (lv_sub hl [1, 2, 0] rfl) hP hD hS hf
def f_X12_isLetter (v_t_tape : (Nat → Int32)) (x_t_length0 : Int32) (x_t_place0 : Int32) : Option (Int32) :=
  bd1 (f_X12_here v_t_tape x_t_length0 x_t_place0) (fun r1 =>
  bd1 (f_X12_in (r1 - (97 : Int32)) (0 : Int32) (15 : Int32)) (fun r2 =>
  zI r2 (some r2)))
set_option maxHeartbeats 4000000 in
set_option maxRecDepth 100000 in
theorem c_X12_isLetter {l : Launch} {D : va_G} {cI cB : ClassId} {A_t A_t_now A_t_aside A_t_kept A_t_rhymeOf A_t_wasRhyme A_t_wordAt A_t_tape A_t_said A_t_waitsAt A_t_saidLetter A_t_saidFrom A_t_saidHalf A_t_saidTo A_t_codes A_t_clauseOf A_t_codeFrom A_t_codeHalf A_t_codeTo A_t_stack A_t_facts A_t_newWords A_t_roundFrom A_t_roundAt A_t_roundTimes A_t_leastFrom A_t_rowNow A_t_bornOf A_t_trainsTo A_t_trainAt : Nat} {x_t_wordMany x_t_taped x_t_place0 x_t_length0 x_t_fault x_t_number0 x_t_open x_t_codeMany x_t_waiting x_t_saidMany x_t_clauses x_t_lines x_t_newMany x_t_rounds x_t_itFrom x_t_itTimes x_t_writtenNow x_t_picturesNow x_t_usedNow x_t_chosen x_t_fearOfChosen x_t_changesNow x_t_left0 x_t_trainMany x_t_leastTries x_t_firstTrained x_t_isKept : Int32} {v_t_tape : Nat → Int32} {o_r : Int32} (hf : f_X12_isLetter v_t_tape x_t_length0 x_t_place0 = some o_r) : CtI l D cI cB yX12_isLetter cX12_isLetter 1 (some .boolean) 1 22 [.ref A_t] [oX12 A_t A_t_now A_t_aside A_t_kept A_t_rhymeOf A_t_wasRhyme A_t_wordAt x_t_wordMany A_t_tape x_t_taped x_t_place0 x_t_length0 x_t_fault x_t_number0 x_t_open x_t_codeMany x_t_waiting x_t_saidMany x_t_clauses A_t_said A_t_waitsAt A_t_saidLetter A_t_saidFrom A_t_saidHalf A_t_saidTo A_t_codes A_t_clauseOf A_t_codeFrom A_t_codeHalf A_t_codeTo A_t_stack A_t_facts x_t_lines A_t_newWords A_t_roundFrom A_t_roundAt A_t_roundTimes x_t_newMany x_t_rounds x_t_itFrom x_t_itTimes x_t_writtenNow x_t_picturesNow x_t_usedNow x_t_chosen x_t_fearOfChosen A_t_leastFrom A_t_rowNow x_t_changesNow x_t_left0 A_t_bornOf A_t_trainsTo A_t_trainAt x_t_trainMany x_t_leastTries x_t_firstTrained x_t_isKept, iA cB 260 A_t_tape v_t_tape] [oX12 A_t A_t_now A_t_aside A_t_kept A_t_rhymeOf A_t_wasRhyme A_t_wordAt x_t_wordMany A_t_tape x_t_taped x_t_place0 x_t_length0 x_t_fault x_t_number0 x_t_open x_t_codeMany x_t_waiting x_t_saidMany x_t_clauses A_t_said A_t_waitsAt A_t_saidLetter A_t_saidFrom A_t_saidHalf A_t_saidTo A_t_codes A_t_clauseOf A_t_codeFrom A_t_codeHalf A_t_codeTo A_t_stack A_t_facts x_t_lines A_t_newWords A_t_roundFrom A_t_roundAt A_t_roundTimes x_t_newMany x_t_rounds x_t_itFrom x_t_itTimes x_t_writtenNow x_t_picturesNow x_t_usedNow x_t_chosen x_t_fearOfChosen A_t_leastFrom A_t_rowNow x_t_changesNow x_t_left0 A_t_bornOf A_t_trainsTo A_t_trainAt x_t_trainMany x_t_leastTries x_t_firstTrained x_t_isKept, iA cB 260 A_t_tape v_t_tape] o_r := by
  refine x_startI (by decide) (Nat.le_of_ble_eq_true rfl) ?_
  intro p e s m below meth c A C hr hlk hA hK hP hD hS ls hl
  have hl : lv_has ls 1 [(0, .ref A_t)] := hl
  have hx := C.1
  have hb := C.2.1
  unfold f_X12_isLetter at hf
  refine lv_aload_n hx hb dX12_isLetter_0 rfl (lv_at hl 0 rfl) ?_
  obtain ⟨r1, hc2, hf⟩ := bd1_e hf
  refine x_callVI (ws' := [oX12 A_t A_t_now A_t_aside A_t_kept A_t_rhymeOf A_t_wasRhyme A_t_wordAt x_t_wordMany A_t_tape x_t_taped x_t_place0 x_t_length0 x_t_fault x_t_number0 x_t_open x_t_codeMany x_t_waiting x_t_saidMany x_t_clauses A_t_said A_t_waitsAt A_t_saidLetter A_t_saidFrom A_t_saidHalf A_t_saidTo A_t_codes A_t_clauseOf A_t_codeFrom A_t_codeHalf A_t_codeTo A_t_stack A_t_facts x_t_lines A_t_newWords A_t_roundFrom A_t_roundAt A_t_roundTimes x_t_newMany x_t_rounds x_t_itFrom x_t_itTimes x_t_writtenNow x_t_picturesNow x_t_usedNow x_t_chosen x_t_fearOfChosen A_t_leastFrom A_t_rowNow x_t_changesNow x_t_left0 A_t_bornOf A_t_trainsTo A_t_trainAt x_t_trainMany x_t_leastTries x_t_firstTrained x_t_isKept, iA cB 260 A_t_tape v_t_tape]) (rest := []) C hK hP hD hS hA hl mf_X12_156 (c_X12_here hc2) [0, 1] 0 12 rfl rfl rfl rfl rfl rfl rfl rfl rfl rfl (Nat.le_of_ble_eq_true rfl) ⟨Nat.le_of_ble_eq_true rfl, Nat.le_of_ble_eq_true rfl⟩ ⟨Nat.le_refl _, Nat.le_refl _⟩ dX12_isLetter_1 ?_
  intro H locs hP hD hS
  refine lv_bipush (v := 97) hx hb dX12_isLetter_4 (by decide) ?_
  refine lv_isub hx hb dX12_isLetter_6 ?_
  refine lv_iconst (v := 0) hx hb dX12_isLetter_7 (by decide) ?_
  refine lv_bipush (v := 15) hx hb dX12_isLetter_8 (by decide) ?_
  obtain ⟨r3, hc4, hf⟩ := bd1_e hf
  refine x_callSI (ws' := [oX12 A_t A_t_now A_t_aside A_t_kept A_t_rhymeOf A_t_wasRhyme A_t_wordAt x_t_wordMany A_t_tape x_t_taped x_t_place0 x_t_length0 x_t_fault x_t_number0 x_t_open x_t_codeMany x_t_waiting x_t_saidMany x_t_clauses A_t_said A_t_waitsAt A_t_saidLetter A_t_saidFrom A_t_saidHalf A_t_saidTo A_t_codes A_t_clauseOf A_t_codeFrom A_t_codeHalf A_t_codeTo A_t_stack A_t_facts x_t_lines A_t_newWords A_t_roundFrom A_t_roundAt A_t_roundTimes x_t_newMany x_t_rounds x_t_itFrom x_t_itTimes x_t_writtenNow x_t_picturesNow x_t_usedNow x_t_chosen x_t_fearOfChosen A_t_leastFrom A_t_rowNow x_t_changesNow x_t_left0 A_t_bornOf A_t_trainsTo A_t_trainAt x_t_trainMany x_t_leastTries x_t_firstTrained x_t_isKept, iA cB 260 A_t_tape v_t_tape]) (rest := []) C hK hP hD hS hA hl mf_X12_105 (c_X12_in hc4) [] rfl rfl rfl rfl rfl rfl rfl rfl (Nat.le_of_ble_eq_true rfl) ⟨Nat.le_of_ble_eq_true rfl, Nat.le_of_ble_eq_true rfl⟩ ⟨Nat.le_refl _, Nat.le_refl _⟩ dX12_isLetter_10 ?_
  intro H locs hP hD hS
  obtain ⟨hz, hf⟩ := zI_e hf
  obtain rfl := ev1 hf
  exact x_zret C hr hlk hz hP hD hS dX12_isLetter_13
def f_X12_readsAmount_b27 (v_t_tape : (Nat → Int32)) (x_t_length0 : Int32) : Nat → Int32 → Int32 → Int32 → Int32 → Option (Int32 × Int32 × Int32 × Int32)
  | 0, _, _, _, _ => none
  | n + 1, x_t_fault, x_t_number0, x_t_place0, l1 =>
    bd1 (f_X12_isDigit v_t_tape x_t_length0 x_t_place0) (fun r1 =>
    if r1 = 0 then
      some ((1 : Int32), x_t_fault, x_t_number0, x_t_place0)
    else
      if x_t_place0 = (l1 + (2 : Int32)) then
        bd2 (f_X12_wrongAt x_t_fault (2 : Int32) x_t_place0) (fun r3 w4 =>
        zI r3 (some (r3, w4, x_t_number0, x_t_place0)))
      else
        bd1 (f_X12_here v_t_tape x_t_length0 x_t_place0) (fun r2 =>
        f_X12_readsAmount_b27 v_t_tape x_t_length0 n x_t_fault ((((10 : Int32) * x_t_number0) + r2) - (48 : Int32)) (x_t_place0 + (1 : Int32)) l1))
def f_X12_readsAmount (v_t_tape : (Nat → Int32)) (x_t_fault : Int32) (x_t_length0 : Int32) (x_t_number0 : Int32) (x_t_place0 : Int32) : Option (Int32 × Int32 × Int32 × Int32) :=
  bd1 (f_X12_isDigit v_t_tape x_t_length0 x_t_place0) (fun r5 =>
  if r5 = 0 then
    bd2 (f_X12_wrongAt x_t_fault (1 : Int32) x_t_place0) (fun r6 w7 =>
    zI r6 (some (r6, w7, x_t_number0, x_t_place0)))
  else
    f_X12_readsAmount_b27 v_t_tape x_t_length0 FU x_t_fault (0 : Int32) x_t_place0 x_t_place0)
set_option maxHeartbeats 4000000 in
set_option maxRecDepth 100000 in
theorem c_X12_readsAmount {l : Launch} {D : va_G} {cI cB : ClassId} {A_t A_t_now A_t_aside A_t_kept A_t_rhymeOf A_t_wasRhyme A_t_wordAt A_t_tape A_t_said A_t_waitsAt A_t_saidLetter A_t_saidFrom A_t_saidHalf A_t_saidTo A_t_codes A_t_clauseOf A_t_codeFrom A_t_codeHalf A_t_codeTo A_t_stack A_t_facts A_t_newWords A_t_roundFrom A_t_roundAt A_t_roundTimes A_t_leastFrom A_t_rowNow A_t_bornOf A_t_trainsTo A_t_trainAt : Nat} {x_t_wordMany x_t_taped x_t_place0 x_t_length0 x_t_fault x_t_number0 x_t_open x_t_codeMany x_t_waiting x_t_saidMany x_t_clauses x_t_lines x_t_newMany x_t_rounds x_t_itFrom x_t_itTimes x_t_writtenNow x_t_picturesNow x_t_usedNow x_t_chosen x_t_fearOfChosen x_t_changesNow x_t_left0 x_t_trainMany x_t_leastTries x_t_firstTrained x_t_isKept : Int32} {v_t_tape : Nat → Int32} {o_r o_x_t_fault o_x_t_number0 o_x_t_place0 : Int32} (hf : f_X12_readsAmount v_t_tape x_t_fault x_t_length0 x_t_number0 x_t_place0 = some (o_r, o_x_t_fault, o_x_t_number0, o_x_t_place0)) : CtI l D cI cB yX12_readsAmount cX12_readsAmount 2 (some .boolean) 2 40 [.ref A_t] [oX12 A_t A_t_now A_t_aside A_t_kept A_t_rhymeOf A_t_wasRhyme A_t_wordAt x_t_wordMany A_t_tape x_t_taped x_t_place0 x_t_length0 x_t_fault x_t_number0 x_t_open x_t_codeMany x_t_waiting x_t_saidMany x_t_clauses A_t_said A_t_waitsAt A_t_saidLetter A_t_saidFrom A_t_saidHalf A_t_saidTo A_t_codes A_t_clauseOf A_t_codeFrom A_t_codeHalf A_t_codeTo A_t_stack A_t_facts x_t_lines A_t_newWords A_t_roundFrom A_t_roundAt A_t_roundTimes x_t_newMany x_t_rounds x_t_itFrom x_t_itTimes x_t_writtenNow x_t_picturesNow x_t_usedNow x_t_chosen x_t_fearOfChosen A_t_leastFrom A_t_rowNow x_t_changesNow x_t_left0 A_t_bornOf A_t_trainsTo A_t_trainAt x_t_trainMany x_t_leastTries x_t_firstTrained x_t_isKept, iA cB 260 A_t_tape v_t_tape] [oX12 A_t A_t_now A_t_aside A_t_kept A_t_rhymeOf A_t_wasRhyme A_t_wordAt x_t_wordMany A_t_tape x_t_taped o_x_t_place0 x_t_length0 o_x_t_fault o_x_t_number0 x_t_open x_t_codeMany x_t_waiting x_t_saidMany x_t_clauses A_t_said A_t_waitsAt A_t_saidLetter A_t_saidFrom A_t_saidHalf A_t_saidTo A_t_codes A_t_clauseOf A_t_codeFrom A_t_codeHalf A_t_codeTo A_t_stack A_t_facts x_t_lines A_t_newWords A_t_roundFrom A_t_roundAt A_t_roundTimes x_t_newMany x_t_rounds x_t_itFrom x_t_itTimes x_t_writtenNow x_t_picturesNow x_t_usedNow x_t_chosen x_t_fearOfChosen A_t_leastFrom A_t_rowNow x_t_changesNow x_t_left0 A_t_bornOf A_t_trainsTo A_t_trainAt x_t_trainMany x_t_leastTries x_t_firstTrained x_t_isKept, iA cB 260 A_t_tape v_t_tape] o_r := by
  refine x_startI (by decide) (Nat.le_of_ble_eq_true rfl) ?_
  intro p e s m below meth c A C hr hlk hA hK hP hD hS ls hl
  have hl : lv_has ls 2 [(0, .ref A_t)] := hl
  have hx := C.1
  have hb := C.2.1
  unfold f_X12_readsAmount at hf
  have hb_27 : ∀ (n_27 : Nat) (x_t_fault : Int32) (x_t_number0 : Int32) (x_t_place0 : Int32) (l1 : Int32) (H : Heap) (locs : List Loc) (ls : Array Slot), lv_has ls 2 [(0, .ref A_t), (1, .int l1)] → va_P D vwCl [oX12 A_t A_t_now A_t_aside A_t_kept A_t_rhymeOf A_t_wasRhyme A_t_wordAt x_t_wordMany A_t_tape x_t_taped x_t_place0 x_t_length0 x_t_fault x_t_number0 x_t_open x_t_codeMany x_t_waiting x_t_saidMany x_t_clauses A_t_said A_t_waitsAt A_t_saidLetter A_t_saidFrom A_t_saidHalf A_t_saidTo A_t_codes A_t_clauseOf A_t_codeFrom A_t_codeHalf A_t_codeTo A_t_stack A_t_facts x_t_lines A_t_newWords A_t_roundFrom A_t_roundAt A_t_roundTimes x_t_newMany x_t_rounds x_t_itFrom x_t_itTimes x_t_writtenNow x_t_picturesNow x_t_usedNow x_t_chosen x_t_fearOfChosen A_t_leastFrom A_t_rowNow x_t_changesNow x_t_left0 A_t_bornOf A_t_trainsTo A_t_trainAt x_t_trainMany x_t_leastTries x_t_firstTrained x_t_isKept, iA cB 260 A_t_tape v_t_tape] H → va_D A [oX12 A_t A_t_now A_t_aside A_t_kept A_t_rhymeOf A_t_wasRhyme A_t_wordAt x_t_wordMany A_t_tape x_t_taped x_t_place0 x_t_length0 x_t_fault x_t_number0 x_t_open x_t_codeMany x_t_waiting x_t_saidMany x_t_clauses A_t_said A_t_waitsAt A_t_saidLetter A_t_saidFrom A_t_saidHalf A_t_saidTo A_t_codes A_t_clauseOf A_t_codeFrom A_t_codeHalf A_t_codeTo A_t_stack A_t_facts x_t_lines A_t_newWords A_t_roundFrom A_t_roundAt A_t_roundTimes x_t_newMany x_t_rounds x_t_itFrom x_t_itTimes x_t_writtenNow x_t_picturesNow x_t_usedNow x_t_chosen x_t_fearOfChosen A_t_leastFrom A_t_rowNow x_t_changesNow x_t_left0 A_t_bornOf A_t_trainsTo A_t_trainAt x_t_trainMany x_t_leastTries x_t_firstTrained x_t_isKept, iA cB 260 A_t_tape v_t_tape] → va_S A s.heap H locs → f_X12_readsAmount_b27 v_t_tape x_t_length0 n_27 x_t_fault x_t_number0 x_t_place0 l1 = some (o_r, o_x_t_fault, o_x_t_number0, o_x_t_place0) → W p l e { frames := 2, cells := 0, slots := 0, locals := 40 } s m ([.ref A_t] : List Value).toArray below meth c H locs 0 0 (MQ below (PoI D A [oX12 A_t A_t_now A_t_aside A_t_kept A_t_rhymeOf A_t_wasRhyme A_t_wordAt x_t_wordMany A_t_tape x_t_taped o_x_t_place0 x_t_length0 o_x_t_fault o_x_t_number0 x_t_open x_t_codeMany x_t_waiting x_t_saidMany x_t_clauses A_t_said A_t_waitsAt A_t_saidLetter A_t_saidFrom A_t_saidHalf A_t_saidTo A_t_codes A_t_clauseOf A_t_codeFrom A_t_codeHalf A_t_codeTo A_t_stack A_t_facts x_t_lines A_t_newWords A_t_roundFrom A_t_roundAt A_t_roundTimes x_t_newMany x_t_rounds x_t_itFrom x_t_itTimes x_t_writtenNow x_t_picturesNow x_t_usedNow x_t_chosen x_t_fearOfChosen A_t_leastFrom A_t_rowNow x_t_changesNow x_t_left0 A_t_bornOf A_t_trainsTo A_t_trainAt x_t_trainMany x_t_leastTries x_t_firstTrained x_t_isKept, iA cB 260 A_t_tape v_t_tape] o_r) ([.ref A_t] : List Value).toArray s 0 0 A) (F0 m 27 ls []) := by
    intro n_27
    induction n_27 with
    | zero =>
      intro x_t_fault x_t_number0 x_t_place0 l1 H locs ls hl hP hD hS hf
      exact absurd hf (fun h => by rw [f_X12_readsAmount_b27] at h; cases h)
    | succ n_27 ih_27 =>
      intro x_t_fault x_t_number0 x_t_place0 l1 H locs ls hl hP hD hS hf
      rw [f_X12_readsAmount_b27] at hf
      refine lv_aload_n hx hb dX12_readsAmount_27 rfl (lv_at hl 0 rfl) ?_
      obtain ⟨r1, hc2, hf⟩ := bd1_e hf
      refine x_callVI (ws' := [oX12 A_t A_t_now A_t_aside A_t_kept A_t_rhymeOf A_t_wasRhyme A_t_wordAt x_t_wordMany A_t_tape x_t_taped x_t_place0 x_t_length0 x_t_fault x_t_number0 x_t_open x_t_codeMany x_t_waiting x_t_saidMany x_t_clauses A_t_said A_t_waitsAt A_t_saidLetter A_t_saidFrom A_t_saidHalf A_t_saidTo A_t_codes A_t_clauseOf A_t_codeFrom A_t_codeHalf A_t_codeTo A_t_stack A_t_facts x_t_lines A_t_newWords A_t_roundFrom A_t_roundAt A_t_roundTimes x_t_newMany x_t_rounds x_t_itFrom x_t_itTimes x_t_writtenNow x_t_picturesNow x_t_usedNow x_t_chosen x_t_fearOfChosen A_t_leastFrom A_t_rowNow x_t_changesNow x_t_left0 A_t_bornOf A_t_trainsTo A_t_trainAt x_t_trainMany x_t_leastTries x_t_firstTrained x_t_isKept, iA cB 260 A_t_tape v_t_tape]) (rest := []) C hK hP hD hS hA hl mf_X12_169 (c_X12_isDigit hc2) [0, 1] 0 12 rfl rfl rfl rfl rfl rfl rfl rfl rfl rfl (Nat.le_of_ble_eq_true rfl) ⟨Nat.le_of_ble_eq_true rfl, Nat.le_of_ble_eq_true rfl⟩ ⟨Nat.le_refl _, Nat.le_refl _⟩ dX12_readsAmount_28 ?_
      intro H locs hP hD hS
      refine lv_if_eq (tgt := 86) hx hb dX12_readsAmount_31 (by decide) (fun q => ?_) (fun q => ?_)
      · have hf := if_t q hf
        refine lv_iconst (v := 1) hx hb dX12_readsAmount_86 (by decide) ?_
        obtain ⟨rfl, rfl, rfl, rfl⟩ := ev4 hf
        exact x_zret C hr hlk (Or.inr rfl) hP hD hS dX12_readsAmount_87
      · have hf := if_f q hf
        refine lv_aload_n hx hb dX12_readsAmount_34 rfl (lv_at hl 0 rfl) ?_
        refine x_get C hK hP fd_X12_150 0 rfl rfl dX12_readsAmount_35 ?_
        refine lv_iload_n hx hb dX12_readsAmount_38 rfl (lv_at hl 1 rfl) ?_
        refine lv_iconst (v := 2) hx hb dX12_readsAmount_39 (by decide) ?_
        refine lv_iadd hx hb dX12_readsAmount_40 ?_
        refine lv_icmp_ne (tgt := 54) hx hb dX12_readsAmount_41 (by decide) (fun q => ?_) (fun q => ?_)
        · have hf := if_f q hf
          refine lv_aload_n hx hb dX12_readsAmount_54 rfl (lv_at hl 0 rfl) ?_
          refine lv_bipush (v := 10) hx hb dX12_readsAmount_55 (by decide) ?_
          refine lv_aload_n hx hb dX12_readsAmount_57 rfl (lv_at hl 0 rfl) ?_
          refine x_get C hK hP fd_X12_166 0 rfl rfl dX12_readsAmount_58 ?_
          refine lv_imul hx hb dX12_readsAmount_61 ?_
          refine lv_aload_n hx hb dX12_readsAmount_62 rfl (lv_at hl 0 rfl) ?_
          obtain ⟨r3, hc4, hf⟩ := bd1_e hf
          refine x_callVI (ws' := [oX12 A_t A_t_now A_t_aside A_t_kept A_t_rhymeOf A_t_wasRhyme A_t_wordAt x_t_wordMany A_t_tape x_t_taped x_t_place0 x_t_length0 x_t_fault x_t_number0 x_t_open x_t_codeMany x_t_waiting x_t_saidMany x_t_clauses A_t_said A_t_waitsAt A_t_saidLetter A_t_saidFrom A_t_saidHalf A_t_saidTo A_t_codes A_t_clauseOf A_t_codeFrom A_t_codeHalf A_t_codeTo A_t_stack A_t_facts x_t_lines A_t_newWords A_t_roundFrom A_t_roundAt A_t_roundTimes x_t_newMany x_t_rounds x_t_itFrom x_t_itTimes x_t_writtenNow x_t_picturesNow x_t_usedNow x_t_chosen x_t_fearOfChosen A_t_leastFrom A_t_rowNow x_t_changesNow x_t_left0 A_t_bornOf A_t_trainsTo A_t_trainAt x_t_trainMany x_t_leastTries x_t_firstTrained x_t_isKept, iA cB 260 A_t_tape v_t_tape]) (rest := [.int ((10 : Int32) * x_t_number0), .ref A_t]) C hK hP hD hS hA hl mf_X12_156 (c_X12_here hc4) [0, 1] 0 12 rfl rfl rfl rfl rfl rfl rfl rfl rfl rfl (Nat.le_of_ble_eq_true rfl) ⟨Nat.le_of_ble_eq_true rfl, Nat.le_of_ble_eq_true rfl⟩ ⟨Nat.le_refl _, Nat.le_refl _⟩ dX12_readsAmount_63 ?_
          intro H locs hP hD hS
          refine lv_iadd hx hb dX12_readsAmount_66 ?_
          refine lv_bipush (v := 48) hx hb dX12_readsAmount_67 (by decide) ?_
          refine lv_isub hx hb dX12_readsAmount_69 ?_
          refine x_put (ws' := [oX12 A_t A_t_now A_t_aside A_t_kept A_t_rhymeOf A_t_wasRhyme A_t_wordAt x_t_wordMany A_t_tape x_t_taped x_t_place0 x_t_length0 x_t_fault ((((10 : Int32) * x_t_number0) + r3) - (48 : Int32)) x_t_open x_t_codeMany x_t_waiting x_t_saidMany x_t_clauses A_t_said A_t_waitsAt A_t_saidLetter A_t_saidFrom A_t_saidHalf A_t_saidTo A_t_codes A_t_clauseOf A_t_codeFrom A_t_codeHalf A_t_codeTo A_t_stack A_t_facts x_t_lines A_t_newWords A_t_roundFrom A_t_roundAt A_t_roundTimes x_t_newMany x_t_rounds x_t_itFrom x_t_itTimes x_t_writtenNow x_t_picturesNow x_t_usedNow x_t_chosen x_t_fearOfChosen A_t_leastFrom A_t_rowNow x_t_changesNow x_t_left0 A_t_bornOf A_t_trainsTo A_t_trainAt x_t_trainMany x_t_leastTries x_t_firstTrained x_t_isKept, iA cB 260 A_t_tape v_t_tape]) C hK hP hD hS fp_X12_166 0 rfl rfl rfl (Nat.le_of_ble_eq_true rfl) rfl dX12_readsAmount_70 ?_
          intro H locs hP hD hS
          refine lv_aload_n hx hb dX12_readsAmount_73 rfl (lv_at hl 0 rfl) ?_
          refine lv_aload_n hx hb dX12_readsAmount_74 rfl (lv_at hl 0 rfl) ?_
          refine x_get C hK hP fd_X12_150 0 rfl rfl dX12_readsAmount_75 ?_
          refine lv_iconst (v := 1) hx hb dX12_readsAmount_78 (by decide) ?_
          refine lv_iadd hx hb dX12_readsAmount_79 ?_
          refine x_put (ws' := [oX12 A_t A_t_now A_t_aside A_t_kept A_t_rhymeOf A_t_wasRhyme A_t_wordAt x_t_wordMany A_t_tape x_t_taped (x_t_place0 + (1 : Int32)) x_t_length0 x_t_fault ((((10 : Int32) * x_t_number0) + r3) - (48 : Int32)) x_t_open x_t_codeMany x_t_waiting x_t_saidMany x_t_clauses A_t_said A_t_waitsAt A_t_saidLetter A_t_saidFrom A_t_saidHalf A_t_saidTo A_t_codes A_t_clauseOf A_t_codeFrom A_t_codeHalf A_t_codeTo A_t_stack A_t_facts x_t_lines A_t_newWords A_t_roundFrom A_t_roundAt A_t_roundTimes x_t_newMany x_t_rounds x_t_itFrom x_t_itTimes x_t_writtenNow x_t_picturesNow x_t_usedNow x_t_chosen x_t_fearOfChosen A_t_leastFrom A_t_rowNow x_t_changesNow x_t_left0 A_t_bornOf A_t_trainsTo A_t_trainAt x_t_trainMany x_t_leastTries x_t_firstTrained x_t_isKept, iA cB 260 A_t_tape v_t_tape]) C hK hP hD hS fp_X12_150 0 rfl rfl rfl (Nat.le_of_ble_eq_true rfl) rfl dX12_readsAmount_80 ?_
          intro H locs hP hD hS
          refine lv_goto (tgt := 27) hx hb dX12_readsAmount_83 (by decide) ?_
          exact ih_27 x_t_fault ((((10 : Int32) * x_t_number0) + r3) - (48 : Int32)) (x_t_place0 + (1 : Int32)) l1 _ _ ls (lv_sub hl [0, 1] rfl) hP hD hS hf
        · have hf := if_t q hf
          refine lv_aload_n hx hb dX12_readsAmount_44 rfl (lv_at hl 0 rfl) ?_
          refine lv_iconst (v := 2) hx hb dX12_readsAmount_45 (by decide) ?_
          refine lv_aload_n hx hb dX12_readsAmount_46 rfl (lv_at hl 0 rfl) ?_
          refine x_get C hK hP fd_X12_150 0 rfl rfl dX12_readsAmount_47 ?_
          obtain ⟨r5, w6, hc7, hf⟩ := bd2_e hf
          refine x_callVI (ws' := [oX12 A_t A_t_now A_t_aside A_t_kept A_t_rhymeOf A_t_wasRhyme A_t_wordAt x_t_wordMany A_t_tape x_t_taped x_t_place0 x_t_length0 w6 x_t_number0 x_t_open x_t_codeMany x_t_waiting x_t_saidMany x_t_clauses A_t_said A_t_waitsAt A_t_saidLetter A_t_saidFrom A_t_saidHalf A_t_saidTo A_t_codes A_t_clauseOf A_t_codeFrom A_t_codeHalf A_t_codeTo A_t_stack A_t_facts x_t_lines A_t_newWords A_t_roundFrom A_t_roundAt A_t_roundTimes x_t_newMany x_t_rounds x_t_itFrom x_t_itTimes x_t_writtenNow x_t_picturesNow x_t_usedNow x_t_chosen x_t_fearOfChosen A_t_leastFrom A_t_rowNow x_t_changesNow x_t_left0 A_t_bornOf A_t_trainsTo A_t_trainAt x_t_trainMany x_t_leastTries x_t_firstTrained x_t_isKept, iA cB 260 A_t_tape v_t_tape]) (rest := []) C hK hP hD hS hA hl mf_X12_163 (c_X12_wrongAt hc7) [0] 0 12 rfl rfl rfl rfl rfl rfl rfl rfl rfl rfl (Nat.le_of_ble_eq_true rfl) ⟨Nat.le_of_ble_eq_true rfl, Nat.le_of_ble_eq_true rfl⟩ ⟨Nat.le_refl _, Nat.le_refl _⟩ dX12_readsAmount_50 ?_
          intro H locs hP hD hS
          obtain ⟨hz, hf⟩ := zI_e hf
          obtain ⟨rfl, rfl, rfl, rfl⟩ := ev4 hf
          exact x_zret C hr hlk hz hP hD hS dX12_readsAmount_53
  refine lv_aload_n hx hb dX12_readsAmount_0 rfl (lv_at hl 0 rfl) ?_
  refine x_get C hK hP fd_X12_150 0 rfl rfl dX12_readsAmount_1 ?_
  refine lv_istore_n (lv' := [(1, .int x_t_place0), (0, .ref A_t)]) hx hb dX12_readsAmount_4 rfl hl (by decide) rfl (fun ls hl => ?_)
  refine lv_aload_n hx hb dX12_readsAmount_5 rfl (lv_at hl 1 rfl) ?_
  obtain ⟨r8, hc9, hf⟩ := bd1_e hf
  refine x_callVI (ws' := [oX12 A_t A_t_now A_t_aside A_t_kept A_t_rhymeOf A_t_wasRhyme A_t_wordAt x_t_wordMany A_t_tape x_t_taped x_t_place0 x_t_length0 x_t_fault x_t_number0 x_t_open x_t_codeMany x_t_waiting x_t_saidMany x_t_clauses A_t_said A_t_waitsAt A_t_saidLetter A_t_saidFrom A_t_saidHalf A_t_saidTo A_t_codes A_t_clauseOf A_t_codeFrom A_t_codeHalf A_t_codeTo A_t_stack A_t_facts x_t_lines A_t_newWords A_t_roundFrom A_t_roundAt A_t_roundTimes x_t_newMany x_t_rounds x_t_itFrom x_t_itTimes x_t_writtenNow x_t_picturesNow x_t_usedNow x_t_chosen x_t_fearOfChosen A_t_leastFrom A_t_rowNow x_t_changesNow x_t_left0 A_t_bornOf A_t_trainsTo A_t_trainAt x_t_trainMany x_t_leastTries x_t_firstTrained x_t_isKept, iA cB 260 A_t_tape v_t_tape]) (rest := []) C hK hP hD hS hA hl mf_X12_169 (c_X12_isDigit hc9) [0, 1] 0 12 rfl rfl rfl rfl rfl rfl rfl rfl rfl rfl (Nat.le_of_ble_eq_true rfl) ⟨Nat.le_of_ble_eq_true rfl, Nat.le_of_ble_eq_true rfl⟩ ⟨Nat.le_refl _, Nat.le_refl _⟩ dX12_readsAmount_6 ?_
  intro H locs hP hD hS
  refine lv_if_ne (tgt := 22) hx hb dX12_readsAmount_9 (by decide) (fun q => ?_) (fun q => ?_)
  · have hf := if_f q hf
    refine lv_aload_n hx hb dX12_readsAmount_22 rfl (lv_at hl 1 rfl) ?_
    refine lv_iconst (v := 0) hx hb dX12_readsAmount_23 (by decide) ?_
    refine x_put (ws' := [oX12 A_t A_t_now A_t_aside A_t_kept A_t_rhymeOf A_t_wasRhyme A_t_wordAt x_t_wordMany A_t_tape x_t_taped x_t_place0 x_t_length0 x_t_fault (0 : Int32) x_t_open x_t_codeMany x_t_waiting x_t_saidMany x_t_clauses A_t_said A_t_waitsAt A_t_saidLetter A_t_saidFrom A_t_saidHalf A_t_saidTo A_t_codes A_t_clauseOf A_t_codeFrom A_t_codeHalf A_t_codeTo A_t_stack A_t_facts x_t_lines A_t_newWords A_t_roundFrom A_t_roundAt A_t_roundTimes x_t_newMany x_t_rounds x_t_itFrom x_t_itTimes x_t_writtenNow x_t_picturesNow x_t_usedNow x_t_chosen x_t_fearOfChosen A_t_leastFrom A_t_rowNow x_t_changesNow x_t_left0 A_t_bornOf A_t_trainsTo A_t_trainAt x_t_trainMany x_t_leastTries x_t_firstTrained x_t_isKept, iA cB 260 A_t_tape v_t_tape]) C hK hP hD hS fp_X12_166 0 rfl rfl rfl (Nat.le_of_ble_eq_true rfl) rfl dX12_readsAmount_24 ?_
    intro H locs hP hD hS
    exact hb_27 FU x_t_fault (0 : Int32) x_t_place0 x_t_place0 _ _ ls (lv_sub hl [1, 0] rfl) hP hD hS hf
  · have hf := if_t q hf
    refine lv_aload_n hx hb dX12_readsAmount_12 rfl (lv_at hl 1 rfl) ?_
    refine lv_iconst (v := 1) hx hb dX12_readsAmount_13 (by decide) ?_
    refine lv_aload_n hx hb dX12_readsAmount_14 rfl (lv_at hl 1 rfl) ?_
    refine x_get C hK hP fd_X12_150 0 rfl rfl dX12_readsAmount_15 ?_
    obtain ⟨r10, w11, hc12, hf⟩ := bd2_e hf
    refine x_callVI (ws' := [oX12 A_t A_t_now A_t_aside A_t_kept A_t_rhymeOf A_t_wasRhyme A_t_wordAt x_t_wordMany A_t_tape x_t_taped x_t_place0 x_t_length0 w11 x_t_number0 x_t_open x_t_codeMany x_t_waiting x_t_saidMany x_t_clauses A_t_said A_t_waitsAt A_t_saidLetter A_t_saidFrom A_t_saidHalf A_t_saidTo A_t_codes A_t_clauseOf A_t_codeFrom A_t_codeHalf A_t_codeTo A_t_stack A_t_facts x_t_lines A_t_newWords A_t_roundFrom A_t_roundAt A_t_roundTimes x_t_newMany x_t_rounds x_t_itFrom x_t_itTimes x_t_writtenNow x_t_picturesNow x_t_usedNow x_t_chosen x_t_fearOfChosen A_t_leastFrom A_t_rowNow x_t_changesNow x_t_left0 A_t_bornOf A_t_trainsTo A_t_trainAt x_t_trainMany x_t_leastTries x_t_firstTrained x_t_isKept, iA cB 260 A_t_tape v_t_tape]) (rest := []) C hK hP hD hS hA hl mf_X12_163 (c_X12_wrongAt hc12) [0] 0 12 rfl rfl rfl rfl rfl rfl rfl rfl rfl rfl (Nat.le_of_ble_eq_true rfl) ⟨Nat.le_of_ble_eq_true rfl, Nat.le_of_ble_eq_true rfl⟩ ⟨Nat.le_refl _, Nat.le_refl _⟩ dX12_readsAmount_18 ?_
    intro H locs hP hD hS
    obtain ⟨hz, hf⟩ := zI_e hf
    obtain ⟨rfl, rfl, rfl, rfl⟩ := ev4 hf
    exact x_zret C hr hlk hz hP hD hS dX12_readsAmount_21
def f_X12_parts (v_t_rhymeOf : (Nat → Int32)) (a1 : Int32) : Option ((Nat → Int32)) :=
  gI 16 v_t_rhymeOf a1 (fun g1 =>
  gI 16 v_t_rhymeOf a1 (fun g2 =>
  sI 16 v_t_rhymeOf g1 g2 (fun w3 =>
  sI 16 w3 a1 a1 (fun w4 =>
  some w4))))
set_option maxHeartbeats 4000000 in
set_option maxRecDepth 100000 in
theorem c_X12_parts {l : Launch} {D : va_G} {cI cB : ClassId} {A_t A_t_now A_t_aside A_t_kept A_t_rhymeOf A_t_wasRhyme A_t_wordAt A_t_tape A_t_said A_t_waitsAt A_t_saidLetter A_t_saidFrom A_t_saidHalf A_t_saidTo A_t_codes A_t_clauseOf A_t_codeFrom A_t_codeHalf A_t_codeTo A_t_stack A_t_facts A_t_newWords A_t_roundFrom A_t_roundAt A_t_roundTimes A_t_leastFrom A_t_rowNow A_t_bornOf A_t_trainsTo A_t_trainAt : Nat} {x_t_wordMany x_t_taped x_t_place0 x_t_length0 x_t_fault x_t_number0 x_t_open x_t_codeMany x_t_waiting x_t_saidMany x_t_clauses x_t_lines x_t_newMany x_t_rounds x_t_itFrom x_t_itTimes x_t_writtenNow x_t_picturesNow x_t_usedNow x_t_chosen x_t_fearOfChosen x_t_changesNow x_t_left0 x_t_trainMany x_t_leastTries x_t_firstTrained x_t_isKept a1 : Int32} {v_t_rhymeOf : Nat → Int32} {o_v_t_rhymeOf : Nat → Int32} (hf : f_X12_parts v_t_rhymeOf a1 = some o_v_t_rhymeOf) : CtV l D cI cB yX12_parts cX12_parts 2 0 0 [.ref A_t, .int a1] [oX12 A_t A_t_now A_t_aside A_t_kept A_t_rhymeOf A_t_wasRhyme A_t_wordAt x_t_wordMany A_t_tape x_t_taped x_t_place0 x_t_length0 x_t_fault x_t_number0 x_t_open x_t_codeMany x_t_waiting x_t_saidMany x_t_clauses A_t_said A_t_waitsAt A_t_saidLetter A_t_saidFrom A_t_saidHalf A_t_saidTo A_t_codes A_t_clauseOf A_t_codeFrom A_t_codeHalf A_t_codeTo A_t_stack A_t_facts x_t_lines A_t_newWords A_t_roundFrom A_t_roundAt A_t_roundTimes x_t_newMany x_t_rounds x_t_itFrom x_t_itTimes x_t_writtenNow x_t_picturesNow x_t_usedNow x_t_chosen x_t_fearOfChosen A_t_leastFrom A_t_rowNow x_t_changesNow x_t_left0 A_t_bornOf A_t_trainsTo A_t_trainAt x_t_trainMany x_t_leastTries x_t_firstTrained x_t_isKept, iA cI 16 A_t_rhymeOf v_t_rhymeOf] [oX12 A_t A_t_now A_t_aside A_t_kept A_t_rhymeOf A_t_wasRhyme A_t_wordAt x_t_wordMany A_t_tape x_t_taped x_t_place0 x_t_length0 x_t_fault x_t_number0 x_t_open x_t_codeMany x_t_waiting x_t_saidMany x_t_clauses A_t_said A_t_waitsAt A_t_saidLetter A_t_saidFrom A_t_saidHalf A_t_saidTo A_t_codes A_t_clauseOf A_t_codeFrom A_t_codeHalf A_t_codeTo A_t_stack A_t_facts x_t_lines A_t_newWords A_t_roundFrom A_t_roundAt A_t_roundTimes x_t_newMany x_t_rounds x_t_itFrom x_t_itTimes x_t_writtenNow x_t_picturesNow x_t_usedNow x_t_chosen x_t_fearOfChosen A_t_leastFrom A_t_rowNow x_t_changesNow x_t_left0 A_t_bornOf A_t_trainsTo A_t_trainAt x_t_trainMany x_t_leastTries x_t_firstTrained x_t_isKept, iA cI 16 A_t_rhymeOf o_v_t_rhymeOf] := by
  refine x_startV (by decide) (Nat.le_of_ble_eq_true rfl) ?_
  intro p e s m below meth c A C hr hlk hA hK hP hD hS ls hl
  have hl : lv_has ls 2 [(0, .ref A_t), (1, .int a1)] := hl
  have hx := C.1
  have hb := C.2.1
  unfold f_X12_parts at hf
  refine lv_aload_n hx hb dX12_parts_0 rfl (lv_at hl 0 rfl) ?_
  refine x_get C hK hP fd_X12_19 0 rfl rfl dX12_parts_1 ?_
  refine lv_aload_n hx hb dX12_parts_4 rfl (lv_at hl 0 rfl) ?_
  refine x_get C hK hP fd_X12_19 0 rfl rfl dX12_parts_5 ?_
  refine lv_iload_n hx hb dX12_parts_8 rfl (lv_at hl 1 rfl) ?_
  obtain ⟨hi, hf⟩ := gI_e hf
  refine x_iald C hK hP 1 rfl hi dX12_parts_9 ?_
  refine lv_aload_n hx hb dX12_parts_10 rfl (lv_at hl 0 rfl) ?_
  refine x_get C hK hP fd_X12_19 0 rfl rfl dX12_parts_11 ?_
  refine lv_iload_n hx hb dX12_parts_14 rfl (lv_at hl 1 rfl) ?_
  obtain ⟨hi, hf⟩ := gI_e hf
  refine x_iald C hK hP 1 rfl hi dX12_parts_15 ?_
  obtain ⟨hi, hf⟩ := sI_e hf
  refine x_iast (ws' := [oX12 A_t A_t_now A_t_aside A_t_kept A_t_rhymeOf A_t_wasRhyme A_t_wordAt x_t_wordMany A_t_tape x_t_taped x_t_place0 x_t_length0 x_t_fault x_t_number0 x_t_open x_t_codeMany x_t_waiting x_t_saidMany x_t_clauses A_t_said A_t_waitsAt A_t_saidLetter A_t_saidFrom A_t_saidHalf A_t_saidTo A_t_codes A_t_clauseOf A_t_codeFrom A_t_codeHalf A_t_codeTo A_t_stack A_t_facts x_t_lines A_t_newWords A_t_roundFrom A_t_roundAt A_t_roundTimes x_t_newMany x_t_rounds x_t_itFrom x_t_itTimes x_t_writtenNow x_t_picturesNow x_t_usedNow x_t_chosen x_t_fearOfChosen A_t_leastFrom A_t_rowNow x_t_changesNow x_t_left0 A_t_bornOf A_t_trainsTo A_t_trainAt x_t_trainMany x_t_leastTries x_t_firstTrained x_t_isKept, iA cI 16 A_t_rhymeOf (upd v_t_rhymeOf (v_t_rhymeOf a1.toNatClampNeg).toNatClampNeg (v_t_rhymeOf a1.toNatClampNeg))]) C hK hP hD hS 1 rfl hi rfl dX12_parts_16 ?_
  intro H locs hP hD hS
  refine lv_aload_n hx hb dX12_parts_17 rfl (lv_at hl 0 rfl) ?_
  refine x_get C hK hP fd_X12_19 0 rfl rfl dX12_parts_18 ?_
  refine lv_iload_n hx hb dX12_parts_21 rfl (lv_at hl 1 rfl) ?_
  refine lv_iload_n hx hb dX12_parts_22 rfl (lv_at hl 1 rfl) ?_
  obtain ⟨hi, hf⟩ := sI_e hf
  refine x_iast (ws' := [oX12 A_t A_t_now A_t_aside A_t_kept A_t_rhymeOf A_t_wasRhyme A_t_wordAt x_t_wordMany A_t_tape x_t_taped x_t_place0 x_t_length0 x_t_fault x_t_number0 x_t_open x_t_codeMany x_t_waiting x_t_saidMany x_t_clauses A_t_said A_t_waitsAt A_t_saidLetter A_t_saidFrom A_t_saidHalf A_t_saidTo A_t_codes A_t_clauseOf A_t_codeFrom A_t_codeHalf A_t_codeTo A_t_stack A_t_facts x_t_lines A_t_newWords A_t_roundFrom A_t_roundAt A_t_roundTimes x_t_newMany x_t_rounds x_t_itFrom x_t_itTimes x_t_writtenNow x_t_picturesNow x_t_usedNow x_t_chosen x_t_fearOfChosen A_t_leastFrom A_t_rowNow x_t_changesNow x_t_left0 A_t_bornOf A_t_trainsTo A_t_trainAt x_t_trainMany x_t_leastTries x_t_firstTrained x_t_isKept, iA cI 16 A_t_rhymeOf (upd (upd v_t_rhymeOf (v_t_rhymeOf a1.toNatClampNeg).toNatClampNeg (v_t_rhymeOf a1.toNatClampNeg)) a1.toNatClampNeg a1)]) C hK hP hD hS 1 rfl hi rfl dX12_parts_23 ?_
  intro H locs hP hD hS
  obtain rfl := ev1 hf
  exact x_vret C hr hlk hP hD hS dX12_parts_24
def f_X12_readsRhyme (v_t_rhymeOf : (Nat → Int32)) (v_t_tape : (Nat → Int32)) (x_t_fault : Int32) (x_t_length0 : Int32) (x_t_place0 : Int32) (a1 : Int32) : Option (Int32 × (Nat → Int32) × Int32 × Int32) :=
  bd1 (f_X12_isLetter v_t_tape x_t_length0 x_t_place0) (fun r1 =>
  if r1 = 0 then
    bd2 (f_X12_wrongAt x_t_fault (1 : Int32) x_t_place0) (fun r7 w8 =>
    zI r7 (some (r7, v_t_rhymeOf, w8, x_t_place0)))
  else
    bd1 (f_X12_here v_t_tape x_t_length0 x_t_place0) (fun r2 =>
    bd1 (f_X12_parts v_t_rhymeOf a1) (fun w3 =>
    bd1 (f_X12_parts w3 (r2 - (97 : Int32))) (fun w4 =>
    sI 16 w4 a1 (r2 - (97 : Int32)) (fun w5 =>
    sI 16 w5 (r2 - (97 : Int32)) a1 (fun w6 =>
    some ((1 : Int32), w6, x_t_fault, (x_t_place0 + (1 : Int32)))))))))
set_option maxHeartbeats 4000000 in
set_option maxRecDepth 100000 in
theorem c_X12_readsRhyme {l : Launch} {D : va_G} {cI cB : ClassId} {A_t A_t_now A_t_aside A_t_kept A_t_rhymeOf A_t_wasRhyme A_t_wordAt A_t_tape A_t_said A_t_waitsAt A_t_saidLetter A_t_saidFrom A_t_saidHalf A_t_saidTo A_t_codes A_t_clauseOf A_t_codeFrom A_t_codeHalf A_t_codeTo A_t_stack A_t_facts A_t_newWords A_t_roundFrom A_t_roundAt A_t_roundTimes A_t_leastFrom A_t_rowNow A_t_bornOf A_t_trainsTo A_t_trainAt : Nat} {x_t_wordMany x_t_taped x_t_place0 x_t_length0 x_t_fault x_t_number0 x_t_open x_t_codeMany x_t_waiting x_t_saidMany x_t_clauses x_t_lines x_t_newMany x_t_rounds x_t_itFrom x_t_itTimes x_t_writtenNow x_t_picturesNow x_t_usedNow x_t_chosen x_t_fearOfChosen x_t_changesNow x_t_left0 x_t_trainMany x_t_leastTries x_t_firstTrained x_t_isKept a1 : Int32} {v_t_rhymeOf v_t_tape : Nat → Int32} {o_r o_x_t_fault o_x_t_place0 : Int32} {o_v_t_rhymeOf : Nat → Int32} (hf : f_X12_readsRhyme v_t_rhymeOf v_t_tape x_t_fault x_t_length0 x_t_place0 a1 = some (o_r, o_v_t_rhymeOf, o_x_t_fault, o_x_t_place0)) : CtI l D cI cB yX12_readsRhyme cX12_readsRhyme 3 (some .boolean) 2 42 [.ref A_t, .int a1] [oX12 A_t A_t_now A_t_aside A_t_kept A_t_rhymeOf A_t_wasRhyme A_t_wordAt x_t_wordMany A_t_tape x_t_taped x_t_place0 x_t_length0 x_t_fault x_t_number0 x_t_open x_t_codeMany x_t_waiting x_t_saidMany x_t_clauses A_t_said A_t_waitsAt A_t_saidLetter A_t_saidFrom A_t_saidHalf A_t_saidTo A_t_codes A_t_clauseOf A_t_codeFrom A_t_codeHalf A_t_codeTo A_t_stack A_t_facts x_t_lines A_t_newWords A_t_roundFrom A_t_roundAt A_t_roundTimes x_t_newMany x_t_rounds x_t_itFrom x_t_itTimes x_t_writtenNow x_t_picturesNow x_t_usedNow x_t_chosen x_t_fearOfChosen A_t_leastFrom A_t_rowNow x_t_changesNow x_t_left0 A_t_bornOf A_t_trainsTo A_t_trainAt x_t_trainMany x_t_leastTries x_t_firstTrained x_t_isKept, iA cI 16 A_t_rhymeOf v_t_rhymeOf, iA cB 260 A_t_tape v_t_tape] [oX12 A_t A_t_now A_t_aside A_t_kept A_t_rhymeOf A_t_wasRhyme A_t_wordAt x_t_wordMany A_t_tape x_t_taped o_x_t_place0 x_t_length0 o_x_t_fault x_t_number0 x_t_open x_t_codeMany x_t_waiting x_t_saidMany x_t_clauses A_t_said A_t_waitsAt A_t_saidLetter A_t_saidFrom A_t_saidHalf A_t_saidTo A_t_codes A_t_clauseOf A_t_codeFrom A_t_codeHalf A_t_codeTo A_t_stack A_t_facts x_t_lines A_t_newWords A_t_roundFrom A_t_roundAt A_t_roundTimes x_t_newMany x_t_rounds x_t_itFrom x_t_itTimes x_t_writtenNow x_t_picturesNow x_t_usedNow x_t_chosen x_t_fearOfChosen A_t_leastFrom A_t_rowNow x_t_changesNow x_t_left0 A_t_bornOf A_t_trainsTo A_t_trainAt x_t_trainMany x_t_leastTries x_t_firstTrained x_t_isKept, iA cI 16 A_t_rhymeOf o_v_t_rhymeOf, iA cB 260 A_t_tape v_t_tape] o_r := by
  refine x_startI (by decide) (Nat.le_of_ble_eq_true rfl) ?_
  intro p e s m below meth c A C hr hlk hA hK hP hD hS ls hl
  have hl : lv_has ls 3 [(0, .ref A_t), (1, .int a1)] := hl
  have hx := C.1
  have hb := C.2.1
  unfold f_X12_readsRhyme at hf
  refine lv_aload_n hx hb dX12_readsRhyme_0 rfl (lv_at hl 0 rfl) ?_
  obtain ⟨r1, hc2, hf⟩ := bd1_e hf
  refine x_callVI (ws' := [oX12 A_t A_t_now A_t_aside A_t_kept A_t_rhymeOf A_t_wasRhyme A_t_wordAt x_t_wordMany A_t_tape x_t_taped x_t_place0 x_t_length0 x_t_fault x_t_number0 x_t_open x_t_codeMany x_t_waiting x_t_saidMany x_t_clauses A_t_said A_t_waitsAt A_t_saidLetter A_t_saidFrom A_t_saidHalf A_t_saidTo A_t_codes A_t_clauseOf A_t_codeFrom A_t_codeHalf A_t_codeTo A_t_stack A_t_facts x_t_lines A_t_newWords A_t_roundFrom A_t_roundAt A_t_roundTimes x_t_newMany x_t_rounds x_t_itFrom x_t_itTimes x_t_writtenNow x_t_picturesNow x_t_usedNow x_t_chosen x_t_fearOfChosen A_t_leastFrom A_t_rowNow x_t_changesNow x_t_left0 A_t_bornOf A_t_trainsTo A_t_trainAt x_t_trainMany x_t_leastTries x_t_firstTrained x_t_isKept, iA cI 16 A_t_rhymeOf v_t_rhymeOf, iA cB 260 A_t_tape v_t_tape]) (rest := []) C hK hP hD hS hA hl mf_X12_251 (c_X12_isLetter hc2) [0, 2] 0 12 rfl rfl rfl rfl rfl rfl rfl rfl rfl rfl (Nat.le_of_ble_eq_true rfl) ⟨Nat.le_of_ble_eq_true rfl, Nat.le_of_ble_eq_true rfl⟩ ⟨Nat.le_refl _, Nat.le_refl _⟩ dX12_readsRhyme_1 ?_
  intro H locs hP hD hS
  refine lv_if_ne (tgt := 17) hx hb dX12_readsRhyme_4 (by decide) (fun q => ?_) (fun q => ?_)
  · have hf := if_f q hf
    refine lv_aload_n hx hb dX12_readsRhyme_17 rfl (lv_at hl 0 rfl) ?_
    obtain ⟨r3, hc4, hf⟩ := bd1_e hf
    refine x_callVI (ws' := [oX12 A_t A_t_now A_t_aside A_t_kept A_t_rhymeOf A_t_wasRhyme A_t_wordAt x_t_wordMany A_t_tape x_t_taped x_t_place0 x_t_length0 x_t_fault x_t_number0 x_t_open x_t_codeMany x_t_waiting x_t_saidMany x_t_clauses A_t_said A_t_waitsAt A_t_saidLetter A_t_saidFrom A_t_saidHalf A_t_saidTo A_t_codes A_t_clauseOf A_t_codeFrom A_t_codeHalf A_t_codeTo A_t_stack A_t_facts x_t_lines A_t_newWords A_t_roundFrom A_t_roundAt A_t_roundTimes x_t_newMany x_t_rounds x_t_itFrom x_t_itTimes x_t_writtenNow x_t_picturesNow x_t_usedNow x_t_chosen x_t_fearOfChosen A_t_leastFrom A_t_rowNow x_t_changesNow x_t_left0 A_t_bornOf A_t_trainsTo A_t_trainAt x_t_trainMany x_t_leastTries x_t_firstTrained x_t_isKept, iA cI 16 A_t_rhymeOf v_t_rhymeOf, iA cB 260 A_t_tape v_t_tape]) (rest := []) C hK hP hD hS hA hl mf_X12_156 (c_X12_here hc4) [0, 2] 0 12 rfl rfl rfl rfl rfl rfl rfl rfl rfl rfl (Nat.le_of_ble_eq_true rfl) ⟨Nat.le_of_ble_eq_true rfl, Nat.le_of_ble_eq_true rfl⟩ ⟨Nat.le_refl _, Nat.le_refl _⟩ dX12_readsRhyme_18 ?_
    intro H locs hP hD hS
    refine lv_bipush (v := 97) hx hb dX12_readsRhyme_21 (by decide) ?_
    refine lv_isub hx hb dX12_readsRhyme_23 ?_
    refine lv_istore_n (lv' := [(2, .int (r3 - (97 : Int32))), (0, .ref A_t), (1, .int a1)]) hx hb dX12_readsRhyme_24 rfl hl (by decide) rfl (fun ls hl => ?_)
    refine lv_aload_n hx hb dX12_readsRhyme_25 rfl (lv_at hl 1 rfl) ?_
    refine lv_aload_n hx hb dX12_readsRhyme_26 rfl (lv_at hl 1 rfl) ?_
    refine x_get C hK hP fd_X12_150 0 rfl rfl dX12_readsRhyme_27 ?_
    refine lv_iconst (v := 1) hx hb dX12_readsRhyme_30 (by decide) ?_
    refine lv_iadd hx hb dX12_readsRhyme_31 ?_
    refine x_put (ws' := [oX12 A_t A_t_now A_t_aside A_t_kept A_t_rhymeOf A_t_wasRhyme A_t_wordAt x_t_wordMany A_t_tape x_t_taped (x_t_place0 + (1 : Int32)) x_t_length0 x_t_fault x_t_number0 x_t_open x_t_codeMany x_t_waiting x_t_saidMany x_t_clauses A_t_said A_t_waitsAt A_t_saidLetter A_t_saidFrom A_t_saidHalf A_t_saidTo A_t_codes A_t_clauseOf A_t_codeFrom A_t_codeHalf A_t_codeTo A_t_stack A_t_facts x_t_lines A_t_newWords A_t_roundFrom A_t_roundAt A_t_roundTimes x_t_newMany x_t_rounds x_t_itFrom x_t_itTimes x_t_writtenNow x_t_picturesNow x_t_usedNow x_t_chosen x_t_fearOfChosen A_t_leastFrom A_t_rowNow x_t_changesNow x_t_left0 A_t_bornOf A_t_trainsTo A_t_trainAt x_t_trainMany x_t_leastTries x_t_firstTrained x_t_isKept, iA cI 16 A_t_rhymeOf v_t_rhymeOf, iA cB 260 A_t_tape v_t_tape]) C hK hP hD hS fp_X12_150 0 rfl rfl rfl (Nat.le_of_ble_eq_true rfl) rfl dX12_readsRhyme_32 ?_
    intro H locs hP hD hS
    refine lv_aload_n hx hb dX12_readsRhyme_35 rfl (lv_at hl 1 rfl) ?_
    refine lv_iload_n hx hb dX12_readsRhyme_36 rfl (lv_at hl 2 rfl) ?_
    obtain ⟨w5, hc6, hf⟩ := bd1_e hf
    refine x_callVV (ws' := [oX12 A_t A_t_now A_t_aside A_t_kept A_t_rhymeOf A_t_wasRhyme A_t_wordAt x_t_wordMany A_t_tape x_t_taped (x_t_place0 + (1 : Int32)) x_t_length0 x_t_fault x_t_number0 x_t_open x_t_codeMany x_t_waiting x_t_saidMany x_t_clauses A_t_said A_t_waitsAt A_t_saidLetter A_t_saidFrom A_t_saidHalf A_t_saidTo A_t_codes A_t_clauseOf A_t_codeFrom A_t_codeHalf A_t_codeTo A_t_stack A_t_facts x_t_lines A_t_newWords A_t_roundFrom A_t_roundAt A_t_roundTimes x_t_newMany x_t_rounds x_t_itFrom x_t_itTimes x_t_writtenNow x_t_picturesNow x_t_usedNow x_t_chosen x_t_fearOfChosen A_t_leastFrom A_t_rowNow x_t_changesNow x_t_left0 A_t_bornOf A_t_trainsTo A_t_trainAt x_t_trainMany x_t_leastTries x_t_firstTrained x_t_isKept, iA cI 16 A_t_rhymeOf w5, iA cB 260 A_t_tape v_t_tape]) (rest := []) C hK hP hD hS hA hl mf_X12_254 (c_X12_parts hc6) [0, 1] 0 12 rfl rfl rfl rfl rfl rfl rfl rfl rfl rfl (Nat.le_of_ble_eq_true rfl) ⟨Nat.le_of_ble_eq_true rfl, Nat.le_of_ble_eq_true rfl⟩ ⟨Nat.le_refl _, Nat.le_refl _⟩ dX12_readsRhyme_37 ?_
    intro H locs hP hD hS
    refine lv_aload_n hx hb dX12_readsRhyme_40 rfl (lv_at hl 1 rfl) ?_
    refine lv_iload_n hx hb dX12_readsRhyme_41 rfl (lv_at hl 0 rfl) ?_
    obtain ⟨w7, hc8, hf⟩ := bd1_e hf
    refine x_callVV (ws' := [oX12 A_t A_t_now A_t_aside A_t_kept A_t_rhymeOf A_t_wasRhyme A_t_wordAt x_t_wordMany A_t_tape x_t_taped (x_t_place0 + (1 : Int32)) x_t_length0 x_t_fault x_t_number0 x_t_open x_t_codeMany x_t_waiting x_t_saidMany x_t_clauses A_t_said A_t_waitsAt A_t_saidLetter A_t_saidFrom A_t_saidHalf A_t_saidTo A_t_codes A_t_clauseOf A_t_codeFrom A_t_codeHalf A_t_codeTo A_t_stack A_t_facts x_t_lines A_t_newWords A_t_roundFrom A_t_roundAt A_t_roundTimes x_t_newMany x_t_rounds x_t_itFrom x_t_itTimes x_t_writtenNow x_t_picturesNow x_t_usedNow x_t_chosen x_t_fearOfChosen A_t_leastFrom A_t_rowNow x_t_changesNow x_t_left0 A_t_bornOf A_t_trainsTo A_t_trainAt x_t_trainMany x_t_leastTries x_t_firstTrained x_t_isKept, iA cI 16 A_t_rhymeOf w7, iA cB 260 A_t_tape v_t_tape]) (rest := []) C hK hP hD hS hA hl mf_X12_254 (c_X12_parts hc8) [0, 1] 0 12 rfl rfl rfl rfl rfl rfl rfl rfl rfl rfl (Nat.le_of_ble_eq_true rfl) ⟨Nat.le_of_ble_eq_true rfl, Nat.le_of_ble_eq_true rfl⟩ ⟨Nat.le_refl _, Nat.le_refl _⟩ dX12_readsRhyme_42 ?_
    intro H locs hP hD hS
    refine lv_aload_n hx hb dX12_readsRhyme_45 rfl (lv_at hl 1 rfl) ?_
    refine x_get C hK hP fd_X12_19 0 rfl rfl dX12_readsRhyme_46 ?_
    refine lv_iload_n hx hb dX12_readsRhyme_49 rfl (lv_at hl 2 rfl) ?_
    refine lv_iload_n hx hb dX12_readsRhyme_50 rfl (lv_at hl 0 rfl) ?_
    obtain ⟨hi, hf⟩ := sI_e hf
    refine x_iast (ws' := [oX12 A_t A_t_now A_t_aside A_t_kept A_t_rhymeOf A_t_wasRhyme A_t_wordAt x_t_wordMany A_t_tape x_t_taped (x_t_place0 + (1 : Int32)) x_t_length0 x_t_fault x_t_number0 x_t_open x_t_codeMany x_t_waiting x_t_saidMany x_t_clauses A_t_said A_t_waitsAt A_t_saidLetter A_t_saidFrom A_t_saidHalf A_t_saidTo A_t_codes A_t_clauseOf A_t_codeFrom A_t_codeHalf A_t_codeTo A_t_stack A_t_facts x_t_lines A_t_newWords A_t_roundFrom A_t_roundAt A_t_roundTimes x_t_newMany x_t_rounds x_t_itFrom x_t_itTimes x_t_writtenNow x_t_picturesNow x_t_usedNow x_t_chosen x_t_fearOfChosen A_t_leastFrom A_t_rowNow x_t_changesNow x_t_left0 A_t_bornOf A_t_trainsTo A_t_trainAt x_t_trainMany x_t_leastTries x_t_firstTrained x_t_isKept, iA cI 16 A_t_rhymeOf (upd w7 a1.toNatClampNeg (r3 - (97 : Int32))), iA cB 260 A_t_tape v_t_tape]) C hK hP hD hS 1 rfl hi rfl dX12_readsRhyme_51 ?_
    intro H locs hP hD hS
    refine lv_aload_n hx hb dX12_readsRhyme_52 rfl (lv_at hl 1 rfl) ?_
    refine x_get C hK hP fd_X12_19 0 rfl rfl dX12_readsRhyme_53 ?_
    refine lv_iload_n hx hb dX12_readsRhyme_56 rfl (lv_at hl 0 rfl) ?_
    refine lv_iload_n hx hb dX12_readsRhyme_57 rfl (lv_at hl 2 rfl) ?_
    obtain ⟨hi, hf⟩ := sI_e hf
    refine x_iast (ws' := [oX12 A_t A_t_now A_t_aside A_t_kept A_t_rhymeOf A_t_wasRhyme A_t_wordAt x_t_wordMany A_t_tape x_t_taped (x_t_place0 + (1 : Int32)) x_t_length0 x_t_fault x_t_number0 x_t_open x_t_codeMany x_t_waiting x_t_saidMany x_t_clauses A_t_said A_t_waitsAt A_t_saidLetter A_t_saidFrom A_t_saidHalf A_t_saidTo A_t_codes A_t_clauseOf A_t_codeFrom A_t_codeHalf A_t_codeTo A_t_stack A_t_facts x_t_lines A_t_newWords A_t_roundFrom A_t_roundAt A_t_roundTimes x_t_newMany x_t_rounds x_t_itFrom x_t_itTimes x_t_writtenNow x_t_picturesNow x_t_usedNow x_t_chosen x_t_fearOfChosen A_t_leastFrom A_t_rowNow x_t_changesNow x_t_left0 A_t_bornOf A_t_trainsTo A_t_trainAt x_t_trainMany x_t_leastTries x_t_firstTrained x_t_isKept, iA cI 16 A_t_rhymeOf (upd (upd w7 a1.toNatClampNeg (r3 - (97 : Int32))) (r3 - (97 : Int32)).toNatClampNeg a1), iA cB 260 A_t_tape v_t_tape]) C hK hP hD hS 1 rfl hi rfl dX12_readsRhyme_58 ?_
    intro H locs hP hD hS
    refine lv_iconst (v := 1) hx hb dX12_readsRhyme_59 (by decide) ?_
    obtain ⟨rfl, rfl, rfl, rfl⟩ := ev4 hf
    exact x_zret C hr hlk (Or.inr rfl) hP hD hS dX12_readsRhyme_60
  · have hf := if_t q hf
    refine lv_aload_n hx hb dX12_readsRhyme_7 rfl (lv_at hl 0 rfl) ?_
    refine lv_iconst (v := 1) hx hb dX12_readsRhyme_8 (by decide) ?_
    refine lv_aload_n hx hb dX12_readsRhyme_9 rfl (lv_at hl 0 rfl) ?_
    refine x_get C hK hP fd_X12_150 0 rfl rfl dX12_readsRhyme_10 ?_
    obtain ⟨r9, w10, hc11, hf⟩ := bd2_e hf
    refine x_callVI (ws' := [oX12 A_t A_t_now A_t_aside A_t_kept A_t_rhymeOf A_t_wasRhyme A_t_wordAt x_t_wordMany A_t_tape x_t_taped x_t_place0 x_t_length0 w10 x_t_number0 x_t_open x_t_codeMany x_t_waiting x_t_saidMany x_t_clauses A_t_said A_t_waitsAt A_t_saidLetter A_t_saidFrom A_t_saidHalf A_t_saidTo A_t_codes A_t_clauseOf A_t_codeFrom A_t_codeHalf A_t_codeTo A_t_stack A_t_facts x_t_lines A_t_newWords A_t_roundFrom A_t_roundAt A_t_roundTimes x_t_newMany x_t_rounds x_t_itFrom x_t_itTimes x_t_writtenNow x_t_picturesNow x_t_usedNow x_t_chosen x_t_fearOfChosen A_t_leastFrom A_t_rowNow x_t_changesNow x_t_left0 A_t_bornOf A_t_trainsTo A_t_trainAt x_t_trainMany x_t_leastTries x_t_firstTrained x_t_isKept, iA cI 16 A_t_rhymeOf v_t_rhymeOf, iA cB 260 A_t_tape v_t_tape]) (rest := []) C hK hP hD hS hA hl mf_X12_163 (c_X12_wrongAt hc11) [0] 0 12 rfl rfl rfl rfl rfl rfl rfl rfl rfl rfl (Nat.le_of_ble_eq_true rfl) ⟨Nat.le_of_ble_eq_true rfl, Nat.le_of_ble_eq_true rfl⟩ ⟨Nat.le_refl _, Nat.le_refl _⟩ dX12_readsRhyme_13 ?_
    intro H locs hP hD hS
    obtain ⟨hz, hf⟩ := zI_e hf
    obtain ⟨rfl, rfl, rfl, rfl⟩ := ev4 hf
    exact x_zret C hr hlk hz hP hD hS dX12_readsRhyme_16
def f_X12_readsWordLine_b152 (v_t_now : (Nat → Int32)) (v_t_rhymeOf : (Nat → Int32)) (x_t_fault : Int32) (x_t_number0 : Int32) (x_t_place0 : Int32) (s1 : Int32) (s2 : Int32) : Option (Int32 × (Nat → Int32) × (Nat → Int32) × Int32 × Int32 × Int32) :=
  sI 293 v_t_now s1 s2 (fun w1 =>
  some ((1 : Int32), w1, v_t_rhymeOf, x_t_fault, x_t_number0, x_t_place0))
def f_X12_readsWordLine_b148 (v_t_now : (Nat → Int32)) (v_t_rhymeOf : (Nat → Int32)) (x_t_fault : Int32) (x_t_number0 : Int32) (x_t_place0 : Int32) (s1 : Int32) (s2 : Int32) (s3 : Int32) : Option (Int32 × (Nat → Int32) × (Nat → Int32) × Int32 × Int32 × Int32) :=
  bd1 (f_X12_limit (s2 + s3)) (fun r1 =>
  f_X12_readsWordLine_b152 v_t_now v_t_rhymeOf x_t_fault x_t_number0 x_t_place0 s1 r1)
def f_X12_readsWordLine_b72 (v_t_tape : (Nat → Int32)) (x_t_length0 : Int32) (v_t_now : (Nat → Int32)) (v_t_rhymeOf : (Nat → Int32)) (x_t_fault : Int32) (x_t_number0 : Int32) (x_t_place0 : Int32) (l2 : Int32) (l3 : Int32) (l4 : Int32) : Option (Int32 × (Nat → Int32) × (Nat → Int32) × Int32 × Int32 × Int32) :=
  if l4 = (126 : Int32) then
    bd4 (f_X12_readsRhyme v_t_rhymeOf v_t_tape x_t_fault x_t_length0 (x_t_place0 + (1 : Int32)) l2) (fun r6 w7 w8 w9 =>
    zI r6 (some (r6, v_t_now, w7, w8, x_t_number0, w9)))
  else
    bd4 (f_X12_readsAmount v_t_tape x_t_fault x_t_length0 x_t_number0 (x_t_place0 + (1 : Int32))) (fun r1 w2 w3 w4 =>
    if r1 = 0 then
      some ((0 : Int32), v_t_now, v_t_rhymeOf, w2, w3, w4)
    else
      if l4 = (61 : Int32) then
        f_X12_readsWordLine_b152 v_t_now v_t_rhymeOf w2 w3 w4 l3 w3
      else
        gI 293 v_t_now l3 (fun g5 =>
        if l4 = (43 : Int32) then
          f_X12_readsWordLine_b148 v_t_now v_t_rhymeOf w2 w3 w4 l3 g5 w3
        else
          f_X12_readsWordLine_b148 v_t_now v_t_rhymeOf w2 w3 w4 l3 g5 (-w3)))
def f_X12_readsWordLine (v_t_now : (Nat → Int32)) (v_t_rhymeOf : (Nat → Int32)) (v_t_tape : (Nat → Int32)) (x_t_fault : Int32) (x_t_length0 : Int32) (x_t_number0 : Int32) (x_t_place0 : Int32) (a1 : Int32) : Option (Int32 × (Nat → Int32) × (Nat → Int32) × Int32 × Int32 × Int32) :=
  bd1 (f_X12_here v_t_tape x_t_length0 x_t_place0) (fun r10 =>
  bd1 (f_X12_here v_t_tape x_t_length0 (x_t_place0 + (1 : Int32))) (fun r11 =>
  if r11 = (61 : Int32) then
    f_X12_readsWordLine_b72 v_t_tape x_t_length0 v_t_now v_t_rhymeOf x_t_fault x_t_number0 (x_t_place0 + (1 : Int32)) (r10 - (97 : Int32)) (((32 : Int32) + ((16 : Int32) * a1)) + (r10 - (97 : Int32))) r11
  else
    if r11 = (43 : Int32) then
      f_X12_readsWordLine_b72 v_t_tape x_t_length0 v_t_now v_t_rhymeOf x_t_fault x_t_number0 (x_t_place0 + (1 : Int32)) (r10 - (97 : Int32)) (((32 : Int32) + ((16 : Int32) * a1)) + (r10 - (97 : Int32))) r11
    else
      if r11 = (45 : Int32) then
        f_X12_readsWordLine_b72 v_t_tape x_t_length0 v_t_now v_t_rhymeOf x_t_fault x_t_number0 (x_t_place0 + (1 : Int32)) (r10 - (97 : Int32)) (((32 : Int32) + ((16 : Int32) * a1)) + (r10 - (97 : Int32))) r11
      else
        if r11 = (126 : Int32) then
          f_X12_readsWordLine_b72 v_t_tape x_t_length0 v_t_now v_t_rhymeOf x_t_fault x_t_number0 (x_t_place0 + (1 : Int32)) (r10 - (97 : Int32)) (((32 : Int32) + ((16 : Int32) * a1)) + (r10 - (97 : Int32))) r11
        else
          bd2 (f_X12_wrongAt x_t_fault (1 : Int32) (x_t_place0 + (1 : Int32))) (fun r12 w13 =>
          zI r12 (some (r12, v_t_now, v_t_rhymeOf, w13, x_t_number0, (x_t_place0 + (1 : Int32)))))))
set_option maxHeartbeats 4000000 in
set_option maxRecDepth 100000 in
theorem c_X12_readsWordLine {l : Launch} {D : va_G} {cI cB : ClassId} {A_t A_t_now A_t_aside A_t_kept A_t_rhymeOf A_t_wasRhyme A_t_wordAt A_t_tape A_t_said A_t_waitsAt A_t_saidLetter A_t_saidFrom A_t_saidHalf A_t_saidTo A_t_codes A_t_clauseOf A_t_codeFrom A_t_codeHalf A_t_codeTo A_t_stack A_t_facts A_t_newWords A_t_roundFrom A_t_roundAt A_t_roundTimes A_t_leastFrom A_t_rowNow A_t_bornOf A_t_trainsTo A_t_trainAt : Nat} {x_t_wordMany x_t_taped x_t_place0 x_t_length0 x_t_fault x_t_number0 x_t_open x_t_codeMany x_t_waiting x_t_saidMany x_t_clauses x_t_lines x_t_newMany x_t_rounds x_t_itFrom x_t_itTimes x_t_writtenNow x_t_picturesNow x_t_usedNow x_t_chosen x_t_fearOfChosen x_t_changesNow x_t_left0 x_t_trainMany x_t_leastTries x_t_firstTrained x_t_isKept a1 : Int32} {v_t_now v_t_rhymeOf v_t_tape : Nat → Int32} {o_r o_x_t_fault o_x_t_number0 o_x_t_place0 : Int32} {o_v_t_now o_v_t_rhymeOf : Nat → Int32} (hf : f_X12_readsWordLine v_t_now v_t_rhymeOf v_t_tape x_t_fault x_t_length0 x_t_number0 x_t_place0 a1 = some (o_r, o_v_t_now, o_v_t_rhymeOf, o_x_t_fault, o_x_t_number0, o_x_t_place0)) : CtI l D cI cB yX12_readsWordLine cX12_readsWordLine 5 (some .boolean) 3 64 [.ref A_t, .int a1] [oX12 A_t A_t_now A_t_aside A_t_kept A_t_rhymeOf A_t_wasRhyme A_t_wordAt x_t_wordMany A_t_tape x_t_taped x_t_place0 x_t_length0 x_t_fault x_t_number0 x_t_open x_t_codeMany x_t_waiting x_t_saidMany x_t_clauses A_t_said A_t_waitsAt A_t_saidLetter A_t_saidFrom A_t_saidHalf A_t_saidTo A_t_codes A_t_clauseOf A_t_codeFrom A_t_codeHalf A_t_codeTo A_t_stack A_t_facts x_t_lines A_t_newWords A_t_roundFrom A_t_roundAt A_t_roundTimes x_t_newMany x_t_rounds x_t_itFrom x_t_itTimes x_t_writtenNow x_t_picturesNow x_t_usedNow x_t_chosen x_t_fearOfChosen A_t_leastFrom A_t_rowNow x_t_changesNow x_t_left0 A_t_bornOf A_t_trainsTo A_t_trainAt x_t_trainMany x_t_leastTries x_t_firstTrained x_t_isKept, iA cI 293 A_t_now v_t_now, iA cI 16 A_t_rhymeOf v_t_rhymeOf, iA cB 260 A_t_tape v_t_tape] [oX12 A_t A_t_now A_t_aside A_t_kept A_t_rhymeOf A_t_wasRhyme A_t_wordAt x_t_wordMany A_t_tape x_t_taped o_x_t_place0 x_t_length0 o_x_t_fault o_x_t_number0 x_t_open x_t_codeMany x_t_waiting x_t_saidMany x_t_clauses A_t_said A_t_waitsAt A_t_saidLetter A_t_saidFrom A_t_saidHalf A_t_saidTo A_t_codes A_t_clauseOf A_t_codeFrom A_t_codeHalf A_t_codeTo A_t_stack A_t_facts x_t_lines A_t_newWords A_t_roundFrom A_t_roundAt A_t_roundTimes x_t_newMany x_t_rounds x_t_itFrom x_t_itTimes x_t_writtenNow x_t_picturesNow x_t_usedNow x_t_chosen x_t_fearOfChosen A_t_leastFrom A_t_rowNow x_t_changesNow x_t_left0 A_t_bornOf A_t_trainsTo A_t_trainAt x_t_trainMany x_t_leastTries x_t_firstTrained x_t_isKept, iA cI 293 A_t_now o_v_t_now, iA cI 16 A_t_rhymeOf o_v_t_rhymeOf, iA cB 260 A_t_tape v_t_tape] o_r := by
  refine x_startI (by decide) (Nat.le_of_ble_eq_true rfl) ?_
  intro p e s m below meth c A C hr hlk hA hK hP hD hS ls hl
  have hl : lv_has ls 5 [(0, .ref A_t), (1, .int a1)] := hl
  have hx := C.1
  have hb := C.2.1
  unfold f_X12_readsWordLine at hf
  have hb_152 : ∀ (v_t_now : (Nat → Int32)) (v_t_rhymeOf : (Nat → Int32)) (x_t_fault : Int32) (x_t_number0 : Int32) (x_t_place0 : Int32) (s1 : Int32) (s2 : Int32) (H : Heap) (locs : List Loc) (ls : Array Slot), lv_has ls 5 [] → va_P D vwCl [oX12 A_t A_t_now A_t_aside A_t_kept A_t_rhymeOf A_t_wasRhyme A_t_wordAt x_t_wordMany A_t_tape x_t_taped x_t_place0 x_t_length0 x_t_fault x_t_number0 x_t_open x_t_codeMany x_t_waiting x_t_saidMany x_t_clauses A_t_said A_t_waitsAt A_t_saidLetter A_t_saidFrom A_t_saidHalf A_t_saidTo A_t_codes A_t_clauseOf A_t_codeFrom A_t_codeHalf A_t_codeTo A_t_stack A_t_facts x_t_lines A_t_newWords A_t_roundFrom A_t_roundAt A_t_roundTimes x_t_newMany x_t_rounds x_t_itFrom x_t_itTimes x_t_writtenNow x_t_picturesNow x_t_usedNow x_t_chosen x_t_fearOfChosen A_t_leastFrom A_t_rowNow x_t_changesNow x_t_left0 A_t_bornOf A_t_trainsTo A_t_trainAt x_t_trainMany x_t_leastTries x_t_firstTrained x_t_isKept, iA cI 293 A_t_now v_t_now, iA cI 16 A_t_rhymeOf v_t_rhymeOf, iA cB 260 A_t_tape v_t_tape] H → va_D A [oX12 A_t A_t_now A_t_aside A_t_kept A_t_rhymeOf A_t_wasRhyme A_t_wordAt x_t_wordMany A_t_tape x_t_taped x_t_place0 x_t_length0 x_t_fault x_t_number0 x_t_open x_t_codeMany x_t_waiting x_t_saidMany x_t_clauses A_t_said A_t_waitsAt A_t_saidLetter A_t_saidFrom A_t_saidHalf A_t_saidTo A_t_codes A_t_clauseOf A_t_codeFrom A_t_codeHalf A_t_codeTo A_t_stack A_t_facts x_t_lines A_t_newWords A_t_roundFrom A_t_roundAt A_t_roundTimes x_t_newMany x_t_rounds x_t_itFrom x_t_itTimes x_t_writtenNow x_t_picturesNow x_t_usedNow x_t_chosen x_t_fearOfChosen A_t_leastFrom A_t_rowNow x_t_changesNow x_t_left0 A_t_bornOf A_t_trainsTo A_t_trainAt x_t_trainMany x_t_leastTries x_t_firstTrained x_t_isKept, iA cI 293 A_t_now v_t_now, iA cI 16 A_t_rhymeOf v_t_rhymeOf, iA cB 260 A_t_tape v_t_tape] → va_S A s.heap H locs → f_X12_readsWordLine_b152 v_t_now v_t_rhymeOf x_t_fault x_t_number0 x_t_place0 s1 s2 = some (o_r, o_v_t_now, o_v_t_rhymeOf, o_x_t_fault, o_x_t_number0, o_x_t_place0) → W p l e { frames := 3, cells := 0, slots := 0, locals := 64 } s m ([.ref A_t, .int a1] : List Value).toArray below meth c H locs 0 0 (MQ below (PoI D A [oX12 A_t A_t_now A_t_aside A_t_kept A_t_rhymeOf A_t_wasRhyme A_t_wordAt x_t_wordMany A_t_tape x_t_taped o_x_t_place0 x_t_length0 o_x_t_fault o_x_t_number0 x_t_open x_t_codeMany x_t_waiting x_t_saidMany x_t_clauses A_t_said A_t_waitsAt A_t_saidLetter A_t_saidFrom A_t_saidHalf A_t_saidTo A_t_codes A_t_clauseOf A_t_codeFrom A_t_codeHalf A_t_codeTo A_t_stack A_t_facts x_t_lines A_t_newWords A_t_roundFrom A_t_roundAt A_t_roundTimes x_t_newMany x_t_rounds x_t_itFrom x_t_itTimes x_t_writtenNow x_t_picturesNow x_t_usedNow x_t_chosen x_t_fearOfChosen A_t_leastFrom A_t_rowNow x_t_changesNow x_t_left0 A_t_bornOf A_t_trainsTo A_t_trainAt x_t_trainMany x_t_leastTries x_t_firstTrained x_t_isKept, iA cI 293 A_t_now o_v_t_now, iA cI 16 A_t_rhymeOf o_v_t_rhymeOf, iA cB 260 A_t_tape v_t_tape] o_r) ([.ref A_t, .int a1] : List Value).toArray s 0 0 A) (F0 m 152 ls [.int s2, .int s1, .ref A_t_now]) := by
    intro v_t_now v_t_rhymeOf x_t_fault x_t_number0 x_t_place0 s1 s2 H locs ls hl hP hD hS hf
    unfold f_X12_readsWordLine_b152 at hf
    obtain ⟨hi, hf⟩ := sI_e hf
    refine x_iast (ws' := [oX12 A_t A_t_now A_t_aside A_t_kept A_t_rhymeOf A_t_wasRhyme A_t_wordAt x_t_wordMany A_t_tape x_t_taped x_t_place0 x_t_length0 x_t_fault x_t_number0 x_t_open x_t_codeMany x_t_waiting x_t_saidMany x_t_clauses A_t_said A_t_waitsAt A_t_saidLetter A_t_saidFrom A_t_saidHalf A_t_saidTo A_t_codes A_t_clauseOf A_t_codeFrom A_t_codeHalf A_t_codeTo A_t_stack A_t_facts x_t_lines A_t_newWords A_t_roundFrom A_t_roundAt A_t_roundTimes x_t_newMany x_t_rounds x_t_itFrom x_t_itTimes x_t_writtenNow x_t_picturesNow x_t_usedNow x_t_chosen x_t_fearOfChosen A_t_leastFrom A_t_rowNow x_t_changesNow x_t_left0 A_t_bornOf A_t_trainsTo A_t_trainAt x_t_trainMany x_t_leastTries x_t_firstTrained x_t_isKept, iA cI 293 A_t_now (upd v_t_now s1.toNatClampNeg s2), iA cI 16 A_t_rhymeOf v_t_rhymeOf, iA cB 260 A_t_tape v_t_tape]) C hK hP hD hS 1 rfl hi rfl dX12_readsWordLine_152 ?_
    intro H locs hP hD hS
    refine lv_iconst (v := 1) hx hb dX12_readsWordLine_153 (by decide) ?_
    obtain ⟨rfl, rfl, rfl, rfl, rfl, rfl⟩ := ev6 hf
    exact x_zret C hr hlk (Or.inr rfl) hP hD hS dX12_readsWordLine_154
  have hb_148 : ∀ (v_t_now : (Nat → Int32)) (v_t_rhymeOf : (Nat → Int32)) (x_t_fault : Int32) (x_t_number0 : Int32) (x_t_place0 : Int32) (s1 : Int32) (s2 : Int32) (s3 : Int32) (H : Heap) (locs : List Loc) (ls : Array Slot), lv_has ls 5 [] → va_P D vwCl [oX12 A_t A_t_now A_t_aside A_t_kept A_t_rhymeOf A_t_wasRhyme A_t_wordAt x_t_wordMany A_t_tape x_t_taped x_t_place0 x_t_length0 x_t_fault x_t_number0 x_t_open x_t_codeMany x_t_waiting x_t_saidMany x_t_clauses A_t_said A_t_waitsAt A_t_saidLetter A_t_saidFrom A_t_saidHalf A_t_saidTo A_t_codes A_t_clauseOf A_t_codeFrom A_t_codeHalf A_t_codeTo A_t_stack A_t_facts x_t_lines A_t_newWords A_t_roundFrom A_t_roundAt A_t_roundTimes x_t_newMany x_t_rounds x_t_itFrom x_t_itTimes x_t_writtenNow x_t_picturesNow x_t_usedNow x_t_chosen x_t_fearOfChosen A_t_leastFrom A_t_rowNow x_t_changesNow x_t_left0 A_t_bornOf A_t_trainsTo A_t_trainAt x_t_trainMany x_t_leastTries x_t_firstTrained x_t_isKept, iA cI 293 A_t_now v_t_now, iA cI 16 A_t_rhymeOf v_t_rhymeOf, iA cB 260 A_t_tape v_t_tape] H → va_D A [oX12 A_t A_t_now A_t_aside A_t_kept A_t_rhymeOf A_t_wasRhyme A_t_wordAt x_t_wordMany A_t_tape x_t_taped x_t_place0 x_t_length0 x_t_fault x_t_number0 x_t_open x_t_codeMany x_t_waiting x_t_saidMany x_t_clauses A_t_said A_t_waitsAt A_t_saidLetter A_t_saidFrom A_t_saidHalf A_t_saidTo A_t_codes A_t_clauseOf A_t_codeFrom A_t_codeHalf A_t_codeTo A_t_stack A_t_facts x_t_lines A_t_newWords A_t_roundFrom A_t_roundAt A_t_roundTimes x_t_newMany x_t_rounds x_t_itFrom x_t_itTimes x_t_writtenNow x_t_picturesNow x_t_usedNow x_t_chosen x_t_fearOfChosen A_t_leastFrom A_t_rowNow x_t_changesNow x_t_left0 A_t_bornOf A_t_trainsTo A_t_trainAt x_t_trainMany x_t_leastTries x_t_firstTrained x_t_isKept, iA cI 293 A_t_now v_t_now, iA cI 16 A_t_rhymeOf v_t_rhymeOf, iA cB 260 A_t_tape v_t_tape] → va_S A s.heap H locs → f_X12_readsWordLine_b148 v_t_now v_t_rhymeOf x_t_fault x_t_number0 x_t_place0 s1 s2 s3 = some (o_r, o_v_t_now, o_v_t_rhymeOf, o_x_t_fault, o_x_t_number0, o_x_t_place0) → W p l e { frames := 3, cells := 0, slots := 0, locals := 64 } s m ([.ref A_t, .int a1] : List Value).toArray below meth c H locs 0 0 (MQ below (PoI D A [oX12 A_t A_t_now A_t_aside A_t_kept A_t_rhymeOf A_t_wasRhyme A_t_wordAt x_t_wordMany A_t_tape x_t_taped o_x_t_place0 x_t_length0 o_x_t_fault o_x_t_number0 x_t_open x_t_codeMany x_t_waiting x_t_saidMany x_t_clauses A_t_said A_t_waitsAt A_t_saidLetter A_t_saidFrom A_t_saidHalf A_t_saidTo A_t_codes A_t_clauseOf A_t_codeFrom A_t_codeHalf A_t_codeTo A_t_stack A_t_facts x_t_lines A_t_newWords A_t_roundFrom A_t_roundAt A_t_roundTimes x_t_newMany x_t_rounds x_t_itFrom x_t_itTimes x_t_writtenNow x_t_picturesNow x_t_usedNow x_t_chosen x_t_fearOfChosen A_t_leastFrom A_t_rowNow x_t_changesNow x_t_left0 A_t_bornOf A_t_trainsTo A_t_trainAt x_t_trainMany x_t_leastTries x_t_firstTrained x_t_isKept, iA cI 293 A_t_now o_v_t_now, iA cI 16 A_t_rhymeOf o_v_t_rhymeOf, iA cB 260 A_t_tape v_t_tape] o_r) ([.ref A_t, .int a1] : List Value).toArray s 0 0 A) (F0 m 148 ls [.int s3, .int s2, .int s1, .ref A_t_now]) := by
    intro v_t_now v_t_rhymeOf x_t_fault x_t_number0 x_t_place0 s1 s2 s3 H locs ls hl hP hD hS hf
    unfold f_X12_readsWordLine_b148 at hf
    refine lv_iadd hx hb dX12_readsWordLine_148 ?_
    obtain ⟨r1, hc2, hf⟩ := bd1_e hf
    refine x_callSI (ws' := [oX12 A_t A_t_now A_t_aside A_t_kept A_t_rhymeOf A_t_wasRhyme A_t_wordAt x_t_wordMany A_t_tape x_t_taped x_t_place0 x_t_length0 x_t_fault x_t_number0 x_t_open x_t_codeMany x_t_waiting x_t_saidMany x_t_clauses A_t_said A_t_waitsAt A_t_saidLetter A_t_saidFrom A_t_saidHalf A_t_saidTo A_t_codes A_t_clauseOf A_t_codeFrom A_t_codeHalf A_t_codeTo A_t_stack A_t_facts x_t_lines A_t_newWords A_t_roundFrom A_t_roundAt A_t_roundTimes x_t_newMany x_t_rounds x_t_itFrom x_t_itTimes x_t_writtenNow x_t_picturesNow x_t_usedNow x_t_chosen x_t_fearOfChosen A_t_leastFrom A_t_rowNow x_t_changesNow x_t_left0 A_t_bornOf A_t_trainsTo A_t_trainAt x_t_trainMany x_t_leastTries x_t_firstTrained x_t_isKept, iA cI 293 A_t_now v_t_now, iA cI 16 A_t_rhymeOf v_t_rhymeOf, iA cB 260 A_t_tape v_t_tape]) (rest := [.int s1, .ref A_t_now]) C hK hP hD hS hA hl mf_X12_116 (c_X12_limit hc2) [] rfl rfl rfl rfl rfl rfl rfl rfl (Nat.le_of_ble_eq_true rfl) ⟨Nat.le_of_ble_eq_true rfl, Nat.le_of_ble_eq_true rfl⟩ ⟨Nat.le_refl _, Nat.le_refl _⟩ dX12_readsWordLine_149 ?_
    intro H locs hP hD hS
    exact hb_152 v_t_now v_t_rhymeOf x_t_fault x_t_number0 x_t_place0 s1 r1 _ _ ls (lv_sub hl [] rfl) hP hD hS hf
  have hb_72 : ∀ (v_t_now : (Nat → Int32)) (v_t_rhymeOf : (Nat → Int32)) (x_t_fault : Int32) (x_t_number0 : Int32) (x_t_place0 : Int32) (l2 : Int32) (l3 : Int32) (l4 : Int32) (H : Heap) (locs : List Loc) (ls : Array Slot), lv_has ls 5 [(0, .ref A_t), (2, .int l2), (3, .int l3), (4, .int l4)] → va_P D vwCl [oX12 A_t A_t_now A_t_aside A_t_kept A_t_rhymeOf A_t_wasRhyme A_t_wordAt x_t_wordMany A_t_tape x_t_taped x_t_place0 x_t_length0 x_t_fault x_t_number0 x_t_open x_t_codeMany x_t_waiting x_t_saidMany x_t_clauses A_t_said A_t_waitsAt A_t_saidLetter A_t_saidFrom A_t_saidHalf A_t_saidTo A_t_codes A_t_clauseOf A_t_codeFrom A_t_codeHalf A_t_codeTo A_t_stack A_t_facts x_t_lines A_t_newWords A_t_roundFrom A_t_roundAt A_t_roundTimes x_t_newMany x_t_rounds x_t_itFrom x_t_itTimes x_t_writtenNow x_t_picturesNow x_t_usedNow x_t_chosen x_t_fearOfChosen A_t_leastFrom A_t_rowNow x_t_changesNow x_t_left0 A_t_bornOf A_t_trainsTo A_t_trainAt x_t_trainMany x_t_leastTries x_t_firstTrained x_t_isKept, iA cI 293 A_t_now v_t_now, iA cI 16 A_t_rhymeOf v_t_rhymeOf, iA cB 260 A_t_tape v_t_tape] H → va_D A [oX12 A_t A_t_now A_t_aside A_t_kept A_t_rhymeOf A_t_wasRhyme A_t_wordAt x_t_wordMany A_t_tape x_t_taped x_t_place0 x_t_length0 x_t_fault x_t_number0 x_t_open x_t_codeMany x_t_waiting x_t_saidMany x_t_clauses A_t_said A_t_waitsAt A_t_saidLetter A_t_saidFrom A_t_saidHalf A_t_saidTo A_t_codes A_t_clauseOf A_t_codeFrom A_t_codeHalf A_t_codeTo A_t_stack A_t_facts x_t_lines A_t_newWords A_t_roundFrom A_t_roundAt A_t_roundTimes x_t_newMany x_t_rounds x_t_itFrom x_t_itTimes x_t_writtenNow x_t_picturesNow x_t_usedNow x_t_chosen x_t_fearOfChosen A_t_leastFrom A_t_rowNow x_t_changesNow x_t_left0 A_t_bornOf A_t_trainsTo A_t_trainAt x_t_trainMany x_t_leastTries x_t_firstTrained x_t_isKept, iA cI 293 A_t_now v_t_now, iA cI 16 A_t_rhymeOf v_t_rhymeOf, iA cB 260 A_t_tape v_t_tape] → va_S A s.heap H locs → f_X12_readsWordLine_b72 v_t_tape x_t_length0 v_t_now v_t_rhymeOf x_t_fault x_t_number0 x_t_place0 l2 l3 l4 = some (o_r, o_v_t_now, o_v_t_rhymeOf, o_x_t_fault, o_x_t_number0, o_x_t_place0) → W p l e { frames := 3, cells := 0, slots := 0, locals := 64 } s m ([.ref A_t, .int a1] : List Value).toArray below meth c H locs 0 0 (MQ below (PoI D A [oX12 A_t A_t_now A_t_aside A_t_kept A_t_rhymeOf A_t_wasRhyme A_t_wordAt x_t_wordMany A_t_tape x_t_taped o_x_t_place0 x_t_length0 o_x_t_fault o_x_t_number0 x_t_open x_t_codeMany x_t_waiting x_t_saidMany x_t_clauses A_t_said A_t_waitsAt A_t_saidLetter A_t_saidFrom A_t_saidHalf A_t_saidTo A_t_codes A_t_clauseOf A_t_codeFrom A_t_codeHalf A_t_codeTo A_t_stack A_t_facts x_t_lines A_t_newWords A_t_roundFrom A_t_roundAt A_t_roundTimes x_t_newMany x_t_rounds x_t_itFrom x_t_itTimes x_t_writtenNow x_t_picturesNow x_t_usedNow x_t_chosen x_t_fearOfChosen A_t_leastFrom A_t_rowNow x_t_changesNow x_t_left0 A_t_bornOf A_t_trainsTo A_t_trainAt x_t_trainMany x_t_leastTries x_t_firstTrained x_t_isKept, iA cI 293 A_t_now o_v_t_now, iA cI 16 A_t_rhymeOf o_v_t_rhymeOf, iA cB 260 A_t_tape v_t_tape] o_r) ([.ref A_t, .int a1] : List Value).toArray s 0 0 A) (F0 m 72 ls []) := by
    intro v_t_now v_t_rhymeOf x_t_fault x_t_number0 x_t_place0 l2 l3 l4 H locs ls hl hP hD hS hf
    unfold f_X12_readsWordLine_b72 at hf
    refine lv_aload_n hx hb dX12_readsWordLine_72 rfl (lv_at hl 0 rfl) ?_
    refine lv_aload_n hx hb dX12_readsWordLine_73 rfl (lv_at hl 0 rfl) ?_
    refine x_get C hK hP fd_X12_150 0 rfl rfl dX12_readsWordLine_74 ?_
    refine lv_iconst (v := 1) hx hb dX12_readsWordLine_77 (by decide) ?_
    refine lv_iadd hx hb dX12_readsWordLine_78 ?_
    refine x_put (ws' := [oX12 A_t A_t_now A_t_aside A_t_kept A_t_rhymeOf A_t_wasRhyme A_t_wordAt x_t_wordMany A_t_tape x_t_taped (x_t_place0 + (1 : Int32)) x_t_length0 x_t_fault x_t_number0 x_t_open x_t_codeMany x_t_waiting x_t_saidMany x_t_clauses A_t_said A_t_waitsAt A_t_saidLetter A_t_saidFrom A_t_saidHalf A_t_saidTo A_t_codes A_t_clauseOf A_t_codeFrom A_t_codeHalf A_t_codeTo A_t_stack A_t_facts x_t_lines A_t_newWords A_t_roundFrom A_t_roundAt A_t_roundTimes x_t_newMany x_t_rounds x_t_itFrom x_t_itTimes x_t_writtenNow x_t_picturesNow x_t_usedNow x_t_chosen x_t_fearOfChosen A_t_leastFrom A_t_rowNow x_t_changesNow x_t_left0 A_t_bornOf A_t_trainsTo A_t_trainAt x_t_trainMany x_t_leastTries x_t_firstTrained x_t_isKept, iA cI 293 A_t_now v_t_now, iA cI 16 A_t_rhymeOf v_t_rhymeOf, iA cB 260 A_t_tape v_t_tape]) C hK hP hD hS fp_X12_150 0 rfl rfl rfl (Nat.le_of_ble_eq_true rfl) rfl dX12_readsWordLine_79 ?_
    intro H locs hP hD hS
    refine lv_iload hx hb dX12_readsWordLine_82 (lv_at hl 3 rfl) ?_
    refine lv_bipush (v := 126) hx hb dX12_readsWordLine_84 (by decide) ?_
    refine lv_icmp_ne (tgt := 95) hx hb dX12_readsWordLine_86 (by decide) (fun q => ?_) (fun q => ?_)
    · have hf := if_f q hf
      refine lv_aload_n hx hb dX12_readsWordLine_95 rfl (lv_at hl 0 rfl) ?_
      obtain ⟨r3, w4, w5, w6, hc7, hf⟩ := bd4_e hf
      refine x_callVI (ws' := [oX12 A_t A_t_now A_t_aside A_t_kept A_t_rhymeOf A_t_wasRhyme A_t_wordAt x_t_wordMany A_t_tape x_t_taped w6 x_t_length0 w4 w5 x_t_open x_t_codeMany x_t_waiting x_t_saidMany x_t_clauses A_t_said A_t_waitsAt A_t_saidLetter A_t_saidFrom A_t_saidHalf A_t_saidTo A_t_codes A_t_clauseOf A_t_codeFrom A_t_codeHalf A_t_codeTo A_t_stack A_t_facts x_t_lines A_t_newWords A_t_roundFrom A_t_roundAt A_t_roundTimes x_t_newMany x_t_rounds x_t_itFrom x_t_itTimes x_t_writtenNow x_t_picturesNow x_t_usedNow x_t_chosen x_t_fearOfChosen A_t_leastFrom A_t_rowNow x_t_changesNow x_t_left0 A_t_bornOf A_t_trainsTo A_t_trainAt x_t_trainMany x_t_leastTries x_t_firstTrained x_t_isKept, iA cI 293 A_t_now v_t_now, iA cI 16 A_t_rhymeOf v_t_rhymeOf, iA cB 260 A_t_tape v_t_tape]) (rest := []) C hK hP hD hS hA hl mf_X12_260 (c_X12_readsAmount hc7) [0, 3] 0 12 rfl rfl rfl rfl rfl rfl rfl rfl rfl rfl (Nat.le_of_ble_eq_true rfl) ⟨Nat.le_of_ble_eq_true rfl, Nat.le_of_ble_eq_true rfl⟩ ⟨Nat.le_refl _, Nat.le_refl _⟩ dX12_readsWordLine_96 ?_
      intro H locs hP hD hS
      refine lv_if_ne (tgt := 104) hx hb dX12_readsWordLine_99 (by decide) (fun q => ?_) (fun q => ?_)
      · have hf := if_f q hf
        refine lv_aload_n hx hb dX12_readsWordLine_104 rfl (lv_at hl 0 rfl) ?_
        refine x_get C hK hP fd_X12_7 0 rfl rfl dX12_readsWordLine_105 ?_
        refine lv_iload_n hx hb dX12_readsWordLine_108 rfl (lv_at hl 2 rfl) ?_
        refine lv_iload hx hb dX12_readsWordLine_109 (lv_at hl 3 rfl) ?_
        refine lv_bipush (v := 61) hx hb dX12_readsWordLine_111 (by decide) ?_
        refine lv_icmp_ne (tgt := 123) hx hb dX12_readsWordLine_113 (by decide) (fun q => ?_) (fun q => ?_)
        · have hf := if_f q hf
          refine lv_aload_n hx hb dX12_readsWordLine_123 rfl (lv_at hl 0 rfl) ?_
          refine x_get C hK hP fd_X12_7 0 rfl rfl dX12_readsWordLine_124 ?_
          refine lv_iload_n hx hb dX12_readsWordLine_127 rfl (lv_at hl 2 rfl) ?_
          obtain ⟨hi, hf⟩ := gI_e hf
          refine x_iald C hK hP 1 rfl hi dX12_readsWordLine_128 ?_
          refine lv_iload hx hb dX12_readsWordLine_129 (lv_at hl 3 rfl) ?_
          refine lv_bipush (v := 43) hx hb dX12_readsWordLine_131 (by decide) ?_
          refine lv_icmp_ne (tgt := 143) hx hb dX12_readsWordLine_133 (by decide) (fun q => ?_) (fun q => ?_)
          · have hf := if_f q hf
            refine lv_aload_n hx hb dX12_readsWordLine_143 rfl (lv_at hl 0 rfl) ?_
            refine x_get C hK hP fd_X12_166 0 rfl rfl dX12_readsWordLine_144 ?_
            refine lv_ineg hx hb dX12_readsWordLine_147 ?_
            exact hb_148 v_t_now v_t_rhymeOf w4 w5 w6 l3 (v_t_now l3.toNatClampNeg) (-w5) _ _ ls (lv_sub hl [] rfl) hP hD hS hf
          · have hf := if_t q hf
            refine lv_aload_n hx hb dX12_readsWordLine_136 rfl (lv_at hl 0 rfl) ?_
            refine x_get C hK hP fd_X12_166 0 rfl rfl dX12_readsWordLine_137 ?_
            refine lv_goto (tgt := 148) hx hb dX12_readsWordLine_140 (by decide) ?_
            exact hb_148 v_t_now v_t_rhymeOf w4 w5 w6 l3 (v_t_now l3.toNatClampNeg) w5 _ _ ls (lv_sub hl [] rfl) hP hD hS hf
        · have hf := if_t q hf
          refine lv_aload_n hx hb dX12_readsWordLine_116 rfl (lv_at hl 0 rfl) ?_
          refine x_get C hK hP fd_X12_166 0 rfl rfl dX12_readsWordLine_117 ?_
          refine lv_goto (tgt := 152) hx hb dX12_readsWordLine_120 (by decide) ?_
          exact hb_152 v_t_now v_t_rhymeOf w4 w5 w6 l3 w5 _ _ ls (lv_sub hl [] rfl) hP hD hS hf
      · have hf := if_t q hf
        refine lv_iconst (v := 0) hx hb dX12_readsWordLine_102 (by decide) ?_
        obtain ⟨rfl, rfl, rfl, rfl, rfl, rfl⟩ := ev6 hf
        exact x_zret C hr hlk (Or.inl rfl) hP hD hS dX12_readsWordLine_103
    · have hf := if_t q hf
      refine lv_aload_n hx hb dX12_readsWordLine_89 rfl (lv_at hl 0 rfl) ?_
      refine lv_iload_n hx hb dX12_readsWordLine_90 rfl (lv_at hl 1 rfl) ?_
      obtain ⟨r8, w9, w10, w11, hc12, hf⟩ := bd4_e hf
      refine x_callVI (ws' := [oX12 A_t A_t_now A_t_aside A_t_kept A_t_rhymeOf A_t_wasRhyme A_t_wordAt x_t_wordMany A_t_tape x_t_taped w11 x_t_length0 w10 x_t_number0 x_t_open x_t_codeMany x_t_waiting x_t_saidMany x_t_clauses A_t_said A_t_waitsAt A_t_saidLetter A_t_saidFrom A_t_saidHalf A_t_saidTo A_t_codes A_t_clauseOf A_t_codeFrom A_t_codeHalf A_t_codeTo A_t_stack A_t_facts x_t_lines A_t_newWords A_t_roundFrom A_t_roundAt A_t_roundTimes x_t_newMany x_t_rounds x_t_itFrom x_t_itTimes x_t_writtenNow x_t_picturesNow x_t_usedNow x_t_chosen x_t_fearOfChosen A_t_leastFrom A_t_rowNow x_t_changesNow x_t_left0 A_t_bornOf A_t_trainsTo A_t_trainAt x_t_trainMany x_t_leastTries x_t_firstTrained x_t_isKept, iA cI 293 A_t_now v_t_now, iA cI 16 A_t_rhymeOf w9, iA cB 260 A_t_tape v_t_tape]) (rest := []) C hK hP hD hS hA hl mf_X12_257 (c_X12_readsRhyme hc12) [0, 2, 3] 0 12 rfl rfl rfl rfl rfl rfl rfl rfl rfl rfl (Nat.le_of_ble_eq_true rfl) ⟨Nat.le_of_ble_eq_true rfl, Nat.le_of_ble_eq_true rfl⟩ ⟨Nat.le_refl _, Nat.le_refl _⟩ dX12_readsWordLine_91 ?_
      intro H locs hP hD hS
      obtain ⟨hz, hf⟩ := zI_e hf
      obtain ⟨rfl, rfl, rfl, rfl, rfl, rfl⟩ := ev6 hf
      exact x_zret C hr hlk hz hP hD hS dX12_readsWordLine_94
  refine lv_aload_n hx hb dX12_readsWordLine_0 rfl (lv_at hl 0 rfl) ?_
  obtain ⟨r13, hc14, hf⟩ := bd1_e hf
  refine x_callVI (ws' := [oX12 A_t A_t_now A_t_aside A_t_kept A_t_rhymeOf A_t_wasRhyme A_t_wordAt x_t_wordMany A_t_tape x_t_taped x_t_place0 x_t_length0 x_t_fault x_t_number0 x_t_open x_t_codeMany x_t_waiting x_t_saidMany x_t_clauses A_t_said A_t_waitsAt A_t_saidLetter A_t_saidFrom A_t_saidHalf A_t_saidTo A_t_codes A_t_clauseOf A_t_codeFrom A_t_codeHalf A_t_codeTo A_t_stack A_t_facts x_t_lines A_t_newWords A_t_roundFrom A_t_roundAt A_t_roundTimes x_t_newMany x_t_rounds x_t_itFrom x_t_itTimes x_t_writtenNow x_t_picturesNow x_t_usedNow x_t_chosen x_t_fearOfChosen A_t_leastFrom A_t_rowNow x_t_changesNow x_t_left0 A_t_bornOf A_t_trainsTo A_t_trainAt x_t_trainMany x_t_leastTries x_t_firstTrained x_t_isKept, iA cI 293 A_t_now v_t_now, iA cI 16 A_t_rhymeOf v_t_rhymeOf, iA cB 260 A_t_tape v_t_tape]) (rest := []) C hK hP hD hS hA hl mf_X12_156 (c_X12_here hc14) [0, 3] 0 12 rfl rfl rfl rfl rfl rfl rfl rfl rfl rfl (Nat.le_of_ble_eq_true rfl) ⟨Nat.le_of_ble_eq_true rfl, Nat.le_of_ble_eq_true rfl⟩ ⟨Nat.le_refl _, Nat.le_refl _⟩ dX12_readsWordLine_1 ?_
  intro H locs hP hD hS
  refine lv_bipush (v := 97) hx hb dX12_readsWordLine_4 (by decide) ?_
  refine lv_isub hx hb dX12_readsWordLine_6 ?_
  refine lv_istore_n (lv' := [(2, .int (r13 - (97 : Int32))), (0, .ref A_t), (1, .int a1)]) hx hb dX12_readsWordLine_7 rfl hl (by decide) rfl (fun ls hl => ?_)
  refine lv_bipush (v := 32) hx hb dX12_readsWordLine_8 (by decide) ?_
  refine lv_bipush (v := 16) hx hb dX12_readsWordLine_10 (by decide) ?_
  refine lv_iload_n hx hb dX12_readsWordLine_12 rfl (lv_at hl 2 rfl) ?_
  refine lv_imul hx hb dX12_readsWordLine_13 ?_
  refine lv_iadd hx hb dX12_readsWordLine_14 ?_
  refine lv_iload_n hx hb dX12_readsWordLine_15 rfl (lv_at hl 0 rfl) ?_
  refine lv_iadd hx hb dX12_readsWordLine_16 ?_
  refine lv_istore_n (lv' := [(3, .int (((32 : Int32) + ((16 : Int32) * a1)) + (r13 - (97 : Int32)))), (2, .int (r13 - (97 : Int32))), (0, .ref A_t), (1, .int a1)]) hx hb dX12_readsWordLine_17 rfl hl (by decide) rfl (fun ls hl => ?_)
  refine lv_aload_n hx hb dX12_readsWordLine_18 rfl (lv_at hl 2 rfl) ?_
  refine lv_aload_n hx hb dX12_readsWordLine_19 rfl (lv_at hl 2 rfl) ?_
  refine x_get C hK hP fd_X12_150 0 rfl rfl dX12_readsWordLine_20 ?_
  refine lv_iconst (v := 1) hx hb dX12_readsWordLine_23 (by decide) ?_
  refine lv_iadd hx hb dX12_readsWordLine_24 ?_
  refine x_put (ws' := [oX12 A_t A_t_now A_t_aside A_t_kept A_t_rhymeOf A_t_wasRhyme A_t_wordAt x_t_wordMany A_t_tape x_t_taped (x_t_place0 + (1 : Int32)) x_t_length0 x_t_fault x_t_number0 x_t_open x_t_codeMany x_t_waiting x_t_saidMany x_t_clauses A_t_said A_t_waitsAt A_t_saidLetter A_t_saidFrom A_t_saidHalf A_t_saidTo A_t_codes A_t_clauseOf A_t_codeFrom A_t_codeHalf A_t_codeTo A_t_stack A_t_facts x_t_lines A_t_newWords A_t_roundFrom A_t_roundAt A_t_roundTimes x_t_newMany x_t_rounds x_t_itFrom x_t_itTimes x_t_writtenNow x_t_picturesNow x_t_usedNow x_t_chosen x_t_fearOfChosen A_t_leastFrom A_t_rowNow x_t_changesNow x_t_left0 A_t_bornOf A_t_trainsTo A_t_trainAt x_t_trainMany x_t_leastTries x_t_firstTrained x_t_isKept, iA cI 293 A_t_now v_t_now, iA cI 16 A_t_rhymeOf v_t_rhymeOf, iA cB 260 A_t_tape v_t_tape]) C hK hP hD hS fp_X12_150 0 rfl rfl rfl (Nat.le_of_ble_eq_true rfl) rfl dX12_readsWordLine_25 ?_
  intro H locs hP hD hS
  refine lv_aload_n hx hb dX12_readsWordLine_28 rfl (lv_at hl 2 rfl) ?_
  obtain ⟨r15, hc16, hf⟩ := bd1_e hf
  refine x_callVI (ws' := [oX12 A_t A_t_now A_t_aside A_t_kept A_t_rhymeOf A_t_wasRhyme A_t_wordAt x_t_wordMany A_t_tape x_t_taped (x_t_place0 + (1 : Int32)) x_t_length0 x_t_fault x_t_number0 x_t_open x_t_codeMany x_t_waiting x_t_saidMany x_t_clauses A_t_said A_t_waitsAt A_t_saidLetter A_t_saidFrom A_t_saidHalf A_t_saidTo A_t_codes A_t_clauseOf A_t_codeFrom A_t_codeHalf A_t_codeTo A_t_stack A_t_facts x_t_lines A_t_newWords A_t_roundFrom A_t_roundAt A_t_roundTimes x_t_newMany x_t_rounds x_t_itFrom x_t_itTimes x_t_writtenNow x_t_picturesNow x_t_usedNow x_t_chosen x_t_fearOfChosen A_t_leastFrom A_t_rowNow x_t_changesNow x_t_left0 A_t_bornOf A_t_trainsTo A_t_trainAt x_t_trainMany x_t_leastTries x_t_firstTrained x_t_isKept, iA cI 293 A_t_now v_t_now, iA cI 16 A_t_rhymeOf v_t_rhymeOf, iA cB 260 A_t_tape v_t_tape]) (rest := []) C hK hP hD hS hA hl mf_X12_156 (c_X12_here hc16) [0, 3] 0 12 rfl rfl rfl rfl rfl rfl rfl rfl rfl rfl (Nat.le_of_ble_eq_true rfl) ⟨Nat.le_of_ble_eq_true rfl, Nat.le_of_ble_eq_true rfl⟩ ⟨Nat.le_refl _, Nat.le_refl _⟩ dX12_readsWordLine_29 ?_
  intro H locs hP hD hS
  refine lv_istore (lv' := [(4, .int r15), (3, .int (((32 : Int32) + ((16 : Int32) * a1)) + (r13 - (97 : Int32)))), (2, .int (r13 - (97 : Int32))), (0, .ref A_t), (1, .int a1)]) hx hb dX12_readsWordLine_32 hl (by decide) rfl (fun ls hl => ?_)
  refine lv_iload hx hb dX12_readsWordLine_34 (lv_at hl 0 rfl) ?_
  refine lv_bipush (v := 61) hx hb dX12_readsWordLine_36 (by decide) ?_
  refine lv_icmp_eq (tgt := 72) hx hb dX12_readsWordLine_38 (by decide) (fun q => ?_) (fun q => ?_)
  · have hf := if_t q hf
    exact hb_72 v_t_now v_t_rhymeOf x_t_fault x_t_number0 (x_t_place0 + (1 : Int32)) (r13 - (97 : Int32)) (((32 : Int32) + ((16 : Int32) * a1)) + (r13 - (97 : Int32))) r15 _ _ ls (lv_sub hl [3, 2, 1, 0] rfl) hP hD hS hf
  · have hf := if_f q hf
    refine lv_iload hx hb dX12_readsWordLine_41 (lv_at hl 0 rfl) ?_
    refine lv_bipush (v := 43) hx hb dX12_readsWordLine_43 (by decide) ?_
    refine lv_icmp_eq (tgt := 72) hx hb dX12_readsWordLine_45 (by decide) (fun q => ?_) (fun q => ?_)
    · have hf := if_t q hf
      exact hb_72 v_t_now v_t_rhymeOf x_t_fault x_t_number0 (x_t_place0 + (1 : Int32)) (r13 - (97 : Int32)) (((32 : Int32) + ((16 : Int32) * a1)) + (r13 - (97 : Int32))) r15 _ _ ls (lv_sub hl [3, 2, 1, 0] rfl) hP hD hS hf
    · have hf := if_f q hf
      refine lv_iload hx hb dX12_readsWordLine_48 (lv_at hl 0 rfl) ?_
      refine lv_bipush (v := 45) hx hb dX12_readsWordLine_50 (by decide) ?_
      refine lv_icmp_eq (tgt := 72) hx hb dX12_readsWordLine_52 (by decide) (fun q => ?_) (fun q => ?_)
      · have hf := if_t q hf
        exact hb_72 v_t_now v_t_rhymeOf x_t_fault x_t_number0 (x_t_place0 + (1 : Int32)) (r13 - (97 : Int32)) (((32 : Int32) + ((16 : Int32) * a1)) + (r13 - (97 : Int32))) r15 _ _ ls (lv_sub hl [3, 2, 1, 0] rfl) hP hD hS hf
      · have hf := if_f q hf
        refine lv_iload hx hb dX12_readsWordLine_55 (lv_at hl 0 rfl) ?_
        refine lv_bipush (v := 126) hx hb dX12_readsWordLine_57 (by decide) ?_
        refine lv_icmp_eq (tgt := 72) hx hb dX12_readsWordLine_59 (by decide) (fun q => ?_) (fun q => ?_)
        · have hf := if_t q hf
          exact hb_72 v_t_now v_t_rhymeOf x_t_fault x_t_number0 (x_t_place0 + (1 : Int32)) (r13 - (97 : Int32)) (((32 : Int32) + ((16 : Int32) * a1)) + (r13 - (97 : Int32))) r15 _ _ ls (lv_sub hl [3, 2, 1, 0] rfl) hP hD hS hf
        · have hf := if_f q hf
          refine lv_aload_n hx hb dX12_readsWordLine_62 rfl (lv_at hl 3 rfl) ?_
          refine lv_iconst (v := 1) hx hb dX12_readsWordLine_63 (by decide) ?_
          refine lv_aload_n hx hb dX12_readsWordLine_64 rfl (lv_at hl 3 rfl) ?_
          refine x_get C hK hP fd_X12_150 0 rfl rfl dX12_readsWordLine_65 ?_
          obtain ⟨r17, w18, hc19, hf⟩ := bd2_e hf
          refine x_callVI (ws' := [oX12 A_t A_t_now A_t_aside A_t_kept A_t_rhymeOf A_t_wasRhyme A_t_wordAt x_t_wordMany A_t_tape x_t_taped (x_t_place0 + (1 : Int32)) x_t_length0 w18 x_t_number0 x_t_open x_t_codeMany x_t_waiting x_t_saidMany x_t_clauses A_t_said A_t_waitsAt A_t_saidLetter A_t_saidFrom A_t_saidHalf A_t_saidTo A_t_codes A_t_clauseOf A_t_codeFrom A_t_codeHalf A_t_codeTo A_t_stack A_t_facts x_t_lines A_t_newWords A_t_roundFrom A_t_roundAt A_t_roundTimes x_t_newMany x_t_rounds x_t_itFrom x_t_itTimes x_t_writtenNow x_t_picturesNow x_t_usedNow x_t_chosen x_t_fearOfChosen A_t_leastFrom A_t_rowNow x_t_changesNow x_t_left0 A_t_bornOf A_t_trainsTo A_t_trainAt x_t_trainMany x_t_leastTries x_t_firstTrained x_t_isKept, iA cI 293 A_t_now v_t_now, iA cI 16 A_t_rhymeOf v_t_rhymeOf, iA cB 260 A_t_tape v_t_tape]) (rest := []) C hK hP hD hS hA hl mf_X12_163 (c_X12_wrongAt hc19) [0] 0 12 rfl rfl rfl rfl rfl rfl rfl rfl rfl rfl (Nat.le_of_ble_eq_true rfl) ⟨Nat.le_of_ble_eq_true rfl, Nat.le_of_ble_eq_true rfl⟩ ⟨Nat.le_refl _, Nat.le_refl _⟩ dX12_readsWordLine_68 ?_
          intro H locs hP hD hS
          obtain ⟨hz, hf⟩ := zI_e hf
          obtain ⟨rfl, rfl, rfl, rfl, rfl, rfl⟩ := ev6 hf
          exact x_zret C hr hlk hz hP hD hS dX12_readsWordLine_71
def f_X12_readsKind (v_t_now : (Nat → Int32)) (v_t_tape : (Nat → Int32)) (x_t_fault : Int32) (x_t_length0 : Int32) (x_t_place0 : Int32) (a1 : Int32) : Option (Int32 × (Nat → Int32) × Int32 × Int32) :=
  bd1 (f_X12_here v_t_tape x_t_length0 x_t_place0) (fun r1 =>
  bd1 (f_X12_in r1 (48 : Int32) (52 : Int32)) (fun r2 =>
  if r2 = 0 then
    bd2 (f_X12_wrongAt x_t_fault (1 : Int32) x_t_place0) (fun r5 w6 =>
    zI r5 (some (r5, v_t_now, w6, x_t_place0)))
  else
    bd1 (f_X12_here v_t_tape x_t_length0 x_t_place0) (fun r3 =>
    sI 293 v_t_now ((8 : Int32) + a1) (r3 - (48 : Int32)) (fun w4 =>
    some ((1 : Int32), w4, x_t_fault, (x_t_place0 + (1 : Int32)))))))
set_option maxHeartbeats 4000000 in
set_option maxRecDepth 100000 in
theorem c_X12_readsKind {l : Launch} {D : va_G} {cI cB : ClassId} {A_t A_t_now A_t_aside A_t_kept A_t_rhymeOf A_t_wasRhyme A_t_wordAt A_t_tape A_t_said A_t_waitsAt A_t_saidLetter A_t_saidFrom A_t_saidHalf A_t_saidTo A_t_codes A_t_clauseOf A_t_codeFrom A_t_codeHalf A_t_codeTo A_t_stack A_t_facts A_t_newWords A_t_roundFrom A_t_roundAt A_t_roundTimes A_t_leastFrom A_t_rowNow A_t_bornOf A_t_trainsTo A_t_trainAt : Nat} {x_t_wordMany x_t_taped x_t_place0 x_t_length0 x_t_fault x_t_number0 x_t_open x_t_codeMany x_t_waiting x_t_saidMany x_t_clauses x_t_lines x_t_newMany x_t_rounds x_t_itFrom x_t_itTimes x_t_writtenNow x_t_picturesNow x_t_usedNow x_t_chosen x_t_fearOfChosen x_t_changesNow x_t_left0 x_t_trainMany x_t_leastTries x_t_firstTrained x_t_isKept a1 : Int32} {v_t_now v_t_tape : Nat → Int32} {o_r o_x_t_fault o_x_t_place0 : Int32} {o_v_t_now : Nat → Int32} (hf : f_X12_readsKind v_t_now v_t_tape x_t_fault x_t_length0 x_t_place0 a1 = some (o_r, o_v_t_now, o_x_t_fault, o_x_t_place0)) : CtI l D cI cB yX12_readsKind cX12_readsKind 2 (some .boolean) 1 22 [.ref A_t, .int a1] [oX12 A_t A_t_now A_t_aside A_t_kept A_t_rhymeOf A_t_wasRhyme A_t_wordAt x_t_wordMany A_t_tape x_t_taped x_t_place0 x_t_length0 x_t_fault x_t_number0 x_t_open x_t_codeMany x_t_waiting x_t_saidMany x_t_clauses A_t_said A_t_waitsAt A_t_saidLetter A_t_saidFrom A_t_saidHalf A_t_saidTo A_t_codes A_t_clauseOf A_t_codeFrom A_t_codeHalf A_t_codeTo A_t_stack A_t_facts x_t_lines A_t_newWords A_t_roundFrom A_t_roundAt A_t_roundTimes x_t_newMany x_t_rounds x_t_itFrom x_t_itTimes x_t_writtenNow x_t_picturesNow x_t_usedNow x_t_chosen x_t_fearOfChosen A_t_leastFrom A_t_rowNow x_t_changesNow x_t_left0 A_t_bornOf A_t_trainsTo A_t_trainAt x_t_trainMany x_t_leastTries x_t_firstTrained x_t_isKept, iA cI 293 A_t_now v_t_now, iA cB 260 A_t_tape v_t_tape] [oX12 A_t A_t_now A_t_aside A_t_kept A_t_rhymeOf A_t_wasRhyme A_t_wordAt x_t_wordMany A_t_tape x_t_taped o_x_t_place0 x_t_length0 o_x_t_fault x_t_number0 x_t_open x_t_codeMany x_t_waiting x_t_saidMany x_t_clauses A_t_said A_t_waitsAt A_t_saidLetter A_t_saidFrom A_t_saidHalf A_t_saidTo A_t_codes A_t_clauseOf A_t_codeFrom A_t_codeHalf A_t_codeTo A_t_stack A_t_facts x_t_lines A_t_newWords A_t_roundFrom A_t_roundAt A_t_roundTimes x_t_newMany x_t_rounds x_t_itFrom x_t_itTimes x_t_writtenNow x_t_picturesNow x_t_usedNow x_t_chosen x_t_fearOfChosen A_t_leastFrom A_t_rowNow x_t_changesNow x_t_left0 A_t_bornOf A_t_trainsTo A_t_trainAt x_t_trainMany x_t_leastTries x_t_firstTrained x_t_isKept, iA cI 293 A_t_now o_v_t_now, iA cB 260 A_t_tape v_t_tape] o_r := by
  refine x_startI (by decide) (Nat.le_of_ble_eq_true rfl) ?_
  intro p e s m below meth c A C hr hlk hA hK hP hD hS ls hl
  have hl : lv_has ls 2 [(0, .ref A_t), (1, .int a1)] := hl
  have hx := C.1
  have hb := C.2.1
  unfold f_X12_readsKind at hf
  refine lv_aload_n hx hb dX12_readsKind_0 rfl (lv_at hl 0 rfl) ?_
  obtain ⟨r1, hc2, hf⟩ := bd1_e hf
  refine x_callVI (ws' := [oX12 A_t A_t_now A_t_aside A_t_kept A_t_rhymeOf A_t_wasRhyme A_t_wordAt x_t_wordMany A_t_tape x_t_taped x_t_place0 x_t_length0 x_t_fault x_t_number0 x_t_open x_t_codeMany x_t_waiting x_t_saidMany x_t_clauses A_t_said A_t_waitsAt A_t_saidLetter A_t_saidFrom A_t_saidHalf A_t_saidTo A_t_codes A_t_clauseOf A_t_codeFrom A_t_codeHalf A_t_codeTo A_t_stack A_t_facts x_t_lines A_t_newWords A_t_roundFrom A_t_roundAt A_t_roundTimes x_t_newMany x_t_rounds x_t_itFrom x_t_itTimes x_t_writtenNow x_t_picturesNow x_t_usedNow x_t_chosen x_t_fearOfChosen A_t_leastFrom A_t_rowNow x_t_changesNow x_t_left0 A_t_bornOf A_t_trainsTo A_t_trainAt x_t_trainMany x_t_leastTries x_t_firstTrained x_t_isKept, iA cI 293 A_t_now v_t_now, iA cB 260 A_t_tape v_t_tape]) (rest := []) C hK hP hD hS hA hl mf_X12_156 (c_X12_here hc2) [0, 2] 0 12 rfl rfl rfl rfl rfl rfl rfl rfl rfl rfl (Nat.le_of_ble_eq_true rfl) ⟨Nat.le_of_ble_eq_true rfl, Nat.le_of_ble_eq_true rfl⟩ ⟨Nat.le_refl _, Nat.le_refl _⟩ dX12_readsKind_1 ?_
  intro H locs hP hD hS
  refine lv_bipush (v := 48) hx hb dX12_readsKind_4 (by decide) ?_
  refine lv_bipush (v := 52) hx hb dX12_readsKind_6 (by decide) ?_
  obtain ⟨r3, hc4, hf⟩ := bd1_e hf
  refine x_callSI (ws' := [oX12 A_t A_t_now A_t_aside A_t_kept A_t_rhymeOf A_t_wasRhyme A_t_wordAt x_t_wordMany A_t_tape x_t_taped x_t_place0 x_t_length0 x_t_fault x_t_number0 x_t_open x_t_codeMany x_t_waiting x_t_saidMany x_t_clauses A_t_said A_t_waitsAt A_t_saidLetter A_t_saidFrom A_t_saidHalf A_t_saidTo A_t_codes A_t_clauseOf A_t_codeFrom A_t_codeHalf A_t_codeTo A_t_stack A_t_facts x_t_lines A_t_newWords A_t_roundFrom A_t_roundAt A_t_roundTimes x_t_newMany x_t_rounds x_t_itFrom x_t_itTimes x_t_writtenNow x_t_picturesNow x_t_usedNow x_t_chosen x_t_fearOfChosen A_t_leastFrom A_t_rowNow x_t_changesNow x_t_left0 A_t_bornOf A_t_trainsTo A_t_trainAt x_t_trainMany x_t_leastTries x_t_firstTrained x_t_isKept, iA cI 293 A_t_now v_t_now, iA cB 260 A_t_tape v_t_tape]) (rest := []) C hK hP hD hS hA hl mf_X12_105 (c_X12_in hc4) [] rfl rfl rfl rfl rfl rfl rfl rfl (Nat.le_of_ble_eq_true rfl) ⟨Nat.le_of_ble_eq_true rfl, Nat.le_of_ble_eq_true rfl⟩ ⟨Nat.le_refl _, Nat.le_refl _⟩ dX12_readsKind_8 ?_
  intro H locs hP hD hS
  refine lv_if_ne (tgt := 24) hx hb dX12_readsKind_11 (by decide) (fun q => ?_) (fun q => ?_)
  · have hf := if_f q hf
    refine lv_aload_n hx hb dX12_readsKind_24 rfl (lv_at hl 0 rfl) ?_
    refine x_get C hK hP fd_X12_7 0 rfl rfl dX12_readsKind_25 ?_
    refine lv_bipush (v := 8) hx hb dX12_readsKind_28 (by decide) ?_
    refine lv_iload_n hx hb dX12_readsKind_30 rfl (lv_at hl 1 rfl) ?_
    refine lv_iadd hx hb dX12_readsKind_31 ?_
    refine lv_aload_n hx hb dX12_readsKind_32 rfl (lv_at hl 0 rfl) ?_
    obtain ⟨r5, hc6, hf⟩ := bd1_e hf
    refine x_callVI (ws' := [oX12 A_t A_t_now A_t_aside A_t_kept A_t_rhymeOf A_t_wasRhyme A_t_wordAt x_t_wordMany A_t_tape x_t_taped x_t_place0 x_t_length0 x_t_fault x_t_number0 x_t_open x_t_codeMany x_t_waiting x_t_saidMany x_t_clauses A_t_said A_t_waitsAt A_t_saidLetter A_t_saidFrom A_t_saidHalf A_t_saidTo A_t_codes A_t_clauseOf A_t_codeFrom A_t_codeHalf A_t_codeTo A_t_stack A_t_facts x_t_lines A_t_newWords A_t_roundFrom A_t_roundAt A_t_roundTimes x_t_newMany x_t_rounds x_t_itFrom x_t_itTimes x_t_writtenNow x_t_picturesNow x_t_usedNow x_t_chosen x_t_fearOfChosen A_t_leastFrom A_t_rowNow x_t_changesNow x_t_left0 A_t_bornOf A_t_trainsTo A_t_trainAt x_t_trainMany x_t_leastTries x_t_firstTrained x_t_isKept, iA cI 293 A_t_now v_t_now, iA cB 260 A_t_tape v_t_tape]) (rest := [.int ((8 : Int32) + a1), .ref A_t_now]) C hK hP hD hS hA hl mf_X12_156 (c_X12_here hc6) [0, 2] 0 12 rfl rfl rfl rfl rfl rfl rfl rfl rfl rfl (Nat.le_of_ble_eq_true rfl) ⟨Nat.le_of_ble_eq_true rfl, Nat.le_of_ble_eq_true rfl⟩ ⟨Nat.le_refl _, Nat.le_refl _⟩ dX12_readsKind_33 ?_
    intro H locs hP hD hS
    refine lv_bipush (v := 48) hx hb dX12_readsKind_36 (by decide) ?_
    refine lv_isub hx hb dX12_readsKind_38 ?_
    obtain ⟨hi, hf⟩ := sI_e hf
    refine x_iast (ws' := [oX12 A_t A_t_now A_t_aside A_t_kept A_t_rhymeOf A_t_wasRhyme A_t_wordAt x_t_wordMany A_t_tape x_t_taped x_t_place0 x_t_length0 x_t_fault x_t_number0 x_t_open x_t_codeMany x_t_waiting x_t_saidMany x_t_clauses A_t_said A_t_waitsAt A_t_saidLetter A_t_saidFrom A_t_saidHalf A_t_saidTo A_t_codes A_t_clauseOf A_t_codeFrom A_t_codeHalf A_t_codeTo A_t_stack A_t_facts x_t_lines A_t_newWords A_t_roundFrom A_t_roundAt A_t_roundTimes x_t_newMany x_t_rounds x_t_itFrom x_t_itTimes x_t_writtenNow x_t_picturesNow x_t_usedNow x_t_chosen x_t_fearOfChosen A_t_leastFrom A_t_rowNow x_t_changesNow x_t_left0 A_t_bornOf A_t_trainsTo A_t_trainAt x_t_trainMany x_t_leastTries x_t_firstTrained x_t_isKept, iA cI 293 A_t_now (upd v_t_now ((8 : Int32) + a1).toNatClampNeg (r5 - (48 : Int32))), iA cB 260 A_t_tape v_t_tape]) C hK hP hD hS 1 rfl hi rfl dX12_readsKind_39 ?_
    intro H locs hP hD hS
    refine lv_aload_n hx hb dX12_readsKind_40 rfl (lv_at hl 0 rfl) ?_
    refine lv_aload_n hx hb dX12_readsKind_41 rfl (lv_at hl 0 rfl) ?_
    refine x_get C hK hP fd_X12_150 0 rfl rfl dX12_readsKind_42 ?_
    refine lv_iconst (v := 1) hx hb dX12_readsKind_45 (by decide) ?_
    refine lv_iadd hx hb dX12_readsKind_46 ?_
    refine x_put (ws' := [oX12 A_t A_t_now A_t_aside A_t_kept A_t_rhymeOf A_t_wasRhyme A_t_wordAt x_t_wordMany A_t_tape x_t_taped (x_t_place0 + (1 : Int32)) x_t_length0 x_t_fault x_t_number0 x_t_open x_t_codeMany x_t_waiting x_t_saidMany x_t_clauses A_t_said A_t_waitsAt A_t_saidLetter A_t_saidFrom A_t_saidHalf A_t_saidTo A_t_codes A_t_clauseOf A_t_codeFrom A_t_codeHalf A_t_codeTo A_t_stack A_t_facts x_t_lines A_t_newWords A_t_roundFrom A_t_roundAt A_t_roundTimes x_t_newMany x_t_rounds x_t_itFrom x_t_itTimes x_t_writtenNow x_t_picturesNow x_t_usedNow x_t_chosen x_t_fearOfChosen A_t_leastFrom A_t_rowNow x_t_changesNow x_t_left0 A_t_bornOf A_t_trainsTo A_t_trainAt x_t_trainMany x_t_leastTries x_t_firstTrained x_t_isKept, iA cI 293 A_t_now (upd v_t_now ((8 : Int32) + a1).toNatClampNeg (r5 - (48 : Int32))), iA cB 260 A_t_tape v_t_tape]) C hK hP hD hS fp_X12_150 0 rfl rfl rfl (Nat.le_of_ble_eq_true rfl) rfl dX12_readsKind_47 ?_
    intro H locs hP hD hS
    refine lv_iconst (v := 1) hx hb dX12_readsKind_50 (by decide) ?_
    obtain ⟨rfl, rfl, rfl, rfl⟩ := ev4 hf
    exact x_zret C hr hlk (Or.inr rfl) hP hD hS dX12_readsKind_51
  · have hf := if_t q hf
    refine lv_aload_n hx hb dX12_readsKind_14 rfl (lv_at hl 0 rfl) ?_
    refine lv_iconst (v := 1) hx hb dX12_readsKind_15 (by decide) ?_
    refine lv_aload_n hx hb dX12_readsKind_16 rfl (lv_at hl 0 rfl) ?_
    refine x_get C hK hP fd_X12_150 0 rfl rfl dX12_readsKind_17 ?_
    obtain ⟨r7, w8, hc9, hf⟩ := bd2_e hf
    refine x_callVI (ws' := [oX12 A_t A_t_now A_t_aside A_t_kept A_t_rhymeOf A_t_wasRhyme A_t_wordAt x_t_wordMany A_t_tape x_t_taped x_t_place0 x_t_length0 w8 x_t_number0 x_t_open x_t_codeMany x_t_waiting x_t_saidMany x_t_clauses A_t_said A_t_waitsAt A_t_saidLetter A_t_saidFrom A_t_saidHalf A_t_saidTo A_t_codes A_t_clauseOf A_t_codeFrom A_t_codeHalf A_t_codeTo A_t_stack A_t_facts x_t_lines A_t_newWords A_t_roundFrom A_t_roundAt A_t_roundTimes x_t_newMany x_t_rounds x_t_itFrom x_t_itTimes x_t_writtenNow x_t_picturesNow x_t_usedNow x_t_chosen x_t_fearOfChosen A_t_leastFrom A_t_rowNow x_t_changesNow x_t_left0 A_t_bornOf A_t_trainsTo A_t_trainAt x_t_trainMany x_t_leastTries x_t_firstTrained x_t_isKept, iA cI 293 A_t_now v_t_now, iA cB 260 A_t_tape v_t_tape]) (rest := []) C hK hP hD hS hA hl mf_X12_163 (c_X12_wrongAt hc9) [0] 0 12 rfl rfl rfl rfl rfl rfl rfl rfl rfl rfl (Nat.le_of_ble_eq_true rfl) ⟨Nat.le_of_ble_eq_true rfl, Nat.le_of_ble_eq_true rfl⟩ ⟨Nat.le_refl _, Nat.le_refl _⟩ dX12_readsKind_20 ?_
    intro H locs hP hD hS
    obtain ⟨hz, hf⟩ := zI_e hf
    obtain ⟨rfl, rfl, rfl, rfl⟩ := ev4 hf
    exact x_zret C hr hlk hz hP hD hS dX12_readsKind_23
def f_X12_readsLine_b34 (v_t_tape : (Nat → Int32)) (x_t_length0 : Int32) (a1 : Int32) (v_t_now : (Nat → Int32)) (v_t_rhymeOf : (Nat → Int32)) (x_t_fault : Int32) (x_t_lines : Int32) (x_t_number0 : Int32) (x_t_place0 : Int32) (l2 : Int32) : Option (Int32 × (Nat → Int32) × (Nat → Int32) × Int32 × Int32 × Int32 × Int32) :=
  if x_t_lines = (20 : Int32) then
    bd2 (f_X12_wrongAt x_t_fault (4 : Int32) x_t_place0) (fun r17 w18 =>
    zI r17 (some (r17, v_t_now, v_t_rhymeOf, w18, x_t_lines, x_t_number0, x_t_place0)))
  else
    bd1 (f_X12_isLetter v_t_tape x_t_length0 x_t_place0) (fun r1 =>
    if r1 = 0 then
      if l2 = (35 : Int32) then
        bd4 (f_X12_readsKind v_t_now v_t_tape x_t_fault x_t_length0 (x_t_place0 + (1 : Int32)) a1) (fun r7 w8 w9 w10 =>
        zI r7 (some (r7, w8, v_t_rhymeOf, w9, (x_t_lines + (1 : Int32)), x_t_number0, w10)))
      else
        bd4 (f_X12_readsAmount v_t_tape x_t_fault x_t_length0 x_t_number0 (x_t_place0 + (1 : Int32))) (fun r2 w3 w4 w5 =>
        if r2 = 0 then
          some ((0 : Int32), v_t_now, v_t_rhymeOf, w3, (x_t_lines + (1 : Int32)), w4, w5)
        else
          sI 293 v_t_now ((16 : Int32) + a1) w4 (fun w6 =>
          some ((1 : Int32), w6, v_t_rhymeOf, w3, (x_t_lines + (1 : Int32)), w4, w5)))
    else
      bd6 (f_X12_readsWordLine v_t_now v_t_rhymeOf v_t_tape x_t_fault x_t_length0 x_t_number0 x_t_place0 a1) (fun r11 w12 w13 w14 w15 w16 =>
      zI r11 (some (r11, w12, w13, w14, (x_t_lines + (1 : Int32)), w15, w16))))
def f_X12_readsLine (v_t_now : (Nat → Int32)) (v_t_rhymeOf : (Nat → Int32)) (v_t_tape : (Nat → Int32)) (x_t_fault : Int32) (x_t_length0 : Int32) (x_t_lines : Int32) (x_t_number0 : Int32) (x_t_place0 : Int32) (a1 : Int32) : Option (Int32 × (Nat → Int32) × (Nat → Int32) × Int32 × Int32 × Int32 × Int32) :=
  bd1 (f_X12_here v_t_tape x_t_length0 x_t_place0) (fun r19 =>
  bd1 (f_X12_isLetter v_t_tape x_t_length0 x_t_place0) (fun r20 =>
  if r20 = 0 then
    if r19 = (33 : Int32) then
      f_X12_readsLine_b34 v_t_tape x_t_length0 a1 v_t_now v_t_rhymeOf x_t_fault x_t_lines x_t_number0 x_t_place0 r19
    else
      if r19 = (35 : Int32) then
        f_X12_readsLine_b34 v_t_tape x_t_length0 a1 v_t_now v_t_rhymeOf x_t_fault x_t_lines x_t_number0 x_t_place0 r19
      else
        bd2 (f_X12_wrongAt x_t_fault (1 : Int32) x_t_place0) (fun r21 w22 =>
        zI r21 (some (r21, v_t_now, v_t_rhymeOf, w22, x_t_lines, x_t_number0, x_t_place0)))
  else
    f_X12_readsLine_b34 v_t_tape x_t_length0 a1 v_t_now v_t_rhymeOf x_t_fault x_t_lines x_t_number0 x_t_place0 r19))
set_option maxHeartbeats 4000000 in
set_option maxRecDepth 100000 in
theorem c_X12_readsLine {l : Launch} {D : va_G} {cI cB : ClassId} {A_t A_t_now A_t_aside A_t_kept A_t_rhymeOf A_t_wasRhyme A_t_wordAt A_t_tape A_t_said A_t_waitsAt A_t_saidLetter A_t_saidFrom A_t_saidHalf A_t_saidTo A_t_codes A_t_clauseOf A_t_codeFrom A_t_codeHalf A_t_codeTo A_t_stack A_t_facts A_t_newWords A_t_roundFrom A_t_roundAt A_t_roundTimes A_t_leastFrom A_t_rowNow A_t_bornOf A_t_trainsTo A_t_trainAt : Nat} {x_t_wordMany x_t_taped x_t_place0 x_t_length0 x_t_fault x_t_number0 x_t_open x_t_codeMany x_t_waiting x_t_saidMany x_t_clauses x_t_lines x_t_newMany x_t_rounds x_t_itFrom x_t_itTimes x_t_writtenNow x_t_picturesNow x_t_usedNow x_t_chosen x_t_fearOfChosen x_t_changesNow x_t_left0 x_t_trainMany x_t_leastTries x_t_firstTrained x_t_isKept a1 : Int32} {v_t_now v_t_rhymeOf v_t_tape : Nat → Int32} {o_r o_x_t_fault o_x_t_lines o_x_t_number0 o_x_t_place0 : Int32} {o_v_t_now o_v_t_rhymeOf : Nat → Int32} (hf : f_X12_readsLine v_t_now v_t_rhymeOf v_t_tape x_t_fault x_t_length0 x_t_lines x_t_number0 x_t_place0 a1 = some (o_r, o_v_t_now, o_v_t_rhymeOf, o_x_t_fault, o_x_t_lines, o_x_t_number0, o_x_t_place0)) : CtI l D cI cB yX12_readsLine cX12_readsLine 3 (some .boolean) 4 88 [.ref A_t, .int a1] [oX12 A_t A_t_now A_t_aside A_t_kept A_t_rhymeOf A_t_wasRhyme A_t_wordAt x_t_wordMany A_t_tape x_t_taped x_t_place0 x_t_length0 x_t_fault x_t_number0 x_t_open x_t_codeMany x_t_waiting x_t_saidMany x_t_clauses A_t_said A_t_waitsAt A_t_saidLetter A_t_saidFrom A_t_saidHalf A_t_saidTo A_t_codes A_t_clauseOf A_t_codeFrom A_t_codeHalf A_t_codeTo A_t_stack A_t_facts x_t_lines A_t_newWords A_t_roundFrom A_t_roundAt A_t_roundTimes x_t_newMany x_t_rounds x_t_itFrom x_t_itTimes x_t_writtenNow x_t_picturesNow x_t_usedNow x_t_chosen x_t_fearOfChosen A_t_leastFrom A_t_rowNow x_t_changesNow x_t_left0 A_t_bornOf A_t_trainsTo A_t_trainAt x_t_trainMany x_t_leastTries x_t_firstTrained x_t_isKept, iA cI 293 A_t_now v_t_now, iA cI 16 A_t_rhymeOf v_t_rhymeOf, iA cB 260 A_t_tape v_t_tape] [oX12 A_t A_t_now A_t_aside A_t_kept A_t_rhymeOf A_t_wasRhyme A_t_wordAt x_t_wordMany A_t_tape x_t_taped o_x_t_place0 x_t_length0 o_x_t_fault o_x_t_number0 x_t_open x_t_codeMany x_t_waiting x_t_saidMany x_t_clauses A_t_said A_t_waitsAt A_t_saidLetter A_t_saidFrom A_t_saidHalf A_t_saidTo A_t_codes A_t_clauseOf A_t_codeFrom A_t_codeHalf A_t_codeTo A_t_stack A_t_facts o_x_t_lines A_t_newWords A_t_roundFrom A_t_roundAt A_t_roundTimes x_t_newMany x_t_rounds x_t_itFrom x_t_itTimes x_t_writtenNow x_t_picturesNow x_t_usedNow x_t_chosen x_t_fearOfChosen A_t_leastFrom A_t_rowNow x_t_changesNow x_t_left0 A_t_bornOf A_t_trainsTo A_t_trainAt x_t_trainMany x_t_leastTries x_t_firstTrained x_t_isKept, iA cI 293 A_t_now o_v_t_now, iA cI 16 A_t_rhymeOf o_v_t_rhymeOf, iA cB 260 A_t_tape v_t_tape] o_r := by
  refine x_startI (by decide) (Nat.le_of_ble_eq_true rfl) ?_
  intro p e s m below meth c A C hr hlk hA hK hP hD hS ls hl
  have hl : lv_has ls 3 [(0, .ref A_t), (1, .int a1)] := hl
  have hx := C.1
  have hb := C.2.1
  unfold f_X12_readsLine at hf
  have hb_34 : ∀ (v_t_now : (Nat → Int32)) (v_t_rhymeOf : (Nat → Int32)) (x_t_fault : Int32) (x_t_lines : Int32) (x_t_number0 : Int32) (x_t_place0 : Int32) (l2 : Int32) (H : Heap) (locs : List Loc) (ls : Array Slot), lv_has ls 3 [(0, .ref A_t), (1, .int a1), (2, .int l2)] → va_P D vwCl [oX12 A_t A_t_now A_t_aside A_t_kept A_t_rhymeOf A_t_wasRhyme A_t_wordAt x_t_wordMany A_t_tape x_t_taped x_t_place0 x_t_length0 x_t_fault x_t_number0 x_t_open x_t_codeMany x_t_waiting x_t_saidMany x_t_clauses A_t_said A_t_waitsAt A_t_saidLetter A_t_saidFrom A_t_saidHalf A_t_saidTo A_t_codes A_t_clauseOf A_t_codeFrom A_t_codeHalf A_t_codeTo A_t_stack A_t_facts x_t_lines A_t_newWords A_t_roundFrom A_t_roundAt A_t_roundTimes x_t_newMany x_t_rounds x_t_itFrom x_t_itTimes x_t_writtenNow x_t_picturesNow x_t_usedNow x_t_chosen x_t_fearOfChosen A_t_leastFrom A_t_rowNow x_t_changesNow x_t_left0 A_t_bornOf A_t_trainsTo A_t_trainAt x_t_trainMany x_t_leastTries x_t_firstTrained x_t_isKept, iA cI 293 A_t_now v_t_now, iA cI 16 A_t_rhymeOf v_t_rhymeOf, iA cB 260 A_t_tape v_t_tape] H → va_D A [oX12 A_t A_t_now A_t_aside A_t_kept A_t_rhymeOf A_t_wasRhyme A_t_wordAt x_t_wordMany A_t_tape x_t_taped x_t_place0 x_t_length0 x_t_fault x_t_number0 x_t_open x_t_codeMany x_t_waiting x_t_saidMany x_t_clauses A_t_said A_t_waitsAt A_t_saidLetter A_t_saidFrom A_t_saidHalf A_t_saidTo A_t_codes A_t_clauseOf A_t_codeFrom A_t_codeHalf A_t_codeTo A_t_stack A_t_facts x_t_lines A_t_newWords A_t_roundFrom A_t_roundAt A_t_roundTimes x_t_newMany x_t_rounds x_t_itFrom x_t_itTimes x_t_writtenNow x_t_picturesNow x_t_usedNow x_t_chosen x_t_fearOfChosen A_t_leastFrom A_t_rowNow x_t_changesNow x_t_left0 A_t_bornOf A_t_trainsTo A_t_trainAt x_t_trainMany x_t_leastTries x_t_firstTrained x_t_isKept, iA cI 293 A_t_now v_t_now, iA cI 16 A_t_rhymeOf v_t_rhymeOf, iA cB 260 A_t_tape v_t_tape] → va_S A s.heap H locs → f_X12_readsLine_b34 v_t_tape x_t_length0 a1 v_t_now v_t_rhymeOf x_t_fault x_t_lines x_t_number0 x_t_place0 l2 = some (o_r, o_v_t_now, o_v_t_rhymeOf, o_x_t_fault, o_x_t_lines, o_x_t_number0, o_x_t_place0) → W p l e { frames := 4, cells := 0, slots := 0, locals := 88 } s m ([.ref A_t, .int a1] : List Value).toArray below meth c H locs 0 0 (MQ below (PoI D A [oX12 A_t A_t_now A_t_aside A_t_kept A_t_rhymeOf A_t_wasRhyme A_t_wordAt x_t_wordMany A_t_tape x_t_taped o_x_t_place0 x_t_length0 o_x_t_fault o_x_t_number0 x_t_open x_t_codeMany x_t_waiting x_t_saidMany x_t_clauses A_t_said A_t_waitsAt A_t_saidLetter A_t_saidFrom A_t_saidHalf A_t_saidTo A_t_codes A_t_clauseOf A_t_codeFrom A_t_codeHalf A_t_codeTo A_t_stack A_t_facts o_x_t_lines A_t_newWords A_t_roundFrom A_t_roundAt A_t_roundTimes x_t_newMany x_t_rounds x_t_itFrom x_t_itTimes x_t_writtenNow x_t_picturesNow x_t_usedNow x_t_chosen x_t_fearOfChosen A_t_leastFrom A_t_rowNow x_t_changesNow x_t_left0 A_t_bornOf A_t_trainsTo A_t_trainAt x_t_trainMany x_t_leastTries x_t_firstTrained x_t_isKept, iA cI 293 A_t_now o_v_t_now, iA cI 16 A_t_rhymeOf o_v_t_rhymeOf, iA cB 260 A_t_tape v_t_tape] o_r) ([.ref A_t, .int a1] : List Value).toArray s 0 0 A) (F0 m 34 ls []) := by
    intro v_t_now v_t_rhymeOf x_t_fault x_t_lines x_t_number0 x_t_place0 l2 H locs ls hl hP hD hS hf
    unfold f_X12_readsLine_b34 at hf
    refine lv_aload_n hx hb dX12_readsLine_34 rfl (lv_at hl 0 rfl) ?_
    refine x_get C hK hP fd_X12_263 0 rfl rfl dX12_readsLine_35 ?_
    refine lv_bipush (v := 20) hx hb dX12_readsLine_38 (by decide) ?_
    refine lv_icmp_ne (tgt := 53) hx hb dX12_readsLine_40 (by decide) (fun q => ?_) (fun q => ?_)
    · have hf := if_f q hf
      refine lv_aload_n hx hb dX12_readsLine_53 rfl (lv_at hl 0 rfl) ?_
      refine lv_aload_n hx hb dX12_readsLine_54 rfl (lv_at hl 0 rfl) ?_
      refine x_get C hK hP fd_X12_263 0 rfl rfl dX12_readsLine_55 ?_
      refine lv_iconst (v := 1) hx hb dX12_readsLine_58 (by decide) ?_
      refine lv_iadd hx hb dX12_readsLine_59 ?_
      refine x_put (ws' := [oX12 A_t A_t_now A_t_aside A_t_kept A_t_rhymeOf A_t_wasRhyme A_t_wordAt x_t_wordMany A_t_tape x_t_taped x_t_place0 x_t_length0 x_t_fault x_t_number0 x_t_open x_t_codeMany x_t_waiting x_t_saidMany x_t_clauses A_t_said A_t_waitsAt A_t_saidLetter A_t_saidFrom A_t_saidHalf A_t_saidTo A_t_codes A_t_clauseOf A_t_codeFrom A_t_codeHalf A_t_codeTo A_t_stack A_t_facts (x_t_lines + (1 : Int32)) A_t_newWords A_t_roundFrom A_t_roundAt A_t_roundTimes x_t_newMany x_t_rounds x_t_itFrom x_t_itTimes x_t_writtenNow x_t_picturesNow x_t_usedNow x_t_chosen x_t_fearOfChosen A_t_leastFrom A_t_rowNow x_t_changesNow x_t_left0 A_t_bornOf A_t_trainsTo A_t_trainAt x_t_trainMany x_t_leastTries x_t_firstTrained x_t_isKept, iA cI 293 A_t_now v_t_now, iA cI 16 A_t_rhymeOf v_t_rhymeOf, iA cB 260 A_t_tape v_t_tape]) C hK hP hD hS fp_X12_263 0 rfl rfl rfl (Nat.le_of_ble_eq_true rfl) rfl dX12_readsLine_60 ?_
      intro H locs hP hD hS
      refine lv_aload_n hx hb dX12_readsLine_63 rfl (lv_at hl 0 rfl) ?_
      obtain ⟨r1, hc2, hf⟩ := bd1_e hf
      refine x_callVI (ws' := [oX12 A_t A_t_now A_t_aside A_t_kept A_t_rhymeOf A_t_wasRhyme A_t_wordAt x_t_wordMany A_t_tape x_t_taped x_t_place0 x_t_length0 x_t_fault x_t_number0 x_t_open x_t_codeMany x_t_waiting x_t_saidMany x_t_clauses A_t_said A_t_waitsAt A_t_saidLetter A_t_saidFrom A_t_saidHalf A_t_saidTo A_t_codes A_t_clauseOf A_t_codeFrom A_t_codeHalf A_t_codeTo A_t_stack A_t_facts (x_t_lines + (1 : Int32)) A_t_newWords A_t_roundFrom A_t_roundAt A_t_roundTimes x_t_newMany x_t_rounds x_t_itFrom x_t_itTimes x_t_writtenNow x_t_picturesNow x_t_usedNow x_t_chosen x_t_fearOfChosen A_t_leastFrom A_t_rowNow x_t_changesNow x_t_left0 A_t_bornOf A_t_trainsTo A_t_trainAt x_t_trainMany x_t_leastTries x_t_firstTrained x_t_isKept, iA cI 293 A_t_now v_t_now, iA cI 16 A_t_rhymeOf v_t_rhymeOf, iA cB 260 A_t_tape v_t_tape]) (rest := []) C hK hP hD hS hA hl mf_X12_251 (c_X12_isLetter hc2) [0, 3] 0 12 rfl rfl rfl rfl rfl rfl rfl rfl rfl rfl (Nat.le_of_ble_eq_true rfl) ⟨Nat.le_of_ble_eq_true rfl, Nat.le_of_ble_eq_true rfl⟩ ⟨Nat.le_refl _, Nat.le_refl _⟩ dX12_readsLine_64 ?_
      intro H locs hP hD hS
      refine lv_if_eq (tgt := 76) hx hb dX12_readsLine_67 (by decide) (fun q => ?_) (fun q => ?_)
      · have hf := if_t q hf
        refine lv_aload_n hx hb dX12_readsLine_76 rfl (lv_at hl 0 rfl) ?_
        refine lv_aload_n hx hb dX12_readsLine_77 rfl (lv_at hl 0 rfl) ?_
        refine x_get C hK hP fd_X12_150 0 rfl rfl dX12_readsLine_78 ?_
        refine lv_iconst (v := 1) hx hb dX12_readsLine_81 (by decide) ?_
        refine lv_iadd hx hb dX12_readsLine_82 ?_
        refine x_put (ws' := [oX12 A_t A_t_now A_t_aside A_t_kept A_t_rhymeOf A_t_wasRhyme A_t_wordAt x_t_wordMany A_t_tape x_t_taped (x_t_place0 + (1 : Int32)) x_t_length0 x_t_fault x_t_number0 x_t_open x_t_codeMany x_t_waiting x_t_saidMany x_t_clauses A_t_said A_t_waitsAt A_t_saidLetter A_t_saidFrom A_t_saidHalf A_t_saidTo A_t_codes A_t_clauseOf A_t_codeFrom A_t_codeHalf A_t_codeTo A_t_stack A_t_facts (x_t_lines + (1 : Int32)) A_t_newWords A_t_roundFrom A_t_roundAt A_t_roundTimes x_t_newMany x_t_rounds x_t_itFrom x_t_itTimes x_t_writtenNow x_t_picturesNow x_t_usedNow x_t_chosen x_t_fearOfChosen A_t_leastFrom A_t_rowNow x_t_changesNow x_t_left0 A_t_bornOf A_t_trainsTo A_t_trainAt x_t_trainMany x_t_leastTries x_t_firstTrained x_t_isKept, iA cI 293 A_t_now v_t_now, iA cI 16 A_t_rhymeOf v_t_rhymeOf, iA cB 260 A_t_tape v_t_tape]) C hK hP hD hS fp_X12_150 0 rfl rfl rfl (Nat.le_of_ble_eq_true rfl) rfl dX12_readsLine_83 ?_
        intro H locs hP hD hS
        refine lv_iload_n hx hb dX12_readsLine_86 rfl (lv_at hl 2 rfl) ?_
        refine lv_bipush (v := 35) hx hb dX12_readsLine_87 (by decide) ?_
        refine lv_icmp_ne (tgt := 98) hx hb dX12_readsLine_89 (by decide) (fun q => ?_) (fun q => ?_)
        · have hf := if_f q hf
          refine lv_aload_n hx hb dX12_readsLine_98 rfl (lv_at hl 0 rfl) ?_
          obtain ⟨r3, w4, w5, w6, hc7, hf⟩ := bd4_e hf
          refine x_callVI (ws' := [oX12 A_t A_t_now A_t_aside A_t_kept A_t_rhymeOf A_t_wasRhyme A_t_wordAt x_t_wordMany A_t_tape x_t_taped w6 x_t_length0 w4 w5 x_t_open x_t_codeMany x_t_waiting x_t_saidMany x_t_clauses A_t_said A_t_waitsAt A_t_saidLetter A_t_saidFrom A_t_saidHalf A_t_saidTo A_t_codes A_t_clauseOf A_t_codeFrom A_t_codeHalf A_t_codeTo A_t_stack A_t_facts (x_t_lines + (1 : Int32)) A_t_newWords A_t_roundFrom A_t_roundAt A_t_roundTimes x_t_newMany x_t_rounds x_t_itFrom x_t_itTimes x_t_writtenNow x_t_picturesNow x_t_usedNow x_t_chosen x_t_fearOfChosen A_t_leastFrom A_t_rowNow x_t_changesNow x_t_left0 A_t_bornOf A_t_trainsTo A_t_trainAt x_t_trainMany x_t_leastTries x_t_firstTrained x_t_isKept, iA cI 293 A_t_now v_t_now, iA cI 16 A_t_rhymeOf v_t_rhymeOf, iA cB 260 A_t_tape v_t_tape]) (rest := []) C hK hP hD hS hA hl mf_X12_260 (c_X12_readsAmount hc7) [0, 3] 0 12 rfl rfl rfl rfl rfl rfl rfl rfl rfl rfl (Nat.le_of_ble_eq_true rfl) ⟨Nat.le_of_ble_eq_true rfl, Nat.le_of_ble_eq_true rfl⟩ ⟨Nat.le_refl _, Nat.le_refl _⟩ dX12_readsLine_99 ?_
          intro H locs hP hD hS
          refine lv_if_ne (tgt := 107) hx hb dX12_readsLine_102 (by decide) (fun q => ?_) (fun q => ?_)
          · have hf := if_f q hf
            refine lv_aload_n hx hb dX12_readsLine_107 rfl (lv_at hl 0 rfl) ?_
            refine x_get C hK hP fd_X12_7 0 rfl rfl dX12_readsLine_108 ?_
            refine lv_bipush (v := 16) hx hb dX12_readsLine_111 (by decide) ?_
            refine lv_iload_n hx hb dX12_readsLine_113 rfl (lv_at hl 1 rfl) ?_
            refine lv_iadd hx hb dX12_readsLine_114 ?_
            refine lv_aload_n hx hb dX12_readsLine_115 rfl (lv_at hl 0 rfl) ?_
            refine x_get C hK hP fd_X12_166 0 rfl rfl dX12_readsLine_116 ?_
            obtain ⟨hi, hf⟩ := sI_e hf
            refine x_iast (ws' := [oX12 A_t A_t_now A_t_aside A_t_kept A_t_rhymeOf A_t_wasRhyme A_t_wordAt x_t_wordMany A_t_tape x_t_taped w6 x_t_length0 w4 w5 x_t_open x_t_codeMany x_t_waiting x_t_saidMany x_t_clauses A_t_said A_t_waitsAt A_t_saidLetter A_t_saidFrom A_t_saidHalf A_t_saidTo A_t_codes A_t_clauseOf A_t_codeFrom A_t_codeHalf A_t_codeTo A_t_stack A_t_facts (x_t_lines + (1 : Int32)) A_t_newWords A_t_roundFrom A_t_roundAt A_t_roundTimes x_t_newMany x_t_rounds x_t_itFrom x_t_itTimes x_t_writtenNow x_t_picturesNow x_t_usedNow x_t_chosen x_t_fearOfChosen A_t_leastFrom A_t_rowNow x_t_changesNow x_t_left0 A_t_bornOf A_t_trainsTo A_t_trainAt x_t_trainMany x_t_leastTries x_t_firstTrained x_t_isKept, iA cI 293 A_t_now (upd v_t_now ((16 : Int32) + a1).toNatClampNeg w5), iA cI 16 A_t_rhymeOf v_t_rhymeOf, iA cB 260 A_t_tape v_t_tape]) C hK hP hD hS 1 rfl hi rfl dX12_readsLine_119 ?_
            intro H locs hP hD hS
            refine lv_iconst (v := 1) hx hb dX12_readsLine_120 (by decide) ?_
            obtain ⟨rfl, rfl, rfl, rfl, rfl, rfl, rfl⟩ := ev7 hf
            exact x_zret C hr hlk (Or.inr rfl) hP hD hS dX12_readsLine_121
          · have hf := if_t q hf
            refine lv_iconst (v := 0) hx hb dX12_readsLine_105 (by decide) ?_
            obtain ⟨rfl, rfl, rfl, rfl, rfl, rfl, rfl⟩ := ev7 hf
            exact x_zret C hr hlk (Or.inl rfl) hP hD hS dX12_readsLine_106
        · have hf := if_t q hf
          refine lv_aload_n hx hb dX12_readsLine_92 rfl (lv_at hl 0 rfl) ?_
          refine lv_iload_n hx hb dX12_readsLine_93 rfl (lv_at hl 1 rfl) ?_
          obtain ⟨r8, w9, w10, w11, hc12, hf⟩ := bd4_e hf
          refine x_callVI (ws' := [oX12 A_t A_t_now A_t_aside A_t_kept A_t_rhymeOf A_t_wasRhyme A_t_wordAt x_t_wordMany A_t_tape x_t_taped w11 x_t_length0 w10 x_t_number0 x_t_open x_t_codeMany x_t_waiting x_t_saidMany x_t_clauses A_t_said A_t_waitsAt A_t_saidLetter A_t_saidFrom A_t_saidHalf A_t_saidTo A_t_codes A_t_clauseOf A_t_codeFrom A_t_codeHalf A_t_codeTo A_t_stack A_t_facts (x_t_lines + (1 : Int32)) A_t_newWords A_t_roundFrom A_t_roundAt A_t_roundTimes x_t_newMany x_t_rounds x_t_itFrom x_t_itTimes x_t_writtenNow x_t_picturesNow x_t_usedNow x_t_chosen x_t_fearOfChosen A_t_leastFrom A_t_rowNow x_t_changesNow x_t_left0 A_t_bornOf A_t_trainsTo A_t_trainAt x_t_trainMany x_t_leastTries x_t_firstTrained x_t_isKept, iA cI 293 A_t_now w9, iA cI 16 A_t_rhymeOf v_t_rhymeOf, iA cB 260 A_t_tape v_t_tape]) (rest := []) C hK hP hD hS hA hl mf_X12_269 (c_X12_readsKind hc12) [0, 1, 3] 0 12 rfl rfl rfl rfl rfl rfl rfl rfl rfl rfl (Nat.le_of_ble_eq_true rfl) ⟨Nat.le_of_ble_eq_true rfl, Nat.le_of_ble_eq_true rfl⟩ ⟨Nat.le_refl _, Nat.le_refl _⟩ dX12_readsLine_94 ?_
          intro H locs hP hD hS
          obtain ⟨hz, hf⟩ := zI_e hf
          obtain ⟨rfl, rfl, rfl, rfl, rfl, rfl, rfl⟩ := ev7 hf
          exact x_zret C hr hlk hz hP hD hS dX12_readsLine_97
      · have hf := if_f q hf
        refine lv_aload_n hx hb dX12_readsLine_70 rfl (lv_at hl 0 rfl) ?_
        refine lv_iload_n hx hb dX12_readsLine_71 rfl (lv_at hl 1 rfl) ?_
        obtain ⟨r13, w14, w15, w16, w17, w18, hc19, hf⟩ := bd6_e hf
        refine x_callVI (ws' := [oX12 A_t A_t_now A_t_aside A_t_kept A_t_rhymeOf A_t_wasRhyme A_t_wordAt x_t_wordMany A_t_tape x_t_taped w18 x_t_length0 w16 w17 x_t_open x_t_codeMany x_t_waiting x_t_saidMany x_t_clauses A_t_said A_t_waitsAt A_t_saidLetter A_t_saidFrom A_t_saidHalf A_t_saidTo A_t_codes A_t_clauseOf A_t_codeFrom A_t_codeHalf A_t_codeTo A_t_stack A_t_facts (x_t_lines + (1 : Int32)) A_t_newWords A_t_roundFrom A_t_roundAt A_t_roundTimes x_t_newMany x_t_rounds x_t_itFrom x_t_itTimes x_t_writtenNow x_t_picturesNow x_t_usedNow x_t_chosen x_t_fearOfChosen A_t_leastFrom A_t_rowNow x_t_changesNow x_t_left0 A_t_bornOf A_t_trainsTo A_t_trainAt x_t_trainMany x_t_leastTries x_t_firstTrained x_t_isKept, iA cI 293 A_t_now w14, iA cI 16 A_t_rhymeOf w15, iA cB 260 A_t_tape v_t_tape]) (rest := []) C hK hP hD hS hA hl mf_X12_266 (c_X12_readsWordLine hc19) [0, 1, 2, 3] 0 12 rfl rfl rfl rfl rfl rfl rfl rfl rfl rfl (Nat.le_of_ble_eq_true rfl) ⟨Nat.le_of_ble_eq_true rfl, Nat.le_of_ble_eq_true rfl⟩ ⟨Nat.le_refl _, Nat.le_refl _⟩ dX12_readsLine_72 ?_
        intro H locs hP hD hS
        obtain ⟨hz, hf⟩ := zI_e hf
        obtain ⟨rfl, rfl, rfl, rfl, rfl, rfl, rfl⟩ := ev7 hf
        exact x_zret C hr hlk hz hP hD hS dX12_readsLine_75
    · have hf := if_t q hf
      refine lv_aload_n hx hb dX12_readsLine_43 rfl (lv_at hl 0 rfl) ?_
      refine lv_iconst (v := 4) hx hb dX12_readsLine_44 (by decide) ?_
      refine lv_aload_n hx hb dX12_readsLine_45 rfl (lv_at hl 0 rfl) ?_
      refine x_get C hK hP fd_X12_150 0 rfl rfl dX12_readsLine_46 ?_
      obtain ⟨r20, w21, hc22, hf⟩ := bd2_e hf
      refine x_callVI (ws' := [oX12 A_t A_t_now A_t_aside A_t_kept A_t_rhymeOf A_t_wasRhyme A_t_wordAt x_t_wordMany A_t_tape x_t_taped x_t_place0 x_t_length0 w21 x_t_number0 x_t_open x_t_codeMany x_t_waiting x_t_saidMany x_t_clauses A_t_said A_t_waitsAt A_t_saidLetter A_t_saidFrom A_t_saidHalf A_t_saidTo A_t_codes A_t_clauseOf A_t_codeFrom A_t_codeHalf A_t_codeTo A_t_stack A_t_facts x_t_lines A_t_newWords A_t_roundFrom A_t_roundAt A_t_roundTimes x_t_newMany x_t_rounds x_t_itFrom x_t_itTimes x_t_writtenNow x_t_picturesNow x_t_usedNow x_t_chosen x_t_fearOfChosen A_t_leastFrom A_t_rowNow x_t_changesNow x_t_left0 A_t_bornOf A_t_trainsTo A_t_trainAt x_t_trainMany x_t_leastTries x_t_firstTrained x_t_isKept, iA cI 293 A_t_now v_t_now, iA cI 16 A_t_rhymeOf v_t_rhymeOf, iA cB 260 A_t_tape v_t_tape]) (rest := []) C hK hP hD hS hA hl mf_X12_163 (c_X12_wrongAt hc22) [0] 0 12 rfl rfl rfl rfl rfl rfl rfl rfl rfl rfl (Nat.le_of_ble_eq_true rfl) ⟨Nat.le_of_ble_eq_true rfl, Nat.le_of_ble_eq_true rfl⟩ ⟨Nat.le_refl _, Nat.le_refl _⟩ dX12_readsLine_49 ?_
      intro H locs hP hD hS
      obtain ⟨hz, hf⟩ := zI_e hf
      obtain ⟨rfl, rfl, rfl, rfl, rfl, rfl, rfl⟩ := ev7 hf
      exact x_zret C hr hlk hz hP hD hS dX12_readsLine_52
  refine lv_aload_n hx hb dX12_readsLine_0 rfl (lv_at hl 0 rfl) ?_
  obtain ⟨r23, hc24, hf⟩ := bd1_e hf
  refine x_callVI (ws' := [oX12 A_t A_t_now A_t_aside A_t_kept A_t_rhymeOf A_t_wasRhyme A_t_wordAt x_t_wordMany A_t_tape x_t_taped x_t_place0 x_t_length0 x_t_fault x_t_number0 x_t_open x_t_codeMany x_t_waiting x_t_saidMany x_t_clauses A_t_said A_t_waitsAt A_t_saidLetter A_t_saidFrom A_t_saidHalf A_t_saidTo A_t_codes A_t_clauseOf A_t_codeFrom A_t_codeHalf A_t_codeTo A_t_stack A_t_facts x_t_lines A_t_newWords A_t_roundFrom A_t_roundAt A_t_roundTimes x_t_newMany x_t_rounds x_t_itFrom x_t_itTimes x_t_writtenNow x_t_picturesNow x_t_usedNow x_t_chosen x_t_fearOfChosen A_t_leastFrom A_t_rowNow x_t_changesNow x_t_left0 A_t_bornOf A_t_trainsTo A_t_trainAt x_t_trainMany x_t_leastTries x_t_firstTrained x_t_isKept, iA cI 293 A_t_now v_t_now, iA cI 16 A_t_rhymeOf v_t_rhymeOf, iA cB 260 A_t_tape v_t_tape]) (rest := []) C hK hP hD hS hA hl mf_X12_156 (c_X12_here hc24) [0, 3] 0 12 rfl rfl rfl rfl rfl rfl rfl rfl rfl rfl (Nat.le_of_ble_eq_true rfl) ⟨Nat.le_of_ble_eq_true rfl, Nat.le_of_ble_eq_true rfl⟩ ⟨Nat.le_refl _, Nat.le_refl _⟩ dX12_readsLine_1 ?_
  intro H locs hP hD hS
  refine lv_istore_n (lv' := [(2, .int r23), (0, .ref A_t), (1, .int a1)]) hx hb dX12_readsLine_4 rfl hl (by decide) rfl (fun ls hl => ?_)
  refine lv_aload_n hx hb dX12_readsLine_5 rfl (lv_at hl 1 rfl) ?_
  obtain ⟨r25, hc26, hf⟩ := bd1_e hf
  refine x_callVI (ws' := [oX12 A_t A_t_now A_t_aside A_t_kept A_t_rhymeOf A_t_wasRhyme A_t_wordAt x_t_wordMany A_t_tape x_t_taped x_t_place0 x_t_length0 x_t_fault x_t_number0 x_t_open x_t_codeMany x_t_waiting x_t_saidMany x_t_clauses A_t_said A_t_waitsAt A_t_saidLetter A_t_saidFrom A_t_saidHalf A_t_saidTo A_t_codes A_t_clauseOf A_t_codeFrom A_t_codeHalf A_t_codeTo A_t_stack A_t_facts x_t_lines A_t_newWords A_t_roundFrom A_t_roundAt A_t_roundTimes x_t_newMany x_t_rounds x_t_itFrom x_t_itTimes x_t_writtenNow x_t_picturesNow x_t_usedNow x_t_chosen x_t_fearOfChosen A_t_leastFrom A_t_rowNow x_t_changesNow x_t_left0 A_t_bornOf A_t_trainsTo A_t_trainAt x_t_trainMany x_t_leastTries x_t_firstTrained x_t_isKept, iA cI 293 A_t_now v_t_now, iA cI 16 A_t_rhymeOf v_t_rhymeOf, iA cB 260 A_t_tape v_t_tape]) (rest := []) C hK hP hD hS hA hl mf_X12_251 (c_X12_isLetter hc26) [0, 3] 0 12 rfl rfl rfl rfl rfl rfl rfl rfl rfl rfl (Nat.le_of_ble_eq_true rfl) ⟨Nat.le_of_ble_eq_true rfl, Nat.le_of_ble_eq_true rfl⟩ ⟨Nat.le_refl _, Nat.le_refl _⟩ dX12_readsLine_6 ?_
  intro H locs hP hD hS
  refine lv_if_ne (tgt := 34) hx hb dX12_readsLine_9 (by decide) (fun q => ?_) (fun q => ?_)
  · have hf := if_f q hf
    exact hb_34 v_t_now v_t_rhymeOf x_t_fault x_t_lines x_t_number0 x_t_place0 r23 _ _ ls (lv_sub hl [1, 2, 0] rfl) hP hD hS hf
  · have hf := if_t q hf
    refine lv_iload_n hx hb dX12_readsLine_12 rfl (lv_at hl 0 rfl) ?_
    refine lv_bipush (v := 33) hx hb dX12_readsLine_13 (by decide) ?_
    refine lv_icmp_eq (tgt := 34) hx hb dX12_readsLine_15 (by decide) (fun q => ?_) (fun q => ?_)
    · have hf := if_t q hf
      exact hb_34 v_t_now v_t_rhymeOf x_t_fault x_t_lines x_t_number0 x_t_place0 r23 _ _ ls (lv_sub hl [1, 2, 0] rfl) hP hD hS hf
    · have hf := if_f q hf
      refine lv_iload_n hx hb dX12_readsLine_18 rfl (lv_at hl 0 rfl) ?_
      refine lv_bipush (v := 35) hx hb dX12_readsLine_19 (by decide) ?_
      refine lv_icmp_eq (tgt := 34) hx hb dX12_readsLine_21 (by decide) (fun q => ?_) (fun q => ?_)
      · have hf := if_t q hf
        exact hb_34 v_t_now v_t_rhymeOf x_t_fault x_t_lines x_t_number0 x_t_place0 r23 _ _ ls (lv_sub hl [1, 2, 0] rfl) hP hD hS hf
      · have hf := if_f q hf
        refine lv_aload_n hx hb dX12_readsLine_24 rfl (lv_at hl 1 rfl) ?_
        refine lv_iconst (v := 1) hx hb dX12_readsLine_25 (by decide) ?_
        refine lv_aload_n hx hb dX12_readsLine_26 rfl (lv_at hl 1 rfl) ?_
        refine x_get C hK hP fd_X12_150 0 rfl rfl dX12_readsLine_27 ?_
        obtain ⟨r27, w28, hc29, hf⟩ := bd2_e hf
        refine x_callVI (ws' := [oX12 A_t A_t_now A_t_aside A_t_kept A_t_rhymeOf A_t_wasRhyme A_t_wordAt x_t_wordMany A_t_tape x_t_taped x_t_place0 x_t_length0 w28 x_t_number0 x_t_open x_t_codeMany x_t_waiting x_t_saidMany x_t_clauses A_t_said A_t_waitsAt A_t_saidLetter A_t_saidFrom A_t_saidHalf A_t_saidTo A_t_codes A_t_clauseOf A_t_codeFrom A_t_codeHalf A_t_codeTo A_t_stack A_t_facts x_t_lines A_t_newWords A_t_roundFrom A_t_roundAt A_t_roundTimes x_t_newMany x_t_rounds x_t_itFrom x_t_itTimes x_t_writtenNow x_t_picturesNow x_t_usedNow x_t_chosen x_t_fearOfChosen A_t_leastFrom A_t_rowNow x_t_changesNow x_t_left0 A_t_bornOf A_t_trainsTo A_t_trainAt x_t_trainMany x_t_leastTries x_t_firstTrained x_t_isKept, iA cI 293 A_t_now v_t_now, iA cI 16 A_t_rhymeOf v_t_rhymeOf, iA cB 260 A_t_tape v_t_tape]) (rest := []) C hK hP hD hS hA hl mf_X12_163 (c_X12_wrongAt hc29) [0] 0 12 rfl rfl rfl rfl rfl rfl rfl rfl rfl rfl (Nat.le_of_ble_eq_true rfl) ⟨Nat.le_of_ble_eq_true rfl, Nat.le_of_ble_eq_true rfl⟩ ⟨Nat.le_refl _, Nat.le_refl _⟩ dX12_readsLine_30 ?_
        intro H locs hP hD hS
        obtain ⟨hz, hf⟩ := zI_e hf
        obtain ⟨rfl, rfl, rfl, rfl, rfl, rfl, rfl⟩ := ev7 hf
        exact x_zret C hr hlk hz hP hD hS dX12_readsLine_33
def f_X12_grief_b26 (v_t_aside : (Nat → Int32)) (v_t_now : (Nat → Int32)) (v_t_rhymeOf : (Nat → Int32)) (v_t_wasRhyme : (Nat → Int32)) (x_t_codeMany : Int32) (x_t_fault : Int32) (x_t_length0 : Int32) (x_t_lines : Int32) (x_t_number0 : Int32) (x_t_place0 : Int32) (x_t_saidMany : Int32) (x_t_taped : Int32) : Option (Int32 × (Nat → Int32) × (Nat → Int32) × (Nat → Int32) × (Nat → Int32) × Int32 × Int32 × Int32 × Int32 × Int32 × Int32 × Int32 × Int32) :=
  some ((-1 : Int32), v_t_aside, v_t_now, v_t_rhymeOf, v_t_wasRhyme, x_t_codeMany, x_t_fault, x_t_length0, x_t_lines, x_t_number0, x_t_place0, x_t_saidMany, x_t_taped)
def f_X12_grief_b118 (a1 : Int32) (k81 : (Nat → Int32) → (Nat → Int32) → (Nat → Int32) → (Nat → Int32) → Int32 → Int32 → Int32 → Int32 → Int32 → Int32 → Int32 → Int32 → Int32 → Option (Int32 × (Nat → Int32) × (Nat → Int32) × (Nat → Int32) × (Nat → Int32) × Int32 × Int32 × Int32 × Int32 × Int32 × Int32 × Int32 × Int32)) (v_t_aside : (Nat → Int32)) (v_t_now : (Nat → Int32)) (v_t_rhymeOf : (Nat → Int32)) (v_t_wasRhyme : (Nat → Int32)) (x_t_codeMany : Int32) (x_t_fault : Int32) (x_t_length0 : Int32) (x_t_lines : Int32) (x_t_number0 : Int32) (x_t_place0 : Int32) (x_t_saidMany : Int32) (x_t_taped : Int32) (s0 : Int32) : Option (Int32 × (Nat → Int32) × (Nat → Int32) × (Nat → Int32) × (Nat → Int32) × Int32 × Int32 × Int32 × Int32 × Int32 × Int32 × Int32 × Int32) :=
  k81 v_t_aside v_t_now v_t_rhymeOf v_t_wasRhyme x_t_codeMany x_t_fault x_t_length0 x_t_lines x_t_number0 x_t_place0 x_t_saidMany x_t_taped s0
def f_X12_grief_b117 (a1 : Int32) (k81 : (Nat → Int32) → (Nat → Int32) → (Nat → Int32) → (Nat → Int32) → Int32 → Int32 → Int32 → Int32 → Int32 → Int32 → Int32 → Int32 → Int32 → Option (Int32 × (Nat → Int32) × (Nat → Int32) × (Nat → Int32) × (Nat → Int32) × Int32 × Int32 × Int32 × Int32 × Int32 × Int32 × Int32 × Int32)) (v_t_aside : (Nat → Int32)) (v_t_now : (Nat → Int32)) (v_t_rhymeOf : (Nat → Int32)) (v_t_wasRhyme : (Nat → Int32)) (x_t_codeMany : Int32) (x_t_fault : Int32) (x_t_length0 : Int32) (x_t_lines : Int32) (x_t_number0 : Int32) (x_t_place0 : Int32) (x_t_saidMany : Int32) (x_t_taped : Int32) : Option (Int32 × (Nat → Int32) × (Nat → Int32) × (Nat → Int32) × (Nat → Int32) × Int32 × Int32 × Int32 × Int32 × Int32 × Int32 × Int32 × Int32) :=
  f_X12_grief_b118 a1 k81 v_t_aside v_t_now v_t_rhymeOf v_t_wasRhyme x_t_codeMany x_t_fault x_t_length0 x_t_lines x_t_number0 x_t_place0 x_t_saidMany x_t_taped (0 : Int32)
def f_X12_grief_b150 : Nat → (Nat → Int32) → (Nat → Int32) → (Nat → Int32) → (Nat → Int32) → Int32 → Int32 → Int32 → Int32 → Int32 → Int32 → Int32 → Int32 → Int32 → Option (Int32 × (Nat → Int32) × (Nat → Int32) × (Nat → Int32) × (Nat → Int32) × Int32 × Int32 × Int32 × Int32 × Int32 × Int32 × Int32 × Int32)
  | 0, _, _, _, _, _, _, _, _, _, _, _, _, _ => none
  | n + 1, v_t_aside, v_t_now, v_t_rhymeOf, v_t_wasRhyme, x_t_codeMany, x_t_fault, x_t_length0, x_t_lines, x_t_number0, x_t_place0, x_t_saidMany, x_t_taped, l4 =>
    if (16 : Int32) ≤ l4 then
      some (x_t_fault, v_t_aside, v_t_now, v_t_rhymeOf, v_t_wasRhyme, x_t_codeMany, x_t_fault, x_t_length0, x_t_lines, x_t_number0, x_t_place0, x_t_saidMany, x_t_taped)
    else
      gI 16 v_t_wasRhyme l4 (fun g1 =>
      sI 16 v_t_rhymeOf l4 g1 (fun w2 =>
      f_X12_grief_b150 n v_t_aside v_t_now w2 v_t_wasRhyme x_t_codeMany x_t_fault x_t_length0 x_t_lines x_t_number0 x_t_place0 x_t_saidMany x_t_taped (l4 + (1 : Int32))))
def f_X12_grief_b122 (v_t_aside : (Nat → Int32)) (v_t_now : (Nat → Int32)) (v_t_rhymeOf : (Nat → Int32)) (v_t_wasRhyme : (Nat → Int32)) (x_t_codeMany : Int32) (x_t_fault : Int32) (x_t_length0 : Int32) (x_t_lines : Int32) (x_t_number0 : Int32) (x_t_place0 : Int32) (x_t_saidMany : Int32) (x_t_taped : Int32) (l3 : Int32) : Option (Int32 × (Nat → Int32) × (Nat → Int32) × (Nat → Int32) × (Nat → Int32) × Int32 × Int32 × Int32 × Int32 × Int32 × Int32 × Int32 × Int32) :=
  if l3 = 0 then
    bd1 (f_X12_copies v_t_aside v_t_now) (fun w1 =>
    f_X12_grief_b150 FU v_t_aside w1 v_t_rhymeOf v_t_wasRhyme x_t_codeMany x_t_fault x_t_length0 x_t_lines x_t_number0 x_t_place0 x_t_saidMany (0 : Int32) (0 : Int32))
  else
    some (x_t_lines, v_t_aside, v_t_now, v_t_rhymeOf, v_t_wasRhyme, x_t_codeMany, x_t_fault, x_t_length0, x_t_lines, x_t_number0, x_t_place0, x_t_saidMany, (0 : Int32))
def f_X12_grief_b81 (v_t_tape : (Nat → Int32)) (a1 : Int32) : Nat → (Nat → Int32) → (Nat → Int32) → (Nat → Int32) → (Nat → Int32) → Int32 → Int32 → Int32 → Int32 → Int32 → Int32 → Int32 → Int32 → Int32 → Option (Int32 × (Nat → Int32) × (Nat → Int32) × (Nat → Int32) × (Nat → Int32) × Int32 × Int32 × Int32 × Int32 × Int32 × Int32 × Int32 × Int32)
  | 0, _, _, _, _, _, _, _, _, _, _, _, _, _ => none
  | n + 1, v_t_aside, v_t_now, v_t_rhymeOf, v_t_wasRhyme, x_t_codeMany, x_t_fault, x_t_length0, x_t_lines, x_t_number0, x_t_place0, x_t_saidMany, x_t_taped, l3 =>
    if l3 = 0 then
      f_X12_grief_b122 v_t_aside v_t_now v_t_rhymeOf v_t_wasRhyme x_t_codeMany x_t_fault x_t_length0 x_t_lines x_t_number0 x_t_place0 x_t_saidMany x_t_taped l3
    else
      if x_t_length0 ≤ x_t_place0 then
        f_X12_grief_b122 v_t_aside v_t_now v_t_rhymeOf v_t_wasRhyme x_t_codeMany x_t_fault x_t_length0 x_t_lines x_t_number0 x_t_place0 x_t_saidMany x_t_taped l3
      else
        bd3 (f_X12_takes v_t_tape x_t_fault x_t_length0 x_t_place0 (59 : Int32)) (fun r1 w2 w3 =>
        if r1 = 0 then
          f_X12_grief_b117 a1 (f_X12_grief_b81 v_t_tape a1 n) v_t_aside v_t_now v_t_rhymeOf v_t_wasRhyme x_t_codeMany w2 x_t_length0 x_t_lines x_t_number0 w3 x_t_saidMany x_t_taped
        else
          bd7 (f_X12_readsLine v_t_now v_t_rhymeOf v_t_tape w2 x_t_length0 x_t_lines x_t_number0 w3 a1) (fun r4 w5 w6 w7 w8 w9 w10 =>
          if r4 = 0 then
            f_X12_grief_b117 a1 (f_X12_grief_b81 v_t_tape a1 n) v_t_aside w5 w6 v_t_wasRhyme x_t_codeMany w7 x_t_length0 w8 w9 w10 x_t_saidMany x_t_taped
          else
            f_X12_grief_b118 a1 (f_X12_grief_b81 v_t_tape a1 n) v_t_aside w5 w6 v_t_wasRhyme x_t_codeMany w7 x_t_length0 w8 w9 w10 x_t_saidMany x_t_taped (1 : Int32)))
def f_X12_grief_b51 (v_t_tape : (Nat → Int32)) (a1 : Int32) : Nat → (Nat → Int32) → (Nat → Int32) → (Nat → Int32) → (Nat → Int32) → Int32 → Int32 → Int32 → Int32 → Int32 → Int32 → Int32 → Int32 → Int32 → Option (Int32 × (Nat → Int32) × (Nat → Int32) × (Nat → Int32) × (Nat → Int32) × Int32 × Int32 × Int32 × Int32 × Int32 × Int32 × Int32 × Int32)
  | 0, _, _, _, _, _, _, _, _, _, _, _, _, _ => none
  | n + 1, v_t_aside, v_t_now, v_t_rhymeOf, v_t_wasRhyme, x_t_codeMany, x_t_fault, x_t_length0, x_t_lines, x_t_number0, x_t_place0, x_t_saidMany, x_t_taped, l3 =>
    if (16 : Int32) ≤ l3 then
      bd7 (f_X12_readsLine v_t_now v_t_rhymeOf v_t_tape x_t_fault x_t_length0 x_t_lines x_t_number0 x_t_place0 a1) (fun r1 w2 w3 w4 w5 w6 w7 =>
      f_X12_grief_b81 v_t_tape a1 FU v_t_aside w2 w3 v_t_wasRhyme x_t_codeMany w4 x_t_length0 w5 w6 w7 x_t_saidMany x_t_taped r1)
    else
      gI 16 v_t_rhymeOf l3 (fun g8 =>
      sI 16 v_t_wasRhyme l3 g8 (fun w9 =>
      f_X12_grief_b51 v_t_tape a1 n v_t_aside v_t_now v_t_rhymeOf w9 x_t_codeMany x_t_fault x_t_length0 x_t_lines x_t_number0 x_t_place0 x_t_saidMany x_t_taped (l3 + (1 : Int32))))
def f_X12_grief (v_t_aside : (Nat → Int32)) (v_t_now : (Nat → Int32)) (v_t_rhymeOf : (Nat → Int32)) (v_t_tape : (Nat → Int32)) (v_t_wasRhyme : (Nat → Int32)) (x_t_codeMany : Int32) (x_t_fault : Int32) (x_t_length0 : Int32) (x_t_lines : Int32) (x_t_number0 : Int32) (x_t_place0 : Int32) (x_t_saidMany : Int32) (x_t_taped : Int32) (a1 : Int32) (a2 : Int32) : Option (Int32 × (Nat → Int32) × (Nat → Int32) × (Nat → Int32) × (Nat → Int32) × Int32 × Int32 × Int32 × Int32 × Int32 × Int32 × Int32 × Int32) :=
  bd1 (f_X12_isTold v_t_now a1) (fun r10 =>
  if r10 = 0 then
    f_X12_grief_b26 v_t_aside v_t_now v_t_rhymeOf v_t_wasRhyme x_t_codeMany x_t_fault x_t_length0 x_t_lines x_t_number0 x_t_place0 x_t_saidMany x_t_taped
  else
    bd1 (f_X12_in a2 (1 : Int32) (120 : Int32)) (fun r11 =>
    if r11 = 0 then
      f_X12_grief_b26 v_t_aside v_t_now v_t_rhymeOf v_t_wasRhyme x_t_codeMany x_t_fault x_t_length0 x_t_lines x_t_number0 x_t_place0 x_t_saidMany x_t_taped
    else
      if a2 ≤ x_t_taped then
        bd4 (f_X12_beginsText x_t_codeMany x_t_length0 x_t_place0 x_t_saidMany a2) (fun w12 w13 w14 w15 =>
        bd1 (f_X12_copies v_t_now v_t_aside) (fun w16 =>
        f_X12_grief_b51 v_t_tape a1 FU w16 v_t_now v_t_rhymeOf v_t_wasRhyme w12 x_t_fault w13 (0 : Int32) x_t_number0 w14 w15 x_t_taped (0 : Int32)))
      else
        f_X12_grief_b26 v_t_aside v_t_now v_t_rhymeOf v_t_wasRhyme x_t_codeMany x_t_fault x_t_length0 x_t_lines x_t_number0 x_t_place0 x_t_saidMany x_t_taped))
set_option maxHeartbeats 4000000 in
set_option maxRecDepth 100000 in
theorem c_X12_grief {l : Launch} {D : va_G} {cI cB : ClassId} {A_t A_t_now A_t_aside A_t_kept A_t_rhymeOf A_t_wasRhyme A_t_wordAt A_t_tape A_t_said A_t_waitsAt A_t_saidLetter A_t_saidFrom A_t_saidHalf A_t_saidTo A_t_codes A_t_clauseOf A_t_codeFrom A_t_codeHalf A_t_codeTo A_t_stack A_t_facts A_t_newWords A_t_roundFrom A_t_roundAt A_t_roundTimes A_t_leastFrom A_t_rowNow A_t_bornOf A_t_trainsTo A_t_trainAt : Nat} {x_t_wordMany x_t_taped x_t_place0 x_t_length0 x_t_fault x_t_number0 x_t_open x_t_codeMany x_t_waiting x_t_saidMany x_t_clauses x_t_lines x_t_newMany x_t_rounds x_t_itFrom x_t_itTimes x_t_writtenNow x_t_picturesNow x_t_usedNow x_t_chosen x_t_fearOfChosen x_t_changesNow x_t_left0 x_t_trainMany x_t_leastTries x_t_firstTrained x_t_isKept a1 a2 : Int32} {v_t_aside v_t_now v_t_rhymeOf v_t_tape v_t_wasRhyme : Nat → Int32} {o_r o_x_t_codeMany o_x_t_fault o_x_t_length0 o_x_t_lines o_x_t_number0 o_x_t_place0 o_x_t_saidMany o_x_t_taped : Int32} {o_v_t_aside o_v_t_now o_v_t_rhymeOf o_v_t_wasRhyme : Nat → Int32} (hf : f_X12_grief v_t_aside v_t_now v_t_rhymeOf v_t_tape v_t_wasRhyme x_t_codeMany x_t_fault x_t_length0 x_t_lines x_t_number0 x_t_place0 x_t_saidMany x_t_taped a1 a2 = some (o_r, o_v_t_aside, o_v_t_now, o_v_t_rhymeOf, o_v_t_wasRhyme, o_x_t_codeMany, o_x_t_fault, o_x_t_length0, o_x_t_lines, o_x_t_number0, o_x_t_place0, o_x_t_saidMany, o_x_t_taped)) : CtI l D cI cB yX12_grief cX12_grief 5 (some .int) 5 110 [.ref A_t, .int a1, .int a2] [oX12 A_t A_t_now A_t_aside A_t_kept A_t_rhymeOf A_t_wasRhyme A_t_wordAt x_t_wordMany A_t_tape x_t_taped x_t_place0 x_t_length0 x_t_fault x_t_number0 x_t_open x_t_codeMany x_t_waiting x_t_saidMany x_t_clauses A_t_said A_t_waitsAt A_t_saidLetter A_t_saidFrom A_t_saidHalf A_t_saidTo A_t_codes A_t_clauseOf A_t_codeFrom A_t_codeHalf A_t_codeTo A_t_stack A_t_facts x_t_lines A_t_newWords A_t_roundFrom A_t_roundAt A_t_roundTimes x_t_newMany x_t_rounds x_t_itFrom x_t_itTimes x_t_writtenNow x_t_picturesNow x_t_usedNow x_t_chosen x_t_fearOfChosen A_t_leastFrom A_t_rowNow x_t_changesNow x_t_left0 A_t_bornOf A_t_trainsTo A_t_trainAt x_t_trainMany x_t_leastTries x_t_firstTrained x_t_isKept, iA cI 293 A_t_aside v_t_aside, iA cI 293 A_t_now v_t_now, iA cI 16 A_t_rhymeOf v_t_rhymeOf, iA cB 260 A_t_tape v_t_tape, iA cI 16 A_t_wasRhyme v_t_wasRhyme] [oX12 A_t A_t_now A_t_aside A_t_kept A_t_rhymeOf A_t_wasRhyme A_t_wordAt x_t_wordMany A_t_tape o_x_t_taped o_x_t_place0 o_x_t_length0 o_x_t_fault o_x_t_number0 x_t_open o_x_t_codeMany x_t_waiting o_x_t_saidMany x_t_clauses A_t_said A_t_waitsAt A_t_saidLetter A_t_saidFrom A_t_saidHalf A_t_saidTo A_t_codes A_t_clauseOf A_t_codeFrom A_t_codeHalf A_t_codeTo A_t_stack A_t_facts o_x_t_lines A_t_newWords A_t_roundFrom A_t_roundAt A_t_roundTimes x_t_newMany x_t_rounds x_t_itFrom x_t_itTimes x_t_writtenNow x_t_picturesNow x_t_usedNow x_t_chosen x_t_fearOfChosen A_t_leastFrom A_t_rowNow x_t_changesNow x_t_left0 A_t_bornOf A_t_trainsTo A_t_trainAt x_t_trainMany x_t_leastTries x_t_firstTrained x_t_isKept, iA cI 293 A_t_aside o_v_t_aside, iA cI 293 A_t_now o_v_t_now, iA cI 16 A_t_rhymeOf o_v_t_rhymeOf, iA cB 260 A_t_tape v_t_tape, iA cI 16 A_t_wasRhyme o_v_t_wasRhyme] o_r := by
  refine x_startI (by decide) (Nat.le_of_ble_eq_true rfl) ?_
  intro p e s m below meth c A C hr hlk hA hK hP hD hS ls hl
  have hl : lv_has ls 5 [(0, .ref A_t), (1, .int a1), (2, .int a2)] := hl
  have hx := C.1
  have hb := C.2.1
  unfold f_X12_grief at hf
  have hb_26 : ∀ (v_t_aside : (Nat → Int32)) (v_t_now : (Nat → Int32)) (v_t_rhymeOf : (Nat → Int32)) (v_t_wasRhyme : (Nat → Int32)) (x_t_codeMany : Int32) (x_t_fault : Int32) (x_t_length0 : Int32) (x_t_lines : Int32) (x_t_number0 : Int32) (x_t_place0 : Int32) (x_t_saidMany : Int32) (x_t_taped : Int32) (H : Heap) (locs : List Loc) (ls : Array Slot), lv_has ls 5 [] → va_P D vwCl [oX12 A_t A_t_now A_t_aside A_t_kept A_t_rhymeOf A_t_wasRhyme A_t_wordAt x_t_wordMany A_t_tape x_t_taped x_t_place0 x_t_length0 x_t_fault x_t_number0 x_t_open x_t_codeMany x_t_waiting x_t_saidMany x_t_clauses A_t_said A_t_waitsAt A_t_saidLetter A_t_saidFrom A_t_saidHalf A_t_saidTo A_t_codes A_t_clauseOf A_t_codeFrom A_t_codeHalf A_t_codeTo A_t_stack A_t_facts x_t_lines A_t_newWords A_t_roundFrom A_t_roundAt A_t_roundTimes x_t_newMany x_t_rounds x_t_itFrom x_t_itTimes x_t_writtenNow x_t_picturesNow x_t_usedNow x_t_chosen x_t_fearOfChosen A_t_leastFrom A_t_rowNow x_t_changesNow x_t_left0 A_t_bornOf A_t_trainsTo A_t_trainAt x_t_trainMany x_t_leastTries x_t_firstTrained x_t_isKept, iA cI 293 A_t_aside v_t_aside, iA cI 293 A_t_now v_t_now, iA cI 16 A_t_rhymeOf v_t_rhymeOf, iA cB 260 A_t_tape v_t_tape, iA cI 16 A_t_wasRhyme v_t_wasRhyme] H → va_D A [oX12 A_t A_t_now A_t_aside A_t_kept A_t_rhymeOf A_t_wasRhyme A_t_wordAt x_t_wordMany A_t_tape x_t_taped x_t_place0 x_t_length0 x_t_fault x_t_number0 x_t_open x_t_codeMany x_t_waiting x_t_saidMany x_t_clauses A_t_said A_t_waitsAt A_t_saidLetter A_t_saidFrom A_t_saidHalf A_t_saidTo A_t_codes A_t_clauseOf A_t_codeFrom A_t_codeHalf A_t_codeTo A_t_stack A_t_facts x_t_lines A_t_newWords A_t_roundFrom A_t_roundAt A_t_roundTimes x_t_newMany x_t_rounds x_t_itFrom x_t_itTimes x_t_writtenNow x_t_picturesNow x_t_usedNow x_t_chosen x_t_fearOfChosen A_t_leastFrom A_t_rowNow x_t_changesNow x_t_left0 A_t_bornOf A_t_trainsTo A_t_trainAt x_t_trainMany x_t_leastTries x_t_firstTrained x_t_isKept, iA cI 293 A_t_aside v_t_aside, iA cI 293 A_t_now v_t_now, iA cI 16 A_t_rhymeOf v_t_rhymeOf, iA cB 260 A_t_tape v_t_tape, iA cI 16 A_t_wasRhyme v_t_wasRhyme] → va_S A s.heap H locs → f_X12_grief_b26 v_t_aside v_t_now v_t_rhymeOf v_t_wasRhyme x_t_codeMany x_t_fault x_t_length0 x_t_lines x_t_number0 x_t_place0 x_t_saidMany x_t_taped = some (o_r, o_v_t_aside, o_v_t_now, o_v_t_rhymeOf, o_v_t_wasRhyme, o_x_t_codeMany, o_x_t_fault, o_x_t_length0, o_x_t_lines, o_x_t_number0, o_x_t_place0, o_x_t_saidMany, o_x_t_taped) → W p l e { frames := 5, cells := 0, slots := 0, locals := 110 } s m ([.ref A_t, .int a1, .int a2] : List Value).toArray below meth c H locs 0 0 (MQ below (PoI D A [oX12 A_t A_t_now A_t_aside A_t_kept A_t_rhymeOf A_t_wasRhyme A_t_wordAt x_t_wordMany A_t_tape o_x_t_taped o_x_t_place0 o_x_t_length0 o_x_t_fault o_x_t_number0 x_t_open o_x_t_codeMany x_t_waiting o_x_t_saidMany x_t_clauses A_t_said A_t_waitsAt A_t_saidLetter A_t_saidFrom A_t_saidHalf A_t_saidTo A_t_codes A_t_clauseOf A_t_codeFrom A_t_codeHalf A_t_codeTo A_t_stack A_t_facts o_x_t_lines A_t_newWords A_t_roundFrom A_t_roundAt A_t_roundTimes x_t_newMany x_t_rounds x_t_itFrom x_t_itTimes x_t_writtenNow x_t_picturesNow x_t_usedNow x_t_chosen x_t_fearOfChosen A_t_leastFrom A_t_rowNow x_t_changesNow x_t_left0 A_t_bornOf A_t_trainsTo A_t_trainAt x_t_trainMany x_t_leastTries x_t_firstTrained x_t_isKept, iA cI 293 A_t_aside o_v_t_aside, iA cI 293 A_t_now o_v_t_now, iA cI 16 A_t_rhymeOf o_v_t_rhymeOf, iA cB 260 A_t_tape v_t_tape, iA cI 16 A_t_wasRhyme o_v_t_wasRhyme] o_r) ([.ref A_t, .int a1, .int a2] : List Value).toArray s 0 0 A) (F0 m 26 ls []) := by
    intro v_t_aside v_t_now v_t_rhymeOf v_t_wasRhyme x_t_codeMany x_t_fault x_t_length0 x_t_lines x_t_number0 x_t_place0 x_t_saidMany x_t_taped H locs ls hl hP hD hS hf
    unfold f_X12_grief_b26 at hf
    refine lv_iconst (v := -1) hx hb dX12_grief_26 (by decide) ?_
    obtain ⟨rfl, rfl, rfl, rfl, rfl, rfl, rfl, rfl, rfl, rfl, rfl, rfl, rfl⟩ := ev13 hf
    exact x_iret C hr hlk hP hD hS dX12_grief_27
  have hb_150 : ∀ (n_150 : Nat) (v_t_aside : (Nat → Int32)) (v_t_now : (Nat → Int32)) (v_t_rhymeOf : (Nat → Int32)) (v_t_wasRhyme : (Nat → Int32)) (x_t_codeMany : Int32) (x_t_fault : Int32) (x_t_length0 : Int32) (x_t_lines : Int32) (x_t_number0 : Int32) (x_t_place0 : Int32) (x_t_saidMany : Int32) (x_t_taped : Int32) (l4 : Int32) (H : Heap) (locs : List Loc) (ls : Array Slot), lv_has ls 5 [(0, .ref A_t), (4, .int l4)] → va_P D vwCl [oX12 A_t A_t_now A_t_aside A_t_kept A_t_rhymeOf A_t_wasRhyme A_t_wordAt x_t_wordMany A_t_tape x_t_taped x_t_place0 x_t_length0 x_t_fault x_t_number0 x_t_open x_t_codeMany x_t_waiting x_t_saidMany x_t_clauses A_t_said A_t_waitsAt A_t_saidLetter A_t_saidFrom A_t_saidHalf A_t_saidTo A_t_codes A_t_clauseOf A_t_codeFrom A_t_codeHalf A_t_codeTo A_t_stack A_t_facts x_t_lines A_t_newWords A_t_roundFrom A_t_roundAt A_t_roundTimes x_t_newMany x_t_rounds x_t_itFrom x_t_itTimes x_t_writtenNow x_t_picturesNow x_t_usedNow x_t_chosen x_t_fearOfChosen A_t_leastFrom A_t_rowNow x_t_changesNow x_t_left0 A_t_bornOf A_t_trainsTo A_t_trainAt x_t_trainMany x_t_leastTries x_t_firstTrained x_t_isKept, iA cI 293 A_t_aside v_t_aside, iA cI 293 A_t_now v_t_now, iA cI 16 A_t_rhymeOf v_t_rhymeOf, iA cB 260 A_t_tape v_t_tape, iA cI 16 A_t_wasRhyme v_t_wasRhyme] H → va_D A [oX12 A_t A_t_now A_t_aside A_t_kept A_t_rhymeOf A_t_wasRhyme A_t_wordAt x_t_wordMany A_t_tape x_t_taped x_t_place0 x_t_length0 x_t_fault x_t_number0 x_t_open x_t_codeMany x_t_waiting x_t_saidMany x_t_clauses A_t_said A_t_waitsAt A_t_saidLetter A_t_saidFrom A_t_saidHalf A_t_saidTo A_t_codes A_t_clauseOf A_t_codeFrom A_t_codeHalf A_t_codeTo A_t_stack A_t_facts x_t_lines A_t_newWords A_t_roundFrom A_t_roundAt A_t_roundTimes x_t_newMany x_t_rounds x_t_itFrom x_t_itTimes x_t_writtenNow x_t_picturesNow x_t_usedNow x_t_chosen x_t_fearOfChosen A_t_leastFrom A_t_rowNow x_t_changesNow x_t_left0 A_t_bornOf A_t_trainsTo A_t_trainAt x_t_trainMany x_t_leastTries x_t_firstTrained x_t_isKept, iA cI 293 A_t_aside v_t_aside, iA cI 293 A_t_now v_t_now, iA cI 16 A_t_rhymeOf v_t_rhymeOf, iA cB 260 A_t_tape v_t_tape, iA cI 16 A_t_wasRhyme v_t_wasRhyme] → va_S A s.heap H locs → f_X12_grief_b150 n_150 v_t_aside v_t_now v_t_rhymeOf v_t_wasRhyme x_t_codeMany x_t_fault x_t_length0 x_t_lines x_t_number0 x_t_place0 x_t_saidMany x_t_taped l4 = some (o_r, o_v_t_aside, o_v_t_now, o_v_t_rhymeOf, o_v_t_wasRhyme, o_x_t_codeMany, o_x_t_fault, o_x_t_length0, o_x_t_lines, o_x_t_number0, o_x_t_place0, o_x_t_saidMany, o_x_t_taped) → W p l e { frames := 5, cells := 0, slots := 0, locals := 110 } s m ([.ref A_t, .int a1, .int a2] : List Value).toArray below meth c H locs 0 0 (MQ below (PoI D A [oX12 A_t A_t_now A_t_aside A_t_kept A_t_rhymeOf A_t_wasRhyme A_t_wordAt x_t_wordMany A_t_tape o_x_t_taped o_x_t_place0 o_x_t_length0 o_x_t_fault o_x_t_number0 x_t_open o_x_t_codeMany x_t_waiting o_x_t_saidMany x_t_clauses A_t_said A_t_waitsAt A_t_saidLetter A_t_saidFrom A_t_saidHalf A_t_saidTo A_t_codes A_t_clauseOf A_t_codeFrom A_t_codeHalf A_t_codeTo A_t_stack A_t_facts o_x_t_lines A_t_newWords A_t_roundFrom A_t_roundAt A_t_roundTimes x_t_newMany x_t_rounds x_t_itFrom x_t_itTimes x_t_writtenNow x_t_picturesNow x_t_usedNow x_t_chosen x_t_fearOfChosen A_t_leastFrom A_t_rowNow x_t_changesNow x_t_left0 A_t_bornOf A_t_trainsTo A_t_trainAt x_t_trainMany x_t_leastTries x_t_firstTrained x_t_isKept, iA cI 293 A_t_aside o_v_t_aside, iA cI 293 A_t_now o_v_t_now, iA cI 16 A_t_rhymeOf o_v_t_rhymeOf, iA cB 260 A_t_tape v_t_tape, iA cI 16 A_t_wasRhyme o_v_t_wasRhyme] o_r) ([.ref A_t, .int a1, .int a2] : List Value).toArray s 0 0 A) (F0 m 150 ls []) := by
    intro n_150
    induction n_150 with
    | zero =>
      intro v_t_aside v_t_now v_t_rhymeOf v_t_wasRhyme x_t_codeMany x_t_fault x_t_length0 x_t_lines x_t_number0 x_t_place0 x_t_saidMany x_t_taped l4 H locs ls hl hP hD hS hf
      exact absurd hf (fun h => by rw [f_X12_grief_b150] at h; cases h)
    | succ n_150 ih_150 =>
      intro v_t_aside v_t_now v_t_rhymeOf v_t_wasRhyme x_t_codeMany x_t_fault x_t_length0 x_t_lines x_t_number0 x_t_place0 x_t_saidMany x_t_taped l4 H locs ls hl hP hD hS hf
      rw [f_X12_grief_b150] at hf
      refine lv_iload hx hb dX12_grief_150 (lv_at hl 1 rfl) ?_
      refine lv_bipush (v := 16) hx hb dX12_grief_152 (by decide) ?_
      refine lv_icmp_ge (tgt := 177) hx hb dX12_grief_154 (by decide) (fun q => ?_) (fun q => ?_)
      · have hf := if_t q hf
        refine lv_aload_n hx hb dX12_grief_177 rfl (lv_at hl 0 rfl) ?_
        refine x_get C hK hP fd_X12_160 0 rfl rfl dX12_grief_178 ?_
        obtain ⟨rfl, rfl, rfl, rfl, rfl, rfl, rfl, rfl, rfl, rfl, rfl, rfl, rfl⟩ := ev13 hf
        exact x_iret C hr hlk hP hD hS dX12_grief_181
      · have hf := if_f q hf
        refine lv_aload_n hx hb dX12_grief_157 rfl (lv_at hl 0 rfl) ?_
        refine x_get C hK hP fd_X12_19 0 rfl rfl dX12_grief_158 ?_
        refine lv_iload hx hb dX12_grief_161 (lv_at hl 1 rfl) ?_
        refine lv_aload_n hx hb dX12_grief_163 rfl (lv_at hl 0 rfl) ?_
        refine x_get C hK hP fd_X12_22 0 rfl rfl dX12_grief_164 ?_
        refine lv_iload hx hb dX12_grief_167 (lv_at hl 1 rfl) ?_
        obtain ⟨hi, hf⟩ := gI_e hf
        refine x_iald C hK hP 5 rfl hi dX12_grief_169 ?_
        obtain ⟨hi, hf⟩ := sI_e hf
        refine x_iast (ws' := [oX12 A_t A_t_now A_t_aside A_t_kept A_t_rhymeOf A_t_wasRhyme A_t_wordAt x_t_wordMany A_t_tape x_t_taped x_t_place0 x_t_length0 x_t_fault x_t_number0 x_t_open x_t_codeMany x_t_waiting x_t_saidMany x_t_clauses A_t_said A_t_waitsAt A_t_saidLetter A_t_saidFrom A_t_saidHalf A_t_saidTo A_t_codes A_t_clauseOf A_t_codeFrom A_t_codeHalf A_t_codeTo A_t_stack A_t_facts x_t_lines A_t_newWords A_t_roundFrom A_t_roundAt A_t_roundTimes x_t_newMany x_t_rounds x_t_itFrom x_t_itTimes x_t_writtenNow x_t_picturesNow x_t_usedNow x_t_chosen x_t_fearOfChosen A_t_leastFrom A_t_rowNow x_t_changesNow x_t_left0 A_t_bornOf A_t_trainsTo A_t_trainAt x_t_trainMany x_t_leastTries x_t_firstTrained x_t_isKept, iA cI 293 A_t_aside v_t_aside, iA cI 293 A_t_now v_t_now, iA cI 16 A_t_rhymeOf (upd v_t_rhymeOf l4.toNatClampNeg (v_t_wasRhyme l4.toNatClampNeg)), iA cB 260 A_t_tape v_t_tape, iA cI 16 A_t_wasRhyme v_t_wasRhyme]) C hK hP hD hS 3 rfl hi rfl dX12_grief_170 ?_
        intro H locs hP hD hS
        refine lv_iinc (v := (l4 + (1 : Int32))) (lv' := [(4, .int (l4 + (1 : Int32))), (0, .ref A_t)]) hx hb dX12_grief_171 hl (k := 1) rfl rfl (by decide) rfl (fun ls hl => ?_)
        refine lv_goto (tgt := 150) hx hb dX12_grief_174 (by decide) ?_
        exact ih_150 v_t_aside v_t_now (upd v_t_rhymeOf l4.toNatClampNeg (v_t_wasRhyme l4.toNatClampNeg)) v_t_wasRhyme x_t_codeMany x_t_fault x_t_length0 x_t_lines x_t_number0 x_t_place0 x_t_saidMany x_t_taped (l4 + (1 : Int32)) _ _ ls (lv_sub hl [1, 0] rfl) hP hD hS hf
  have hb_122 : ∀ (v_t_aside : (Nat → Int32)) (v_t_now : (Nat → Int32)) (v_t_rhymeOf : (Nat → Int32)) (v_t_wasRhyme : (Nat → Int32)) (x_t_codeMany : Int32) (x_t_fault : Int32) (x_t_length0 : Int32) (x_t_lines : Int32) (x_t_number0 : Int32) (x_t_place0 : Int32) (x_t_saidMany : Int32) (x_t_taped : Int32) (l3 : Int32) (H : Heap) (locs : List Loc) (ls : Array Slot), lv_has ls 5 [(0, .ref A_t), (3, .int l3)] → va_P D vwCl [oX12 A_t A_t_now A_t_aside A_t_kept A_t_rhymeOf A_t_wasRhyme A_t_wordAt x_t_wordMany A_t_tape x_t_taped x_t_place0 x_t_length0 x_t_fault x_t_number0 x_t_open x_t_codeMany x_t_waiting x_t_saidMany x_t_clauses A_t_said A_t_waitsAt A_t_saidLetter A_t_saidFrom A_t_saidHalf A_t_saidTo A_t_codes A_t_clauseOf A_t_codeFrom A_t_codeHalf A_t_codeTo A_t_stack A_t_facts x_t_lines A_t_newWords A_t_roundFrom A_t_roundAt A_t_roundTimes x_t_newMany x_t_rounds x_t_itFrom x_t_itTimes x_t_writtenNow x_t_picturesNow x_t_usedNow x_t_chosen x_t_fearOfChosen A_t_leastFrom A_t_rowNow x_t_changesNow x_t_left0 A_t_bornOf A_t_trainsTo A_t_trainAt x_t_trainMany x_t_leastTries x_t_firstTrained x_t_isKept, iA cI 293 A_t_aside v_t_aside, iA cI 293 A_t_now v_t_now, iA cI 16 A_t_rhymeOf v_t_rhymeOf, iA cB 260 A_t_tape v_t_tape, iA cI 16 A_t_wasRhyme v_t_wasRhyme] H → va_D A [oX12 A_t A_t_now A_t_aside A_t_kept A_t_rhymeOf A_t_wasRhyme A_t_wordAt x_t_wordMany A_t_tape x_t_taped x_t_place0 x_t_length0 x_t_fault x_t_number0 x_t_open x_t_codeMany x_t_waiting x_t_saidMany x_t_clauses A_t_said A_t_waitsAt A_t_saidLetter A_t_saidFrom A_t_saidHalf A_t_saidTo A_t_codes A_t_clauseOf A_t_codeFrom A_t_codeHalf A_t_codeTo A_t_stack A_t_facts x_t_lines A_t_newWords A_t_roundFrom A_t_roundAt A_t_roundTimes x_t_newMany x_t_rounds x_t_itFrom x_t_itTimes x_t_writtenNow x_t_picturesNow x_t_usedNow x_t_chosen x_t_fearOfChosen A_t_leastFrom A_t_rowNow x_t_changesNow x_t_left0 A_t_bornOf A_t_trainsTo A_t_trainAt x_t_trainMany x_t_leastTries x_t_firstTrained x_t_isKept, iA cI 293 A_t_aside v_t_aside, iA cI 293 A_t_now v_t_now, iA cI 16 A_t_rhymeOf v_t_rhymeOf, iA cB 260 A_t_tape v_t_tape, iA cI 16 A_t_wasRhyme v_t_wasRhyme] → va_S A s.heap H locs → f_X12_grief_b122 v_t_aside v_t_now v_t_rhymeOf v_t_wasRhyme x_t_codeMany x_t_fault x_t_length0 x_t_lines x_t_number0 x_t_place0 x_t_saidMany x_t_taped l3 = some (o_r, o_v_t_aside, o_v_t_now, o_v_t_rhymeOf, o_v_t_wasRhyme, o_x_t_codeMany, o_x_t_fault, o_x_t_length0, o_x_t_lines, o_x_t_number0, o_x_t_place0, o_x_t_saidMany, o_x_t_taped) → W p l e { frames := 5, cells := 0, slots := 0, locals := 110 } s m ([.ref A_t, .int a1, .int a2] : List Value).toArray below meth c H locs 0 0 (MQ below (PoI D A [oX12 A_t A_t_now A_t_aside A_t_kept A_t_rhymeOf A_t_wasRhyme A_t_wordAt x_t_wordMany A_t_tape o_x_t_taped o_x_t_place0 o_x_t_length0 o_x_t_fault o_x_t_number0 x_t_open o_x_t_codeMany x_t_waiting o_x_t_saidMany x_t_clauses A_t_said A_t_waitsAt A_t_saidLetter A_t_saidFrom A_t_saidHalf A_t_saidTo A_t_codes A_t_clauseOf A_t_codeFrom A_t_codeHalf A_t_codeTo A_t_stack A_t_facts o_x_t_lines A_t_newWords A_t_roundFrom A_t_roundAt A_t_roundTimes x_t_newMany x_t_rounds x_t_itFrom x_t_itTimes x_t_writtenNow x_t_picturesNow x_t_usedNow x_t_chosen x_t_fearOfChosen A_t_leastFrom A_t_rowNow x_t_changesNow x_t_left0 A_t_bornOf A_t_trainsTo A_t_trainAt x_t_trainMany x_t_leastTries x_t_firstTrained x_t_isKept, iA cI 293 A_t_aside o_v_t_aside, iA cI 293 A_t_now o_v_t_now, iA cI 16 A_t_rhymeOf o_v_t_rhymeOf, iA cB 260 A_t_tape v_t_tape, iA cI 16 A_t_wasRhyme o_v_t_wasRhyme] o_r) ([.ref A_t, .int a1, .int a2] : List Value).toArray s 0 0 A) (F0 m 122 ls []) := by
    intro v_t_aside v_t_now v_t_rhymeOf v_t_wasRhyme x_t_codeMany x_t_fault x_t_length0 x_t_lines x_t_number0 x_t_place0 x_t_saidMany x_t_taped l3 H locs ls hl hP hD hS hf
    unfold f_X12_grief_b122 at hf
    refine lv_aload_n hx hb dX12_grief_122 rfl (lv_at hl 0 rfl) ?_
    refine lv_iconst (v := 0) hx hb dX12_grief_123 (by decide) ?_
    refine x_put (ws' := [oX12 A_t A_t_now A_t_aside A_t_kept A_t_rhymeOf A_t_wasRhyme A_t_wordAt x_t_wordMany A_t_tape (0 : Int32) x_t_place0 x_t_length0 x_t_fault x_t_number0 x_t_open x_t_codeMany x_t_waiting x_t_saidMany x_t_clauses A_t_said A_t_waitsAt A_t_saidLetter A_t_saidFrom A_t_saidHalf A_t_saidTo A_t_codes A_t_clauseOf A_t_codeFrom A_t_codeHalf A_t_codeTo A_t_stack A_t_facts x_t_lines A_t_newWords A_t_roundFrom A_t_roundAt A_t_roundTimes x_t_newMany x_t_rounds x_t_itFrom x_t_itTimes x_t_writtenNow x_t_picturesNow x_t_usedNow x_t_chosen x_t_fearOfChosen A_t_leastFrom A_t_rowNow x_t_changesNow x_t_left0 A_t_bornOf A_t_trainsTo A_t_trainAt x_t_trainMany x_t_leastTries x_t_firstTrained x_t_isKept, iA cI 293 A_t_aside v_t_aside, iA cI 293 A_t_now v_t_now, iA cI 16 A_t_rhymeOf v_t_rhymeOf, iA cB 260 A_t_tape v_t_tape, iA cI 16 A_t_wasRhyme v_t_wasRhyme]) C hK hP hD hS fp_X12_143 0 rfl rfl rfl (Nat.le_of_ble_eq_true rfl) rfl dX12_grief_124 ?_
    intro H locs hP hD hS
    refine lv_iload_n hx hb dX12_grief_127 rfl (lv_at hl 1 rfl) ?_
    refine lv_if_eq (tgt := 136) hx hb dX12_grief_128 (by decide) (fun q => ?_) (fun q => ?_)
    · have hf := if_t q hf
      refine lv_aload_n hx hb dX12_grief_136 rfl (lv_at hl 0 rfl) ?_
      refine x_get C hK hP fd_X12_13 0 rfl rfl dX12_grief_137 ?_
      refine lv_aload_n hx hb dX12_grief_140 rfl (lv_at hl 0 rfl) ?_
      refine x_get C hK hP fd_X12_7 0 rfl rfl dX12_grief_141 ?_
      obtain ⟨w1, hc2, hf⟩ := bd1_e hf
      refine x_callSV (ws' := [oX12 A_t A_t_now A_t_aside A_t_kept A_t_rhymeOf A_t_wasRhyme A_t_wordAt x_t_wordMany A_t_tape (0 : Int32) x_t_place0 x_t_length0 x_t_fault x_t_number0 x_t_open x_t_codeMany x_t_waiting x_t_saidMany x_t_clauses A_t_said A_t_waitsAt A_t_saidLetter A_t_saidFrom A_t_saidHalf A_t_saidTo A_t_codes A_t_clauseOf A_t_codeFrom A_t_codeHalf A_t_codeTo A_t_stack A_t_facts x_t_lines A_t_newWords A_t_roundFrom A_t_roundAt A_t_roundTimes x_t_newMany x_t_rounds x_t_itFrom x_t_itTimes x_t_writtenNow x_t_picturesNow x_t_usedNow x_t_chosen x_t_fearOfChosen A_t_leastFrom A_t_rowNow x_t_changesNow x_t_left0 A_t_bornOf A_t_trainsTo A_t_trainAt x_t_trainMany x_t_leastTries x_t_firstTrained x_t_isKept, iA cI 293 A_t_aside v_t_aside, iA cI 293 A_t_now w1, iA cI 16 A_t_rhymeOf v_t_rhymeOf, iA cB 260 A_t_tape v_t_tape, iA cI 16 A_t_wasRhyme v_t_wasRhyme]) (rest := []) C hK hP hD hS hA hl mf_X12_272 (c_X12_copies hc2) [1, 2] rfl rfl rfl rfl rfl rfl rfl rfl (Nat.le_of_ble_eq_true rfl) ⟨Nat.le_of_ble_eq_true rfl, Nat.le_of_ble_eq_true rfl⟩ ⟨Nat.le_refl _, Nat.le_refl _⟩ dX12_grief_144 ?_
      intro H locs hP hD hS
      refine lv_iconst (v := 0) hx hb dX12_grief_147 (by decide) ?_
      refine lv_istore (lv' := [(4, .int (0 : Int32)), (0, .ref A_t), (3, .int l3)]) hx hb dX12_grief_148 hl (by decide) rfl (fun ls hl => ?_)
      exact hb_150 FU v_t_aside w1 v_t_rhymeOf v_t_wasRhyme x_t_codeMany x_t_fault x_t_length0 x_t_lines x_t_number0 x_t_place0 x_t_saidMany (0 : Int32) (0 : Int32) _ _ ls (lv_sub hl [1, 0] rfl) hP hD hS hf
    · have hf := if_f q hf
      refine lv_aload_n hx hb dX12_grief_131 rfl (lv_at hl 0 rfl) ?_
      refine x_get C hK hP fd_X12_263 0 rfl rfl dX12_grief_132 ?_
      obtain ⟨rfl, rfl, rfl, rfl, rfl, rfl, rfl, rfl, rfl, rfl, rfl, rfl, rfl⟩ := ev13 hf
      exact x_iret C hr hlk hP hD hS dX12_grief_135
  have hb_81 : ∀ (n_81 : Nat) (v_t_aside : (Nat → Int32)) (v_t_now : (Nat → Int32)) (v_t_rhymeOf : (Nat → Int32)) (v_t_wasRhyme : (Nat → Int32)) (x_t_codeMany : Int32) (x_t_fault : Int32) (x_t_length0 : Int32) (x_t_lines : Int32) (x_t_number0 : Int32) (x_t_place0 : Int32) (x_t_saidMany : Int32) (x_t_taped : Int32) (l3 : Int32) (H : Heap) (locs : List Loc) (ls : Array Slot), lv_has ls 5 [(0, .ref A_t), (1, .int a1), (3, .int l3)] → va_P D vwCl [oX12 A_t A_t_now A_t_aside A_t_kept A_t_rhymeOf A_t_wasRhyme A_t_wordAt x_t_wordMany A_t_tape x_t_taped x_t_place0 x_t_length0 x_t_fault x_t_number0 x_t_open x_t_codeMany x_t_waiting x_t_saidMany x_t_clauses A_t_said A_t_waitsAt A_t_saidLetter A_t_saidFrom A_t_saidHalf A_t_saidTo A_t_codes A_t_clauseOf A_t_codeFrom A_t_codeHalf A_t_codeTo A_t_stack A_t_facts x_t_lines A_t_newWords A_t_roundFrom A_t_roundAt A_t_roundTimes x_t_newMany x_t_rounds x_t_itFrom x_t_itTimes x_t_writtenNow x_t_picturesNow x_t_usedNow x_t_chosen x_t_fearOfChosen A_t_leastFrom A_t_rowNow x_t_changesNow x_t_left0 A_t_bornOf A_t_trainsTo A_t_trainAt x_t_trainMany x_t_leastTries x_t_firstTrained x_t_isKept, iA cI 293 A_t_aside v_t_aside, iA cI 293 A_t_now v_t_now, iA cI 16 A_t_rhymeOf v_t_rhymeOf, iA cB 260 A_t_tape v_t_tape, iA cI 16 A_t_wasRhyme v_t_wasRhyme] H → va_D A [oX12 A_t A_t_now A_t_aside A_t_kept A_t_rhymeOf A_t_wasRhyme A_t_wordAt x_t_wordMany A_t_tape x_t_taped x_t_place0 x_t_length0 x_t_fault x_t_number0 x_t_open x_t_codeMany x_t_waiting x_t_saidMany x_t_clauses A_t_said A_t_waitsAt A_t_saidLetter A_t_saidFrom A_t_saidHalf A_t_saidTo A_t_codes A_t_clauseOf A_t_codeFrom A_t_codeHalf A_t_codeTo A_t_stack A_t_facts x_t_lines A_t_newWords A_t_roundFrom A_t_roundAt A_t_roundTimes x_t_newMany x_t_rounds x_t_itFrom x_t_itTimes x_t_writtenNow x_t_picturesNow x_t_usedNow x_t_chosen x_t_fearOfChosen A_t_leastFrom A_t_rowNow x_t_changesNow x_t_left0 A_t_bornOf A_t_trainsTo A_t_trainAt x_t_trainMany x_t_leastTries x_t_firstTrained x_t_isKept, iA cI 293 A_t_aside v_t_aside, iA cI 293 A_t_now v_t_now, iA cI 16 A_t_rhymeOf v_t_rhymeOf, iA cB 260 A_t_tape v_t_tape, iA cI 16 A_t_wasRhyme v_t_wasRhyme] → va_S A s.heap H locs → f_X12_grief_b81 v_t_tape a1 n_81 v_t_aside v_t_now v_t_rhymeOf v_t_wasRhyme x_t_codeMany x_t_fault x_t_length0 x_t_lines x_t_number0 x_t_place0 x_t_saidMany x_t_taped l3 = some (o_r, o_v_t_aside, o_v_t_now, o_v_t_rhymeOf, o_v_t_wasRhyme, o_x_t_codeMany, o_x_t_fault, o_x_t_length0, o_x_t_lines, o_x_t_number0, o_x_t_place0, o_x_t_saidMany, o_x_t_taped) → W p l e { frames := 5, cells := 0, slots := 0, locals := 110 } s m ([.ref A_t, .int a1, .int a2] : List Value).toArray below meth c H locs 0 0 (MQ below (PoI D A [oX12 A_t A_t_now A_t_aside A_t_kept A_t_rhymeOf A_t_wasRhyme A_t_wordAt x_t_wordMany A_t_tape o_x_t_taped o_x_t_place0 o_x_t_length0 o_x_t_fault o_x_t_number0 x_t_open o_x_t_codeMany x_t_waiting o_x_t_saidMany x_t_clauses A_t_said A_t_waitsAt A_t_saidLetter A_t_saidFrom A_t_saidHalf A_t_saidTo A_t_codes A_t_clauseOf A_t_codeFrom A_t_codeHalf A_t_codeTo A_t_stack A_t_facts o_x_t_lines A_t_newWords A_t_roundFrom A_t_roundAt A_t_roundTimes x_t_newMany x_t_rounds x_t_itFrom x_t_itTimes x_t_writtenNow x_t_picturesNow x_t_usedNow x_t_chosen x_t_fearOfChosen A_t_leastFrom A_t_rowNow x_t_changesNow x_t_left0 A_t_bornOf A_t_trainsTo A_t_trainAt x_t_trainMany x_t_leastTries x_t_firstTrained x_t_isKept, iA cI 293 A_t_aside o_v_t_aside, iA cI 293 A_t_now o_v_t_now, iA cI 16 A_t_rhymeOf o_v_t_rhymeOf, iA cB 260 A_t_tape v_t_tape, iA cI 16 A_t_wasRhyme o_v_t_wasRhyme] o_r) ([.ref A_t, .int a1, .int a2] : List Value).toArray s 0 0 A) (F0 m 81 ls []) := by
    intro n_81
    induction n_81 with
    | zero =>
      intro v_t_aside v_t_now v_t_rhymeOf v_t_wasRhyme x_t_codeMany x_t_fault x_t_length0 x_t_lines x_t_number0 x_t_place0 x_t_saidMany x_t_taped l3 H locs ls hl hP hD hS hf
      exact absurd hf (fun h => by rw [f_X12_grief_b81] at h; cases h)
    | succ n_81 ih_81 =>
      have hb_118 : ∀ (v_t_aside : (Nat → Int32)) (v_t_now : (Nat → Int32)) (v_t_rhymeOf : (Nat → Int32)) (v_t_wasRhyme : (Nat → Int32)) (x_t_codeMany : Int32) (x_t_fault : Int32) (x_t_length0 : Int32) (x_t_lines : Int32) (x_t_number0 : Int32) (x_t_place0 : Int32) (x_t_saidMany : Int32) (x_t_taped : Int32) (s0 : Int32) (H : Heap) (locs : List Loc) (ls : Array Slot), lv_has ls 5 [(0, .ref A_t), (1, .int a1)] → va_P D vwCl [oX12 A_t A_t_now A_t_aside A_t_kept A_t_rhymeOf A_t_wasRhyme A_t_wordAt x_t_wordMany A_t_tape x_t_taped x_t_place0 x_t_length0 x_t_fault x_t_number0 x_t_open x_t_codeMany x_t_waiting x_t_saidMany x_t_clauses A_t_said A_t_waitsAt A_t_saidLetter A_t_saidFrom A_t_saidHalf A_t_saidTo A_t_codes A_t_clauseOf A_t_codeFrom A_t_codeHalf A_t_codeTo A_t_stack A_t_facts x_t_lines A_t_newWords A_t_roundFrom A_t_roundAt A_t_roundTimes x_t_newMany x_t_rounds x_t_itFrom x_t_itTimes x_t_writtenNow x_t_picturesNow x_t_usedNow x_t_chosen x_t_fearOfChosen A_t_leastFrom A_t_rowNow x_t_changesNow x_t_left0 A_t_bornOf A_t_trainsTo A_t_trainAt x_t_trainMany x_t_leastTries x_t_firstTrained x_t_isKept, iA cI 293 A_t_aside v_t_aside, iA cI 293 A_t_now v_t_now, iA cI 16 A_t_rhymeOf v_t_rhymeOf, iA cB 260 A_t_tape v_t_tape, iA cI 16 A_t_wasRhyme v_t_wasRhyme] H → va_D A [oX12 A_t A_t_now A_t_aside A_t_kept A_t_rhymeOf A_t_wasRhyme A_t_wordAt x_t_wordMany A_t_tape x_t_taped x_t_place0 x_t_length0 x_t_fault x_t_number0 x_t_open x_t_codeMany x_t_waiting x_t_saidMany x_t_clauses A_t_said A_t_waitsAt A_t_saidLetter A_t_saidFrom A_t_saidHalf A_t_saidTo A_t_codes A_t_clauseOf A_t_codeFrom A_t_codeHalf A_t_codeTo A_t_stack A_t_facts x_t_lines A_t_newWords A_t_roundFrom A_t_roundAt A_t_roundTimes x_t_newMany x_t_rounds x_t_itFrom x_t_itTimes x_t_writtenNow x_t_picturesNow x_t_usedNow x_t_chosen x_t_fearOfChosen A_t_leastFrom A_t_rowNow x_t_changesNow x_t_left0 A_t_bornOf A_t_trainsTo A_t_trainAt x_t_trainMany x_t_leastTries x_t_firstTrained x_t_isKept, iA cI 293 A_t_aside v_t_aside, iA cI 293 A_t_now v_t_now, iA cI 16 A_t_rhymeOf v_t_rhymeOf, iA cB 260 A_t_tape v_t_tape, iA cI 16 A_t_wasRhyme v_t_wasRhyme] → va_S A s.heap H locs → f_X12_grief_b118 a1 (f_X12_grief_b81 v_t_tape a1 n_81) v_t_aside v_t_now v_t_rhymeOf v_t_wasRhyme x_t_codeMany x_t_fault x_t_length0 x_t_lines x_t_number0 x_t_place0 x_t_saidMany x_t_taped s0 = some (o_r, o_v_t_aside, o_v_t_now, o_v_t_rhymeOf, o_v_t_wasRhyme, o_x_t_codeMany, o_x_t_fault, o_x_t_length0, o_x_t_lines, o_x_t_number0, o_x_t_place0, o_x_t_saidMany, o_x_t_taped) → W p l e { frames := 5, cells := 0, slots := 0, locals := 110 } s m ([.ref A_t, .int a1, .int a2] : List Value).toArray below meth c H locs 0 0 (MQ below (PoI D A [oX12 A_t A_t_now A_t_aside A_t_kept A_t_rhymeOf A_t_wasRhyme A_t_wordAt x_t_wordMany A_t_tape o_x_t_taped o_x_t_place0 o_x_t_length0 o_x_t_fault o_x_t_number0 x_t_open o_x_t_codeMany x_t_waiting o_x_t_saidMany x_t_clauses A_t_said A_t_waitsAt A_t_saidLetter A_t_saidFrom A_t_saidHalf A_t_saidTo A_t_codes A_t_clauseOf A_t_codeFrom A_t_codeHalf A_t_codeTo A_t_stack A_t_facts o_x_t_lines A_t_newWords A_t_roundFrom A_t_roundAt A_t_roundTimes x_t_newMany x_t_rounds x_t_itFrom x_t_itTimes x_t_writtenNow x_t_picturesNow x_t_usedNow x_t_chosen x_t_fearOfChosen A_t_leastFrom A_t_rowNow x_t_changesNow x_t_left0 A_t_bornOf A_t_trainsTo A_t_trainAt x_t_trainMany x_t_leastTries x_t_firstTrained x_t_isKept, iA cI 293 A_t_aside o_v_t_aside, iA cI 293 A_t_now o_v_t_now, iA cI 16 A_t_rhymeOf o_v_t_rhymeOf, iA cB 260 A_t_tape v_t_tape, iA cI 16 A_t_wasRhyme o_v_t_wasRhyme] o_r) ([.ref A_t, .int a1, .int a2] : List Value).toArray s 0 0 A) (F0 m 118 ls [.int s0]) := by
        intro v_t_aside v_t_now v_t_rhymeOf v_t_wasRhyme x_t_codeMany x_t_fault x_t_length0 x_t_lines x_t_number0 x_t_place0 x_t_saidMany x_t_taped s0 H locs ls hl hP hD hS hf
        unfold f_X12_grief_b118 at hf
        refine lv_istore_n (lv' := [(3, .int s0), (0, .ref A_t), (1, .int a1)]) hx hb dX12_grief_118 rfl hl (by decide) rfl (fun ls hl => ?_)
        refine lv_goto (tgt := 81) hx hb dX12_grief_119 (by decide) ?_
        exact ih_81 v_t_aside v_t_now v_t_rhymeOf v_t_wasRhyme x_t_codeMany x_t_fault x_t_length0 x_t_lines x_t_number0 x_t_place0 x_t_saidMany x_t_taped s0 _ _ ls (lv_sub hl [1, 2, 0] rfl) hP hD hS hf
      have hb_117 : ∀ (v_t_aside : (Nat → Int32)) (v_t_now : (Nat → Int32)) (v_t_rhymeOf : (Nat → Int32)) (v_t_wasRhyme : (Nat → Int32)) (x_t_codeMany : Int32) (x_t_fault : Int32) (x_t_length0 : Int32) (x_t_lines : Int32) (x_t_number0 : Int32) (x_t_place0 : Int32) (x_t_saidMany : Int32) (x_t_taped : Int32) (H : Heap) (locs : List Loc) (ls : Array Slot), lv_has ls 5 [(0, .ref A_t), (1, .int a1)] → va_P D vwCl [oX12 A_t A_t_now A_t_aside A_t_kept A_t_rhymeOf A_t_wasRhyme A_t_wordAt x_t_wordMany A_t_tape x_t_taped x_t_place0 x_t_length0 x_t_fault x_t_number0 x_t_open x_t_codeMany x_t_waiting x_t_saidMany x_t_clauses A_t_said A_t_waitsAt A_t_saidLetter A_t_saidFrom A_t_saidHalf A_t_saidTo A_t_codes A_t_clauseOf A_t_codeFrom A_t_codeHalf A_t_codeTo A_t_stack A_t_facts x_t_lines A_t_newWords A_t_roundFrom A_t_roundAt A_t_roundTimes x_t_newMany x_t_rounds x_t_itFrom x_t_itTimes x_t_writtenNow x_t_picturesNow x_t_usedNow x_t_chosen x_t_fearOfChosen A_t_leastFrom A_t_rowNow x_t_changesNow x_t_left0 A_t_bornOf A_t_trainsTo A_t_trainAt x_t_trainMany x_t_leastTries x_t_firstTrained x_t_isKept, iA cI 293 A_t_aside v_t_aside, iA cI 293 A_t_now v_t_now, iA cI 16 A_t_rhymeOf v_t_rhymeOf, iA cB 260 A_t_tape v_t_tape, iA cI 16 A_t_wasRhyme v_t_wasRhyme] H → va_D A [oX12 A_t A_t_now A_t_aside A_t_kept A_t_rhymeOf A_t_wasRhyme A_t_wordAt x_t_wordMany A_t_tape x_t_taped x_t_place0 x_t_length0 x_t_fault x_t_number0 x_t_open x_t_codeMany x_t_waiting x_t_saidMany x_t_clauses A_t_said A_t_waitsAt A_t_saidLetter A_t_saidFrom A_t_saidHalf A_t_saidTo A_t_codes A_t_clauseOf A_t_codeFrom A_t_codeHalf A_t_codeTo A_t_stack A_t_facts x_t_lines A_t_newWords A_t_roundFrom A_t_roundAt A_t_roundTimes x_t_newMany x_t_rounds x_t_itFrom x_t_itTimes x_t_writtenNow x_t_picturesNow x_t_usedNow x_t_chosen x_t_fearOfChosen A_t_leastFrom A_t_rowNow x_t_changesNow x_t_left0 A_t_bornOf A_t_trainsTo A_t_trainAt x_t_trainMany x_t_leastTries x_t_firstTrained x_t_isKept, iA cI 293 A_t_aside v_t_aside, iA cI 293 A_t_now v_t_now, iA cI 16 A_t_rhymeOf v_t_rhymeOf, iA cB 260 A_t_tape v_t_tape, iA cI 16 A_t_wasRhyme v_t_wasRhyme] → va_S A s.heap H locs → f_X12_grief_b117 a1 (f_X12_grief_b81 v_t_tape a1 n_81) v_t_aside v_t_now v_t_rhymeOf v_t_wasRhyme x_t_codeMany x_t_fault x_t_length0 x_t_lines x_t_number0 x_t_place0 x_t_saidMany x_t_taped = some (o_r, o_v_t_aside, o_v_t_now, o_v_t_rhymeOf, o_v_t_wasRhyme, o_x_t_codeMany, o_x_t_fault, o_x_t_length0, o_x_t_lines, o_x_t_number0, o_x_t_place0, o_x_t_saidMany, o_x_t_taped) → W p l e { frames := 5, cells := 0, slots := 0, locals := 110 } s m ([.ref A_t, .int a1, .int a2] : List Value).toArray below meth c H locs 0 0 (MQ below (PoI D A [oX12 A_t A_t_now A_t_aside A_t_kept A_t_rhymeOf A_t_wasRhyme A_t_wordAt x_t_wordMany A_t_tape o_x_t_taped o_x_t_place0 o_x_t_length0 o_x_t_fault o_x_t_number0 x_t_open o_x_t_codeMany x_t_waiting o_x_t_saidMany x_t_clauses A_t_said A_t_waitsAt A_t_saidLetter A_t_saidFrom A_t_saidHalf A_t_saidTo A_t_codes A_t_clauseOf A_t_codeFrom A_t_codeHalf A_t_codeTo A_t_stack A_t_facts o_x_t_lines A_t_newWords A_t_roundFrom A_t_roundAt A_t_roundTimes x_t_newMany x_t_rounds x_t_itFrom x_t_itTimes x_t_writtenNow x_t_picturesNow x_t_usedNow x_t_chosen x_t_fearOfChosen A_t_leastFrom A_t_rowNow x_t_changesNow x_t_left0 A_t_bornOf A_t_trainsTo A_t_trainAt x_t_trainMany x_t_leastTries x_t_firstTrained x_t_isKept, iA cI 293 A_t_aside o_v_t_aside, iA cI 293 A_t_now o_v_t_now, iA cI 16 A_t_rhymeOf o_v_t_rhymeOf, iA cB 260 A_t_tape v_t_tape, iA cI 16 A_t_wasRhyme o_v_t_wasRhyme] o_r) ([.ref A_t, .int a1, .int a2] : List Value).toArray s 0 0 A) (F0 m 117 ls []) := by
        intro v_t_aside v_t_now v_t_rhymeOf v_t_wasRhyme x_t_codeMany x_t_fault x_t_length0 x_t_lines x_t_number0 x_t_place0 x_t_saidMany x_t_taped H locs ls hl hP hD hS hf
        unfold f_X12_grief_b117 at hf
        refine lv_iconst (v := 0) hx hb dX12_grief_117 (by decide) ?_
        exact hb_118 v_t_aside v_t_now v_t_rhymeOf v_t_wasRhyme x_t_codeMany x_t_fault x_t_length0 x_t_lines x_t_number0 x_t_place0 x_t_saidMany x_t_taped (0 : Int32) _ _ ls (lv_sub hl [0, 1] rfl) hP hD hS hf
      intro v_t_aside v_t_now v_t_rhymeOf v_t_wasRhyme x_t_codeMany x_t_fault x_t_length0 x_t_lines x_t_number0 x_t_place0 x_t_saidMany x_t_taped l3 H locs ls hl hP hD hS hf
      rw [f_X12_grief_b81] at hf
      refine lv_iload_n hx hb dX12_grief_81 rfl (lv_at hl 2 rfl) ?_
      refine lv_if_eq (tgt := 122) hx hb dX12_grief_82 (by decide) (fun q => ?_) (fun q => ?_)
      · have hf := if_t q hf
        exact hb_122 v_t_aside v_t_now v_t_rhymeOf v_t_wasRhyme x_t_codeMany x_t_fault x_t_length0 x_t_lines x_t_number0 x_t_place0 x_t_saidMany x_t_taped l3 _ _ ls (lv_sub hl [0, 2] rfl) hP hD hS hf
      · have hf := if_f q hf
        refine lv_aload_n hx hb dX12_grief_85 rfl (lv_at hl 0 rfl) ?_
        refine x_get C hK hP fd_X12_150 0 rfl rfl dX12_grief_86 ?_
        refine lv_aload_n hx hb dX12_grief_89 rfl (lv_at hl 0 rfl) ?_
        refine x_get C hK hP fd_X12_153 0 rfl rfl dX12_grief_90 ?_
        refine lv_icmp_ge (tgt := 122) hx hb dX12_grief_93 (by decide) (fun q => ?_) (fun q => ?_)
        · have hf := if_t q hf
          exact hb_122 v_t_aside v_t_now v_t_rhymeOf v_t_wasRhyme x_t_codeMany x_t_fault x_t_length0 x_t_lines x_t_number0 x_t_place0 x_t_saidMany x_t_taped l3 _ _ ls (lv_sub hl [0, 2] rfl) hP hD hS hf
        · have hf := if_f q hf
          refine lv_aload_n hx hb dX12_grief_96 rfl (lv_at hl 0 rfl) ?_
          refine lv_bipush (v := 59) hx hb dX12_grief_97 (by decide) ?_
          obtain ⟨r3, w4, w5, hc6, hf⟩ := bd3_e hf
          refine x_callVI (ws' := [oX12 A_t A_t_now A_t_aside A_t_kept A_t_rhymeOf A_t_wasRhyme A_t_wordAt x_t_wordMany A_t_tape x_t_taped w5 x_t_length0 w4 x_t_number0 x_t_open x_t_codeMany x_t_waiting x_t_saidMany x_t_clauses A_t_said A_t_waitsAt A_t_saidLetter A_t_saidFrom A_t_saidHalf A_t_saidTo A_t_codes A_t_clauseOf A_t_codeFrom A_t_codeHalf A_t_codeTo A_t_stack A_t_facts x_t_lines A_t_newWords A_t_roundFrom A_t_roundAt A_t_roundTimes x_t_newMany x_t_rounds x_t_itFrom x_t_itTimes x_t_writtenNow x_t_picturesNow x_t_usedNow x_t_chosen x_t_fearOfChosen A_t_leastFrom A_t_rowNow x_t_changesNow x_t_left0 A_t_bornOf A_t_trainsTo A_t_trainAt x_t_trainMany x_t_leastTries x_t_firstTrained x_t_isKept, iA cI 293 A_t_aside v_t_aside, iA cI 293 A_t_now v_t_now, iA cI 16 A_t_rhymeOf v_t_rhymeOf, iA cB 260 A_t_tape v_t_tape, iA cI 16 A_t_wasRhyme v_t_wasRhyme]) (rest := []) C hK hP hD hS hA hl mf_X12_239 (c_X12_takes hc6) [0, 4] 0 12 rfl rfl rfl rfl rfl rfl rfl rfl rfl rfl (Nat.le_of_ble_eq_true rfl) ⟨Nat.le_of_ble_eq_true rfl, Nat.le_of_ble_eq_true rfl⟩ ⟨Nat.le_refl _, Nat.le_refl _⟩ dX12_grief_99 ?_
          intro H locs hP hD hS
          refine lv_if_eq (tgt := 117) hx hb dX12_grief_102 (by decide) (fun q => ?_) (fun q => ?_)
          · have hf := if_t q hf
            exact hb_117 v_t_aside v_t_now v_t_rhymeOf v_t_wasRhyme x_t_codeMany w4 x_t_length0 x_t_lines x_t_number0 w5 x_t_saidMany x_t_taped _ _ ls (lv_sub hl [0, 1] rfl) hP hD hS hf
          · have hf := if_f q hf
            refine lv_aload_n hx hb dX12_grief_105 rfl (lv_at hl 0 rfl) ?_
            refine lv_iload_n hx hb dX12_grief_106 rfl (lv_at hl 1 rfl) ?_
            obtain ⟨r7, w8, w9, w10, w11, w12, w13, hc14, hf⟩ := bd7_e hf
            refine x_callVI (ws' := [oX12 A_t A_t_now A_t_aside A_t_kept A_t_rhymeOf A_t_wasRhyme A_t_wordAt x_t_wordMany A_t_tape x_t_taped w13 x_t_length0 w10 w12 x_t_open x_t_codeMany x_t_waiting x_t_saidMany x_t_clauses A_t_said A_t_waitsAt A_t_saidLetter A_t_saidFrom A_t_saidHalf A_t_saidTo A_t_codes A_t_clauseOf A_t_codeFrom A_t_codeHalf A_t_codeTo A_t_stack A_t_facts w11 A_t_newWords A_t_roundFrom A_t_roundAt A_t_roundTimes x_t_newMany x_t_rounds x_t_itFrom x_t_itTimes x_t_writtenNow x_t_picturesNow x_t_usedNow x_t_chosen x_t_fearOfChosen A_t_leastFrom A_t_rowNow x_t_changesNow x_t_left0 A_t_bornOf A_t_trainsTo A_t_trainAt x_t_trainMany x_t_leastTries x_t_firstTrained x_t_isKept, iA cI 293 A_t_aside v_t_aside, iA cI 293 A_t_now w8, iA cI 16 A_t_rhymeOf w9, iA cB 260 A_t_tape v_t_tape, iA cI 16 A_t_wasRhyme v_t_wasRhyme]) (rest := []) C hK hP hD hS hA hl mf_X12_276 (c_X12_readsLine hc14) [0, 2, 3, 4] 0 12 rfl rfl rfl rfl rfl rfl rfl rfl rfl rfl (Nat.le_of_ble_eq_true rfl) ⟨Nat.le_of_ble_eq_true rfl, Nat.le_of_ble_eq_true rfl⟩ ⟨Nat.le_refl _, Nat.le_refl _⟩ dX12_grief_107 ?_
            intro H locs hP hD hS
            refine lv_if_eq (tgt := 117) hx hb dX12_grief_110 (by decide) (fun q => ?_) (fun q => ?_)
            · have hf := if_t q hf
              exact hb_117 v_t_aside w8 w9 v_t_wasRhyme x_t_codeMany w10 x_t_length0 w11 w12 w13 x_t_saidMany x_t_taped _ _ ls (lv_sub hl [0, 1] rfl) hP hD hS hf
            · have hf := if_f q hf
              refine lv_iconst (v := 1) hx hb dX12_grief_113 (by decide) ?_
              refine lv_goto (tgt := 118) hx hb dX12_grief_114 (by decide) ?_
              exact hb_118 v_t_aside w8 w9 v_t_wasRhyme x_t_codeMany w10 x_t_length0 w11 w12 w13 x_t_saidMany x_t_taped (1 : Int32) _ _ ls (lv_sub hl [0, 1] rfl) hP hD hS hf
  have hb_51 : ∀ (n_51 : Nat) (v_t_aside : (Nat → Int32)) (v_t_now : (Nat → Int32)) (v_t_rhymeOf : (Nat → Int32)) (v_t_wasRhyme : (Nat → Int32)) (x_t_codeMany : Int32) (x_t_fault : Int32) (x_t_length0 : Int32) (x_t_lines : Int32) (x_t_number0 : Int32) (x_t_place0 : Int32) (x_t_saidMany : Int32) (x_t_taped : Int32) (l3 : Int32) (H : Heap) (locs : List Loc) (ls : Array Slot), lv_has ls 5 [(0, .ref A_t), (1, .int a1), (3, .int l3)] → va_P D vwCl [oX12 A_t A_t_now A_t_aside A_t_kept A_t_rhymeOf A_t_wasRhyme A_t_wordAt x_t_wordMany A_t_tape x_t_taped x_t_place0 x_t_length0 x_t_fault x_t_number0 x_t_open x_t_codeMany x_t_waiting x_t_saidMany x_t_clauses A_t_said A_t_waitsAt A_t_saidLetter A_t_saidFrom A_t_saidHalf A_t_saidTo A_t_codes A_t_clauseOf A_t_codeFrom A_t_codeHalf A_t_codeTo A_t_stack A_t_facts x_t_lines A_t_newWords A_t_roundFrom A_t_roundAt A_t_roundTimes x_t_newMany x_t_rounds x_t_itFrom x_t_itTimes x_t_writtenNow x_t_picturesNow x_t_usedNow x_t_chosen x_t_fearOfChosen A_t_leastFrom A_t_rowNow x_t_changesNow x_t_left0 A_t_bornOf A_t_trainsTo A_t_trainAt x_t_trainMany x_t_leastTries x_t_firstTrained x_t_isKept, iA cI 293 A_t_aside v_t_aside, iA cI 293 A_t_now v_t_now, iA cI 16 A_t_rhymeOf v_t_rhymeOf, iA cB 260 A_t_tape v_t_tape, iA cI 16 A_t_wasRhyme v_t_wasRhyme] H → va_D A [oX12 A_t A_t_now A_t_aside A_t_kept A_t_rhymeOf A_t_wasRhyme A_t_wordAt x_t_wordMany A_t_tape x_t_taped x_t_place0 x_t_length0 x_t_fault x_t_number0 x_t_open x_t_codeMany x_t_waiting x_t_saidMany x_t_clauses A_t_said A_t_waitsAt A_t_saidLetter A_t_saidFrom A_t_saidHalf A_t_saidTo A_t_codes A_t_clauseOf A_t_codeFrom A_t_codeHalf A_t_codeTo A_t_stack A_t_facts x_t_lines A_t_newWords A_t_roundFrom A_t_roundAt A_t_roundTimes x_t_newMany x_t_rounds x_t_itFrom x_t_itTimes x_t_writtenNow x_t_picturesNow x_t_usedNow x_t_chosen x_t_fearOfChosen A_t_leastFrom A_t_rowNow x_t_changesNow x_t_left0 A_t_bornOf A_t_trainsTo A_t_trainAt x_t_trainMany x_t_leastTries x_t_firstTrained x_t_isKept, iA cI 293 A_t_aside v_t_aside, iA cI 293 A_t_now v_t_now, iA cI 16 A_t_rhymeOf v_t_rhymeOf, iA cB 260 A_t_tape v_t_tape, iA cI 16 A_t_wasRhyme v_t_wasRhyme] → va_S A s.heap H locs → f_X12_grief_b51 v_t_tape a1 n_51 v_t_aside v_t_now v_t_rhymeOf v_t_wasRhyme x_t_codeMany x_t_fault x_t_length0 x_t_lines x_t_number0 x_t_place0 x_t_saidMany x_t_taped l3 = some (o_r, o_v_t_aside, o_v_t_now, o_v_t_rhymeOf, o_v_t_wasRhyme, o_x_t_codeMany, o_x_t_fault, o_x_t_length0, o_x_t_lines, o_x_t_number0, o_x_t_place0, o_x_t_saidMany, o_x_t_taped) → W p l e { frames := 5, cells := 0, slots := 0, locals := 110 } s m ([.ref A_t, .int a1, .int a2] : List Value).toArray below meth c H locs 0 0 (MQ below (PoI D A [oX12 A_t A_t_now A_t_aside A_t_kept A_t_rhymeOf A_t_wasRhyme A_t_wordAt x_t_wordMany A_t_tape o_x_t_taped o_x_t_place0 o_x_t_length0 o_x_t_fault o_x_t_number0 x_t_open o_x_t_codeMany x_t_waiting o_x_t_saidMany x_t_clauses A_t_said A_t_waitsAt A_t_saidLetter A_t_saidFrom A_t_saidHalf A_t_saidTo A_t_codes A_t_clauseOf A_t_codeFrom A_t_codeHalf A_t_codeTo A_t_stack A_t_facts o_x_t_lines A_t_newWords A_t_roundFrom A_t_roundAt A_t_roundTimes x_t_newMany x_t_rounds x_t_itFrom x_t_itTimes x_t_writtenNow x_t_picturesNow x_t_usedNow x_t_chosen x_t_fearOfChosen A_t_leastFrom A_t_rowNow x_t_changesNow x_t_left0 A_t_bornOf A_t_trainsTo A_t_trainAt x_t_trainMany x_t_leastTries x_t_firstTrained x_t_isKept, iA cI 293 A_t_aside o_v_t_aside, iA cI 293 A_t_now o_v_t_now, iA cI 16 A_t_rhymeOf o_v_t_rhymeOf, iA cB 260 A_t_tape v_t_tape, iA cI 16 A_t_wasRhyme o_v_t_wasRhyme] o_r) ([.ref A_t, .int a1, .int a2] : List Value).toArray s 0 0 A) (F0 m 51 ls []) := by
    intro n_51
    induction n_51 with
    | zero =>
      intro v_t_aside v_t_now v_t_rhymeOf v_t_wasRhyme x_t_codeMany x_t_fault x_t_length0 x_t_lines x_t_number0 x_t_place0 x_t_saidMany x_t_taped l3 H locs ls hl hP hD hS hf
      exact absurd hf (fun h => by rw [f_X12_grief_b51] at h; cases h)
    | succ n_51 ih_51 =>
      intro v_t_aside v_t_now v_t_rhymeOf v_t_wasRhyme x_t_codeMany x_t_fault x_t_length0 x_t_lines x_t_number0 x_t_place0 x_t_saidMany x_t_taped l3 H locs ls hl hP hD hS hf
      rw [f_X12_grief_b51] at hf
      refine lv_iload_n hx hb dX12_grief_51 rfl (lv_at hl 2 rfl) ?_
      refine lv_bipush (v := 16) hx hb dX12_grief_52 (by decide) ?_
      refine lv_icmp_ge (tgt := 75) hx hb dX12_grief_54 (by decide) (fun q => ?_) (fun q => ?_)
      · have hf := if_t q hf
        refine lv_aload_n hx hb dX12_grief_75 rfl (lv_at hl 0 rfl) ?_
        refine lv_iload_n hx hb dX12_grief_76 rfl (lv_at hl 1 rfl) ?_
        obtain ⟨r15, w16, w17, w18, w19, w20, w21, hc22, hf⟩ := bd7_e hf
        refine x_callVI (ws' := [oX12 A_t A_t_now A_t_aside A_t_kept A_t_rhymeOf A_t_wasRhyme A_t_wordAt x_t_wordMany A_t_tape x_t_taped w21 x_t_length0 w18 w20 x_t_open x_t_codeMany x_t_waiting x_t_saidMany x_t_clauses A_t_said A_t_waitsAt A_t_saidLetter A_t_saidFrom A_t_saidHalf A_t_saidTo A_t_codes A_t_clauseOf A_t_codeFrom A_t_codeHalf A_t_codeTo A_t_stack A_t_facts w19 A_t_newWords A_t_roundFrom A_t_roundAt A_t_roundTimes x_t_newMany x_t_rounds x_t_itFrom x_t_itTimes x_t_writtenNow x_t_picturesNow x_t_usedNow x_t_chosen x_t_fearOfChosen A_t_leastFrom A_t_rowNow x_t_changesNow x_t_left0 A_t_bornOf A_t_trainsTo A_t_trainAt x_t_trainMany x_t_leastTries x_t_firstTrained x_t_isKept, iA cI 293 A_t_aside v_t_aside, iA cI 293 A_t_now w16, iA cI 16 A_t_rhymeOf w17, iA cB 260 A_t_tape v_t_tape, iA cI 16 A_t_wasRhyme v_t_wasRhyme]) (rest := []) C hK hP hD hS hA hl mf_X12_276 (c_X12_readsLine hc22) [0, 2, 3, 4] 0 12 rfl rfl rfl rfl rfl rfl rfl rfl rfl rfl (Nat.le_of_ble_eq_true rfl) ⟨Nat.le_of_ble_eq_true rfl, Nat.le_of_ble_eq_true rfl⟩ ⟨Nat.le_refl _, Nat.le_refl _⟩ dX12_grief_77 ?_
        intro H locs hP hD hS
        refine lv_istore_n (lv' := [(3, .int r15), (0, .ref A_t), (1, .int a1)]) hx hb dX12_grief_80 rfl hl (by decide) rfl (fun ls hl => ?_)
        exact hb_81 FU v_t_aside w16 w17 v_t_wasRhyme x_t_codeMany w18 x_t_length0 w19 w20 w21 x_t_saidMany x_t_taped r15 _ _ ls (lv_sub hl [1, 2, 0] rfl) hP hD hS hf
      · have hf := if_f q hf
        refine lv_aload_n hx hb dX12_grief_57 rfl (lv_at hl 0 rfl) ?_
        refine x_get C hK hP fd_X12_22 0 rfl rfl dX12_grief_58 ?_
        refine lv_iload_n hx hb dX12_grief_61 rfl (lv_at hl 2 rfl) ?_
        refine lv_aload_n hx hb dX12_grief_62 rfl (lv_at hl 0 rfl) ?_
        refine x_get C hK hP fd_X12_19 0 rfl rfl dX12_grief_63 ?_
        refine lv_iload_n hx hb dX12_grief_66 rfl (lv_at hl 2 rfl) ?_
        obtain ⟨hi, hf⟩ := gI_e hf
        refine x_iald C hK hP 3 rfl hi dX12_grief_67 ?_
        obtain ⟨hi, hf⟩ := sI_e hf
        refine x_iast (ws' := [oX12 A_t A_t_now A_t_aside A_t_kept A_t_rhymeOf A_t_wasRhyme A_t_wordAt x_t_wordMany A_t_tape x_t_taped x_t_place0 x_t_length0 x_t_fault x_t_number0 x_t_open x_t_codeMany x_t_waiting x_t_saidMany x_t_clauses A_t_said A_t_waitsAt A_t_saidLetter A_t_saidFrom A_t_saidHalf A_t_saidTo A_t_codes A_t_clauseOf A_t_codeFrom A_t_codeHalf A_t_codeTo A_t_stack A_t_facts x_t_lines A_t_newWords A_t_roundFrom A_t_roundAt A_t_roundTimes x_t_newMany x_t_rounds x_t_itFrom x_t_itTimes x_t_writtenNow x_t_picturesNow x_t_usedNow x_t_chosen x_t_fearOfChosen A_t_leastFrom A_t_rowNow x_t_changesNow x_t_left0 A_t_bornOf A_t_trainsTo A_t_trainAt x_t_trainMany x_t_leastTries x_t_firstTrained x_t_isKept, iA cI 293 A_t_aside v_t_aside, iA cI 293 A_t_now v_t_now, iA cI 16 A_t_rhymeOf v_t_rhymeOf, iA cB 260 A_t_tape v_t_tape, iA cI 16 A_t_wasRhyme (upd v_t_wasRhyme l3.toNatClampNeg (v_t_rhymeOf l3.toNatClampNeg))]) C hK hP hD hS 5 rfl hi rfl dX12_grief_68 ?_
        intro H locs hP hD hS
        refine lv_iinc (v := (l3 + (1 : Int32))) (lv' := [(3, .int (l3 + (1 : Int32))), (0, .ref A_t), (1, .int a1)]) hx hb dX12_grief_69 hl (k := 2) rfl rfl (by decide) rfl (fun ls hl => ?_)
        refine lv_goto (tgt := 51) hx hb dX12_grief_72 (by decide) ?_
        exact ih_51 v_t_aside v_t_now v_t_rhymeOf (upd v_t_wasRhyme l3.toNatClampNeg (v_t_rhymeOf l3.toNatClampNeg)) x_t_codeMany x_t_fault x_t_length0 x_t_lines x_t_number0 x_t_place0 x_t_saidMany x_t_taped (l3 + (1 : Int32)) _ _ ls (lv_sub hl [1, 2, 0] rfl) hP hD hS hf
  refine lv_aload_n hx hb dX12_grief_0 rfl (lv_at hl 0 rfl) ?_
  refine lv_iload_n hx hb dX12_grief_1 rfl (lv_at hl 1 rfl) ?_
  obtain ⟨r23, hc24, hf⟩ := bd1_e hf
  refine x_callVI (ws' := [oX12 A_t A_t_now A_t_aside A_t_kept A_t_rhymeOf A_t_wasRhyme A_t_wordAt x_t_wordMany A_t_tape x_t_taped x_t_place0 x_t_length0 x_t_fault x_t_number0 x_t_open x_t_codeMany x_t_waiting x_t_saidMany x_t_clauses A_t_said A_t_waitsAt A_t_saidLetter A_t_saidFrom A_t_saidHalf A_t_saidTo A_t_codes A_t_clauseOf A_t_codeFrom A_t_codeHalf A_t_codeTo A_t_stack A_t_facts x_t_lines A_t_newWords A_t_roundFrom A_t_roundAt A_t_roundTimes x_t_newMany x_t_rounds x_t_itFrom x_t_itTimes x_t_writtenNow x_t_picturesNow x_t_usedNow x_t_chosen x_t_fearOfChosen A_t_leastFrom A_t_rowNow x_t_changesNow x_t_left0 A_t_bornOf A_t_trainsTo A_t_trainAt x_t_trainMany x_t_leastTries x_t_firstTrained x_t_isKept, iA cI 293 A_t_aside v_t_aside, iA cI 293 A_t_now v_t_now, iA cI 16 A_t_rhymeOf v_t_rhymeOf, iA cB 260 A_t_tape v_t_tape, iA cI 16 A_t_wasRhyme v_t_wasRhyme]) (rest := []) C hK hP hD hS hA hl mf_X12_109 (c_X12_isTold hc24) [0, 2] 0 12 rfl rfl rfl rfl rfl rfl rfl rfl rfl rfl (Nat.le_of_ble_eq_true rfl) ⟨Nat.le_of_ble_eq_true rfl, Nat.le_of_ble_eq_true rfl⟩ ⟨Nat.le_refl _, Nat.le_refl _⟩ dX12_grief_2 ?_
  intro H locs hP hD hS
  refine lv_if_eq (tgt := 26) hx hb dX12_grief_5 (by decide) (fun q => ?_) (fun q => ?_)
  · have hf := if_t q hf
    exact hb_26 v_t_aside v_t_now v_t_rhymeOf v_t_wasRhyme x_t_codeMany x_t_fault x_t_length0 x_t_lines x_t_number0 x_t_place0 x_t_saidMany x_t_taped _ _ ls (lv_sub hl [] rfl) hP hD hS hf
  · have hf := if_f q hf
    refine lv_iload_n hx hb dX12_grief_8 rfl (lv_at hl 2 rfl) ?_
    refine lv_iconst (v := 1) hx hb dX12_grief_9 (by decide) ?_
    refine lv_bipush (v := 120) hx hb dX12_grief_10 (by decide) ?_
    obtain ⟨r25, hc26, hf⟩ := bd1_e hf
    refine x_callSI (ws' := [oX12 A_t A_t_now A_t_aside A_t_kept A_t_rhymeOf A_t_wasRhyme A_t_wordAt x_t_wordMany A_t_tape x_t_taped x_t_place0 x_t_length0 x_t_fault x_t_number0 x_t_open x_t_codeMany x_t_waiting x_t_saidMany x_t_clauses A_t_said A_t_waitsAt A_t_saidLetter A_t_saidFrom A_t_saidHalf A_t_saidTo A_t_codes A_t_clauseOf A_t_codeFrom A_t_codeHalf A_t_codeTo A_t_stack A_t_facts x_t_lines A_t_newWords A_t_roundFrom A_t_roundAt A_t_roundTimes x_t_newMany x_t_rounds x_t_itFrom x_t_itTimes x_t_writtenNow x_t_picturesNow x_t_usedNow x_t_chosen x_t_fearOfChosen A_t_leastFrom A_t_rowNow x_t_changesNow x_t_left0 A_t_bornOf A_t_trainsTo A_t_trainAt x_t_trainMany x_t_leastTries x_t_firstTrained x_t_isKept, iA cI 293 A_t_aside v_t_aside, iA cI 293 A_t_now v_t_now, iA cI 16 A_t_rhymeOf v_t_rhymeOf, iA cB 260 A_t_tape v_t_tape, iA cI 16 A_t_wasRhyme v_t_wasRhyme]) (rest := []) C hK hP hD hS hA hl mf_X12_105 (c_X12_in hc26) [] rfl rfl rfl rfl rfl rfl rfl rfl (Nat.le_of_ble_eq_true rfl) ⟨Nat.le_of_ble_eq_true rfl, Nat.le_of_ble_eq_true rfl⟩ ⟨Nat.le_refl _, Nat.le_refl _⟩ dX12_grief_12 ?_
    intro H locs hP hD hS
    refine lv_if_eq (tgt := 26) hx hb dX12_grief_15 (by decide) (fun q => ?_) (fun q => ?_)
    · have hf := if_t q hf
      exact hb_26 v_t_aside v_t_now v_t_rhymeOf v_t_wasRhyme x_t_codeMany x_t_fault x_t_length0 x_t_lines x_t_number0 x_t_place0 x_t_saidMany x_t_taped _ _ ls (lv_sub hl [] rfl) hP hD hS hf
    · have hf := if_f q hf
      refine lv_iload_n hx hb dX12_grief_18 rfl (lv_at hl 2 rfl) ?_
      refine lv_aload_n hx hb dX12_grief_19 rfl (lv_at hl 0 rfl) ?_
      refine x_get C hK hP fd_X12_143 0 rfl rfl dX12_grief_20 ?_
      refine lv_icmp_le (tgt := 28) hx hb dX12_grief_23 (by decide) (fun q => ?_) (fun q => ?_)
      · have hf := if_t q hf
        refine lv_aload_n hx hb dX12_grief_28 rfl (lv_at hl 0 rfl) ?_
        refine lv_iload_n hx hb dX12_grief_29 rfl (lv_at hl 2 rfl) ?_
        obtain ⟨w27, w28, w29, w30, hc31, hf⟩ := bd4_e hf
        refine x_callVV (ws' := [oX12 A_t A_t_now A_t_aside A_t_kept A_t_rhymeOf A_t_wasRhyme A_t_wordAt x_t_wordMany A_t_tape x_t_taped w29 w28 x_t_fault x_t_number0 x_t_open w27 x_t_waiting w30 x_t_clauses A_t_said A_t_waitsAt A_t_saidLetter A_t_saidFrom A_t_saidHalf A_t_saidTo A_t_codes A_t_clauseOf A_t_codeFrom A_t_codeHalf A_t_codeTo A_t_stack A_t_facts x_t_lines A_t_newWords A_t_roundFrom A_t_roundAt A_t_roundTimes x_t_newMany x_t_rounds x_t_itFrom x_t_itTimes x_t_writtenNow x_t_picturesNow x_t_usedNow x_t_chosen x_t_fearOfChosen A_t_leastFrom A_t_rowNow x_t_changesNow x_t_left0 A_t_bornOf A_t_trainsTo A_t_trainAt x_t_trainMany x_t_leastTries x_t_firstTrained x_t_isKept, iA cI 293 A_t_aside v_t_aside, iA cI 293 A_t_now v_t_now, iA cI 16 A_t_rhymeOf v_t_rhymeOf, iA cB 260 A_t_tape v_t_tape, iA cI 16 A_t_wasRhyme v_t_wasRhyme]) (rest := []) C hK hP hD hS hA hl mf_X12_233 (c_X12_beginsText hc31) [0] 0 12 rfl rfl rfl rfl rfl rfl rfl rfl rfl rfl (Nat.le_of_ble_eq_true rfl) ⟨Nat.le_of_ble_eq_true rfl, Nat.le_of_ble_eq_true rfl⟩ ⟨Nat.le_refl _, Nat.le_refl _⟩ dX12_grief_30 ?_
        intro H locs hP hD hS
        refine lv_aload_n hx hb dX12_grief_33 rfl (lv_at hl 0 rfl) ?_
        refine lv_iconst (v := 0) hx hb dX12_grief_34 (by decide) ?_
        refine x_put (ws' := [oX12 A_t A_t_now A_t_aside A_t_kept A_t_rhymeOf A_t_wasRhyme A_t_wordAt x_t_wordMany A_t_tape x_t_taped w29 w28 x_t_fault x_t_number0 x_t_open w27 x_t_waiting w30 x_t_clauses A_t_said A_t_waitsAt A_t_saidLetter A_t_saidFrom A_t_saidHalf A_t_saidTo A_t_codes A_t_clauseOf A_t_codeFrom A_t_codeHalf A_t_codeTo A_t_stack A_t_facts (0 : Int32) A_t_newWords A_t_roundFrom A_t_roundAt A_t_roundTimes x_t_newMany x_t_rounds x_t_itFrom x_t_itTimes x_t_writtenNow x_t_picturesNow x_t_usedNow x_t_chosen x_t_fearOfChosen A_t_leastFrom A_t_rowNow x_t_changesNow x_t_left0 A_t_bornOf A_t_trainsTo A_t_trainAt x_t_trainMany x_t_leastTries x_t_firstTrained x_t_isKept, iA cI 293 A_t_aside v_t_aside, iA cI 293 A_t_now v_t_now, iA cI 16 A_t_rhymeOf v_t_rhymeOf, iA cB 260 A_t_tape v_t_tape, iA cI 16 A_t_wasRhyme v_t_wasRhyme]) C hK hP hD hS fp_X12_263 0 rfl rfl rfl (Nat.le_of_ble_eq_true rfl) rfl dX12_grief_35 ?_
        intro H locs hP hD hS
        refine lv_aload_n hx hb dX12_grief_38 rfl (lv_at hl 0 rfl) ?_
        refine x_get C hK hP fd_X12_7 0 rfl rfl dX12_grief_39 ?_
        refine lv_aload_n hx hb dX12_grief_42 rfl (lv_at hl 0 rfl) ?_
        refine x_get C hK hP fd_X12_13 0 rfl rfl dX12_grief_43 ?_
        obtain ⟨w32, hc33, hf⟩ := bd1_e hf
        refine x_callSV (ws' := [oX12 A_t A_t_now A_t_aside A_t_kept A_t_rhymeOf A_t_wasRhyme A_t_wordAt x_t_wordMany A_t_tape x_t_taped w29 w28 x_t_fault x_t_number0 x_t_open w27 x_t_waiting w30 x_t_clauses A_t_said A_t_waitsAt A_t_saidLetter A_t_saidFrom A_t_saidHalf A_t_saidTo A_t_codes A_t_clauseOf A_t_codeFrom A_t_codeHalf A_t_codeTo A_t_stack A_t_facts (0 : Int32) A_t_newWords A_t_roundFrom A_t_roundAt A_t_roundTimes x_t_newMany x_t_rounds x_t_itFrom x_t_itTimes x_t_writtenNow x_t_picturesNow x_t_usedNow x_t_chosen x_t_fearOfChosen A_t_leastFrom A_t_rowNow x_t_changesNow x_t_left0 A_t_bornOf A_t_trainsTo A_t_trainAt x_t_trainMany x_t_leastTries x_t_firstTrained x_t_isKept, iA cI 293 A_t_aside w32, iA cI 293 A_t_now v_t_now, iA cI 16 A_t_rhymeOf v_t_rhymeOf, iA cB 260 A_t_tape v_t_tape, iA cI 16 A_t_wasRhyme v_t_wasRhyme]) (rest := []) C hK hP hD hS hA hl mf_X12_272 (c_X12_copies hc33) [2, 1] rfl rfl rfl rfl rfl rfl rfl rfl (Nat.le_of_ble_eq_true rfl) ⟨Nat.le_of_ble_eq_true rfl, Nat.le_of_ble_eq_true rfl⟩ ⟨Nat.le_refl _, Nat.le_refl _⟩ dX12_grief_46 ?_
        intro H locs hP hD hS
        refine lv_iconst (v := 0) hx hb dX12_grief_49 (by decide) ?_
        refine lv_istore_n (lv' := [(3, .int (0 : Int32)), (0, .ref A_t), (1, .int a1), (2, .int a2)]) hx hb dX12_grief_50 rfl hl (by decide) rfl (fun ls hl => ?_)
        exact hb_51 FU w32 v_t_now v_t_rhymeOf v_t_wasRhyme w27 x_t_fault w28 (0 : Int32) x_t_number0 w29 w30 x_t_taped (0 : Int32) _ _ ls (lv_sub hl [1, 2, 0] rfl) hP hD hS hf
      · have hf := if_f q hf
        exact hb_26 v_t_aside v_t_now v_t_rhymeOf v_t_wasRhyme x_t_codeMany x_t_fault x_t_length0 x_t_lines x_t_number0 x_t_place0 x_t_saidMany x_t_taped _ _ ls (lv_sub hl [] rfl) hP hD hS hf
def f_X12_readsTimes (v_t_tape : (Nat → Int32)) (x_t_itFrom : Int32) (x_t_itTimes : Int32) (x_t_length0 : Int32) (x_t_place0 : Int32) : Option (Int32 × Int32 × Int32) :=
  bd1 (f_X12_here v_t_tape x_t_length0 x_t_place0) (fun r1 =>
  bd1 (f_X12_in r1 (50 : Int32) (57 : Int32)) (fun r2 =>
  if r2 = 0 then
    some (x_t_place0, (1 : Int32), x_t_place0)
  else
    bd1 (f_X12_here v_t_tape x_t_length0 x_t_place0) (fun r3 =>
    some (x_t_place0, (r3 - (48 : Int32)), (x_t_place0 + (1 : Int32))))))
set_option maxHeartbeats 4000000 in
set_option maxRecDepth 100000 in
theorem c_X12_readsTimes {l : Launch} {D : va_G} {cI cB : ClassId} {A_t A_t_now A_t_aside A_t_kept A_t_rhymeOf A_t_wasRhyme A_t_wordAt A_t_tape A_t_said A_t_waitsAt A_t_saidLetter A_t_saidFrom A_t_saidHalf A_t_saidTo A_t_codes A_t_clauseOf A_t_codeFrom A_t_codeHalf A_t_codeTo A_t_stack A_t_facts A_t_newWords A_t_roundFrom A_t_roundAt A_t_roundTimes A_t_leastFrom A_t_rowNow A_t_bornOf A_t_trainsTo A_t_trainAt : Nat} {x_t_wordMany x_t_taped x_t_place0 x_t_length0 x_t_fault x_t_number0 x_t_open x_t_codeMany x_t_waiting x_t_saidMany x_t_clauses x_t_lines x_t_newMany x_t_rounds x_t_itFrom x_t_itTimes x_t_writtenNow x_t_picturesNow x_t_usedNow x_t_chosen x_t_fearOfChosen x_t_changesNow x_t_left0 x_t_trainMany x_t_leastTries x_t_firstTrained x_t_isKept : Int32} {v_t_tape : Nat → Int32} {o_x_t_itFrom o_x_t_itTimes o_x_t_place0 : Int32} (hf : f_X12_readsTimes v_t_tape x_t_itFrom x_t_itTimes x_t_length0 x_t_place0 = some (o_x_t_itFrom, o_x_t_itTimes, o_x_t_place0)) : CtV l D cI cB yX12_readsTimes cX12_readsTimes 1 1 22 [.ref A_t] [oX12 A_t A_t_now A_t_aside A_t_kept A_t_rhymeOf A_t_wasRhyme A_t_wordAt x_t_wordMany A_t_tape x_t_taped x_t_place0 x_t_length0 x_t_fault x_t_number0 x_t_open x_t_codeMany x_t_waiting x_t_saidMany x_t_clauses A_t_said A_t_waitsAt A_t_saidLetter A_t_saidFrom A_t_saidHalf A_t_saidTo A_t_codes A_t_clauseOf A_t_codeFrom A_t_codeHalf A_t_codeTo A_t_stack A_t_facts x_t_lines A_t_newWords A_t_roundFrom A_t_roundAt A_t_roundTimes x_t_newMany x_t_rounds x_t_itFrom x_t_itTimes x_t_writtenNow x_t_picturesNow x_t_usedNow x_t_chosen x_t_fearOfChosen A_t_leastFrom A_t_rowNow x_t_changesNow x_t_left0 A_t_bornOf A_t_trainsTo A_t_trainAt x_t_trainMany x_t_leastTries x_t_firstTrained x_t_isKept, iA cB 260 A_t_tape v_t_tape] [oX12 A_t A_t_now A_t_aside A_t_kept A_t_rhymeOf A_t_wasRhyme A_t_wordAt x_t_wordMany A_t_tape x_t_taped o_x_t_place0 x_t_length0 x_t_fault x_t_number0 x_t_open x_t_codeMany x_t_waiting x_t_saidMany x_t_clauses A_t_said A_t_waitsAt A_t_saidLetter A_t_saidFrom A_t_saidHalf A_t_saidTo A_t_codes A_t_clauseOf A_t_codeFrom A_t_codeHalf A_t_codeTo A_t_stack A_t_facts x_t_lines A_t_newWords A_t_roundFrom A_t_roundAt A_t_roundTimes x_t_newMany x_t_rounds o_x_t_itFrom o_x_t_itTimes x_t_writtenNow x_t_picturesNow x_t_usedNow x_t_chosen x_t_fearOfChosen A_t_leastFrom A_t_rowNow x_t_changesNow x_t_left0 A_t_bornOf A_t_trainsTo A_t_trainAt x_t_trainMany x_t_leastTries x_t_firstTrained x_t_isKept, iA cB 260 A_t_tape v_t_tape] := by
  refine x_startV (by decide) (Nat.le_of_ble_eq_true rfl) ?_
  intro p e s m below meth c A C hr hlk hA hK hP hD hS ls hl
  have hl : lv_has ls 1 [(0, .ref A_t)] := hl
  have hx := C.1
  have hb := C.2.1
  unfold f_X12_readsTimes at hf
  refine lv_aload_n hx hb dX12_readsTimes_0 rfl (lv_at hl 0 rfl) ?_
  refine lv_aload_n hx hb dX12_readsTimes_1 rfl (lv_at hl 0 rfl) ?_
  refine x_get C hK hP fd_X12_150 0 rfl rfl dX12_readsTimes_2 ?_
  refine x_put (ws' := [oX12 A_t A_t_now A_t_aside A_t_kept A_t_rhymeOf A_t_wasRhyme A_t_wordAt x_t_wordMany A_t_tape x_t_taped x_t_place0 x_t_length0 x_t_fault x_t_number0 x_t_open x_t_codeMany x_t_waiting x_t_saidMany x_t_clauses A_t_said A_t_waitsAt A_t_saidLetter A_t_saidFrom A_t_saidHalf A_t_saidTo A_t_codes A_t_clauseOf A_t_codeFrom A_t_codeHalf A_t_codeTo A_t_stack A_t_facts x_t_lines A_t_newWords A_t_roundFrom A_t_roundAt A_t_roundTimes x_t_newMany x_t_rounds x_t_place0 x_t_itTimes x_t_writtenNow x_t_picturesNow x_t_usedNow x_t_chosen x_t_fearOfChosen A_t_leastFrom A_t_rowNow x_t_changesNow x_t_left0 A_t_bornOf A_t_trainsTo A_t_trainAt x_t_trainMany x_t_leastTries x_t_firstTrained x_t_isKept, iA cB 260 A_t_tape v_t_tape]) C hK hP hD hS fp_X12_279 0 rfl rfl rfl (Nat.le_of_ble_eq_true rfl) rfl dX12_readsTimes_5 ?_
  intro H locs hP hD hS
  refine lv_aload_n hx hb dX12_readsTimes_8 rfl (lv_at hl 0 rfl) ?_
  refine lv_iconst (v := 1) hx hb dX12_readsTimes_9 (by decide) ?_
  refine x_put (ws' := [oX12 A_t A_t_now A_t_aside A_t_kept A_t_rhymeOf A_t_wasRhyme A_t_wordAt x_t_wordMany A_t_tape x_t_taped x_t_place0 x_t_length0 x_t_fault x_t_number0 x_t_open x_t_codeMany x_t_waiting x_t_saidMany x_t_clauses A_t_said A_t_waitsAt A_t_saidLetter A_t_saidFrom A_t_saidHalf A_t_saidTo A_t_codes A_t_clauseOf A_t_codeFrom A_t_codeHalf A_t_codeTo A_t_stack A_t_facts x_t_lines A_t_newWords A_t_roundFrom A_t_roundAt A_t_roundTimes x_t_newMany x_t_rounds x_t_place0 (1 : Int32) x_t_writtenNow x_t_picturesNow x_t_usedNow x_t_chosen x_t_fearOfChosen A_t_leastFrom A_t_rowNow x_t_changesNow x_t_left0 A_t_bornOf A_t_trainsTo A_t_trainAt x_t_trainMany x_t_leastTries x_t_firstTrained x_t_isKept, iA cB 260 A_t_tape v_t_tape]) C hK hP hD hS fp_X12_282 0 rfl rfl rfl (Nat.le_of_ble_eq_true rfl) rfl dX12_readsTimes_10 ?_
  intro H locs hP hD hS
  refine lv_aload_n hx hb dX12_readsTimes_13 rfl (lv_at hl 0 rfl) ?_
  obtain ⟨r1, hc2, hf⟩ := bd1_e hf
  refine x_callVI (ws' := [oX12 A_t A_t_now A_t_aside A_t_kept A_t_rhymeOf A_t_wasRhyme A_t_wordAt x_t_wordMany A_t_tape x_t_taped x_t_place0 x_t_length0 x_t_fault x_t_number0 x_t_open x_t_codeMany x_t_waiting x_t_saidMany x_t_clauses A_t_said A_t_waitsAt A_t_saidLetter A_t_saidFrom A_t_saidHalf A_t_saidTo A_t_codes A_t_clauseOf A_t_codeFrom A_t_codeHalf A_t_codeTo A_t_stack A_t_facts x_t_lines A_t_newWords A_t_roundFrom A_t_roundAt A_t_roundTimes x_t_newMany x_t_rounds x_t_place0 (1 : Int32) x_t_writtenNow x_t_picturesNow x_t_usedNow x_t_chosen x_t_fearOfChosen A_t_leastFrom A_t_rowNow x_t_changesNow x_t_left0 A_t_bornOf A_t_trainsTo A_t_trainAt x_t_trainMany x_t_leastTries x_t_firstTrained x_t_isKept, iA cB 260 A_t_tape v_t_tape]) (rest := []) C hK hP hD hS hA hl mf_X12_156 (c_X12_here hc2) [0, 1] 0 12 rfl rfl rfl rfl rfl rfl rfl rfl rfl rfl (Nat.le_of_ble_eq_true rfl) ⟨Nat.le_of_ble_eq_true rfl, Nat.le_of_ble_eq_true rfl⟩ ⟨Nat.le_refl _, Nat.le_refl _⟩ dX12_readsTimes_14 ?_
  intro H locs hP hD hS
  refine lv_bipush (v := 50) hx hb dX12_readsTimes_17 (by decide) ?_
  refine lv_bipush (v := 57) hx hb dX12_readsTimes_19 (by decide) ?_
  obtain ⟨r3, hc4, hf⟩ := bd1_e hf
  refine x_callSI (ws' := [oX12 A_t A_t_now A_t_aside A_t_kept A_t_rhymeOf A_t_wasRhyme A_t_wordAt x_t_wordMany A_t_tape x_t_taped x_t_place0 x_t_length0 x_t_fault x_t_number0 x_t_open x_t_codeMany x_t_waiting x_t_saidMany x_t_clauses A_t_said A_t_waitsAt A_t_saidLetter A_t_saidFrom A_t_saidHalf A_t_saidTo A_t_codes A_t_clauseOf A_t_codeFrom A_t_codeHalf A_t_codeTo A_t_stack A_t_facts x_t_lines A_t_newWords A_t_roundFrom A_t_roundAt A_t_roundTimes x_t_newMany x_t_rounds x_t_place0 (1 : Int32) x_t_writtenNow x_t_picturesNow x_t_usedNow x_t_chosen x_t_fearOfChosen A_t_leastFrom A_t_rowNow x_t_changesNow x_t_left0 A_t_bornOf A_t_trainsTo A_t_trainAt x_t_trainMany x_t_leastTries x_t_firstTrained x_t_isKept, iA cB 260 A_t_tape v_t_tape]) (rest := []) C hK hP hD hS hA hl mf_X12_105 (c_X12_in hc4) [] rfl rfl rfl rfl rfl rfl rfl rfl (Nat.le_of_ble_eq_true rfl) ⟨Nat.le_of_ble_eq_true rfl, Nat.le_of_ble_eq_true rfl⟩ ⟨Nat.le_refl _, Nat.le_refl _⟩ dX12_readsTimes_21 ?_
  intro H locs hP hD hS
  refine lv_if_ne (tgt := 28) hx hb dX12_readsTimes_24 (by decide) (fun q => ?_) (fun q => ?_)
  · have hf := if_f q hf
    refine lv_aload_n hx hb dX12_readsTimes_28 rfl (lv_at hl 0 rfl) ?_
    refine lv_aload_n hx hb dX12_readsTimes_29 rfl (lv_at hl 0 rfl) ?_
    obtain ⟨r5, hc6, hf⟩ := bd1_e hf
    refine x_callVI (ws' := [oX12 A_t A_t_now A_t_aside A_t_kept A_t_rhymeOf A_t_wasRhyme A_t_wordAt x_t_wordMany A_t_tape x_t_taped x_t_place0 x_t_length0 x_t_fault x_t_number0 x_t_open x_t_codeMany x_t_waiting x_t_saidMany x_t_clauses A_t_said A_t_waitsAt A_t_saidLetter A_t_saidFrom A_t_saidHalf A_t_saidTo A_t_codes A_t_clauseOf A_t_codeFrom A_t_codeHalf A_t_codeTo A_t_stack A_t_facts x_t_lines A_t_newWords A_t_roundFrom A_t_roundAt A_t_roundTimes x_t_newMany x_t_rounds x_t_place0 (1 : Int32) x_t_writtenNow x_t_picturesNow x_t_usedNow x_t_chosen x_t_fearOfChosen A_t_leastFrom A_t_rowNow x_t_changesNow x_t_left0 A_t_bornOf A_t_trainsTo A_t_trainAt x_t_trainMany x_t_leastTries x_t_firstTrained x_t_isKept, iA cB 260 A_t_tape v_t_tape]) (rest := [.ref A_t]) C hK hP hD hS hA hl mf_X12_156 (c_X12_here hc6) [0, 1] 0 12 rfl rfl rfl rfl rfl rfl rfl rfl rfl rfl (Nat.le_of_ble_eq_true rfl) ⟨Nat.le_of_ble_eq_true rfl, Nat.le_of_ble_eq_true rfl⟩ ⟨Nat.le_refl _, Nat.le_refl _⟩ dX12_readsTimes_30 ?_
    intro H locs hP hD hS
    refine lv_bipush (v := 48) hx hb dX12_readsTimes_33 (by decide) ?_
    refine lv_isub hx hb dX12_readsTimes_35 ?_
    refine x_put (ws' := [oX12 A_t A_t_now A_t_aside A_t_kept A_t_rhymeOf A_t_wasRhyme A_t_wordAt x_t_wordMany A_t_tape x_t_taped x_t_place0 x_t_length0 x_t_fault x_t_number0 x_t_open x_t_codeMany x_t_waiting x_t_saidMany x_t_clauses A_t_said A_t_waitsAt A_t_saidLetter A_t_saidFrom A_t_saidHalf A_t_saidTo A_t_codes A_t_clauseOf A_t_codeFrom A_t_codeHalf A_t_codeTo A_t_stack A_t_facts x_t_lines A_t_newWords A_t_roundFrom A_t_roundAt A_t_roundTimes x_t_newMany x_t_rounds x_t_place0 (r5 - (48 : Int32)) x_t_writtenNow x_t_picturesNow x_t_usedNow x_t_chosen x_t_fearOfChosen A_t_leastFrom A_t_rowNow x_t_changesNow x_t_left0 A_t_bornOf A_t_trainsTo A_t_trainAt x_t_trainMany x_t_leastTries x_t_firstTrained x_t_isKept, iA cB 260 A_t_tape v_t_tape]) C hK hP hD hS fp_X12_282 0 rfl rfl rfl (Nat.le_of_ble_eq_true rfl) rfl dX12_readsTimes_36 ?_
    intro H locs hP hD hS
    refine lv_aload_n hx hb dX12_readsTimes_39 rfl (lv_at hl 0 rfl) ?_
    refine lv_aload_n hx hb dX12_readsTimes_40 rfl (lv_at hl 0 rfl) ?_
    refine x_get C hK hP fd_X12_150 0 rfl rfl dX12_readsTimes_41 ?_
    refine lv_iconst (v := 1) hx hb dX12_readsTimes_44 (by decide) ?_
    refine lv_iadd hx hb dX12_readsTimes_45 ?_
    refine x_put (ws' := [oX12 A_t A_t_now A_t_aside A_t_kept A_t_rhymeOf A_t_wasRhyme A_t_wordAt x_t_wordMany A_t_tape x_t_taped (x_t_place0 + (1 : Int32)) x_t_length0 x_t_fault x_t_number0 x_t_open x_t_codeMany x_t_waiting x_t_saidMany x_t_clauses A_t_said A_t_waitsAt A_t_saidLetter A_t_saidFrom A_t_saidHalf A_t_saidTo A_t_codes A_t_clauseOf A_t_codeFrom A_t_codeHalf A_t_codeTo A_t_stack A_t_facts x_t_lines A_t_newWords A_t_roundFrom A_t_roundAt A_t_roundTimes x_t_newMany x_t_rounds x_t_place0 (r5 - (48 : Int32)) x_t_writtenNow x_t_picturesNow x_t_usedNow x_t_chosen x_t_fearOfChosen A_t_leastFrom A_t_rowNow x_t_changesNow x_t_left0 A_t_bornOf A_t_trainsTo A_t_trainAt x_t_trainMany x_t_leastTries x_t_firstTrained x_t_isKept, iA cB 260 A_t_tape v_t_tape]) C hK hP hD hS fp_X12_150 0 rfl rfl rfl (Nat.le_of_ble_eq_true rfl) rfl dX12_readsTimes_46 ?_
    intro H locs hP hD hS
    obtain ⟨rfl, rfl, rfl⟩ := ev3 hf
    exact x_vret C hr hlk hP hD hS dX12_readsTimes_49
  · have hf := if_t q hf
    obtain ⟨rfl, rfl, rfl⟩ := ev3 hf
    exact x_vret C hr hlk hP hD hS dX12_readsTimes_27
def f_X12_repeats_b31 (a1 : Int32) (a2 : Int32) : Nat → (Nat → Int32) → Int32 → Int32 → Int32 → Int32 → Option (Int32 × (Nat → Int32) × Int32 × Int32)
  | 0, _, _, _, _, _ => none
  | n + 1, v_t_newWords, x_t_fault, x_t_newMany, l4, l5 =>
    if (l4 * a2) ≤ l5 then
      some ((1 : Int32), v_t_newWords, x_t_fault, (a1 + (l4 * a2)))
    else
      gI 48 v_t_newWords ((a1 + l5) - l4) (fun g1 =>
      sI 48 v_t_newWords (a1 + l5) g1 (fun w2 =>
      f_X12_repeats_b31 a1 a2 n w2 x_t_fault x_t_newMany l4 (l5 + (1 : Int32))))
def f_X12_repeats (v_t_newWords : (Nat → Int32)) (x_t_fault : Int32) (x_t_newMany : Int32) (a1 : Int32) (a2 : Int32) (a3 : Int32) : Option (Int32 × (Nat → Int32) × Int32 × Int32) :=
  if (a1 + ((x_t_newMany - a1) * a2)) ≤ (48 : Int32) then
    f_X12_repeats_b31 a1 a2 FU v_t_newWords x_t_fault x_t_newMany (x_t_newMany - a1) (x_t_newMany - a1)
  else
    bd2 (f_X12_wrongAt x_t_fault (6 : Int32) a3) (fun r3 w4 =>
    zI r3 (some (r3, v_t_newWords, w4, x_t_newMany)))
set_option maxHeartbeats 4000000 in
set_option maxRecDepth 100000 in
theorem c_X12_repeats {l : Launch} {D : va_G} {cI cB : ClassId} {A_t A_t_now A_t_aside A_t_kept A_t_rhymeOf A_t_wasRhyme A_t_wordAt A_t_tape A_t_said A_t_waitsAt A_t_saidLetter A_t_saidFrom A_t_saidHalf A_t_saidTo A_t_codes A_t_clauseOf A_t_codeFrom A_t_codeHalf A_t_codeTo A_t_stack A_t_facts A_t_newWords A_t_roundFrom A_t_roundAt A_t_roundTimes A_t_leastFrom A_t_rowNow A_t_bornOf A_t_trainsTo A_t_trainAt : Nat} {x_t_wordMany x_t_taped x_t_place0 x_t_length0 x_t_fault x_t_number0 x_t_open x_t_codeMany x_t_waiting x_t_saidMany x_t_clauses x_t_lines x_t_newMany x_t_rounds x_t_itFrom x_t_itTimes x_t_writtenNow x_t_picturesNow x_t_usedNow x_t_chosen x_t_fearOfChosen x_t_changesNow x_t_left0 x_t_trainMany x_t_leastTries x_t_firstTrained x_t_isKept a1 a2 a3 : Int32} {v_t_newWords : Nat → Int32} {o_r o_x_t_fault o_x_t_newMany : Int32} {o_v_t_newWords : Nat → Int32} (hf : f_X12_repeats v_t_newWords x_t_fault x_t_newMany a1 a2 a3 = some (o_r, o_v_t_newWords, o_x_t_fault, o_x_t_newMany)) : CtI l D cI cB yX12_repeats cX12_repeats 6 (some .boolean) 1 22 [.ref A_t, .int a1, .int a2, .int a3] [oX12 A_t A_t_now A_t_aside A_t_kept A_t_rhymeOf A_t_wasRhyme A_t_wordAt x_t_wordMany A_t_tape x_t_taped x_t_place0 x_t_length0 x_t_fault x_t_number0 x_t_open x_t_codeMany x_t_waiting x_t_saidMany x_t_clauses A_t_said A_t_waitsAt A_t_saidLetter A_t_saidFrom A_t_saidHalf A_t_saidTo A_t_codes A_t_clauseOf A_t_codeFrom A_t_codeHalf A_t_codeTo A_t_stack A_t_facts x_t_lines A_t_newWords A_t_roundFrom A_t_roundAt A_t_roundTimes x_t_newMany x_t_rounds x_t_itFrom x_t_itTimes x_t_writtenNow x_t_picturesNow x_t_usedNow x_t_chosen x_t_fearOfChosen A_t_leastFrom A_t_rowNow x_t_changesNow x_t_left0 A_t_bornOf A_t_trainsTo A_t_trainAt x_t_trainMany x_t_leastTries x_t_firstTrained x_t_isKept, iA cI 48 A_t_newWords v_t_newWords] [oX12 A_t A_t_now A_t_aside A_t_kept A_t_rhymeOf A_t_wasRhyme A_t_wordAt x_t_wordMany A_t_tape x_t_taped x_t_place0 x_t_length0 o_x_t_fault x_t_number0 x_t_open x_t_codeMany x_t_waiting x_t_saidMany x_t_clauses A_t_said A_t_waitsAt A_t_saidLetter A_t_saidFrom A_t_saidHalf A_t_saidTo A_t_codes A_t_clauseOf A_t_codeFrom A_t_codeHalf A_t_codeTo A_t_stack A_t_facts x_t_lines A_t_newWords A_t_roundFrom A_t_roundAt A_t_roundTimes o_x_t_newMany x_t_rounds x_t_itFrom x_t_itTimes x_t_writtenNow x_t_picturesNow x_t_usedNow x_t_chosen x_t_fearOfChosen A_t_leastFrom A_t_rowNow x_t_changesNow x_t_left0 A_t_bornOf A_t_trainsTo A_t_trainAt x_t_trainMany x_t_leastTries x_t_firstTrained x_t_isKept, iA cI 48 A_t_newWords o_v_t_newWords] o_r := by
  refine x_startI (by decide) (Nat.le_of_ble_eq_true rfl) ?_
  intro p e s m below meth c A C hr hlk hA hK hP hD hS ls hl
  have hl : lv_has ls 6 [(0, .ref A_t), (1, .int a1), (2, .int a2), (3, .int a3)] := hl
  have hx := C.1
  have hb := C.2.1
  unfold f_X12_repeats at hf
  have hb_31 : ∀ (n_31 : Nat) (v_t_newWords : (Nat → Int32)) (x_t_fault : Int32) (x_t_newMany : Int32) (l4 : Int32) (l5 : Int32) (H : Heap) (locs : List Loc) (ls : Array Slot), lv_has ls 6 [(0, .ref A_t), (1, .int a1), (2, .int a2), (4, .int l4), (5, .int l5)] → va_P D vwCl [oX12 A_t A_t_now A_t_aside A_t_kept A_t_rhymeOf A_t_wasRhyme A_t_wordAt x_t_wordMany A_t_tape x_t_taped x_t_place0 x_t_length0 x_t_fault x_t_number0 x_t_open x_t_codeMany x_t_waiting x_t_saidMany x_t_clauses A_t_said A_t_waitsAt A_t_saidLetter A_t_saidFrom A_t_saidHalf A_t_saidTo A_t_codes A_t_clauseOf A_t_codeFrom A_t_codeHalf A_t_codeTo A_t_stack A_t_facts x_t_lines A_t_newWords A_t_roundFrom A_t_roundAt A_t_roundTimes x_t_newMany x_t_rounds x_t_itFrom x_t_itTimes x_t_writtenNow x_t_picturesNow x_t_usedNow x_t_chosen x_t_fearOfChosen A_t_leastFrom A_t_rowNow x_t_changesNow x_t_left0 A_t_bornOf A_t_trainsTo A_t_trainAt x_t_trainMany x_t_leastTries x_t_firstTrained x_t_isKept, iA cI 48 A_t_newWords v_t_newWords] H → va_D A [oX12 A_t A_t_now A_t_aside A_t_kept A_t_rhymeOf A_t_wasRhyme A_t_wordAt x_t_wordMany A_t_tape x_t_taped x_t_place0 x_t_length0 x_t_fault x_t_number0 x_t_open x_t_codeMany x_t_waiting x_t_saidMany x_t_clauses A_t_said A_t_waitsAt A_t_saidLetter A_t_saidFrom A_t_saidHalf A_t_saidTo A_t_codes A_t_clauseOf A_t_codeFrom A_t_codeHalf A_t_codeTo A_t_stack A_t_facts x_t_lines A_t_newWords A_t_roundFrom A_t_roundAt A_t_roundTimes x_t_newMany x_t_rounds x_t_itFrom x_t_itTimes x_t_writtenNow x_t_picturesNow x_t_usedNow x_t_chosen x_t_fearOfChosen A_t_leastFrom A_t_rowNow x_t_changesNow x_t_left0 A_t_bornOf A_t_trainsTo A_t_trainAt x_t_trainMany x_t_leastTries x_t_firstTrained x_t_isKept, iA cI 48 A_t_newWords v_t_newWords] → va_S A s.heap H locs → f_X12_repeats_b31 a1 a2 n_31 v_t_newWords x_t_fault x_t_newMany l4 l5 = some (o_r, o_v_t_newWords, o_x_t_fault, o_x_t_newMany) → W p l e { frames := 1, cells := 0, slots := 0, locals := 22 } s m ([.ref A_t, .int a1, .int a2, .int a3] : List Value).toArray below meth c H locs 0 0 (MQ below (PoI D A [oX12 A_t A_t_now A_t_aside A_t_kept A_t_rhymeOf A_t_wasRhyme A_t_wordAt x_t_wordMany A_t_tape x_t_taped x_t_place0 x_t_length0 o_x_t_fault x_t_number0 x_t_open x_t_codeMany x_t_waiting x_t_saidMany x_t_clauses A_t_said A_t_waitsAt A_t_saidLetter A_t_saidFrom A_t_saidHalf A_t_saidTo A_t_codes A_t_clauseOf A_t_codeFrom A_t_codeHalf A_t_codeTo A_t_stack A_t_facts x_t_lines A_t_newWords A_t_roundFrom A_t_roundAt A_t_roundTimes o_x_t_newMany x_t_rounds x_t_itFrom x_t_itTimes x_t_writtenNow x_t_picturesNow x_t_usedNow x_t_chosen x_t_fearOfChosen A_t_leastFrom A_t_rowNow x_t_changesNow x_t_left0 A_t_bornOf A_t_trainsTo A_t_trainAt x_t_trainMany x_t_leastTries x_t_firstTrained x_t_isKept, iA cI 48 A_t_newWords o_v_t_newWords] o_r) ([.ref A_t, .int a1, .int a2, .int a3] : List Value).toArray s 0 0 A) (F0 m 31 ls []) := by
    intro n_31
    induction n_31 with
    | zero =>
      intro v_t_newWords x_t_fault x_t_newMany l4 l5 H locs ls hl hP hD hS hf
      exact absurd hf (fun h => by rw [f_X12_repeats_b31] at h; cases h)
    | succ n_31 ih_31 =>
      intro v_t_newWords x_t_fault x_t_newMany l4 l5 H locs ls hl hP hD hS hf
      rw [f_X12_repeats_b31] at hf
      refine lv_iload hx hb dX12_repeats_31 (lv_at hl 4 rfl) ?_
      refine lv_iload hx hb dX12_repeats_33 (lv_at hl 3 rfl) ?_
      refine lv_iload_n hx hb dX12_repeats_35 rfl (lv_at hl 2 rfl) ?_
      refine lv_imul hx hb dX12_repeats_36 ?_
      refine lv_icmp_ge (tgt := 67) hx hb dX12_repeats_37 (by decide) (fun q => ?_) (fun q => ?_)
      · have hf := if_t q hf
        refine lv_aload_n hx hb dX12_repeats_67 rfl (lv_at hl 0 rfl) ?_
        refine lv_iload_n hx hb dX12_repeats_68 rfl (lv_at hl 1 rfl) ?_
        refine lv_iload hx hb dX12_repeats_69 (lv_at hl 3 rfl) ?_
        refine lv_iload_n hx hb dX12_repeats_71 rfl (lv_at hl 2 rfl) ?_
        refine lv_imul hx hb dX12_repeats_72 ?_
        refine lv_iadd hx hb dX12_repeats_73 ?_
        refine x_put (ws' := [oX12 A_t A_t_now A_t_aside A_t_kept A_t_rhymeOf A_t_wasRhyme A_t_wordAt x_t_wordMany A_t_tape x_t_taped x_t_place0 x_t_length0 x_t_fault x_t_number0 x_t_open x_t_codeMany x_t_waiting x_t_saidMany x_t_clauses A_t_said A_t_waitsAt A_t_saidLetter A_t_saidFrom A_t_saidHalf A_t_saidTo A_t_codes A_t_clauseOf A_t_codeFrom A_t_codeHalf A_t_codeTo A_t_stack A_t_facts x_t_lines A_t_newWords A_t_roundFrom A_t_roundAt A_t_roundTimes (a1 + (l4 * a2)) x_t_rounds x_t_itFrom x_t_itTimes x_t_writtenNow x_t_picturesNow x_t_usedNow x_t_chosen x_t_fearOfChosen A_t_leastFrom A_t_rowNow x_t_changesNow x_t_left0 A_t_bornOf A_t_trainsTo A_t_trainAt x_t_trainMany x_t_leastTries x_t_firstTrained x_t_isKept, iA cI 48 A_t_newWords v_t_newWords]) C hK hP hD hS fp_X12_285 0 rfl rfl rfl (Nat.le_of_ble_eq_true rfl) rfl dX12_repeats_74 ?_
        intro H locs hP hD hS
        refine lv_iconst (v := 1) hx hb dX12_repeats_77 (by decide) ?_
        obtain ⟨rfl, rfl, rfl, rfl⟩ := ev4 hf
        exact x_zret C hr hlk (Or.inr rfl) hP hD hS dX12_repeats_78
      · have hf := if_f q hf
        refine lv_aload_n hx hb dX12_repeats_40 rfl (lv_at hl 0 rfl) ?_
        refine x_get C hK hP fd_X12_71 0 rfl rfl dX12_repeats_41 ?_
        refine lv_iload_n hx hb dX12_repeats_44 rfl (lv_at hl 1 rfl) ?_
        refine lv_iload hx hb dX12_repeats_45 (lv_at hl 4 rfl) ?_
        refine lv_iadd hx hb dX12_repeats_47 ?_
        refine lv_aload_n hx hb dX12_repeats_48 rfl (lv_at hl 0 rfl) ?_
        refine x_get C hK hP fd_X12_71 0 rfl rfl dX12_repeats_49 ?_
        refine lv_iload_n hx hb dX12_repeats_52 rfl (lv_at hl 1 rfl) ?_
        refine lv_iload hx hb dX12_repeats_53 (lv_at hl 4 rfl) ?_
        refine lv_iadd hx hb dX12_repeats_55 ?_
        refine lv_iload hx hb dX12_repeats_56 (lv_at hl 3 rfl) ?_
        refine lv_isub hx hb dX12_repeats_58 ?_
        obtain ⟨hi, hf⟩ := gI_e hf
        refine x_iald C hK hP 1 rfl hi dX12_repeats_59 ?_
        obtain ⟨hi, hf⟩ := sI_e hf
        refine x_iast (ws' := [oX12 A_t A_t_now A_t_aside A_t_kept A_t_rhymeOf A_t_wasRhyme A_t_wordAt x_t_wordMany A_t_tape x_t_taped x_t_place0 x_t_length0 x_t_fault x_t_number0 x_t_open x_t_codeMany x_t_waiting x_t_saidMany x_t_clauses A_t_said A_t_waitsAt A_t_saidLetter A_t_saidFrom A_t_saidHalf A_t_saidTo A_t_codes A_t_clauseOf A_t_codeFrom A_t_codeHalf A_t_codeTo A_t_stack A_t_facts x_t_lines A_t_newWords A_t_roundFrom A_t_roundAt A_t_roundTimes x_t_newMany x_t_rounds x_t_itFrom x_t_itTimes x_t_writtenNow x_t_picturesNow x_t_usedNow x_t_chosen x_t_fearOfChosen A_t_leastFrom A_t_rowNow x_t_changesNow x_t_left0 A_t_bornOf A_t_trainsTo A_t_trainAt x_t_trainMany x_t_leastTries x_t_firstTrained x_t_isKept, iA cI 48 A_t_newWords (upd v_t_newWords (a1 + l5).toNatClampNeg (v_t_newWords ((a1 + l5) - l4).toNatClampNeg))]) C hK hP hD hS 1 rfl hi rfl dX12_repeats_60 ?_
        intro H locs hP hD hS
        refine lv_iinc (v := (l5 + (1 : Int32))) (lv' := [(5, .int (l5 + (1 : Int32))), (0, .ref A_t), (1, .int a1), (2, .int a2), (4, .int l4)]) hx hb dX12_repeats_61 hl (k := 4) rfl rfl (by decide) rfl (fun ls hl => ?_)
        refine lv_goto (tgt := 31) hx hb dX12_repeats_64 (by decide) ?_
        exact ih_31 (upd v_t_newWords (a1 + l5).toNatClampNeg (v_t_newWords ((a1 + l5) - l4).toNatClampNeg)) x_t_fault x_t_newMany l4 (l5 + (1 : Int32)) _ _ ls (lv_sub hl [1, 2, 3, 4, 0] rfl) hP hD hS hf
  refine lv_aload_n hx hb dX12_repeats_0 rfl (lv_at hl 0 rfl) ?_
  refine x_get C hK hP fd_X12_285 0 rfl rfl dX12_repeats_1 ?_
  refine lv_iload_n hx hb dX12_repeats_4 rfl (lv_at hl 1 rfl) ?_
  refine lv_isub hx hb dX12_repeats_5 ?_
  refine lv_istore (lv' := [(4, .int (x_t_newMany - a1)), (0, .ref A_t), (1, .int a1), (2, .int a2), (3, .int a3)]) hx hb dX12_repeats_6 hl (by decide) rfl (fun ls hl => ?_)
  refine lv_iload_n hx hb dX12_repeats_8 rfl (lv_at hl 2 rfl) ?_
  refine lv_iload hx hb dX12_repeats_9 (lv_at hl 0 rfl) ?_
  refine lv_iload_n hx hb dX12_repeats_11 rfl (lv_at hl 3 rfl) ?_
  refine lv_imul hx hb dX12_repeats_12 ?_
  refine lv_iadd hx hb dX12_repeats_13 ?_
  refine lv_bipush (v := 48) hx hb dX12_repeats_14 (by decide) ?_
  refine lv_icmp_le (tgt := 27) hx hb dX12_repeats_16 (by decide) (fun q => ?_) (fun q => ?_)
  · have hf := if_t q hf
    refine lv_iload hx hb dX12_repeats_27 (lv_at hl 0 rfl) ?_
    refine lv_istore (lv' := [(5, .int (x_t_newMany - a1)), (4, .int (x_t_newMany - a1)), (0, .ref A_t), (1, .int a1), (2, .int a2), (3, .int a3)]) hx hb dX12_repeats_29 hl (by decide) rfl (fun ls hl => ?_)
    exact hb_31 FU v_t_newWords x_t_fault x_t_newMany (x_t_newMany - a1) (x_t_newMany - a1) _ _ ls (lv_sub hl [2, 3, 4, 1, 0] rfl) hP hD hS hf
  · have hf := if_f q hf
    refine lv_aload_n hx hb dX12_repeats_19 rfl (lv_at hl 1 rfl) ?_
    refine lv_bipush (v := 6) hx hb dX12_repeats_20 (by decide) ?_
    refine lv_iload_n hx hb dX12_repeats_22 rfl (lv_at hl 4 rfl) ?_
    obtain ⟨r1, w2, hc3, hf⟩ := bd2_e hf
    refine x_callVI (ws' := [oX12 A_t A_t_now A_t_aside A_t_kept A_t_rhymeOf A_t_wasRhyme A_t_wordAt x_t_wordMany A_t_tape x_t_taped x_t_place0 x_t_length0 w2 x_t_number0 x_t_open x_t_codeMany x_t_waiting x_t_saidMany x_t_clauses A_t_said A_t_waitsAt A_t_saidLetter A_t_saidFrom A_t_saidHalf A_t_saidTo A_t_codes A_t_clauseOf A_t_codeFrom A_t_codeHalf A_t_codeTo A_t_stack A_t_facts x_t_lines A_t_newWords A_t_roundFrom A_t_roundAt A_t_roundTimes x_t_newMany x_t_rounds x_t_itFrom x_t_itTimes x_t_writtenNow x_t_picturesNow x_t_usedNow x_t_chosen x_t_fearOfChosen A_t_leastFrom A_t_rowNow x_t_changesNow x_t_left0 A_t_bornOf A_t_trainsTo A_t_trainAt x_t_trainMany x_t_leastTries x_t_firstTrained x_t_isKept, iA cI 48 A_t_newWords v_t_newWords]) (rest := []) C hK hP hD hS hA hl mf_X12_163 (c_X12_wrongAt hc3) [0] 0 12 rfl rfl rfl rfl rfl rfl rfl rfl rfl rfl (Nat.le_of_ble_eq_true rfl) ⟨Nat.le_of_ble_eq_true rfl, Nat.le_of_ble_eq_true rfl⟩ ⟨Nat.le_refl _, Nat.le_refl _⟩ dX12_repeats_23 ?_
    intro H locs hP hD hS
    obtain ⟨hz, hf⟩ := zI_e hf
    obtain ⟨rfl, rfl, rfl, rfl⟩ := ev4 hf
    exact x_zret C hr hlk hz hP hD hS dX12_repeats_26
def f_X12_readsWord_b268 (v_t_newWords : (Nat → Int32)) (v_t_roundAt : (Nat → Int32)) (v_t_roundFrom : (Nat → Int32)) (v_t_roundTimes : (Nat → Int32)) (x_t_fault : Int32) (x_t_itFrom : Int32) (x_t_itTimes : Int32) (x_t_newMany : Int32) (x_t_place0 : Int32) (x_t_rounds : Int32) : Option (Int32 × (Nat → Int32) × (Nat → Int32) × (Nat → Int32) × (Nat → Int32) × Int32 × Int32 × Int32 × Int32 × Int32 × Int32) :=
  some ((1 : Int32), v_t_newWords, v_t_roundAt, v_t_roundFrom, v_t_roundTimes, x_t_fault, x_t_itFrom, x_t_itTimes, x_t_newMany, x_t_place0, x_t_rounds)
def f_X12_readsWord_b196 (v_t_tape : (Nat → Int32)) (x_t_length0 : Int32) : Nat → (Nat → Int32) → (Nat → Int32) → (Nat → Int32) → (Nat → Int32) → Int32 → Int32 → Int32 → Int32 → Int32 → Int32 → Option (Int32 × (Nat → Int32) × (Nat → Int32) × (Nat → Int32) × (Nat → Int32) × Int32 × Int32 × Int32 × Int32 × Int32 × Int32)
  | 0, _, _, _, _, _, _, _, _, _, _ => none
  | n + 1, v_t_newWords, v_t_roundAt, v_t_roundFrom, v_t_roundTimes, x_t_fault, x_t_itFrom, x_t_itTimes, x_t_newMany, x_t_place0, x_t_rounds =>
    bd1 (f_X12_here v_t_tape x_t_length0 x_t_place0) (fun r1 =>
    if r1 = (41 : Int32) then
      if x_t_rounds ≤ 0 then
        f_X12_readsWord_b268 v_t_newWords v_t_roundAt v_t_roundFrom v_t_roundTimes x_t_fault x_t_itFrom x_t_itTimes x_t_newMany x_t_place0 x_t_rounds
      else
        gI 2 v_t_roundAt (x_t_rounds - (1 : Int32)) (fun g2 =>
        gI 2 v_t_roundTimes (x_t_rounds - (1 : Int32)) (fun g3 =>
        gI 2 v_t_roundFrom (x_t_rounds - (1 : Int32)) (fun g4 =>
        bd4 (f_X12_repeats v_t_newWords x_t_fault x_t_newMany g2 g3 g4) (fun r5 w6 w7 w8 =>
        if r5 = 0 then
          some ((0 : Int32), w6, v_t_roundAt, v_t_roundFrom, v_t_roundTimes, w7, x_t_itFrom, x_t_itTimes, w8, (x_t_place0 + (1 : Int32)), (x_t_rounds - (1 : Int32)))
        else
          f_X12_readsWord_b196 v_t_tape x_t_length0 n w6 v_t_roundAt v_t_roundFrom v_t_roundTimes w7 x_t_itFrom x_t_itTimes w8 (x_t_place0 + (1 : Int32)) (x_t_rounds - (1 : Int32))))))
    else
      f_X12_readsWord_b268 v_t_newWords v_t_roundAt v_t_roundFrom v_t_roundTimes x_t_fault x_t_itFrom x_t_itTimes x_t_newMany x_t_place0 x_t_rounds)
def f_X12_readsWord_b4 (v_t_tape : (Nat → Int32)) (x_t_length0 : Int32) : Nat → (Nat → Int32) → (Nat → Int32) → (Nat → Int32) → (Nat → Int32) → Int32 → Int32 → Int32 → Int32 → Int32 → Int32 → Option (Int32 × (Nat → Int32) × (Nat → Int32) × (Nat → Int32) × (Nat → Int32) × Int32 × Int32 × Int32 × Int32 × Int32 × Int32)
  | 0, _, _, _, _, _, _, _, _, _, _ => none
  | n + 1, v_t_newWords, v_t_roundAt, v_t_roundFrom, v_t_roundTimes, x_t_fault, x_t_itFrom, x_t_itTimes, x_t_newMany, x_t_place0, x_t_rounds =>
    bd1 (f_X12_here v_t_tape x_t_length0 x_t_place0) (fun r1 =>
    if r1 = (40 : Int32) then
      if x_t_rounds = (2 : Int32) then
        bd2 (f_X12_wrongAt x_t_fault (5 : Int32) x_t_place0) (fun r19 w20 =>
        zI r19 (some (r19, v_t_newWords, v_t_roundAt, v_t_roundFrom, v_t_roundTimes, w20, x_t_itFrom, x_t_itTimes, x_t_newMany, x_t_place0, x_t_rounds)))
      else
        sI 2 v_t_roundFrom x_t_rounds x_t_itFrom (fun w13 =>
        sI 2 v_t_roundAt x_t_rounds x_t_newMany (fun w14 =>
        sI 2 v_t_roundTimes x_t_rounds x_t_itTimes (fun w15 =>
        bd3 (f_X12_readsTimes v_t_tape x_t_itFrom x_t_itTimes x_t_length0 (x_t_place0 + (1 : Int32))) (fun w16 w17 w18 =>
        f_X12_readsWord_b4 v_t_tape x_t_length0 n v_t_newWords w14 w13 w15 x_t_fault w16 w17 x_t_newMany w18 (x_t_rounds + (1 : Int32))))))
    else
      bd1 (f_X12_isLetter v_t_tape x_t_length0 x_t_place0) (fun r2 =>
      if r2 = 0 then
        bd2 (f_X12_wrongAt x_t_fault (1 : Int32) x_t_place0) (fun r11 w12 =>
        zI r11 (some (r11, v_t_newWords, v_t_roundAt, v_t_roundFrom, v_t_roundTimes, w12, x_t_itFrom, x_t_itTimes, x_t_newMany, x_t_place0, x_t_rounds)))
      else
        if (x_t_newMany + x_t_itTimes) ≤ (48 : Int32) then
          bd1 (f_X12_here v_t_tape x_t_length0 x_t_place0) (fun r3 =>
          sI 48 v_t_newWords x_t_newMany (r3 - (97 : Int32)) (fun w4 =>
          bd4 (f_X12_repeats w4 x_t_fault (x_t_newMany + (1 : Int32)) ((x_t_newMany + (1 : Int32)) - (1 : Int32)) x_t_itTimes x_t_itFrom) (fun r5 w6 w7 w8 =>
          if r5 = 0 then
            some ((0 : Int32), w6, v_t_roundAt, v_t_roundFrom, v_t_roundTimes, w7, x_t_itFrom, x_t_itTimes, w8, (x_t_place0 + (1 : Int32)), x_t_rounds)
          else
            f_X12_readsWord_b196 v_t_tape x_t_length0 FU w6 v_t_roundAt v_t_roundFrom v_t_roundTimes w7 x_t_itFrom x_t_itTimes w8 (x_t_place0 + (1 : Int32)) x_t_rounds)))
        else
          bd2 (f_X12_wrongAt x_t_fault (6 : Int32) x_t_itFrom) (fun r9 w10 =>
          zI r9 (some (r9, v_t_newWords, v_t_roundAt, v_t_roundFrom, v_t_roundTimes, w10, x_t_itFrom, x_t_itTimes, x_t_newMany, x_t_place0, x_t_rounds)))))
def f_X12_readsWord (v_t_newWords : (Nat → Int32)) (v_t_roundAt : (Nat → Int32)) (v_t_roundFrom : (Nat → Int32)) (v_t_roundTimes : (Nat → Int32)) (v_t_tape : (Nat → Int32)) (x_t_fault : Int32) (x_t_itFrom : Int32) (x_t_itTimes : Int32) (x_t_length0 : Int32) (x_t_newMany : Int32) (x_t_place0 : Int32) (x_t_rounds : Int32) : Option (Int32 × (Nat → Int32) × (Nat → Int32) × (Nat → Int32) × (Nat → Int32) × Int32 × Int32 × Int32 × Int32 × Int32 × Int32) :=
  bd3 (f_X12_readsTimes v_t_tape x_t_itFrom x_t_itTimes x_t_length0 x_t_place0) (fun w21 w22 w23 =>
  f_X12_readsWord_b4 v_t_tape x_t_length0 FU v_t_newWords v_t_roundAt v_t_roundFrom v_t_roundTimes x_t_fault w21 w22 x_t_newMany w23 x_t_rounds)
set_option maxHeartbeats 4000000 in
set_option maxRecDepth 100000 in
theorem c_X12_readsWord {l : Launch} {D : va_G} {cI cB : ClassId} {A_t A_t_now A_t_aside A_t_kept A_t_rhymeOf A_t_wasRhyme A_t_wordAt A_t_tape A_t_said A_t_waitsAt A_t_saidLetter A_t_saidFrom A_t_saidHalf A_t_saidTo A_t_codes A_t_clauseOf A_t_codeFrom A_t_codeHalf A_t_codeTo A_t_stack A_t_facts A_t_newWords A_t_roundFrom A_t_roundAt A_t_roundTimes A_t_leastFrom A_t_rowNow A_t_bornOf A_t_trainsTo A_t_trainAt : Nat} {x_t_wordMany x_t_taped x_t_place0 x_t_length0 x_t_fault x_t_number0 x_t_open x_t_codeMany x_t_waiting x_t_saidMany x_t_clauses x_t_lines x_t_newMany x_t_rounds x_t_itFrom x_t_itTimes x_t_writtenNow x_t_picturesNow x_t_usedNow x_t_chosen x_t_fearOfChosen x_t_changesNow x_t_left0 x_t_trainMany x_t_leastTries x_t_firstTrained x_t_isKept : Int32} {v_t_newWords v_t_roundAt v_t_roundFrom v_t_roundTimes v_t_tape : Nat → Int32} {o_r o_x_t_fault o_x_t_itFrom o_x_t_itTimes o_x_t_newMany o_x_t_place0 o_x_t_rounds : Int32} {o_v_t_newWords o_v_t_roundAt o_v_t_roundFrom o_v_t_roundTimes : Nat → Int32} (hf : f_X12_readsWord v_t_newWords v_t_roundAt v_t_roundFrom v_t_roundTimes v_t_tape x_t_fault x_t_itFrom x_t_itTimes x_t_length0 x_t_newMany x_t_place0 x_t_rounds = some (o_r, o_v_t_newWords, o_v_t_roundAt, o_v_t_roundFrom, o_v_t_roundTimes, o_x_t_fault, o_x_t_itFrom, o_x_t_itTimes, o_x_t_newMany, o_x_t_place0, o_x_t_rounds)) : CtI l D cI cB yX12_readsWord cX12_readsWord 3 (some .boolean) 2 47 [.ref A_t] [oX12 A_t A_t_now A_t_aside A_t_kept A_t_rhymeOf A_t_wasRhyme A_t_wordAt x_t_wordMany A_t_tape x_t_taped x_t_place0 x_t_length0 x_t_fault x_t_number0 x_t_open x_t_codeMany x_t_waiting x_t_saidMany x_t_clauses A_t_said A_t_waitsAt A_t_saidLetter A_t_saidFrom A_t_saidHalf A_t_saidTo A_t_codes A_t_clauseOf A_t_codeFrom A_t_codeHalf A_t_codeTo A_t_stack A_t_facts x_t_lines A_t_newWords A_t_roundFrom A_t_roundAt A_t_roundTimes x_t_newMany x_t_rounds x_t_itFrom x_t_itTimes x_t_writtenNow x_t_picturesNow x_t_usedNow x_t_chosen x_t_fearOfChosen A_t_leastFrom A_t_rowNow x_t_changesNow x_t_left0 A_t_bornOf A_t_trainsTo A_t_trainAt x_t_trainMany x_t_leastTries x_t_firstTrained x_t_isKept, iA cI 48 A_t_newWords v_t_newWords, iA cI 2 A_t_roundAt v_t_roundAt, iA cI 2 A_t_roundFrom v_t_roundFrom, iA cI 2 A_t_roundTimes v_t_roundTimes, iA cB 260 A_t_tape v_t_tape] [oX12 A_t A_t_now A_t_aside A_t_kept A_t_rhymeOf A_t_wasRhyme A_t_wordAt x_t_wordMany A_t_tape x_t_taped o_x_t_place0 x_t_length0 o_x_t_fault x_t_number0 x_t_open x_t_codeMany x_t_waiting x_t_saidMany x_t_clauses A_t_said A_t_waitsAt A_t_saidLetter A_t_saidFrom A_t_saidHalf A_t_saidTo A_t_codes A_t_clauseOf A_t_codeFrom A_t_codeHalf A_t_codeTo A_t_stack A_t_facts x_t_lines A_t_newWords A_t_roundFrom A_t_roundAt A_t_roundTimes o_x_t_newMany o_x_t_rounds o_x_t_itFrom o_x_t_itTimes x_t_writtenNow x_t_picturesNow x_t_usedNow x_t_chosen x_t_fearOfChosen A_t_leastFrom A_t_rowNow x_t_changesNow x_t_left0 A_t_bornOf A_t_trainsTo A_t_trainAt x_t_trainMany x_t_leastTries x_t_firstTrained x_t_isKept, iA cI 48 A_t_newWords o_v_t_newWords, iA cI 2 A_t_roundAt o_v_t_roundAt, iA cI 2 A_t_roundFrom o_v_t_roundFrom, iA cI 2 A_t_roundTimes o_v_t_roundTimes, iA cB 260 A_t_tape v_t_tape] o_r := by
  refine x_startI (by decide) (Nat.le_of_ble_eq_true rfl) ?_
  intro p e s m below meth c A C hr hlk hA hK hP hD hS ls hl
  have hl : lv_has ls 3 [(0, .ref A_t)] := hl
  have hx := C.1
  have hb := C.2.1
  unfold f_X12_readsWord at hf
  have hb_268 : ∀ (v_t_newWords : (Nat → Int32)) (v_t_roundAt : (Nat → Int32)) (v_t_roundFrom : (Nat → Int32)) (v_t_roundTimes : (Nat → Int32)) (x_t_fault : Int32) (x_t_itFrom : Int32) (x_t_itTimes : Int32) (x_t_newMany : Int32) (x_t_place0 : Int32) (x_t_rounds : Int32) (H : Heap) (locs : List Loc) (ls : Array Slot), lv_has ls 3 [] → va_P D vwCl [oX12 A_t A_t_now A_t_aside A_t_kept A_t_rhymeOf A_t_wasRhyme A_t_wordAt x_t_wordMany A_t_tape x_t_taped x_t_place0 x_t_length0 x_t_fault x_t_number0 x_t_open x_t_codeMany x_t_waiting x_t_saidMany x_t_clauses A_t_said A_t_waitsAt A_t_saidLetter A_t_saidFrom A_t_saidHalf A_t_saidTo A_t_codes A_t_clauseOf A_t_codeFrom A_t_codeHalf A_t_codeTo A_t_stack A_t_facts x_t_lines A_t_newWords A_t_roundFrom A_t_roundAt A_t_roundTimes x_t_newMany x_t_rounds x_t_itFrom x_t_itTimes x_t_writtenNow x_t_picturesNow x_t_usedNow x_t_chosen x_t_fearOfChosen A_t_leastFrom A_t_rowNow x_t_changesNow x_t_left0 A_t_bornOf A_t_trainsTo A_t_trainAt x_t_trainMany x_t_leastTries x_t_firstTrained x_t_isKept, iA cI 48 A_t_newWords v_t_newWords, iA cI 2 A_t_roundAt v_t_roundAt, iA cI 2 A_t_roundFrom v_t_roundFrom, iA cI 2 A_t_roundTimes v_t_roundTimes, iA cB 260 A_t_tape v_t_tape] H → va_D A [oX12 A_t A_t_now A_t_aside A_t_kept A_t_rhymeOf A_t_wasRhyme A_t_wordAt x_t_wordMany A_t_tape x_t_taped x_t_place0 x_t_length0 x_t_fault x_t_number0 x_t_open x_t_codeMany x_t_waiting x_t_saidMany x_t_clauses A_t_said A_t_waitsAt A_t_saidLetter A_t_saidFrom A_t_saidHalf A_t_saidTo A_t_codes A_t_clauseOf A_t_codeFrom A_t_codeHalf A_t_codeTo A_t_stack A_t_facts x_t_lines A_t_newWords A_t_roundFrom A_t_roundAt A_t_roundTimes x_t_newMany x_t_rounds x_t_itFrom x_t_itTimes x_t_writtenNow x_t_picturesNow x_t_usedNow x_t_chosen x_t_fearOfChosen A_t_leastFrom A_t_rowNow x_t_changesNow x_t_left0 A_t_bornOf A_t_trainsTo A_t_trainAt x_t_trainMany x_t_leastTries x_t_firstTrained x_t_isKept, iA cI 48 A_t_newWords v_t_newWords, iA cI 2 A_t_roundAt v_t_roundAt, iA cI 2 A_t_roundFrom v_t_roundFrom, iA cI 2 A_t_roundTimes v_t_roundTimes, iA cB 260 A_t_tape v_t_tape] → va_S A s.heap H locs → f_X12_readsWord_b268 v_t_newWords v_t_roundAt v_t_roundFrom v_t_roundTimes x_t_fault x_t_itFrom x_t_itTimes x_t_newMany x_t_place0 x_t_rounds = some (o_r, o_v_t_newWords, o_v_t_roundAt, o_v_t_roundFrom, o_v_t_roundTimes, o_x_t_fault, o_x_t_itFrom, o_x_t_itTimes, o_x_t_newMany, o_x_t_place0, o_x_t_rounds) → W p l e { frames := 2, cells := 0, slots := 0, locals := 47 } s m ([.ref A_t] : List Value).toArray below meth c H locs 0 0 (MQ below (PoI D A [oX12 A_t A_t_now A_t_aside A_t_kept A_t_rhymeOf A_t_wasRhyme A_t_wordAt x_t_wordMany A_t_tape x_t_taped o_x_t_place0 x_t_length0 o_x_t_fault x_t_number0 x_t_open x_t_codeMany x_t_waiting x_t_saidMany x_t_clauses A_t_said A_t_waitsAt A_t_saidLetter A_t_saidFrom A_t_saidHalf A_t_saidTo A_t_codes A_t_clauseOf A_t_codeFrom A_t_codeHalf A_t_codeTo A_t_stack A_t_facts x_t_lines A_t_newWords A_t_roundFrom A_t_roundAt A_t_roundTimes o_x_t_newMany o_x_t_rounds o_x_t_itFrom o_x_t_itTimes x_t_writtenNow x_t_picturesNow x_t_usedNow x_t_chosen x_t_fearOfChosen A_t_leastFrom A_t_rowNow x_t_changesNow x_t_left0 A_t_bornOf A_t_trainsTo A_t_trainAt x_t_trainMany x_t_leastTries x_t_firstTrained x_t_isKept, iA cI 48 A_t_newWords o_v_t_newWords, iA cI 2 A_t_roundAt o_v_t_roundAt, iA cI 2 A_t_roundFrom o_v_t_roundFrom, iA cI 2 A_t_roundTimes o_v_t_roundTimes, iA cB 260 A_t_tape v_t_tape] o_r) ([.ref A_t] : List Value).toArray s 0 0 A) (F0 m 268 ls []) := by
    intro v_t_newWords v_t_roundAt v_t_roundFrom v_t_roundTimes x_t_fault x_t_itFrom x_t_itTimes x_t_newMany x_t_place0 x_t_rounds H locs ls hl hP hD hS hf
    unfold f_X12_readsWord_b268 at hf
    refine lv_iconst (v := 1) hx hb dX12_readsWord_268 (by decide) ?_
    obtain ⟨rfl, rfl, rfl, rfl, rfl, rfl, rfl, rfl, rfl, rfl, rfl⟩ := ev11 hf
    exact x_zret C hr hlk (Or.inr rfl) hP hD hS dX12_readsWord_269
  have hb_196 : ∀ (n_196 : Nat) (v_t_newWords : (Nat → Int32)) (v_t_roundAt : (Nat → Int32)) (v_t_roundFrom : (Nat → Int32)) (v_t_roundTimes : (Nat → Int32)) (x_t_fault : Int32) (x_t_itFrom : Int32) (x_t_itTimes : Int32) (x_t_newMany : Int32) (x_t_place0 : Int32) (x_t_rounds : Int32) (H : Heap) (locs : List Loc) (ls : Array Slot), lv_has ls 3 [(0, .ref A_t)] → va_P D vwCl [oX12 A_t A_t_now A_t_aside A_t_kept A_t_rhymeOf A_t_wasRhyme A_t_wordAt x_t_wordMany A_t_tape x_t_taped x_t_place0 x_t_length0 x_t_fault x_t_number0 x_t_open x_t_codeMany x_t_waiting x_t_saidMany x_t_clauses A_t_said A_t_waitsAt A_t_saidLetter A_t_saidFrom A_t_saidHalf A_t_saidTo A_t_codes A_t_clauseOf A_t_codeFrom A_t_codeHalf A_t_codeTo A_t_stack A_t_facts x_t_lines A_t_newWords A_t_roundFrom A_t_roundAt A_t_roundTimes x_t_newMany x_t_rounds x_t_itFrom x_t_itTimes x_t_writtenNow x_t_picturesNow x_t_usedNow x_t_chosen x_t_fearOfChosen A_t_leastFrom A_t_rowNow x_t_changesNow x_t_left0 A_t_bornOf A_t_trainsTo A_t_trainAt x_t_trainMany x_t_leastTries x_t_firstTrained x_t_isKept, iA cI 48 A_t_newWords v_t_newWords, iA cI 2 A_t_roundAt v_t_roundAt, iA cI 2 A_t_roundFrom v_t_roundFrom, iA cI 2 A_t_roundTimes v_t_roundTimes, iA cB 260 A_t_tape v_t_tape] H → va_D A [oX12 A_t A_t_now A_t_aside A_t_kept A_t_rhymeOf A_t_wasRhyme A_t_wordAt x_t_wordMany A_t_tape x_t_taped x_t_place0 x_t_length0 x_t_fault x_t_number0 x_t_open x_t_codeMany x_t_waiting x_t_saidMany x_t_clauses A_t_said A_t_waitsAt A_t_saidLetter A_t_saidFrom A_t_saidHalf A_t_saidTo A_t_codes A_t_clauseOf A_t_codeFrom A_t_codeHalf A_t_codeTo A_t_stack A_t_facts x_t_lines A_t_newWords A_t_roundFrom A_t_roundAt A_t_roundTimes x_t_newMany x_t_rounds x_t_itFrom x_t_itTimes x_t_writtenNow x_t_picturesNow x_t_usedNow x_t_chosen x_t_fearOfChosen A_t_leastFrom A_t_rowNow x_t_changesNow x_t_left0 A_t_bornOf A_t_trainsTo A_t_trainAt x_t_trainMany x_t_leastTries x_t_firstTrained x_t_isKept, iA cI 48 A_t_newWords v_t_newWords, iA cI 2 A_t_roundAt v_t_roundAt, iA cI 2 A_t_roundFrom v_t_roundFrom, iA cI 2 A_t_roundTimes v_t_roundTimes, iA cB 260 A_t_tape v_t_tape] → va_S A s.heap H locs → f_X12_readsWord_b196 v_t_tape x_t_length0 n_196 v_t_newWords v_t_roundAt v_t_roundFrom v_t_roundTimes x_t_fault x_t_itFrom x_t_itTimes x_t_newMany x_t_place0 x_t_rounds = some (o_r, o_v_t_newWords, o_v_t_roundAt, o_v_t_roundFrom, o_v_t_roundTimes, o_x_t_fault, o_x_t_itFrom, o_x_t_itTimes, o_x_t_newMany, o_x_t_place0, o_x_t_rounds) → W p l e { frames := 2, cells := 0, slots := 0, locals := 47 } s m ([.ref A_t] : List Value).toArray below meth c H locs 0 0 (MQ below (PoI D A [oX12 A_t A_t_now A_t_aside A_t_kept A_t_rhymeOf A_t_wasRhyme A_t_wordAt x_t_wordMany A_t_tape x_t_taped o_x_t_place0 x_t_length0 o_x_t_fault x_t_number0 x_t_open x_t_codeMany x_t_waiting x_t_saidMany x_t_clauses A_t_said A_t_waitsAt A_t_saidLetter A_t_saidFrom A_t_saidHalf A_t_saidTo A_t_codes A_t_clauseOf A_t_codeFrom A_t_codeHalf A_t_codeTo A_t_stack A_t_facts x_t_lines A_t_newWords A_t_roundFrom A_t_roundAt A_t_roundTimes o_x_t_newMany o_x_t_rounds o_x_t_itFrom o_x_t_itTimes x_t_writtenNow x_t_picturesNow x_t_usedNow x_t_chosen x_t_fearOfChosen A_t_leastFrom A_t_rowNow x_t_changesNow x_t_left0 A_t_bornOf A_t_trainsTo A_t_trainAt x_t_trainMany x_t_leastTries x_t_firstTrained x_t_isKept, iA cI 48 A_t_newWords o_v_t_newWords, iA cI 2 A_t_roundAt o_v_t_roundAt, iA cI 2 A_t_roundFrom o_v_t_roundFrom, iA cI 2 A_t_roundTimes o_v_t_roundTimes, iA cB 260 A_t_tape v_t_tape] o_r) ([.ref A_t] : List Value).toArray s 0 0 A) (F0 m 196 ls []) := by
    intro n_196
    induction n_196 with
    | zero =>
      intro v_t_newWords v_t_roundAt v_t_roundFrom v_t_roundTimes x_t_fault x_t_itFrom x_t_itTimes x_t_newMany x_t_place0 x_t_rounds H locs ls hl hP hD hS hf
      exact absurd hf (fun h => by rw [f_X12_readsWord_b196] at h; cases h)
    | succ n_196 ih_196 =>
      intro v_t_newWords v_t_roundAt v_t_roundFrom v_t_roundTimes x_t_fault x_t_itFrom x_t_itTimes x_t_newMany x_t_place0 x_t_rounds H locs ls hl hP hD hS hf
      rw [f_X12_readsWord_b196] at hf
      refine lv_aload_n hx hb dX12_readsWord_196 rfl (lv_at hl 0 rfl) ?_
      obtain ⟨r1, hc2, hf⟩ := bd1_e hf
      refine x_callVI (ws' := [oX12 A_t A_t_now A_t_aside A_t_kept A_t_rhymeOf A_t_wasRhyme A_t_wordAt x_t_wordMany A_t_tape x_t_taped x_t_place0 x_t_length0 x_t_fault x_t_number0 x_t_open x_t_codeMany x_t_waiting x_t_saidMany x_t_clauses A_t_said A_t_waitsAt A_t_saidLetter A_t_saidFrom A_t_saidHalf A_t_saidTo A_t_codes A_t_clauseOf A_t_codeFrom A_t_codeHalf A_t_codeTo A_t_stack A_t_facts x_t_lines A_t_newWords A_t_roundFrom A_t_roundAt A_t_roundTimes x_t_newMany x_t_rounds x_t_itFrom x_t_itTimes x_t_writtenNow x_t_picturesNow x_t_usedNow x_t_chosen x_t_fearOfChosen A_t_leastFrom A_t_rowNow x_t_changesNow x_t_left0 A_t_bornOf A_t_trainsTo A_t_trainAt x_t_trainMany x_t_leastTries x_t_firstTrained x_t_isKept, iA cI 48 A_t_newWords v_t_newWords, iA cI 2 A_t_roundAt v_t_roundAt, iA cI 2 A_t_roundFrom v_t_roundFrom, iA cI 2 A_t_roundTimes v_t_roundTimes, iA cB 260 A_t_tape v_t_tape]) (rest := []) C hK hP hD hS hA hl mf_X12_156 (c_X12_here hc2) [0, 5] 0 12 rfl rfl rfl rfl rfl rfl rfl rfl rfl rfl (Nat.le_of_ble_eq_true rfl) ⟨Nat.le_of_ble_eq_true rfl, Nat.le_of_ble_eq_true rfl⟩ ⟨Nat.le_refl _, Nat.le_refl _⟩ dX12_readsWord_197 ?_
      intro H locs hP hD hS
      refine lv_bipush (v := 41) hx hb dX12_readsWord_200 (by decide) ?_
      refine lv_icmp_ne (tgt := 268) hx hb dX12_readsWord_202 (by decide) (fun q => ?_) (fun q => ?_)
      · have hf := if_f q hf
        exact hb_268 v_t_newWords v_t_roundAt v_t_roundFrom v_t_roundTimes x_t_fault x_t_itFrom x_t_itTimes x_t_newMany x_t_place0 x_t_rounds _ _ ls (lv_sub hl [] rfl) hP hD hS hf
      · have hf := if_t q hf
        refine lv_aload_n hx hb dX12_readsWord_205 rfl (lv_at hl 0 rfl) ?_
        refine x_get C hK hP fd_X12_291 0 rfl rfl dX12_readsWord_206 ?_
        refine lv_if_le (tgt := 268) hx hb dX12_readsWord_209 (by decide) (fun q => ?_) (fun q => ?_)
        · have hf := if_t q hf
          exact hb_268 v_t_newWords v_t_roundAt v_t_roundFrom v_t_roundTimes x_t_fault x_t_itFrom x_t_itTimes x_t_newMany x_t_place0 x_t_rounds _ _ ls (lv_sub hl [] rfl) hP hD hS hf
        · have hf := if_f q hf
          refine lv_aload_n hx hb dX12_readsWord_212 rfl (lv_at hl 0 rfl) ?_
          refine lv_aload_n hx hb dX12_readsWord_213 rfl (lv_at hl 0 rfl) ?_
          refine x_get C hK hP fd_X12_150 0 rfl rfl dX12_readsWord_214 ?_
          refine lv_iconst (v := 1) hx hb dX12_readsWord_217 (by decide) ?_
          refine lv_iadd hx hb dX12_readsWord_218 ?_
          refine x_put (ws' := [oX12 A_t A_t_now A_t_aside A_t_kept A_t_rhymeOf A_t_wasRhyme A_t_wordAt x_t_wordMany A_t_tape x_t_taped (x_t_place0 + (1 : Int32)) x_t_length0 x_t_fault x_t_number0 x_t_open x_t_codeMany x_t_waiting x_t_saidMany x_t_clauses A_t_said A_t_waitsAt A_t_saidLetter A_t_saidFrom A_t_saidHalf A_t_saidTo A_t_codes A_t_clauseOf A_t_codeFrom A_t_codeHalf A_t_codeTo A_t_stack A_t_facts x_t_lines A_t_newWords A_t_roundFrom A_t_roundAt A_t_roundTimes x_t_newMany x_t_rounds x_t_itFrom x_t_itTimes x_t_writtenNow x_t_picturesNow x_t_usedNow x_t_chosen x_t_fearOfChosen A_t_leastFrom A_t_rowNow x_t_changesNow x_t_left0 A_t_bornOf A_t_trainsTo A_t_trainAt x_t_trainMany x_t_leastTries x_t_firstTrained x_t_isKept, iA cI 48 A_t_newWords v_t_newWords, iA cI 2 A_t_roundAt v_t_roundAt, iA cI 2 A_t_roundFrom v_t_roundFrom, iA cI 2 A_t_roundTimes v_t_roundTimes, iA cB 260 A_t_tape v_t_tape]) C hK hP hD hS fp_X12_150 0 rfl rfl rfl (Nat.le_of_ble_eq_true rfl) rfl dX12_readsWord_219 ?_
          intro H locs hP hD hS
          refine lv_aload_n hx hb dX12_readsWord_222 rfl (lv_at hl 0 rfl) ?_
          refine lv_aload_n hx hb dX12_readsWord_223 rfl (lv_at hl 0 rfl) ?_
          refine x_get C hK hP fd_X12_291 0 rfl rfl dX12_readsWord_224 ?_
          refine lv_iconst (v := 1) hx hb dX12_readsWord_227 (by decide) ?_
          refine lv_isub hx hb dX12_readsWord_228 ?_
          refine x_put (ws' := [oX12 A_t A_t_now A_t_aside A_t_kept A_t_rhymeOf A_t_wasRhyme A_t_wordAt x_t_wordMany A_t_tape x_t_taped (x_t_place0 + (1 : Int32)) x_t_length0 x_t_fault x_t_number0 x_t_open x_t_codeMany x_t_waiting x_t_saidMany x_t_clauses A_t_said A_t_waitsAt A_t_saidLetter A_t_saidFrom A_t_saidHalf A_t_saidTo A_t_codes A_t_clauseOf A_t_codeFrom A_t_codeHalf A_t_codeTo A_t_stack A_t_facts x_t_lines A_t_newWords A_t_roundFrom A_t_roundAt A_t_roundTimes x_t_newMany (x_t_rounds - (1 : Int32)) x_t_itFrom x_t_itTimes x_t_writtenNow x_t_picturesNow x_t_usedNow x_t_chosen x_t_fearOfChosen A_t_leastFrom A_t_rowNow x_t_changesNow x_t_left0 A_t_bornOf A_t_trainsTo A_t_trainAt x_t_trainMany x_t_leastTries x_t_firstTrained x_t_isKept, iA cI 48 A_t_newWords v_t_newWords, iA cI 2 A_t_roundAt v_t_roundAt, iA cI 2 A_t_roundFrom v_t_roundFrom, iA cI 2 A_t_roundTimes v_t_roundTimes, iA cB 260 A_t_tape v_t_tape]) C hK hP hD hS fp_X12_291 0 rfl rfl rfl (Nat.le_of_ble_eq_true rfl) rfl dX12_readsWord_229 ?_
          intro H locs hP hD hS
          refine lv_aload_n hx hb dX12_readsWord_232 rfl (lv_at hl 0 rfl) ?_
          refine lv_aload_n hx hb dX12_readsWord_233 rfl (lv_at hl 0 rfl) ?_
          refine x_get C hK hP fd_X12_77 0 rfl rfl dX12_readsWord_234 ?_
          refine lv_aload_n hx hb dX12_readsWord_237 rfl (lv_at hl 0 rfl) ?_
          refine x_get C hK hP fd_X12_291 0 rfl rfl dX12_readsWord_238 ?_
          obtain ⟨hi, hf⟩ := gI_e hf
          refine x_iald C hK hP 2 rfl hi dX12_readsWord_241 ?_
          refine lv_aload_n hx hb dX12_readsWord_242 rfl (lv_at hl 0 rfl) ?_
          refine x_get C hK hP fd_X12_80 0 rfl rfl dX12_readsWord_243 ?_
          refine lv_aload_n hx hb dX12_readsWord_246 rfl (lv_at hl 0 rfl) ?_
          refine x_get C hK hP fd_X12_291 0 rfl rfl dX12_readsWord_247 ?_
          obtain ⟨hi, hf⟩ := gI_e hf
          refine x_iald C hK hP 4 rfl hi dX12_readsWord_250 ?_
          refine lv_aload_n hx hb dX12_readsWord_251 rfl (lv_at hl 0 rfl) ?_
          refine x_get C hK hP fd_X12_74 0 rfl rfl dX12_readsWord_252 ?_
          refine lv_aload_n hx hb dX12_readsWord_255 rfl (lv_at hl 0 rfl) ?_
          refine x_get C hK hP fd_X12_291 0 rfl rfl dX12_readsWord_256 ?_
          obtain ⟨hi, hf⟩ := gI_e hf
          refine x_iald C hK hP 3 rfl hi dX12_readsWord_259 ?_
          obtain ⟨r3, w4, w5, w6, hc7, hf⟩ := bd4_e hf
          refine x_callVI (ws' := [oX12 A_t A_t_now A_t_aside A_t_kept A_t_rhymeOf A_t_wasRhyme A_t_wordAt x_t_wordMany A_t_tape x_t_taped (x_t_place0 + (1 : Int32)) x_t_length0 w5 x_t_number0 x_t_open x_t_codeMany x_t_waiting x_t_saidMany x_t_clauses A_t_said A_t_waitsAt A_t_saidLetter A_t_saidFrom A_t_saidHalf A_t_saidTo A_t_codes A_t_clauseOf A_t_codeFrom A_t_codeHalf A_t_codeTo A_t_stack A_t_facts x_t_lines A_t_newWords A_t_roundFrom A_t_roundAt A_t_roundTimes w6 (x_t_rounds - (1 : Int32)) x_t_itFrom x_t_itTimes x_t_writtenNow x_t_picturesNow x_t_usedNow x_t_chosen x_t_fearOfChosen A_t_leastFrom A_t_rowNow x_t_changesNow x_t_left0 A_t_bornOf A_t_trainsTo A_t_trainAt x_t_trainMany x_t_leastTries x_t_firstTrained x_t_isKept, iA cI 48 A_t_newWords w4, iA cI 2 A_t_roundAt v_t_roundAt, iA cI 2 A_t_roundFrom v_t_roundFrom, iA cI 2 A_t_roundTimes v_t_roundTimes, iA cB 260 A_t_tape v_t_tape]) (rest := []) C hK hP hD hS hA hl mf_X12_294 (c_X12_repeats hc7) [0, 1] 0 12 rfl rfl rfl rfl rfl rfl rfl rfl rfl rfl (Nat.le_of_ble_eq_true rfl) ⟨Nat.le_of_ble_eq_true rfl, Nat.le_of_ble_eq_true rfl⟩ ⟨Nat.le_refl _, Nat.le_refl _⟩ dX12_readsWord_260 ?_
          intro H locs hP hD hS
          refine lv_if_ne (tgt := 196) hx hb dX12_readsWord_263 (by decide) (fun q => ?_) (fun q => ?_)
          · have hf := if_f q hf
            exact ih_196 w4 v_t_roundAt v_t_roundFrom v_t_roundTimes w5 x_t_itFrom x_t_itTimes w6 (x_t_place0 + (1 : Int32)) (x_t_rounds - (1 : Int32)) _ _ ls (lv_sub hl [0] rfl) hP hD hS hf
          · have hf := if_t q hf
            refine lv_iconst (v := 0) hx hb dX12_readsWord_266 (by decide) ?_
            obtain ⟨rfl, rfl, rfl, rfl, rfl, rfl, rfl, rfl, rfl, rfl, rfl⟩ := ev11 hf
            exact x_zret C hr hlk (Or.inl rfl) hP hD hS dX12_readsWord_267
  have hb_4 : ∀ (n_4 : Nat) (v_t_newWords : (Nat → Int32)) (v_t_roundAt : (Nat → Int32)) (v_t_roundFrom : (Nat → Int32)) (v_t_roundTimes : (Nat → Int32)) (x_t_fault : Int32) (x_t_itFrom : Int32) (x_t_itTimes : Int32) (x_t_newMany : Int32) (x_t_place0 : Int32) (x_t_rounds : Int32) (H : Heap) (locs : List Loc) (ls : Array Slot), lv_has ls 3 [(0, .ref A_t)] → va_P D vwCl [oX12 A_t A_t_now A_t_aside A_t_kept A_t_rhymeOf A_t_wasRhyme A_t_wordAt x_t_wordMany A_t_tape x_t_taped x_t_place0 x_t_length0 x_t_fault x_t_number0 x_t_open x_t_codeMany x_t_waiting x_t_saidMany x_t_clauses A_t_said A_t_waitsAt A_t_saidLetter A_t_saidFrom A_t_saidHalf A_t_saidTo A_t_codes A_t_clauseOf A_t_codeFrom A_t_codeHalf A_t_codeTo A_t_stack A_t_facts x_t_lines A_t_newWords A_t_roundFrom A_t_roundAt A_t_roundTimes x_t_newMany x_t_rounds x_t_itFrom x_t_itTimes x_t_writtenNow x_t_picturesNow x_t_usedNow x_t_chosen x_t_fearOfChosen A_t_leastFrom A_t_rowNow x_t_changesNow x_t_left0 A_t_bornOf A_t_trainsTo A_t_trainAt x_t_trainMany x_t_leastTries x_t_firstTrained x_t_isKept, iA cI 48 A_t_newWords v_t_newWords, iA cI 2 A_t_roundAt v_t_roundAt, iA cI 2 A_t_roundFrom v_t_roundFrom, iA cI 2 A_t_roundTimes v_t_roundTimes, iA cB 260 A_t_tape v_t_tape] H → va_D A [oX12 A_t A_t_now A_t_aside A_t_kept A_t_rhymeOf A_t_wasRhyme A_t_wordAt x_t_wordMany A_t_tape x_t_taped x_t_place0 x_t_length0 x_t_fault x_t_number0 x_t_open x_t_codeMany x_t_waiting x_t_saidMany x_t_clauses A_t_said A_t_waitsAt A_t_saidLetter A_t_saidFrom A_t_saidHalf A_t_saidTo A_t_codes A_t_clauseOf A_t_codeFrom A_t_codeHalf A_t_codeTo A_t_stack A_t_facts x_t_lines A_t_newWords A_t_roundFrom A_t_roundAt A_t_roundTimes x_t_newMany x_t_rounds x_t_itFrom x_t_itTimes x_t_writtenNow x_t_picturesNow x_t_usedNow x_t_chosen x_t_fearOfChosen A_t_leastFrom A_t_rowNow x_t_changesNow x_t_left0 A_t_bornOf A_t_trainsTo A_t_trainAt x_t_trainMany x_t_leastTries x_t_firstTrained x_t_isKept, iA cI 48 A_t_newWords v_t_newWords, iA cI 2 A_t_roundAt v_t_roundAt, iA cI 2 A_t_roundFrom v_t_roundFrom, iA cI 2 A_t_roundTimes v_t_roundTimes, iA cB 260 A_t_tape v_t_tape] → va_S A s.heap H locs → f_X12_readsWord_b4 v_t_tape x_t_length0 n_4 v_t_newWords v_t_roundAt v_t_roundFrom v_t_roundTimes x_t_fault x_t_itFrom x_t_itTimes x_t_newMany x_t_place0 x_t_rounds = some (o_r, o_v_t_newWords, o_v_t_roundAt, o_v_t_roundFrom, o_v_t_roundTimes, o_x_t_fault, o_x_t_itFrom, o_x_t_itTimes, o_x_t_newMany, o_x_t_place0, o_x_t_rounds) → W p l e { frames := 2, cells := 0, slots := 0, locals := 47 } s m ([.ref A_t] : List Value).toArray below meth c H locs 0 0 (MQ below (PoI D A [oX12 A_t A_t_now A_t_aside A_t_kept A_t_rhymeOf A_t_wasRhyme A_t_wordAt x_t_wordMany A_t_tape x_t_taped o_x_t_place0 x_t_length0 o_x_t_fault x_t_number0 x_t_open x_t_codeMany x_t_waiting x_t_saidMany x_t_clauses A_t_said A_t_waitsAt A_t_saidLetter A_t_saidFrom A_t_saidHalf A_t_saidTo A_t_codes A_t_clauseOf A_t_codeFrom A_t_codeHalf A_t_codeTo A_t_stack A_t_facts x_t_lines A_t_newWords A_t_roundFrom A_t_roundAt A_t_roundTimes o_x_t_newMany o_x_t_rounds o_x_t_itFrom o_x_t_itTimes x_t_writtenNow x_t_picturesNow x_t_usedNow x_t_chosen x_t_fearOfChosen A_t_leastFrom A_t_rowNow x_t_changesNow x_t_left0 A_t_bornOf A_t_trainsTo A_t_trainAt x_t_trainMany x_t_leastTries x_t_firstTrained x_t_isKept, iA cI 48 A_t_newWords o_v_t_newWords, iA cI 2 A_t_roundAt o_v_t_roundAt, iA cI 2 A_t_roundFrom o_v_t_roundFrom, iA cI 2 A_t_roundTimes o_v_t_roundTimes, iA cB 260 A_t_tape v_t_tape] o_r) ([.ref A_t] : List Value).toArray s 0 0 A) (F0 m 4 ls []) := by
    intro n_4
    induction n_4 with
    | zero =>
      intro v_t_newWords v_t_roundAt v_t_roundFrom v_t_roundTimes x_t_fault x_t_itFrom x_t_itTimes x_t_newMany x_t_place0 x_t_rounds H locs ls hl hP hD hS hf
      exact absurd hf (fun h => by rw [f_X12_readsWord_b4] at h; cases h)
    | succ n_4 ih_4 =>
      intro v_t_newWords v_t_roundAt v_t_roundFrom v_t_roundTimes x_t_fault x_t_itFrom x_t_itTimes x_t_newMany x_t_place0 x_t_rounds H locs ls hl hP hD hS hf
      rw [f_X12_readsWord_b4] at hf
      refine lv_aload_n hx hb dX12_readsWord_4 rfl (lv_at hl 0 rfl) ?_
      obtain ⟨r8, hc9, hf⟩ := bd1_e hf
      refine x_callVI (ws' := [oX12 A_t A_t_now A_t_aside A_t_kept A_t_rhymeOf A_t_wasRhyme A_t_wordAt x_t_wordMany A_t_tape x_t_taped x_t_place0 x_t_length0 x_t_fault x_t_number0 x_t_open x_t_codeMany x_t_waiting x_t_saidMany x_t_clauses A_t_said A_t_waitsAt A_t_saidLetter A_t_saidFrom A_t_saidHalf A_t_saidTo A_t_codes A_t_clauseOf A_t_codeFrom A_t_codeHalf A_t_codeTo A_t_stack A_t_facts x_t_lines A_t_newWords A_t_roundFrom A_t_roundAt A_t_roundTimes x_t_newMany x_t_rounds x_t_itFrom x_t_itTimes x_t_writtenNow x_t_picturesNow x_t_usedNow x_t_chosen x_t_fearOfChosen A_t_leastFrom A_t_rowNow x_t_changesNow x_t_left0 A_t_bornOf A_t_trainsTo A_t_trainAt x_t_trainMany x_t_leastTries x_t_firstTrained x_t_isKept, iA cI 48 A_t_newWords v_t_newWords, iA cI 2 A_t_roundAt v_t_roundAt, iA cI 2 A_t_roundFrom v_t_roundFrom, iA cI 2 A_t_roundTimes v_t_roundTimes, iA cB 260 A_t_tape v_t_tape]) (rest := []) C hK hP hD hS hA hl mf_X12_156 (c_X12_here hc9) [0, 5] 0 12 rfl rfl rfl rfl rfl rfl rfl rfl rfl rfl (Nat.le_of_ble_eq_true rfl) ⟨Nat.le_of_ble_eq_true rfl, Nat.le_of_ble_eq_true rfl⟩ ⟨Nat.le_refl _, Nat.le_refl _⟩ dX12_readsWord_5 ?_
      intro H locs hP hD hS
      refine lv_bipush (v := 40) hx hb dX12_readsWord_8 (by decide) ?_
      refine lv_icmp_ne (tgt := 97) hx hb dX12_readsWord_10 (by decide) (fun q => ?_) (fun q => ?_)
      · have hf := if_f q hf
        refine lv_aload_n hx hb dX12_readsWord_97 rfl (lv_at hl 0 rfl) ?_
        refine x_get C hK hP fd_X12_279 0 rfl rfl dX12_readsWord_98 ?_
        refine lv_istore_n (lv' := [(1, .int x_t_itFrom), (0, .ref A_t)]) hx hb dX12_readsWord_101 rfl hl (by decide) rfl (fun ls hl => ?_)
        refine lv_aload_n hx hb dX12_readsWord_102 rfl (lv_at hl 1 rfl) ?_
        refine x_get C hK hP fd_X12_282 0 rfl rfl dX12_readsWord_103 ?_
        refine lv_istore_n (lv' := [(2, .int x_t_itTimes), (1, .int x_t_itFrom), (0, .ref A_t)]) hx hb dX12_readsWord_106 rfl hl (by decide) rfl (fun ls hl => ?_)
        refine lv_aload_n hx hb dX12_readsWord_107 rfl (lv_at hl 2 rfl) ?_
        obtain ⟨r10, hc11, hf⟩ := bd1_e hf
        refine x_callVI (ws' := [oX12 A_t A_t_now A_t_aside A_t_kept A_t_rhymeOf A_t_wasRhyme A_t_wordAt x_t_wordMany A_t_tape x_t_taped x_t_place0 x_t_length0 x_t_fault x_t_number0 x_t_open x_t_codeMany x_t_waiting x_t_saidMany x_t_clauses A_t_said A_t_waitsAt A_t_saidLetter A_t_saidFrom A_t_saidHalf A_t_saidTo A_t_codes A_t_clauseOf A_t_codeFrom A_t_codeHalf A_t_codeTo A_t_stack A_t_facts x_t_lines A_t_newWords A_t_roundFrom A_t_roundAt A_t_roundTimes x_t_newMany x_t_rounds x_t_itFrom x_t_itTimes x_t_writtenNow x_t_picturesNow x_t_usedNow x_t_chosen x_t_fearOfChosen A_t_leastFrom A_t_rowNow x_t_changesNow x_t_left0 A_t_bornOf A_t_trainsTo A_t_trainAt x_t_trainMany x_t_leastTries x_t_firstTrained x_t_isKept, iA cI 48 A_t_newWords v_t_newWords, iA cI 2 A_t_roundAt v_t_roundAt, iA cI 2 A_t_roundFrom v_t_roundFrom, iA cI 2 A_t_roundTimes v_t_roundTimes, iA cB 260 A_t_tape v_t_tape]) (rest := []) C hK hP hD hS hA hl mf_X12_251 (c_X12_isLetter hc11) [0, 5] 0 12 rfl rfl rfl rfl rfl rfl rfl rfl rfl rfl (Nat.le_of_ble_eq_true rfl) ⟨Nat.le_of_ble_eq_true rfl, Nat.le_of_ble_eq_true rfl⟩ ⟨Nat.le_refl _, Nat.le_refl _⟩ dX12_readsWord_108 ?_
        intro H locs hP hD hS
        refine lv_if_ne (tgt := 124) hx hb dX12_readsWord_111 (by decide) (fun q => ?_) (fun q => ?_)
        · have hf := if_f q hf
          refine lv_aload_n hx hb dX12_readsWord_124 rfl (lv_at hl 2 rfl) ?_
          refine x_get C hK hP fd_X12_285 0 rfl rfl dX12_readsWord_125 ?_
          refine lv_iload_n hx hb dX12_readsWord_128 rfl (lv_at hl 0 rfl) ?_
          refine lv_iadd hx hb dX12_readsWord_129 ?_
          refine lv_bipush (v := 48) hx hb dX12_readsWord_130 (by decide) ?_
          refine lv_icmp_le (tgt := 143) hx hb dX12_readsWord_132 (by decide) (fun q => ?_) (fun q => ?_)
          · have hf := if_t q hf
            refine lv_aload_n hx hb dX12_readsWord_143 rfl (lv_at hl 2 rfl) ?_
            refine x_get C hK hP fd_X12_71 0 rfl rfl dX12_readsWord_144 ?_
            refine lv_aload_n hx hb dX12_readsWord_147 rfl (lv_at hl 2 rfl) ?_
            refine x_get C hK hP fd_X12_285 0 rfl rfl dX12_readsWord_148 ?_
            refine lv_aload_n hx hb dX12_readsWord_151 rfl (lv_at hl 2 rfl) ?_
            obtain ⟨r12, hc13, hf⟩ := bd1_e hf
            refine x_callVI (ws' := [oX12 A_t A_t_now A_t_aside A_t_kept A_t_rhymeOf A_t_wasRhyme A_t_wordAt x_t_wordMany A_t_tape x_t_taped x_t_place0 x_t_length0 x_t_fault x_t_number0 x_t_open x_t_codeMany x_t_waiting x_t_saidMany x_t_clauses A_t_said A_t_waitsAt A_t_saidLetter A_t_saidFrom A_t_saidHalf A_t_saidTo A_t_codes A_t_clauseOf A_t_codeFrom A_t_codeHalf A_t_codeTo A_t_stack A_t_facts x_t_lines A_t_newWords A_t_roundFrom A_t_roundAt A_t_roundTimes x_t_newMany x_t_rounds x_t_itFrom x_t_itTimes x_t_writtenNow x_t_picturesNow x_t_usedNow x_t_chosen x_t_fearOfChosen A_t_leastFrom A_t_rowNow x_t_changesNow x_t_left0 A_t_bornOf A_t_trainsTo A_t_trainAt x_t_trainMany x_t_leastTries x_t_firstTrained x_t_isKept, iA cI 48 A_t_newWords v_t_newWords, iA cI 2 A_t_roundAt v_t_roundAt, iA cI 2 A_t_roundFrom v_t_roundFrom, iA cI 2 A_t_roundTimes v_t_roundTimes, iA cB 260 A_t_tape v_t_tape]) (rest := [.int x_t_newMany, .ref A_t_newWords]) C hK hP hD hS hA hl mf_X12_156 (c_X12_here hc13) [0, 5] 0 12 rfl rfl rfl rfl rfl rfl rfl rfl rfl rfl (Nat.le_of_ble_eq_true rfl) ⟨Nat.le_of_ble_eq_true rfl, Nat.le_of_ble_eq_true rfl⟩ ⟨Nat.le_refl _, Nat.le_refl _⟩ dX12_readsWord_152 ?_
            intro H locs hP hD hS
            refine lv_bipush (v := 97) hx hb dX12_readsWord_155 (by decide) ?_
            refine lv_isub hx hb dX12_readsWord_157 ?_
            obtain ⟨hi, hf⟩ := sI_e hf
            refine x_iast (ws' := [oX12 A_t A_t_now A_t_aside A_t_kept A_t_rhymeOf A_t_wasRhyme A_t_wordAt x_t_wordMany A_t_tape x_t_taped x_t_place0 x_t_length0 x_t_fault x_t_number0 x_t_open x_t_codeMany x_t_waiting x_t_saidMany x_t_clauses A_t_said A_t_waitsAt A_t_saidLetter A_t_saidFrom A_t_saidHalf A_t_saidTo A_t_codes A_t_clauseOf A_t_codeFrom A_t_codeHalf A_t_codeTo A_t_stack A_t_facts x_t_lines A_t_newWords A_t_roundFrom A_t_roundAt A_t_roundTimes x_t_newMany x_t_rounds x_t_itFrom x_t_itTimes x_t_writtenNow x_t_picturesNow x_t_usedNow x_t_chosen x_t_fearOfChosen A_t_leastFrom A_t_rowNow x_t_changesNow x_t_left0 A_t_bornOf A_t_trainsTo A_t_trainAt x_t_trainMany x_t_leastTries x_t_firstTrained x_t_isKept, iA cI 48 A_t_newWords (upd v_t_newWords x_t_newMany.toNatClampNeg (r12 - (97 : Int32))), iA cI 2 A_t_roundAt v_t_roundAt, iA cI 2 A_t_roundFrom v_t_roundFrom, iA cI 2 A_t_roundTimes v_t_roundTimes, iA cB 260 A_t_tape v_t_tape]) C hK hP hD hS 1 rfl hi rfl dX12_readsWord_158 ?_
            intro H locs hP hD hS
            refine lv_aload_n hx hb dX12_readsWord_159 rfl (lv_at hl 2 rfl) ?_
            refine lv_aload_n hx hb dX12_readsWord_160 rfl (lv_at hl 2 rfl) ?_
            refine x_get C hK hP fd_X12_150 0 rfl rfl dX12_readsWord_161 ?_
            refine lv_iconst (v := 1) hx hb dX12_readsWord_164 (by decide) ?_
            refine lv_iadd hx hb dX12_readsWord_165 ?_
            refine x_put (ws' := [oX12 A_t A_t_now A_t_aside A_t_kept A_t_rhymeOf A_t_wasRhyme A_t_wordAt x_t_wordMany A_t_tape x_t_taped (x_t_place0 + (1 : Int32)) x_t_length0 x_t_fault x_t_number0 x_t_open x_t_codeMany x_t_waiting x_t_saidMany x_t_clauses A_t_said A_t_waitsAt A_t_saidLetter A_t_saidFrom A_t_saidHalf A_t_saidTo A_t_codes A_t_clauseOf A_t_codeFrom A_t_codeHalf A_t_codeTo A_t_stack A_t_facts x_t_lines A_t_newWords A_t_roundFrom A_t_roundAt A_t_roundTimes x_t_newMany x_t_rounds x_t_itFrom x_t_itTimes x_t_writtenNow x_t_picturesNow x_t_usedNow x_t_chosen x_t_fearOfChosen A_t_leastFrom A_t_rowNow x_t_changesNow x_t_left0 A_t_bornOf A_t_trainsTo A_t_trainAt x_t_trainMany x_t_leastTries x_t_firstTrained x_t_isKept, iA cI 48 A_t_newWords (upd v_t_newWords x_t_newMany.toNatClampNeg (r12 - (97 : Int32))), iA cI 2 A_t_roundAt v_t_roundAt, iA cI 2 A_t_roundFrom v_t_roundFrom, iA cI 2 A_t_roundTimes v_t_roundTimes, iA cB 260 A_t_tape v_t_tape]) C hK hP hD hS fp_X12_150 0 rfl rfl rfl (Nat.le_of_ble_eq_true rfl) rfl dX12_readsWord_166 ?_
            intro H locs hP hD hS
            refine lv_aload_n hx hb dX12_readsWord_169 rfl (lv_at hl 2 rfl) ?_
            refine lv_aload_n hx hb dX12_readsWord_170 rfl (lv_at hl 2 rfl) ?_
            refine x_get C hK hP fd_X12_285 0 rfl rfl dX12_readsWord_171 ?_
            refine lv_iconst (v := 1) hx hb dX12_readsWord_174 (by decide) ?_
            refine lv_iadd hx hb dX12_readsWord_175 ?_
            refine x_put (ws' := [oX12 A_t A_t_now A_t_aside A_t_kept A_t_rhymeOf A_t_wasRhyme A_t_wordAt x_t_wordMany A_t_tape x_t_taped (x_t_place0 + (1 : Int32)) x_t_length0 x_t_fault x_t_number0 x_t_open x_t_codeMany x_t_waiting x_t_saidMany x_t_clauses A_t_said A_t_waitsAt A_t_saidLetter A_t_saidFrom A_t_saidHalf A_t_saidTo A_t_codes A_t_clauseOf A_t_codeFrom A_t_codeHalf A_t_codeTo A_t_stack A_t_facts x_t_lines A_t_newWords A_t_roundFrom A_t_roundAt A_t_roundTimes (x_t_newMany + (1 : Int32)) x_t_rounds x_t_itFrom x_t_itTimes x_t_writtenNow x_t_picturesNow x_t_usedNow x_t_chosen x_t_fearOfChosen A_t_leastFrom A_t_rowNow x_t_changesNow x_t_left0 A_t_bornOf A_t_trainsTo A_t_trainAt x_t_trainMany x_t_leastTries x_t_firstTrained x_t_isKept, iA cI 48 A_t_newWords (upd v_t_newWords x_t_newMany.toNatClampNeg (r12 - (97 : Int32))), iA cI 2 A_t_roundAt v_t_roundAt, iA cI 2 A_t_roundFrom v_t_roundFrom, iA cI 2 A_t_roundTimes v_t_roundTimes, iA cB 260 A_t_tape v_t_tape]) C hK hP hD hS fp_X12_285 0 rfl rfl rfl (Nat.le_of_ble_eq_true rfl) rfl dX12_readsWord_176 ?_
            intro H locs hP hD hS
            refine lv_aload_n hx hb dX12_readsWord_179 rfl (lv_at hl 2 rfl) ?_
            refine lv_aload_n hx hb dX12_readsWord_180 rfl (lv_at hl 2 rfl) ?_
            refine x_get C hK hP fd_X12_285 0 rfl rfl dX12_readsWord_181 ?_
            refine lv_iconst (v := 1) hx hb dX12_readsWord_184 (by decide) ?_
            refine lv_isub hx hb dX12_readsWord_185 ?_
            refine lv_iload_n hx hb dX12_readsWord_186 rfl (lv_at hl 0 rfl) ?_
            refine lv_iload_n hx hb dX12_readsWord_187 rfl (lv_at hl 1 rfl) ?_
            obtain ⟨r14, w15, w16, w17, hc18, hf⟩ := bd4_e hf
            refine x_callVI (ws' := [oX12 A_t A_t_now A_t_aside A_t_kept A_t_rhymeOf A_t_wasRhyme A_t_wordAt x_t_wordMany A_t_tape x_t_taped (x_t_place0 + (1 : Int32)) x_t_length0 w16 x_t_number0 x_t_open x_t_codeMany x_t_waiting x_t_saidMany x_t_clauses A_t_said A_t_waitsAt A_t_saidLetter A_t_saidFrom A_t_saidHalf A_t_saidTo A_t_codes A_t_clauseOf A_t_codeFrom A_t_codeHalf A_t_codeTo A_t_stack A_t_facts x_t_lines A_t_newWords A_t_roundFrom A_t_roundAt A_t_roundTimes w17 x_t_rounds x_t_itFrom x_t_itTimes x_t_writtenNow x_t_picturesNow x_t_usedNow x_t_chosen x_t_fearOfChosen A_t_leastFrom A_t_rowNow x_t_changesNow x_t_left0 A_t_bornOf A_t_trainsTo A_t_trainAt x_t_trainMany x_t_leastTries x_t_firstTrained x_t_isKept, iA cI 48 A_t_newWords w15, iA cI 2 A_t_roundAt v_t_roundAt, iA cI 2 A_t_roundFrom v_t_roundFrom, iA cI 2 A_t_roundTimes v_t_roundTimes, iA cB 260 A_t_tape v_t_tape]) (rest := []) C hK hP hD hS hA hl mf_X12_294 (c_X12_repeats hc18) [0, 1] 0 12 rfl rfl rfl rfl rfl rfl rfl rfl rfl rfl (Nat.le_of_ble_eq_true rfl) ⟨Nat.le_of_ble_eq_true rfl, Nat.le_of_ble_eq_true rfl⟩ ⟨Nat.le_refl _, Nat.le_refl _⟩ dX12_readsWord_188 ?_
            intro H locs hP hD hS
            refine lv_if_ne (tgt := 196) hx hb dX12_readsWord_191 (by decide) (fun q => ?_) (fun q => ?_)
            · have hf := if_f q hf
              exact hb_196 FU w15 v_t_roundAt v_t_roundFrom v_t_roundTimes w16 x_t_itFrom x_t_itTimes w17 (x_t_place0 + (1 : Int32)) x_t_rounds _ _ ls (lv_sub hl [2] rfl) hP hD hS hf
            · have hf := if_t q hf
              refine lv_iconst (v := 0) hx hb dX12_readsWord_194 (by decide) ?_
              obtain ⟨rfl, rfl, rfl, rfl, rfl, rfl, rfl, rfl, rfl, rfl, rfl⟩ := ev11 hf
              exact x_zret C hr hlk (Or.inl rfl) hP hD hS dX12_readsWord_195
          · have hf := if_f q hf
            refine lv_aload_n hx hb dX12_readsWord_135 rfl (lv_at hl 2 rfl) ?_
            refine lv_bipush (v := 6) hx hb dX12_readsWord_136 (by decide) ?_
            refine lv_iload_n hx hb dX12_readsWord_138 rfl (lv_at hl 1 rfl) ?_
            obtain ⟨r19, w20, hc21, hf⟩ := bd2_e hf
            refine x_callVI (ws' := [oX12 A_t A_t_now A_t_aside A_t_kept A_t_rhymeOf A_t_wasRhyme A_t_wordAt x_t_wordMany A_t_tape x_t_taped x_t_place0 x_t_length0 w20 x_t_number0 x_t_open x_t_codeMany x_t_waiting x_t_saidMany x_t_clauses A_t_said A_t_waitsAt A_t_saidLetter A_t_saidFrom A_t_saidHalf A_t_saidTo A_t_codes A_t_clauseOf A_t_codeFrom A_t_codeHalf A_t_codeTo A_t_stack A_t_facts x_t_lines A_t_newWords A_t_roundFrom A_t_roundAt A_t_roundTimes x_t_newMany x_t_rounds x_t_itFrom x_t_itTimes x_t_writtenNow x_t_picturesNow x_t_usedNow x_t_chosen x_t_fearOfChosen A_t_leastFrom A_t_rowNow x_t_changesNow x_t_left0 A_t_bornOf A_t_trainsTo A_t_trainAt x_t_trainMany x_t_leastTries x_t_firstTrained x_t_isKept, iA cI 48 A_t_newWords v_t_newWords, iA cI 2 A_t_roundAt v_t_roundAt, iA cI 2 A_t_roundFrom v_t_roundFrom, iA cI 2 A_t_roundTimes v_t_roundTimes, iA cB 260 A_t_tape v_t_tape]) (rest := []) C hK hP hD hS hA hl mf_X12_163 (c_X12_wrongAt hc21) [0] 0 12 rfl rfl rfl rfl rfl rfl rfl rfl rfl rfl (Nat.le_of_ble_eq_true rfl) ⟨Nat.le_of_ble_eq_true rfl, Nat.le_of_ble_eq_true rfl⟩ ⟨Nat.le_refl _, Nat.le_refl _⟩ dX12_readsWord_139 ?_
            intro H locs hP hD hS
            obtain ⟨hz, hf⟩ := zI_e hf
            obtain ⟨rfl, rfl, rfl, rfl, rfl, rfl, rfl, rfl, rfl, rfl, rfl⟩ := ev11 hf
            exact x_zret C hr hlk hz hP hD hS dX12_readsWord_142
        · have hf := if_t q hf
          refine lv_aload_n hx hb dX12_readsWord_114 rfl (lv_at hl 2 rfl) ?_
          refine lv_iconst (v := 1) hx hb dX12_readsWord_115 (by decide) ?_
          refine lv_aload_n hx hb dX12_readsWord_116 rfl (lv_at hl 2 rfl) ?_
          refine x_get C hK hP fd_X12_150 0 rfl rfl dX12_readsWord_117 ?_
          obtain ⟨r22, w23, hc24, hf⟩ := bd2_e hf
          refine x_callVI (ws' := [oX12 A_t A_t_now A_t_aside A_t_kept A_t_rhymeOf A_t_wasRhyme A_t_wordAt x_t_wordMany A_t_tape x_t_taped x_t_place0 x_t_length0 w23 x_t_number0 x_t_open x_t_codeMany x_t_waiting x_t_saidMany x_t_clauses A_t_said A_t_waitsAt A_t_saidLetter A_t_saidFrom A_t_saidHalf A_t_saidTo A_t_codes A_t_clauseOf A_t_codeFrom A_t_codeHalf A_t_codeTo A_t_stack A_t_facts x_t_lines A_t_newWords A_t_roundFrom A_t_roundAt A_t_roundTimes x_t_newMany x_t_rounds x_t_itFrom x_t_itTimes x_t_writtenNow x_t_picturesNow x_t_usedNow x_t_chosen x_t_fearOfChosen A_t_leastFrom A_t_rowNow x_t_changesNow x_t_left0 A_t_bornOf A_t_trainsTo A_t_trainAt x_t_trainMany x_t_leastTries x_t_firstTrained x_t_isKept, iA cI 48 A_t_newWords v_t_newWords, iA cI 2 A_t_roundAt v_t_roundAt, iA cI 2 A_t_roundFrom v_t_roundFrom, iA cI 2 A_t_roundTimes v_t_roundTimes, iA cB 260 A_t_tape v_t_tape]) (rest := []) C hK hP hD hS hA hl mf_X12_163 (c_X12_wrongAt hc24) [0] 0 12 rfl rfl rfl rfl rfl rfl rfl rfl rfl rfl (Nat.le_of_ble_eq_true rfl) ⟨Nat.le_of_ble_eq_true rfl, Nat.le_of_ble_eq_true rfl⟩ ⟨Nat.le_refl _, Nat.le_refl _⟩ dX12_readsWord_120 ?_
          intro H locs hP hD hS
          obtain ⟨hz, hf⟩ := zI_e hf
          obtain ⟨rfl, rfl, rfl, rfl, rfl, rfl, rfl, rfl, rfl, rfl, rfl⟩ := ev11 hf
          exact x_zret C hr hlk hz hP hD hS dX12_readsWord_123
      · have hf := if_t q hf
        refine lv_aload_n hx hb dX12_readsWord_13 rfl (lv_at hl 0 rfl) ?_
        refine x_get C hK hP fd_X12_291 0 rfl rfl dX12_readsWord_14 ?_
        refine lv_iconst (v := 2) hx hb dX12_readsWord_17 (by decide) ?_
        refine lv_icmp_ne (tgt := 31) hx hb dX12_readsWord_18 (by decide) (fun q => ?_) (fun q => ?_)
        · have hf := if_f q hf
          refine lv_aload_n hx hb dX12_readsWord_31 rfl (lv_at hl 0 rfl) ?_
          refine x_get C hK hP fd_X12_74 0 rfl rfl dX12_readsWord_32 ?_
          refine lv_aload_n hx hb dX12_readsWord_35 rfl (lv_at hl 0 rfl) ?_
          refine x_get C hK hP fd_X12_291 0 rfl rfl dX12_readsWord_36 ?_
          refine lv_aload_n hx hb dX12_readsWord_39 rfl (lv_at hl 0 rfl) ?_
          refine x_get C hK hP fd_X12_279 0 rfl rfl dX12_readsWord_40 ?_
          obtain ⟨hi, hf⟩ := sI_e hf
          refine x_iast (ws' := [oX12 A_t A_t_now A_t_aside A_t_kept A_t_rhymeOf A_t_wasRhyme A_t_wordAt x_t_wordMany A_t_tape x_t_taped x_t_place0 x_t_length0 x_t_fault x_t_number0 x_t_open x_t_codeMany x_t_waiting x_t_saidMany x_t_clauses A_t_said A_t_waitsAt A_t_saidLetter A_t_saidFrom A_t_saidHalf A_t_saidTo A_t_codes A_t_clauseOf A_t_codeFrom A_t_codeHalf A_t_codeTo A_t_stack A_t_facts x_t_lines A_t_newWords A_t_roundFrom A_t_roundAt A_t_roundTimes x_t_newMany x_t_rounds x_t_itFrom x_t_itTimes x_t_writtenNow x_t_picturesNow x_t_usedNow x_t_chosen x_t_fearOfChosen A_t_leastFrom A_t_rowNow x_t_changesNow x_t_left0 A_t_bornOf A_t_trainsTo A_t_trainAt x_t_trainMany x_t_leastTries x_t_firstTrained x_t_isKept, iA cI 48 A_t_newWords v_t_newWords, iA cI 2 A_t_roundAt v_t_roundAt, iA cI 2 A_t_roundFrom (upd v_t_roundFrom x_t_rounds.toNatClampNeg x_t_itFrom), iA cI 2 A_t_roundTimes v_t_roundTimes, iA cB 260 A_t_tape v_t_tape]) C hK hP hD hS 3 rfl hi rfl dX12_readsWord_43 ?_
          intro H locs hP hD hS
          refine lv_aload_n hx hb dX12_readsWord_44 rfl (lv_at hl 0 rfl) ?_
          refine x_get C hK hP fd_X12_77 0 rfl rfl dX12_readsWord_45 ?_
          refine lv_aload_n hx hb dX12_readsWord_48 rfl (lv_at hl 0 rfl) ?_
          refine x_get C hK hP fd_X12_291 0 rfl rfl dX12_readsWord_49 ?_
          refine lv_aload_n hx hb dX12_readsWord_52 rfl (lv_at hl 0 rfl) ?_
          refine x_get C hK hP fd_X12_285 0 rfl rfl dX12_readsWord_53 ?_
          obtain ⟨hi, hf⟩ := sI_e hf
          refine x_iast (ws' := [oX12 A_t A_t_now A_t_aside A_t_kept A_t_rhymeOf A_t_wasRhyme A_t_wordAt x_t_wordMany A_t_tape x_t_taped x_t_place0 x_t_length0 x_t_fault x_t_number0 x_t_open x_t_codeMany x_t_waiting x_t_saidMany x_t_clauses A_t_said A_t_waitsAt A_t_saidLetter A_t_saidFrom A_t_saidHalf A_t_saidTo A_t_codes A_t_clauseOf A_t_codeFrom A_t_codeHalf A_t_codeTo A_t_stack A_t_facts x_t_lines A_t_newWords A_t_roundFrom A_t_roundAt A_t_roundTimes x_t_newMany x_t_rounds x_t_itFrom x_t_itTimes x_t_writtenNow x_t_picturesNow x_t_usedNow x_t_chosen x_t_fearOfChosen A_t_leastFrom A_t_rowNow x_t_changesNow x_t_left0 A_t_bornOf A_t_trainsTo A_t_trainAt x_t_trainMany x_t_leastTries x_t_firstTrained x_t_isKept, iA cI 48 A_t_newWords v_t_newWords, iA cI 2 A_t_roundAt (upd v_t_roundAt x_t_rounds.toNatClampNeg x_t_newMany), iA cI 2 A_t_roundFrom (upd v_t_roundFrom x_t_rounds.toNatClampNeg x_t_itFrom), iA cI 2 A_t_roundTimes v_t_roundTimes, iA cB 260 A_t_tape v_t_tape]) C hK hP hD hS 2 rfl hi rfl dX12_readsWord_56 ?_
          intro H locs hP hD hS
          refine lv_aload_n hx hb dX12_readsWord_57 rfl (lv_at hl 0 rfl) ?_
          refine x_get C hK hP fd_X12_80 0 rfl rfl dX12_readsWord_58 ?_
          refine lv_aload_n hx hb dX12_readsWord_61 rfl (lv_at hl 0 rfl) ?_
          refine x_get C hK hP fd_X12_291 0 rfl rfl dX12_readsWord_62 ?_
          refine lv_aload_n hx hb dX12_readsWord_65 rfl (lv_at hl 0 rfl) ?_
          refine x_get C hK hP fd_X12_282 0 rfl rfl dX12_readsWord_66 ?_
          obtain ⟨hi, hf⟩ := sI_e hf
          refine x_iast (ws' := [oX12 A_t A_t_now A_t_aside A_t_kept A_t_rhymeOf A_t_wasRhyme A_t_wordAt x_t_wordMany A_t_tape x_t_taped x_t_place0 x_t_length0 x_t_fault x_t_number0 x_t_open x_t_codeMany x_t_waiting x_t_saidMany x_t_clauses A_t_said A_t_waitsAt A_t_saidLetter A_t_saidFrom A_t_saidHalf A_t_saidTo A_t_codes A_t_clauseOf A_t_codeFrom A_t_codeHalf A_t_codeTo A_t_stack A_t_facts x_t_lines A_t_newWords A_t_roundFrom A_t_roundAt A_t_roundTimes x_t_newMany x_t_rounds x_t_itFrom x_t_itTimes x_t_writtenNow x_t_picturesNow x_t_usedNow x_t_chosen x_t_fearOfChosen A_t_leastFrom A_t_rowNow x_t_changesNow x_t_left0 A_t_bornOf A_t_trainsTo A_t_trainAt x_t_trainMany x_t_leastTries x_t_firstTrained x_t_isKept, iA cI 48 A_t_newWords v_t_newWords, iA cI 2 A_t_roundAt (upd v_t_roundAt x_t_rounds.toNatClampNeg x_t_newMany), iA cI 2 A_t_roundFrom (upd v_t_roundFrom x_t_rounds.toNatClampNeg x_t_itFrom), iA cI 2 A_t_roundTimes (upd v_t_roundTimes x_t_rounds.toNatClampNeg x_t_itTimes), iA cB 260 A_t_tape v_t_tape]) C hK hP hD hS 4 rfl hi rfl dX12_readsWord_69 ?_
          intro H locs hP hD hS
          refine lv_aload_n hx hb dX12_readsWord_70 rfl (lv_at hl 0 rfl) ?_
          refine lv_aload_n hx hb dX12_readsWord_71 rfl (lv_at hl 0 rfl) ?_
          refine x_get C hK hP fd_X12_291 0 rfl rfl dX12_readsWord_72 ?_
          refine lv_iconst (v := 1) hx hb dX12_readsWord_75 (by decide) ?_
          refine lv_iadd hx hb dX12_readsWord_76 ?_
          refine x_put (ws' := [oX12 A_t A_t_now A_t_aside A_t_kept A_t_rhymeOf A_t_wasRhyme A_t_wordAt x_t_wordMany A_t_tape x_t_taped x_t_place0 x_t_length0 x_t_fault x_t_number0 x_t_open x_t_codeMany x_t_waiting x_t_saidMany x_t_clauses A_t_said A_t_waitsAt A_t_saidLetter A_t_saidFrom A_t_saidHalf A_t_saidTo A_t_codes A_t_clauseOf A_t_codeFrom A_t_codeHalf A_t_codeTo A_t_stack A_t_facts x_t_lines A_t_newWords A_t_roundFrom A_t_roundAt A_t_roundTimes x_t_newMany (x_t_rounds + (1 : Int32)) x_t_itFrom x_t_itTimes x_t_writtenNow x_t_picturesNow x_t_usedNow x_t_chosen x_t_fearOfChosen A_t_leastFrom A_t_rowNow x_t_changesNow x_t_left0 A_t_bornOf A_t_trainsTo A_t_trainAt x_t_trainMany x_t_leastTries x_t_firstTrained x_t_isKept, iA cI 48 A_t_newWords v_t_newWords, iA cI 2 A_t_roundAt (upd v_t_roundAt x_t_rounds.toNatClampNeg x_t_newMany), iA cI 2 A_t_roundFrom (upd v_t_roundFrom x_t_rounds.toNatClampNeg x_t_itFrom), iA cI 2 A_t_roundTimes (upd v_t_roundTimes x_t_rounds.toNatClampNeg x_t_itTimes), iA cB 260 A_t_tape v_t_tape]) C hK hP hD hS fp_X12_291 0 rfl rfl rfl (Nat.le_of_ble_eq_true rfl) rfl dX12_readsWord_77 ?_
          intro H locs hP hD hS
          refine lv_aload_n hx hb dX12_readsWord_80 rfl (lv_at hl 0 rfl) ?_
          refine lv_aload_n hx hb dX12_readsWord_81 rfl (lv_at hl 0 rfl) ?_
          refine x_get C hK hP fd_X12_150 0 rfl rfl dX12_readsWord_82 ?_
          refine lv_iconst (v := 1) hx hb dX12_readsWord_85 (by decide) ?_
          refine lv_iadd hx hb dX12_readsWord_86 ?_
          refine x_put (ws' := [oX12 A_t A_t_now A_t_aside A_t_kept A_t_rhymeOf A_t_wasRhyme A_t_wordAt x_t_wordMany A_t_tape x_t_taped (x_t_place0 + (1 : Int32)) x_t_length0 x_t_fault x_t_number0 x_t_open x_t_codeMany x_t_waiting x_t_saidMany x_t_clauses A_t_said A_t_waitsAt A_t_saidLetter A_t_saidFrom A_t_saidHalf A_t_saidTo A_t_codes A_t_clauseOf A_t_codeFrom A_t_codeHalf A_t_codeTo A_t_stack A_t_facts x_t_lines A_t_newWords A_t_roundFrom A_t_roundAt A_t_roundTimes x_t_newMany (x_t_rounds + (1 : Int32)) x_t_itFrom x_t_itTimes x_t_writtenNow x_t_picturesNow x_t_usedNow x_t_chosen x_t_fearOfChosen A_t_leastFrom A_t_rowNow x_t_changesNow x_t_left0 A_t_bornOf A_t_trainsTo A_t_trainAt x_t_trainMany x_t_leastTries x_t_firstTrained x_t_isKept, iA cI 48 A_t_newWords v_t_newWords, iA cI 2 A_t_roundAt (upd v_t_roundAt x_t_rounds.toNatClampNeg x_t_newMany), iA cI 2 A_t_roundFrom (upd v_t_roundFrom x_t_rounds.toNatClampNeg x_t_itFrom), iA cI 2 A_t_roundTimes (upd v_t_roundTimes x_t_rounds.toNatClampNeg x_t_itTimes), iA cB 260 A_t_tape v_t_tape]) C hK hP hD hS fp_X12_150 0 rfl rfl rfl (Nat.le_of_ble_eq_true rfl) rfl dX12_readsWord_87 ?_
          intro H locs hP hD hS
          refine lv_aload_n hx hb dX12_readsWord_90 rfl (lv_at hl 0 rfl) ?_
          obtain ⟨w25, w26, w27, hc28, hf⟩ := bd3_e hf
          refine x_callVV (ws' := [oX12 A_t A_t_now A_t_aside A_t_kept A_t_rhymeOf A_t_wasRhyme A_t_wordAt x_t_wordMany A_t_tape x_t_taped w27 x_t_length0 x_t_fault x_t_number0 x_t_open x_t_codeMany x_t_waiting x_t_saidMany x_t_clauses A_t_said A_t_waitsAt A_t_saidLetter A_t_saidFrom A_t_saidHalf A_t_saidTo A_t_codes A_t_clauseOf A_t_codeFrom A_t_codeHalf A_t_codeTo A_t_stack A_t_facts x_t_lines A_t_newWords A_t_roundFrom A_t_roundAt A_t_roundTimes x_t_newMany (x_t_rounds + (1 : Int32)) w25 w26 x_t_writtenNow x_t_picturesNow x_t_usedNow x_t_chosen x_t_fearOfChosen A_t_leastFrom A_t_rowNow x_t_changesNow x_t_left0 A_t_bornOf A_t_trainsTo A_t_trainAt x_t_trainMany x_t_leastTries x_t_firstTrained x_t_isKept, iA cI 48 A_t_newWords v_t_newWords, iA cI 2 A_t_roundAt (upd v_t_roundAt x_t_rounds.toNatClampNeg x_t_newMany), iA cI 2 A_t_roundFrom (upd v_t_roundFrom x_t_rounds.toNatClampNeg x_t_itFrom), iA cI 2 A_t_roundTimes (upd v_t_roundTimes x_t_rounds.toNatClampNeg x_t_itTimes), iA cB 260 A_t_tape v_t_tape]) (rest := []) C hK hP hD hS hA hl mf_X12_288 (c_X12_readsTimes hc28) [0, 5] 0 12 rfl rfl rfl rfl rfl rfl rfl rfl rfl rfl (Nat.le_of_ble_eq_true rfl) ⟨Nat.le_of_ble_eq_true rfl, Nat.le_of_ble_eq_true rfl⟩ ⟨Nat.le_refl _, Nat.le_refl _⟩ dX12_readsWord_91 ?_
          intro H locs hP hD hS
          refine lv_goto (tgt := 4) hx hb dX12_readsWord_94 (by decide) ?_
          exact ih_4 v_t_newWords (upd v_t_roundAt x_t_rounds.toNatClampNeg x_t_newMany) (upd v_t_roundFrom x_t_rounds.toNatClampNeg x_t_itFrom) (upd v_t_roundTimes x_t_rounds.toNatClampNeg x_t_itTimes) x_t_fault w25 w26 x_t_newMany w27 (x_t_rounds + (1 : Int32)) _ _ ls (lv_sub hl [0] rfl) hP hD hS hf
        · have hf := if_t q hf
          refine lv_aload_n hx hb dX12_readsWord_21 rfl (lv_at hl 0 rfl) ?_
          refine lv_iconst (v := 5) hx hb dX12_readsWord_22 (by decide) ?_
          refine lv_aload_n hx hb dX12_readsWord_23 rfl (lv_at hl 0 rfl) ?_
          refine x_get C hK hP fd_X12_150 0 rfl rfl dX12_readsWord_24 ?_
          obtain ⟨r29, w30, hc31, hf⟩ := bd2_e hf
          refine x_callVI (ws' := [oX12 A_t A_t_now A_t_aside A_t_kept A_t_rhymeOf A_t_wasRhyme A_t_wordAt x_t_wordMany A_t_tape x_t_taped x_t_place0 x_t_length0 w30 x_t_number0 x_t_open x_t_codeMany x_t_waiting x_t_saidMany x_t_clauses A_t_said A_t_waitsAt A_t_saidLetter A_t_saidFrom A_t_saidHalf A_t_saidTo A_t_codes A_t_clauseOf A_t_codeFrom A_t_codeHalf A_t_codeTo A_t_stack A_t_facts x_t_lines A_t_newWords A_t_roundFrom A_t_roundAt A_t_roundTimes x_t_newMany x_t_rounds x_t_itFrom x_t_itTimes x_t_writtenNow x_t_picturesNow x_t_usedNow x_t_chosen x_t_fearOfChosen A_t_leastFrom A_t_rowNow x_t_changesNow x_t_left0 A_t_bornOf A_t_trainsTo A_t_trainAt x_t_trainMany x_t_leastTries x_t_firstTrained x_t_isKept, iA cI 48 A_t_newWords v_t_newWords, iA cI 2 A_t_roundAt v_t_roundAt, iA cI 2 A_t_roundFrom v_t_roundFrom, iA cI 2 A_t_roundTimes v_t_roundTimes, iA cB 260 A_t_tape v_t_tape]) (rest := []) C hK hP hD hS hA hl mf_X12_163 (c_X12_wrongAt hc31) [0] 0 12 rfl rfl rfl rfl rfl rfl rfl rfl rfl rfl (Nat.le_of_ble_eq_true rfl) ⟨Nat.le_of_ble_eq_true rfl, Nat.le_of_ble_eq_true rfl⟩ ⟨Nat.le_refl _, Nat.le_refl _⟩ dX12_readsWord_27 ?_
          intro H locs hP hD hS
          obtain ⟨hz, hf⟩ := zI_e hf
          obtain ⟨rfl, rfl, rfl, rfl, rfl, rfl, rfl, rfl, rfl, rfl, rfl⟩ := ev11 hf
          exact x_zret C hr hlk hz hP hD hS dX12_readsWord_30
  refine lv_aload_n hx hb dX12_readsWord_0 rfl (lv_at hl 0 rfl) ?_
  obtain ⟨w32, w33, w34, hc35, hf⟩ := bd3_e hf
  refine x_callVV (ws' := [oX12 A_t A_t_now A_t_aside A_t_kept A_t_rhymeOf A_t_wasRhyme A_t_wordAt x_t_wordMany A_t_tape x_t_taped w34 x_t_length0 x_t_fault x_t_number0 x_t_open x_t_codeMany x_t_waiting x_t_saidMany x_t_clauses A_t_said A_t_waitsAt A_t_saidLetter A_t_saidFrom A_t_saidHalf A_t_saidTo A_t_codes A_t_clauseOf A_t_codeFrom A_t_codeHalf A_t_codeTo A_t_stack A_t_facts x_t_lines A_t_newWords A_t_roundFrom A_t_roundAt A_t_roundTimes x_t_newMany x_t_rounds w32 w33 x_t_writtenNow x_t_picturesNow x_t_usedNow x_t_chosen x_t_fearOfChosen A_t_leastFrom A_t_rowNow x_t_changesNow x_t_left0 A_t_bornOf A_t_trainsTo A_t_trainAt x_t_trainMany x_t_leastTries x_t_firstTrained x_t_isKept, iA cI 48 A_t_newWords v_t_newWords, iA cI 2 A_t_roundAt v_t_roundAt, iA cI 2 A_t_roundFrom v_t_roundFrom, iA cI 2 A_t_roundTimes v_t_roundTimes, iA cB 260 A_t_tape v_t_tape]) (rest := []) C hK hP hD hS hA hl mf_X12_288 (c_X12_readsTimes hc35) [0, 5] 0 12 rfl rfl rfl rfl rfl rfl rfl rfl rfl rfl (Nat.le_of_ble_eq_true rfl) ⟨Nat.le_of_ble_eq_true rfl, Nat.le_of_ble_eq_true rfl⟩ ⟨Nat.le_refl _, Nat.le_refl _⟩ dX12_readsWord_1 ?_
  intro H locs hP hD hS
  exact hb_4 FU v_t_newWords v_t_roundAt v_t_roundFrom v_t_roundTimes x_t_fault w32 w33 x_t_newMany w34 x_t_rounds _ _ ls (lv_sub hl [0] rfl) hP hD hS hf
def f_X12_letter_b18 (v_t_newWords : (Nat → Int32)) (v_t_roundAt : (Nat → Int32)) (v_t_roundFrom : (Nat → Int32)) (v_t_roundTimes : (Nat → Int32)) (v_t_wordAt : (Nat → Int32)) (x_t_codeMany : Int32) (x_t_fault : Int32) (x_t_itFrom : Int32) (x_t_itTimes : Int32) (x_t_length0 : Int32) (x_t_newMany : Int32) (x_t_place0 : Int32) (x_t_rounds : Int32) (x_t_saidMany : Int32) (x_t_taped : Int32) (x_t_wordMany : Int32) : Option (Int32 × (Nat → Int32) × (Nat → Int32) × (Nat → Int32) × (Nat → Int32) × (Nat → Int32) × Int32 × Int32 × Int32 × Int32 × Int32 × Int32 × Int32 × Int32 × Int32 × Int32 × Int32) :=
  some ((-1 : Int32), v_t_newWords, v_t_roundAt, v_t_roundFrom, v_t_roundTimes, v_t_wordAt, x_t_codeMany, x_t_fault, x_t_itFrom, x_t_itTimes, x_t_length0, x_t_newMany, x_t_place0, x_t_rounds, x_t_saidMany, x_t_taped, x_t_wordMany)
def f_X12_letter_b62 (v_t_tape : (Nat → Int32)) (k40 : (Nat → Int32) → (Nat → Int32) → (Nat → Int32) → (Nat → Int32) → (Nat → Int32) → Int32 → Int32 → Int32 → Int32 → Int32 → Int32 → Int32 → Int32 → Int32 → Int32 → Int32 → Int32 → Option (Int32 × (Nat → Int32) × (Nat → Int32) × (Nat → Int32) × (Nat → Int32) × (Nat → Int32) × Int32 × Int32 × Int32 × Int32 × Int32 × Int32 × Int32 × Int32 × Int32 × Int32 × Int32)) (v_t_newWords : (Nat → Int32)) (v_t_roundAt : (Nat → Int32)) (v_t_roundFrom : (Nat → Int32)) (v_t_roundTimes : (Nat → Int32)) (v_t_wordAt : (Nat → Int32)) (x_t_codeMany : Int32) (x_t_fault : Int32) (x_t_itFrom : Int32) (x_t_itTimes : Int32) (x_t_length0 : Int32) (x_t_newMany : Int32) (x_t_place0 : Int32) (x_t_rounds : Int32) (x_t_saidMany : Int32) (x_t_taped : Int32) (x_t_wordMany : Int32) : Option (Int32 × (Nat → Int32) × (Nat → Int32) × (Nat → Int32) × (Nat → Int32) × (Nat → Int32) × Int32 × Int32 × Int32 × Int32 × Int32 × Int32 × Int32 × Int32 × Int32 × Int32 × Int32) :=
  bd11 (f_X12_readsWord v_t_newWords v_t_roundAt v_t_roundFrom v_t_roundTimes v_t_tape x_t_fault x_t_itFrom x_t_itTimes x_t_length0 x_t_newMany x_t_place0 x_t_rounds) (fun r1 w2 w3 w4 w5 w6 w7 w8 w9 w10 w11 =>
  k40 w2 w3 w4 w5 v_t_wordAt x_t_codeMany w6 w7 w8 x_t_length0 w9 w10 w11 x_t_saidMany x_t_taped x_t_wordMany r1)
def f_X12_letter_b94 : Nat → (Nat → Int32) → (Nat → Int32) → (Nat → Int32) → (Nat → Int32) → (Nat → Int32) → Int32 → Int32 → Int32 → Int32 → Int32 → Int32 → Int32 → Int32 → Int32 → Int32 → Int32 → Int32 → Option (Int32 × (Nat → Int32) × (Nat → Int32) × (Nat → Int32) × (Nat → Int32) × (Nat → Int32) × Int32 × Int32 × Int32 × Int32 × Int32 × Int32 × Int32 × Int32 × Int32 × Int32 × Int32)
  | 0, _, _, _, _, _, _, _, _, _, _, _, _, _, _, _, _, _ => none
  | n + 1, v_t_newWords, v_t_roundAt, v_t_roundFrom, v_t_roundTimes, v_t_wordAt, x_t_codeMany, x_t_fault, x_t_itFrom, x_t_itTimes, x_t_length0, x_t_newMany, x_t_place0, x_t_rounds, x_t_saidMany, x_t_taped, x_t_wordMany, l3 =>
    if x_t_newMany ≤ l3 then
      some (x_t_newMany, v_t_newWords, v_t_roundAt, v_t_roundFrom, v_t_roundTimes, v_t_wordAt, x_t_codeMany, x_t_fault, x_t_itFrom, x_t_itTimes, x_t_length0, x_t_newMany, x_t_place0, x_t_rounds, x_t_saidMany, x_t_taped, x_t_wordMany)
    else
      gI 48 v_t_newWords l3 (fun g1 =>
      sI 48 v_t_wordAt l3 g1 (fun w2 =>
      f_X12_letter_b94 n v_t_newWords v_t_roundAt v_t_roundFrom v_t_roundTimes w2 x_t_codeMany x_t_fault x_t_itFrom x_t_itTimes x_t_length0 x_t_newMany x_t_place0 x_t_rounds x_t_saidMany x_t_taped x_t_wordMany (l3 + (1 : Int32))))
def f_X12_letter_b70 (v_t_newWords : (Nat → Int32)) (v_t_roundAt : (Nat → Int32)) (v_t_roundFrom : (Nat → Int32)) (v_t_roundTimes : (Nat → Int32)) (v_t_wordAt : (Nat → Int32)) (x_t_codeMany : Int32) (x_t_fault : Int32) (x_t_itFrom : Int32) (x_t_itTimes : Int32) (x_t_length0 : Int32) (x_t_newMany : Int32) (x_t_place0 : Int32) (x_t_rounds : Int32) (x_t_saidMany : Int32) (x_t_taped : Int32) (x_t_wordMany : Int32) (l2 : Int32) : Option (Int32 × (Nat → Int32) × (Nat → Int32) × (Nat → Int32) × (Nat → Int32) × (Nat → Int32) × Int32 × Int32 × Int32 × Int32 × Int32 × Int32 × Int32 × Int32 × Int32 × Int32 × Int32) :=
  if l2 = 0 then
    some (x_t_fault, v_t_newWords, v_t_roundAt, v_t_roundFrom, v_t_roundTimes, v_t_wordAt, x_t_codeMany, x_t_fault, x_t_itFrom, x_t_itTimes, x_t_length0, x_t_newMany, x_t_place0, x_t_rounds, x_t_saidMany, (0 : Int32), x_t_wordMany)
  else
    f_X12_letter_b94 FU v_t_newWords v_t_roundAt v_t_roundFrom v_t_roundTimes v_t_wordAt x_t_codeMany x_t_fault x_t_itFrom x_t_itTimes x_t_length0 x_t_newMany x_t_place0 x_t_rounds x_t_saidMany (0 : Int32) x_t_newMany (0 : Int32)
def f_X12_letter_b40 (v_t_tape : (Nat → Int32)) : Nat → (Nat → Int32) → (Nat → Int32) → (Nat → Int32) → (Nat → Int32) → (Nat → Int32) → Int32 → Int32 → Int32 → Int32 → Int32 → Int32 → Int32 → Int32 → Int32 → Int32 → Int32 → Int32 → Option (Int32 × (Nat → Int32) × (Nat → Int32) × (Nat → Int32) × (Nat → Int32) × (Nat → Int32) × Int32 × Int32 × Int32 × Int32 × Int32 × Int32 × Int32 × Int32 × Int32 × Int32 × Int32)
  | 0, _, _, _, _, _, _, _, _, _, _, _, _, _, _, _, _, _ => none
  | n + 1, v_t_newWords, v_t_roundAt, v_t_roundFrom, v_t_roundTimes, v_t_wordAt, x_t_codeMany, x_t_fault, x_t_itFrom, x_t_itTimes, x_t_length0, x_t_newMany, x_t_place0, x_t_rounds, x_t_saidMany, x_t_taped, x_t_wordMany, l2 =>
    if l2 = 0 then
      f_X12_letter_b70 v_t_newWords v_t_roundAt v_t_roundFrom v_t_roundTimes v_t_wordAt x_t_codeMany x_t_fault x_t_itFrom x_t_itTimes x_t_length0 x_t_newMany x_t_place0 x_t_rounds x_t_saidMany x_t_taped x_t_wordMany l2
    else
      if x_t_place0 < x_t_length0 then
        f_X12_letter_b62 v_t_tape (f_X12_letter_b40 v_t_tape n) v_t_newWords v_t_roundAt v_t_roundFrom v_t_roundTimes v_t_wordAt x_t_codeMany x_t_fault x_t_itFrom x_t_itTimes x_t_length0 x_t_newMany x_t_place0 x_t_rounds x_t_saidMany x_t_taped x_t_wordMany
      else
        if x_t_rounds ≤ 0 then
          f_X12_letter_b70 v_t_newWords v_t_roundAt v_t_roundFrom v_t_roundTimes v_t_wordAt x_t_codeMany x_t_fault x_t_itFrom x_t_itTimes x_t_length0 x_t_newMany x_t_place0 x_t_rounds x_t_saidMany x_t_taped x_t_wordMany l2
        else
          f_X12_letter_b62 v_t_tape (f_X12_letter_b40 v_t_tape n) v_t_newWords v_t_roundAt v_t_roundFrom v_t_roundTimes v_t_wordAt x_t_codeMany x_t_fault x_t_itFrom x_t_itTimes x_t_length0 x_t_newMany x_t_place0 x_t_rounds x_t_saidMany x_t_taped x_t_wordMany
def f_X12_letter (v_t_newWords : (Nat → Int32)) (v_t_roundAt : (Nat → Int32)) (v_t_roundFrom : (Nat → Int32)) (v_t_roundTimes : (Nat → Int32)) (v_t_tape : (Nat → Int32)) (v_t_wordAt : (Nat → Int32)) (x_t_codeMany : Int32) (x_t_fault : Int32) (x_t_itFrom : Int32) (x_t_itTimes : Int32) (x_t_length0 : Int32) (x_t_newMany : Int32) (x_t_place0 : Int32) (x_t_rounds : Int32) (x_t_saidMany : Int32) (x_t_taped : Int32) (x_t_wordMany : Int32) (a1 : Int32) : Option (Int32 × (Nat → Int32) × (Nat → Int32) × (Nat → Int32) × (Nat → Int32) × (Nat → Int32) × Int32 × Int32 × Int32 × Int32 × Int32 × Int32 × Int32 × Int32 × Int32 × Int32 × Int32) :=
  bd1 (f_X12_in a1 (1 : Int32) (60 : Int32)) (fun r1 =>
  if r1 = 0 then
    f_X12_letter_b18 v_t_newWords v_t_roundAt v_t_roundFrom v_t_roundTimes v_t_wordAt x_t_codeMany x_t_fault x_t_itFrom x_t_itTimes x_t_length0 x_t_newMany x_t_place0 x_t_rounds x_t_saidMany x_t_taped x_t_wordMany
  else
    if a1 ≤ x_t_taped then
      bd4 (f_X12_beginsText x_t_codeMany x_t_length0 x_t_place0 x_t_saidMany a1) (fun w2 w3 w4 w5 =>
      bd11 (f_X12_readsWord v_t_newWords v_t_roundAt v_t_roundFrom v_t_roundTimes v_t_tape x_t_fault x_t_itFrom x_t_itTimes w3 (0 : Int32) w4 (0 : Int32)) (fun r6 w7 w8 w9 w10 w11 w12 w13 w14 w15 w16 =>
      f_X12_letter_b40 v_t_tape FU w7 w8 w9 w10 v_t_wordAt w2 w11 w12 w13 w3 w14 w15 w16 w5 x_t_taped x_t_wordMany r6))
    else
      f_X12_letter_b18 v_t_newWords v_t_roundAt v_t_roundFrom v_t_roundTimes v_t_wordAt x_t_codeMany x_t_fault x_t_itFrom x_t_itTimes x_t_length0 x_t_newMany x_t_place0 x_t_rounds x_t_saidMany x_t_taped x_t_wordMany)
set_option maxHeartbeats 4000000 in
set_option maxRecDepth 100000 in
theorem c_X12_letter {l : Launch} {D : va_G} {cI cB : ClassId} {A_t A_t_now A_t_aside A_t_kept A_t_rhymeOf A_t_wasRhyme A_t_wordAt A_t_tape A_t_said A_t_waitsAt A_t_saidLetter A_t_saidFrom A_t_saidHalf A_t_saidTo A_t_codes A_t_clauseOf A_t_codeFrom A_t_codeHalf A_t_codeTo A_t_stack A_t_facts A_t_newWords A_t_roundFrom A_t_roundAt A_t_roundTimes A_t_leastFrom A_t_rowNow A_t_bornOf A_t_trainsTo A_t_trainAt : Nat} {x_t_wordMany x_t_taped x_t_place0 x_t_length0 x_t_fault x_t_number0 x_t_open x_t_codeMany x_t_waiting x_t_saidMany x_t_clauses x_t_lines x_t_newMany x_t_rounds x_t_itFrom x_t_itTimes x_t_writtenNow x_t_picturesNow x_t_usedNow x_t_chosen x_t_fearOfChosen x_t_changesNow x_t_left0 x_t_trainMany x_t_leastTries x_t_firstTrained x_t_isKept a1 : Int32} {v_t_newWords v_t_roundAt v_t_roundFrom v_t_roundTimes v_t_tape v_t_wordAt : Nat → Int32} {o_r o_x_t_codeMany o_x_t_fault o_x_t_itFrom o_x_t_itTimes o_x_t_length0 o_x_t_newMany o_x_t_place0 o_x_t_rounds o_x_t_saidMany o_x_t_taped o_x_t_wordMany : Int32} {o_v_t_newWords o_v_t_roundAt o_v_t_roundFrom o_v_t_roundTimes o_v_t_wordAt : Nat → Int32} (hf : f_X12_letter v_t_newWords v_t_roundAt v_t_roundFrom v_t_roundTimes v_t_tape v_t_wordAt x_t_codeMany x_t_fault x_t_itFrom x_t_itTimes x_t_length0 x_t_newMany x_t_place0 x_t_rounds x_t_saidMany x_t_taped x_t_wordMany a1 = some (o_r, o_v_t_newWords, o_v_t_roundAt, o_v_t_roundFrom, o_v_t_roundTimes, o_v_t_wordAt, o_x_t_codeMany, o_x_t_fault, o_x_t_itFrom, o_x_t_itTimes, o_x_t_length0, o_x_t_newMany, o_x_t_place0, o_x_t_rounds, o_x_t_saidMany, o_x_t_taped, o_x_t_wordMany)) : CtI l D cI cB yX12_letter cX12_letter 4 (some .int) 3 69 [.ref A_t, .int a1] [oX12 A_t A_t_now A_t_aside A_t_kept A_t_rhymeOf A_t_wasRhyme A_t_wordAt x_t_wordMany A_t_tape x_t_taped x_t_place0 x_t_length0 x_t_fault x_t_number0 x_t_open x_t_codeMany x_t_waiting x_t_saidMany x_t_clauses A_t_said A_t_waitsAt A_t_saidLetter A_t_saidFrom A_t_saidHalf A_t_saidTo A_t_codes A_t_clauseOf A_t_codeFrom A_t_codeHalf A_t_codeTo A_t_stack A_t_facts x_t_lines A_t_newWords A_t_roundFrom A_t_roundAt A_t_roundTimes x_t_newMany x_t_rounds x_t_itFrom x_t_itTimes x_t_writtenNow x_t_picturesNow x_t_usedNow x_t_chosen x_t_fearOfChosen A_t_leastFrom A_t_rowNow x_t_changesNow x_t_left0 A_t_bornOf A_t_trainsTo A_t_trainAt x_t_trainMany x_t_leastTries x_t_firstTrained x_t_isKept, iA cI 48 A_t_newWords v_t_newWords, iA cI 2 A_t_roundAt v_t_roundAt, iA cI 2 A_t_roundFrom v_t_roundFrom, iA cI 2 A_t_roundTimes v_t_roundTimes, iA cB 260 A_t_tape v_t_tape, iA cI 48 A_t_wordAt v_t_wordAt] [oX12 A_t A_t_now A_t_aside A_t_kept A_t_rhymeOf A_t_wasRhyme A_t_wordAt o_x_t_wordMany A_t_tape o_x_t_taped o_x_t_place0 o_x_t_length0 o_x_t_fault x_t_number0 x_t_open o_x_t_codeMany x_t_waiting o_x_t_saidMany x_t_clauses A_t_said A_t_waitsAt A_t_saidLetter A_t_saidFrom A_t_saidHalf A_t_saidTo A_t_codes A_t_clauseOf A_t_codeFrom A_t_codeHalf A_t_codeTo A_t_stack A_t_facts x_t_lines A_t_newWords A_t_roundFrom A_t_roundAt A_t_roundTimes o_x_t_newMany o_x_t_rounds o_x_t_itFrom o_x_t_itTimes x_t_writtenNow x_t_picturesNow x_t_usedNow x_t_chosen x_t_fearOfChosen A_t_leastFrom A_t_rowNow x_t_changesNow x_t_left0 A_t_bornOf A_t_trainsTo A_t_trainAt x_t_trainMany x_t_leastTries x_t_firstTrained x_t_isKept, iA cI 48 A_t_newWords o_v_t_newWords, iA cI 2 A_t_roundAt o_v_t_roundAt, iA cI 2 A_t_roundFrom o_v_t_roundFrom, iA cI 2 A_t_roundTimes o_v_t_roundTimes, iA cB 260 A_t_tape v_t_tape, iA cI 48 A_t_wordAt o_v_t_wordAt] o_r := by
  refine x_startI (by decide) (Nat.le_of_ble_eq_true rfl) ?_
  intro p e s m below meth c A C hr hlk hA hK hP hD hS ls hl
  have hl : lv_has ls 4 [(0, .ref A_t), (1, .int a1)] := hl
  have hx := C.1
  have hb := C.2.1
  unfold f_X12_letter at hf
  have hb_18 : ∀ (v_t_newWords : (Nat → Int32)) (v_t_roundAt : (Nat → Int32)) (v_t_roundFrom : (Nat → Int32)) (v_t_roundTimes : (Nat → Int32)) (v_t_wordAt : (Nat → Int32)) (x_t_codeMany : Int32) (x_t_fault : Int32) (x_t_itFrom : Int32) (x_t_itTimes : Int32) (x_t_length0 : Int32) (x_t_newMany : Int32) (x_t_place0 : Int32) (x_t_rounds : Int32) (x_t_saidMany : Int32) (x_t_taped : Int32) (x_t_wordMany : Int32) (H : Heap) (locs : List Loc) (ls : Array Slot), lv_has ls 4 [] → va_P D vwCl [oX12 A_t A_t_now A_t_aside A_t_kept A_t_rhymeOf A_t_wasRhyme A_t_wordAt x_t_wordMany A_t_tape x_t_taped x_t_place0 x_t_length0 x_t_fault x_t_number0 x_t_open x_t_codeMany x_t_waiting x_t_saidMany x_t_clauses A_t_said A_t_waitsAt A_t_saidLetter A_t_saidFrom A_t_saidHalf A_t_saidTo A_t_codes A_t_clauseOf A_t_codeFrom A_t_codeHalf A_t_codeTo A_t_stack A_t_facts x_t_lines A_t_newWords A_t_roundFrom A_t_roundAt A_t_roundTimes x_t_newMany x_t_rounds x_t_itFrom x_t_itTimes x_t_writtenNow x_t_picturesNow x_t_usedNow x_t_chosen x_t_fearOfChosen A_t_leastFrom A_t_rowNow x_t_changesNow x_t_left0 A_t_bornOf A_t_trainsTo A_t_trainAt x_t_trainMany x_t_leastTries x_t_firstTrained x_t_isKept, iA cI 48 A_t_newWords v_t_newWords, iA cI 2 A_t_roundAt v_t_roundAt, iA cI 2 A_t_roundFrom v_t_roundFrom, iA cI 2 A_t_roundTimes v_t_roundTimes, iA cB 260 A_t_tape v_t_tape, iA cI 48 A_t_wordAt v_t_wordAt] H → va_D A [oX12 A_t A_t_now A_t_aside A_t_kept A_t_rhymeOf A_t_wasRhyme A_t_wordAt x_t_wordMany A_t_tape x_t_taped x_t_place0 x_t_length0 x_t_fault x_t_number0 x_t_open x_t_codeMany x_t_waiting x_t_saidMany x_t_clauses A_t_said A_t_waitsAt A_t_saidLetter A_t_saidFrom A_t_saidHalf A_t_saidTo A_t_codes A_t_clauseOf A_t_codeFrom A_t_codeHalf A_t_codeTo A_t_stack A_t_facts x_t_lines A_t_newWords A_t_roundFrom A_t_roundAt A_t_roundTimes x_t_newMany x_t_rounds x_t_itFrom x_t_itTimes x_t_writtenNow x_t_picturesNow x_t_usedNow x_t_chosen x_t_fearOfChosen A_t_leastFrom A_t_rowNow x_t_changesNow x_t_left0 A_t_bornOf A_t_trainsTo A_t_trainAt x_t_trainMany x_t_leastTries x_t_firstTrained x_t_isKept, iA cI 48 A_t_newWords v_t_newWords, iA cI 2 A_t_roundAt v_t_roundAt, iA cI 2 A_t_roundFrom v_t_roundFrom, iA cI 2 A_t_roundTimes v_t_roundTimes, iA cB 260 A_t_tape v_t_tape, iA cI 48 A_t_wordAt v_t_wordAt] → va_S A s.heap H locs → f_X12_letter_b18 v_t_newWords v_t_roundAt v_t_roundFrom v_t_roundTimes v_t_wordAt x_t_codeMany x_t_fault x_t_itFrom x_t_itTimes x_t_length0 x_t_newMany x_t_place0 x_t_rounds x_t_saidMany x_t_taped x_t_wordMany = some (o_r, o_v_t_newWords, o_v_t_roundAt, o_v_t_roundFrom, o_v_t_roundTimes, o_v_t_wordAt, o_x_t_codeMany, o_x_t_fault, o_x_t_itFrom, o_x_t_itTimes, o_x_t_length0, o_x_t_newMany, o_x_t_place0, o_x_t_rounds, o_x_t_saidMany, o_x_t_taped, o_x_t_wordMany) → W p l e { frames := 3, cells := 0, slots := 0, locals := 69 } s m ([.ref A_t, .int a1] : List Value).toArray below meth c H locs 0 0 (MQ below (PoI D A [oX12 A_t A_t_now A_t_aside A_t_kept A_t_rhymeOf A_t_wasRhyme A_t_wordAt o_x_t_wordMany A_t_tape o_x_t_taped o_x_t_place0 o_x_t_length0 o_x_t_fault x_t_number0 x_t_open o_x_t_codeMany x_t_waiting o_x_t_saidMany x_t_clauses A_t_said A_t_waitsAt A_t_saidLetter A_t_saidFrom A_t_saidHalf A_t_saidTo A_t_codes A_t_clauseOf A_t_codeFrom A_t_codeHalf A_t_codeTo A_t_stack A_t_facts x_t_lines A_t_newWords A_t_roundFrom A_t_roundAt A_t_roundTimes o_x_t_newMany o_x_t_rounds o_x_t_itFrom o_x_t_itTimes x_t_writtenNow x_t_picturesNow x_t_usedNow x_t_chosen x_t_fearOfChosen A_t_leastFrom A_t_rowNow x_t_changesNow x_t_left0 A_t_bornOf A_t_trainsTo A_t_trainAt x_t_trainMany x_t_leastTries x_t_firstTrained x_t_isKept, iA cI 48 A_t_newWords o_v_t_newWords, iA cI 2 A_t_roundAt o_v_t_roundAt, iA cI 2 A_t_roundFrom o_v_t_roundFrom, iA cI 2 A_t_roundTimes o_v_t_roundTimes, iA cB 260 A_t_tape v_t_tape, iA cI 48 A_t_wordAt o_v_t_wordAt] o_r) ([.ref A_t, .int a1] : List Value).toArray s 0 0 A) (F0 m 18 ls []) := by
    intro v_t_newWords v_t_roundAt v_t_roundFrom v_t_roundTimes v_t_wordAt x_t_codeMany x_t_fault x_t_itFrom x_t_itTimes x_t_length0 x_t_newMany x_t_place0 x_t_rounds x_t_saidMany x_t_taped x_t_wordMany H locs ls hl hP hD hS hf
    unfold f_X12_letter_b18 at hf
    refine lv_iconst (v := -1) hx hb dX12_letter_18 (by decide) ?_
    obtain ⟨rfl, rfl, rfl, rfl, rfl, rfl, rfl, rfl, rfl, rfl, rfl, rfl, rfl, rfl, rfl, rfl, rfl⟩ := ev17 hf
    exact x_iret C hr hlk hP hD hS dX12_letter_19
  have hb_94 : ∀ (n_94 : Nat) (v_t_newWords : (Nat → Int32)) (v_t_roundAt : (Nat → Int32)) (v_t_roundFrom : (Nat → Int32)) (v_t_roundTimes : (Nat → Int32)) (v_t_wordAt : (Nat → Int32)) (x_t_codeMany : Int32) (x_t_fault : Int32) (x_t_itFrom : Int32) (x_t_itTimes : Int32) (x_t_length0 : Int32) (x_t_newMany : Int32) (x_t_place0 : Int32) (x_t_rounds : Int32) (x_t_saidMany : Int32) (x_t_taped : Int32) (x_t_wordMany : Int32) (l3 : Int32) (H : Heap) (locs : List Loc) (ls : Array Slot), lv_has ls 4 [(0, .ref A_t), (3, .int l3)] → va_P D vwCl [oX12 A_t A_t_now A_t_aside A_t_kept A_t_rhymeOf A_t_wasRhyme A_t_wordAt x_t_wordMany A_t_tape x_t_taped x_t_place0 x_t_length0 x_t_fault x_t_number0 x_t_open x_t_codeMany x_t_waiting x_t_saidMany x_t_clauses A_t_said A_t_waitsAt A_t_saidLetter A_t_saidFrom A_t_saidHalf A_t_saidTo A_t_codes A_t_clauseOf A_t_codeFrom A_t_codeHalf A_t_codeTo A_t_stack A_t_facts x_t_lines A_t_newWords A_t_roundFrom A_t_roundAt A_t_roundTimes x_t_newMany x_t_rounds x_t_itFrom x_t_itTimes x_t_writtenNow x_t_picturesNow x_t_usedNow x_t_chosen x_t_fearOfChosen A_t_leastFrom A_t_rowNow x_t_changesNow x_t_left0 A_t_bornOf A_t_trainsTo A_t_trainAt x_t_trainMany x_t_leastTries x_t_firstTrained x_t_isKept, iA cI 48 A_t_newWords v_t_newWords, iA cI 2 A_t_roundAt v_t_roundAt, iA cI 2 A_t_roundFrom v_t_roundFrom, iA cI 2 A_t_roundTimes v_t_roundTimes, iA cB 260 A_t_tape v_t_tape, iA cI 48 A_t_wordAt v_t_wordAt] H → va_D A [oX12 A_t A_t_now A_t_aside A_t_kept A_t_rhymeOf A_t_wasRhyme A_t_wordAt x_t_wordMany A_t_tape x_t_taped x_t_place0 x_t_length0 x_t_fault x_t_number0 x_t_open x_t_codeMany x_t_waiting x_t_saidMany x_t_clauses A_t_said A_t_waitsAt A_t_saidLetter A_t_saidFrom A_t_saidHalf A_t_saidTo A_t_codes A_t_clauseOf A_t_codeFrom A_t_codeHalf A_t_codeTo A_t_stack A_t_facts x_t_lines A_t_newWords A_t_roundFrom A_t_roundAt A_t_roundTimes x_t_newMany x_t_rounds x_t_itFrom x_t_itTimes x_t_writtenNow x_t_picturesNow x_t_usedNow x_t_chosen x_t_fearOfChosen A_t_leastFrom A_t_rowNow x_t_changesNow x_t_left0 A_t_bornOf A_t_trainsTo A_t_trainAt x_t_trainMany x_t_leastTries x_t_firstTrained x_t_isKept, iA cI 48 A_t_newWords v_t_newWords, iA cI 2 A_t_roundAt v_t_roundAt, iA cI 2 A_t_roundFrom v_t_roundFrom, iA cI 2 A_t_roundTimes v_t_roundTimes, iA cB 260 A_t_tape v_t_tape, iA cI 48 A_t_wordAt v_t_wordAt] → va_S A s.heap H locs → f_X12_letter_b94 n_94 v_t_newWords v_t_roundAt v_t_roundFrom v_t_roundTimes v_t_wordAt x_t_codeMany x_t_fault x_t_itFrom x_t_itTimes x_t_length0 x_t_newMany x_t_place0 x_t_rounds x_t_saidMany x_t_taped x_t_wordMany l3 = some (o_r, o_v_t_newWords, o_v_t_roundAt, o_v_t_roundFrom, o_v_t_roundTimes, o_v_t_wordAt, o_x_t_codeMany, o_x_t_fault, o_x_t_itFrom, o_x_t_itTimes, o_x_t_length0, o_x_t_newMany, o_x_t_place0, o_x_t_rounds, o_x_t_saidMany, o_x_t_taped, o_x_t_wordMany) → W p l e { frames := 3, cells := 0, slots := 0, locals := 69 } s m ([.ref A_t, .int a1] : List Value).toArray below meth c H locs 0 0 (MQ below (PoI D A [oX12 A_t A_t_now A_t_aside A_t_kept A_t_rhymeOf A_t_wasRhyme A_t_wordAt o_x_t_wordMany A_t_tape o_x_t_taped o_x_t_place0 o_x_t_length0 o_x_t_fault x_t_number0 x_t_open o_x_t_codeMany x_t_waiting o_x_t_saidMany x_t_clauses A_t_said A_t_waitsAt A_t_saidLetter A_t_saidFrom A_t_saidHalf A_t_saidTo A_t_codes A_t_clauseOf A_t_codeFrom A_t_codeHalf A_t_codeTo A_t_stack A_t_facts x_t_lines A_t_newWords A_t_roundFrom A_t_roundAt A_t_roundTimes o_x_t_newMany o_x_t_rounds o_x_t_itFrom o_x_t_itTimes x_t_writtenNow x_t_picturesNow x_t_usedNow x_t_chosen x_t_fearOfChosen A_t_leastFrom A_t_rowNow x_t_changesNow x_t_left0 A_t_bornOf A_t_trainsTo A_t_trainAt x_t_trainMany x_t_leastTries x_t_firstTrained x_t_isKept, iA cI 48 A_t_newWords o_v_t_newWords, iA cI 2 A_t_roundAt o_v_t_roundAt, iA cI 2 A_t_roundFrom o_v_t_roundFrom, iA cI 2 A_t_roundTimes o_v_t_roundTimes, iA cB 260 A_t_tape v_t_tape, iA cI 48 A_t_wordAt o_v_t_wordAt] o_r) ([.ref A_t, .int a1] : List Value).toArray s 0 0 A) (F0 m 94 ls []) := by
    intro n_94
    induction n_94 with
    | zero =>
      intro v_t_newWords v_t_roundAt v_t_roundFrom v_t_roundTimes v_t_wordAt x_t_codeMany x_t_fault x_t_itFrom x_t_itTimes x_t_length0 x_t_newMany x_t_place0 x_t_rounds x_t_saidMany x_t_taped x_t_wordMany l3 H locs ls hl hP hD hS hf
      exact absurd hf (fun h => by rw [f_X12_letter_b94] at h; cases h)
    | succ n_94 ih_94 =>
      intro v_t_newWords v_t_roundAt v_t_roundFrom v_t_roundTimes v_t_wordAt x_t_codeMany x_t_fault x_t_itFrom x_t_itTimes x_t_length0 x_t_newMany x_t_place0 x_t_rounds x_t_saidMany x_t_taped x_t_wordMany l3 H locs ls hl hP hD hS hf
      rw [f_X12_letter_b94] at hf
      refine lv_iload_n hx hb dX12_letter_94 rfl (lv_at hl 1 rfl) ?_
      refine lv_aload_n hx hb dX12_letter_95 rfl (lv_at hl 0 rfl) ?_
      refine x_get C hK hP fd_X12_285 0 rfl rfl dX12_letter_96 ?_
      refine lv_icmp_ge (tgt := 120) hx hb dX12_letter_99 (by decide) (fun q => ?_) (fun q => ?_)
      · have hf := if_t q hf
        refine lv_aload_n hx hb dX12_letter_120 rfl (lv_at hl 0 rfl) ?_
        refine x_get C hK hP fd_X12_285 0 rfl rfl dX12_letter_121 ?_
        obtain ⟨rfl, rfl, rfl, rfl, rfl, rfl, rfl, rfl, rfl, rfl, rfl, rfl, rfl, rfl, rfl, rfl, rfl⟩ := ev17 hf
        exact x_iret C hr hlk hP hD hS dX12_letter_124
      · have hf := if_f q hf
        refine lv_aload_n hx hb dX12_letter_102 rfl (lv_at hl 0 rfl) ?_
        refine x_get C hK hP fd_X12_25 0 rfl rfl dX12_letter_103 ?_
        refine lv_iload_n hx hb dX12_letter_106 rfl (lv_at hl 1 rfl) ?_
        refine lv_aload_n hx hb dX12_letter_107 rfl (lv_at hl 0 rfl) ?_
        refine x_get C hK hP fd_X12_71 0 rfl rfl dX12_letter_108 ?_
        refine lv_iload_n hx hb dX12_letter_111 rfl (lv_at hl 1 rfl) ?_
        obtain ⟨hi, hf⟩ := gI_e hf
        refine x_iald C hK hP 1 rfl hi dX12_letter_112 ?_
        obtain ⟨hi, hf⟩ := sI_e hf
        refine x_iast (ws' := [oX12 A_t A_t_now A_t_aside A_t_kept A_t_rhymeOf A_t_wasRhyme A_t_wordAt x_t_wordMany A_t_tape x_t_taped x_t_place0 x_t_length0 x_t_fault x_t_number0 x_t_open x_t_codeMany x_t_waiting x_t_saidMany x_t_clauses A_t_said A_t_waitsAt A_t_saidLetter A_t_saidFrom A_t_saidHalf A_t_saidTo A_t_codes A_t_clauseOf A_t_codeFrom A_t_codeHalf A_t_codeTo A_t_stack A_t_facts x_t_lines A_t_newWords A_t_roundFrom A_t_roundAt A_t_roundTimes x_t_newMany x_t_rounds x_t_itFrom x_t_itTimes x_t_writtenNow x_t_picturesNow x_t_usedNow x_t_chosen x_t_fearOfChosen A_t_leastFrom A_t_rowNow x_t_changesNow x_t_left0 A_t_bornOf A_t_trainsTo A_t_trainAt x_t_trainMany x_t_leastTries x_t_firstTrained x_t_isKept, iA cI 48 A_t_newWords v_t_newWords, iA cI 2 A_t_roundAt v_t_roundAt, iA cI 2 A_t_roundFrom v_t_roundFrom, iA cI 2 A_t_roundTimes v_t_roundTimes, iA cB 260 A_t_tape v_t_tape, iA cI 48 A_t_wordAt (upd v_t_wordAt l3.toNatClampNeg (v_t_newWords l3.toNatClampNeg))]) C hK hP hD hS 6 rfl hi rfl dX12_letter_113 ?_
        intro H locs hP hD hS
        refine lv_iinc (v := (l3 + (1 : Int32))) (lv' := [(3, .int (l3 + (1 : Int32))), (0, .ref A_t)]) hx hb dX12_letter_114 hl (k := 1) rfl rfl (by decide) rfl (fun ls hl => ?_)
        refine lv_goto (tgt := 94) hx hb dX12_letter_117 (by decide) ?_
        exact ih_94 v_t_newWords v_t_roundAt v_t_roundFrom v_t_roundTimes (upd v_t_wordAt l3.toNatClampNeg (v_t_newWords l3.toNatClampNeg)) x_t_codeMany x_t_fault x_t_itFrom x_t_itTimes x_t_length0 x_t_newMany x_t_place0 x_t_rounds x_t_saidMany x_t_taped x_t_wordMany (l3 + (1 : Int32)) _ _ ls (lv_sub hl [1, 0] rfl) hP hD hS hf
  have hb_70 : ∀ (v_t_newWords : (Nat → Int32)) (v_t_roundAt : (Nat → Int32)) (v_t_roundFrom : (Nat → Int32)) (v_t_roundTimes : (Nat → Int32)) (v_t_wordAt : (Nat → Int32)) (x_t_codeMany : Int32) (x_t_fault : Int32) (x_t_itFrom : Int32) (x_t_itTimes : Int32) (x_t_length0 : Int32) (x_t_newMany : Int32) (x_t_place0 : Int32) (x_t_rounds : Int32) (x_t_saidMany : Int32) (x_t_taped : Int32) (x_t_wordMany : Int32) (l2 : Int32) (H : Heap) (locs : List Loc) (ls : Array Slot), lv_has ls 4 [(0, .ref A_t), (2, .int l2)] → va_P D vwCl [oX12 A_t A_t_now A_t_aside A_t_kept A_t_rhymeOf A_t_wasRhyme A_t_wordAt x_t_wordMany A_t_tape x_t_taped x_t_place0 x_t_length0 x_t_fault x_t_number0 x_t_open x_t_codeMany x_t_waiting x_t_saidMany x_t_clauses A_t_said A_t_waitsAt A_t_saidLetter A_t_saidFrom A_t_saidHalf A_t_saidTo A_t_codes A_t_clauseOf A_t_codeFrom A_t_codeHalf A_t_codeTo A_t_stack A_t_facts x_t_lines A_t_newWords A_t_roundFrom A_t_roundAt A_t_roundTimes x_t_newMany x_t_rounds x_t_itFrom x_t_itTimes x_t_writtenNow x_t_picturesNow x_t_usedNow x_t_chosen x_t_fearOfChosen A_t_leastFrom A_t_rowNow x_t_changesNow x_t_left0 A_t_bornOf A_t_trainsTo A_t_trainAt x_t_trainMany x_t_leastTries x_t_firstTrained x_t_isKept, iA cI 48 A_t_newWords v_t_newWords, iA cI 2 A_t_roundAt v_t_roundAt, iA cI 2 A_t_roundFrom v_t_roundFrom, iA cI 2 A_t_roundTimes v_t_roundTimes, iA cB 260 A_t_tape v_t_tape, iA cI 48 A_t_wordAt v_t_wordAt] H → va_D A [oX12 A_t A_t_now A_t_aside A_t_kept A_t_rhymeOf A_t_wasRhyme A_t_wordAt x_t_wordMany A_t_tape x_t_taped x_t_place0 x_t_length0 x_t_fault x_t_number0 x_t_open x_t_codeMany x_t_waiting x_t_saidMany x_t_clauses A_t_said A_t_waitsAt A_t_saidLetter A_t_saidFrom A_t_saidHalf A_t_saidTo A_t_codes A_t_clauseOf A_t_codeFrom A_t_codeHalf A_t_codeTo A_t_stack A_t_facts x_t_lines A_t_newWords A_t_roundFrom A_t_roundAt A_t_roundTimes x_t_newMany x_t_rounds x_t_itFrom x_t_itTimes x_t_writtenNow x_t_picturesNow x_t_usedNow x_t_chosen x_t_fearOfChosen A_t_leastFrom A_t_rowNow x_t_changesNow x_t_left0 A_t_bornOf A_t_trainsTo A_t_trainAt x_t_trainMany x_t_leastTries x_t_firstTrained x_t_isKept, iA cI 48 A_t_newWords v_t_newWords, iA cI 2 A_t_roundAt v_t_roundAt, iA cI 2 A_t_roundFrom v_t_roundFrom, iA cI 2 A_t_roundTimes v_t_roundTimes, iA cB 260 A_t_tape v_t_tape, iA cI 48 A_t_wordAt v_t_wordAt] → va_S A s.heap H locs → f_X12_letter_b70 v_t_newWords v_t_roundAt v_t_roundFrom v_t_roundTimes v_t_wordAt x_t_codeMany x_t_fault x_t_itFrom x_t_itTimes x_t_length0 x_t_newMany x_t_place0 x_t_rounds x_t_saidMany x_t_taped x_t_wordMany l2 = some (o_r, o_v_t_newWords, o_v_t_roundAt, o_v_t_roundFrom, o_v_t_roundTimes, o_v_t_wordAt, o_x_t_codeMany, o_x_t_fault, o_x_t_itFrom, o_x_t_itTimes, o_x_t_length0, o_x_t_newMany, o_x_t_place0, o_x_t_rounds, o_x_t_saidMany, o_x_t_taped, o_x_t_wordMany) → W p l e { frames := 3, cells := 0, slots := 0, locals := 69 } s m ([.ref A_t, .int a1] : List Value).toArray below meth c H locs 0 0 (MQ below (PoI D A [oX12 A_t A_t_now A_t_aside A_t_kept A_t_rhymeOf A_t_wasRhyme A_t_wordAt o_x_t_wordMany A_t_tape o_x_t_taped o_x_t_place0 o_x_t_length0 o_x_t_fault x_t_number0 x_t_open o_x_t_codeMany x_t_waiting o_x_t_saidMany x_t_clauses A_t_said A_t_waitsAt A_t_saidLetter A_t_saidFrom A_t_saidHalf A_t_saidTo A_t_codes A_t_clauseOf A_t_codeFrom A_t_codeHalf A_t_codeTo A_t_stack A_t_facts x_t_lines A_t_newWords A_t_roundFrom A_t_roundAt A_t_roundTimes o_x_t_newMany o_x_t_rounds o_x_t_itFrom o_x_t_itTimes x_t_writtenNow x_t_picturesNow x_t_usedNow x_t_chosen x_t_fearOfChosen A_t_leastFrom A_t_rowNow x_t_changesNow x_t_left0 A_t_bornOf A_t_trainsTo A_t_trainAt x_t_trainMany x_t_leastTries x_t_firstTrained x_t_isKept, iA cI 48 A_t_newWords o_v_t_newWords, iA cI 2 A_t_roundAt o_v_t_roundAt, iA cI 2 A_t_roundFrom o_v_t_roundFrom, iA cI 2 A_t_roundTimes o_v_t_roundTimes, iA cB 260 A_t_tape v_t_tape, iA cI 48 A_t_wordAt o_v_t_wordAt] o_r) ([.ref A_t, .int a1] : List Value).toArray s 0 0 A) (F0 m 70 ls []) := by
    intro v_t_newWords v_t_roundAt v_t_roundFrom v_t_roundTimes v_t_wordAt x_t_codeMany x_t_fault x_t_itFrom x_t_itTimes x_t_length0 x_t_newMany x_t_place0 x_t_rounds x_t_saidMany x_t_taped x_t_wordMany l2 H locs ls hl hP hD hS hf
    unfold f_X12_letter_b70 at hf
    refine lv_aload_n hx hb dX12_letter_70 rfl (lv_at hl 0 rfl) ?_
    refine lv_iconst (v := 0) hx hb dX12_letter_71 (by decide) ?_
    refine x_put (ws' := [oX12 A_t A_t_now A_t_aside A_t_kept A_t_rhymeOf A_t_wasRhyme A_t_wordAt x_t_wordMany A_t_tape (0 : Int32) x_t_place0 x_t_length0 x_t_fault x_t_number0 x_t_open x_t_codeMany x_t_waiting x_t_saidMany x_t_clauses A_t_said A_t_waitsAt A_t_saidLetter A_t_saidFrom A_t_saidHalf A_t_saidTo A_t_codes A_t_clauseOf A_t_codeFrom A_t_codeHalf A_t_codeTo A_t_stack A_t_facts x_t_lines A_t_newWords A_t_roundFrom A_t_roundAt A_t_roundTimes x_t_newMany x_t_rounds x_t_itFrom x_t_itTimes x_t_writtenNow x_t_picturesNow x_t_usedNow x_t_chosen x_t_fearOfChosen A_t_leastFrom A_t_rowNow x_t_changesNow x_t_left0 A_t_bornOf A_t_trainsTo A_t_trainAt x_t_trainMany x_t_leastTries x_t_firstTrained x_t_isKept, iA cI 48 A_t_newWords v_t_newWords, iA cI 2 A_t_roundAt v_t_roundAt, iA cI 2 A_t_roundFrom v_t_roundFrom, iA cI 2 A_t_roundTimes v_t_roundTimes, iA cB 260 A_t_tape v_t_tape, iA cI 48 A_t_wordAt v_t_wordAt]) C hK hP hD hS fp_X12_143 0 rfl rfl rfl (Nat.le_of_ble_eq_true rfl) rfl dX12_letter_72 ?_
    intro H locs hP hD hS
    refine lv_iload_n hx hb dX12_letter_75 rfl (lv_at hl 1 rfl) ?_
    refine lv_if_ne (tgt := 84) hx hb dX12_letter_76 (by decide) (fun q => ?_) (fun q => ?_)
    · have hf := if_f q hf
      refine lv_aload_n hx hb dX12_letter_84 rfl (lv_at hl 0 rfl) ?_
      refine lv_aload_n hx hb dX12_letter_85 rfl (lv_at hl 0 rfl) ?_
      refine x_get C hK hP fd_X12_285 0 rfl rfl dX12_letter_86 ?_
      refine x_put (ws' := [oX12 A_t A_t_now A_t_aside A_t_kept A_t_rhymeOf A_t_wasRhyme A_t_wordAt x_t_newMany A_t_tape (0 : Int32) x_t_place0 x_t_length0 x_t_fault x_t_number0 x_t_open x_t_codeMany x_t_waiting x_t_saidMany x_t_clauses A_t_said A_t_waitsAt A_t_saidLetter A_t_saidFrom A_t_saidHalf A_t_saidTo A_t_codes A_t_clauseOf A_t_codeFrom A_t_codeHalf A_t_codeTo A_t_stack A_t_facts x_t_lines A_t_newWords A_t_roundFrom A_t_roundAt A_t_roundTimes x_t_newMany x_t_rounds x_t_itFrom x_t_itTimes x_t_writtenNow x_t_picturesNow x_t_usedNow x_t_chosen x_t_fearOfChosen A_t_leastFrom A_t_rowNow x_t_changesNow x_t_left0 A_t_bornOf A_t_trainsTo A_t_trainAt x_t_trainMany x_t_leastTries x_t_firstTrained x_t_isKept, iA cI 48 A_t_newWords v_t_newWords, iA cI 2 A_t_roundAt v_t_roundAt, iA cI 2 A_t_roundFrom v_t_roundFrom, iA cI 2 A_t_roundTimes v_t_roundTimes, iA cB 260 A_t_tape v_t_tape, iA cI 48 A_t_wordAt v_t_wordAt]) C hK hP hD hS fp_X12_300 0 rfl rfl rfl (Nat.le_of_ble_eq_true rfl) rfl dX12_letter_89 ?_
      intro H locs hP hD hS
      refine lv_iconst (v := 0) hx hb dX12_letter_92 (by decide) ?_
      refine lv_istore_n (lv' := [(3, .int (0 : Int32)), (0, .ref A_t), (2, .int l2)]) hx hb dX12_letter_93 rfl hl (by decide) rfl (fun ls hl => ?_)
      exact hb_94 FU v_t_newWords v_t_roundAt v_t_roundFrom v_t_roundTimes v_t_wordAt x_t_codeMany x_t_fault x_t_itFrom x_t_itTimes x_t_length0 x_t_newMany x_t_place0 x_t_rounds x_t_saidMany (0 : Int32) x_t_newMany (0 : Int32) _ _ ls (lv_sub hl [1, 0] rfl) hP hD hS hf
    · have hf := if_t q hf
      refine lv_aload_n hx hb dX12_letter_79 rfl (lv_at hl 0 rfl) ?_
      refine x_get C hK hP fd_X12_160 0 rfl rfl dX12_letter_80 ?_
      obtain ⟨rfl, rfl, rfl, rfl, rfl, rfl, rfl, rfl, rfl, rfl, rfl, rfl, rfl, rfl, rfl, rfl, rfl⟩ := ev17 hf
      exact x_iret C hr hlk hP hD hS dX12_letter_83
  have hb_40 : ∀ (n_40 : Nat) (v_t_newWords : (Nat → Int32)) (v_t_roundAt : (Nat → Int32)) (v_t_roundFrom : (Nat → Int32)) (v_t_roundTimes : (Nat → Int32)) (v_t_wordAt : (Nat → Int32)) (x_t_codeMany : Int32) (x_t_fault : Int32) (x_t_itFrom : Int32) (x_t_itTimes : Int32) (x_t_length0 : Int32) (x_t_newMany : Int32) (x_t_place0 : Int32) (x_t_rounds : Int32) (x_t_saidMany : Int32) (x_t_taped : Int32) (x_t_wordMany : Int32) (l2 : Int32) (H : Heap) (locs : List Loc) (ls : Array Slot), lv_has ls 4 [(0, .ref A_t), (2, .int l2)] → va_P D vwCl [oX12 A_t A_t_now A_t_aside A_t_kept A_t_rhymeOf A_t_wasRhyme A_t_wordAt x_t_wordMany A_t_tape x_t_taped x_t_place0 x_t_length0 x_t_fault x_t_number0 x_t_open x_t_codeMany x_t_waiting x_t_saidMany x_t_clauses A_t_said A_t_waitsAt A_t_saidLetter A_t_saidFrom A_t_saidHalf A_t_saidTo A_t_codes A_t_clauseOf A_t_codeFrom A_t_codeHalf A_t_codeTo A_t_stack A_t_facts x_t_lines A_t_newWords A_t_roundFrom A_t_roundAt A_t_roundTimes x_t_newMany x_t_rounds x_t_itFrom x_t_itTimes x_t_writtenNow x_t_picturesNow x_t_usedNow x_t_chosen x_t_fearOfChosen A_t_leastFrom A_t_rowNow x_t_changesNow x_t_left0 A_t_bornOf A_t_trainsTo A_t_trainAt x_t_trainMany x_t_leastTries x_t_firstTrained x_t_isKept, iA cI 48 A_t_newWords v_t_newWords, iA cI 2 A_t_roundAt v_t_roundAt, iA cI 2 A_t_roundFrom v_t_roundFrom, iA cI 2 A_t_roundTimes v_t_roundTimes, iA cB 260 A_t_tape v_t_tape, iA cI 48 A_t_wordAt v_t_wordAt] H → va_D A [oX12 A_t A_t_now A_t_aside A_t_kept A_t_rhymeOf A_t_wasRhyme A_t_wordAt x_t_wordMany A_t_tape x_t_taped x_t_place0 x_t_length0 x_t_fault x_t_number0 x_t_open x_t_codeMany x_t_waiting x_t_saidMany x_t_clauses A_t_said A_t_waitsAt A_t_saidLetter A_t_saidFrom A_t_saidHalf A_t_saidTo A_t_codes A_t_clauseOf A_t_codeFrom A_t_codeHalf A_t_codeTo A_t_stack A_t_facts x_t_lines A_t_newWords A_t_roundFrom A_t_roundAt A_t_roundTimes x_t_newMany x_t_rounds x_t_itFrom x_t_itTimes x_t_writtenNow x_t_picturesNow x_t_usedNow x_t_chosen x_t_fearOfChosen A_t_leastFrom A_t_rowNow x_t_changesNow x_t_left0 A_t_bornOf A_t_trainsTo A_t_trainAt x_t_trainMany x_t_leastTries x_t_firstTrained x_t_isKept, iA cI 48 A_t_newWords v_t_newWords, iA cI 2 A_t_roundAt v_t_roundAt, iA cI 2 A_t_roundFrom v_t_roundFrom, iA cI 2 A_t_roundTimes v_t_roundTimes, iA cB 260 A_t_tape v_t_tape, iA cI 48 A_t_wordAt v_t_wordAt] → va_S A s.heap H locs → f_X12_letter_b40 v_t_tape n_40 v_t_newWords v_t_roundAt v_t_roundFrom v_t_roundTimes v_t_wordAt x_t_codeMany x_t_fault x_t_itFrom x_t_itTimes x_t_length0 x_t_newMany x_t_place0 x_t_rounds x_t_saidMany x_t_taped x_t_wordMany l2 = some (o_r, o_v_t_newWords, o_v_t_roundAt, o_v_t_roundFrom, o_v_t_roundTimes, o_v_t_wordAt, o_x_t_codeMany, o_x_t_fault, o_x_t_itFrom, o_x_t_itTimes, o_x_t_length0, o_x_t_newMany, o_x_t_place0, o_x_t_rounds, o_x_t_saidMany, o_x_t_taped, o_x_t_wordMany) → W p l e { frames := 3, cells := 0, slots := 0, locals := 69 } s m ([.ref A_t, .int a1] : List Value).toArray below meth c H locs 0 0 (MQ below (PoI D A [oX12 A_t A_t_now A_t_aside A_t_kept A_t_rhymeOf A_t_wasRhyme A_t_wordAt o_x_t_wordMany A_t_tape o_x_t_taped o_x_t_place0 o_x_t_length0 o_x_t_fault x_t_number0 x_t_open o_x_t_codeMany x_t_waiting o_x_t_saidMany x_t_clauses A_t_said A_t_waitsAt A_t_saidLetter A_t_saidFrom A_t_saidHalf A_t_saidTo A_t_codes A_t_clauseOf A_t_codeFrom A_t_codeHalf A_t_codeTo A_t_stack A_t_facts x_t_lines A_t_newWords A_t_roundFrom A_t_roundAt A_t_roundTimes o_x_t_newMany o_x_t_rounds o_x_t_itFrom o_x_t_itTimes x_t_writtenNow x_t_picturesNow x_t_usedNow x_t_chosen x_t_fearOfChosen A_t_leastFrom A_t_rowNow x_t_changesNow x_t_left0 A_t_bornOf A_t_trainsTo A_t_trainAt x_t_trainMany x_t_leastTries x_t_firstTrained x_t_isKept, iA cI 48 A_t_newWords o_v_t_newWords, iA cI 2 A_t_roundAt o_v_t_roundAt, iA cI 2 A_t_roundFrom o_v_t_roundFrom, iA cI 2 A_t_roundTimes o_v_t_roundTimes, iA cB 260 A_t_tape v_t_tape, iA cI 48 A_t_wordAt o_v_t_wordAt] o_r) ([.ref A_t, .int a1] : List Value).toArray s 0 0 A) (F0 m 40 ls []) := by
    intro n_40
    induction n_40 with
    | zero =>
      intro v_t_newWords v_t_roundAt v_t_roundFrom v_t_roundTimes v_t_wordAt x_t_codeMany x_t_fault x_t_itFrom x_t_itTimes x_t_length0 x_t_newMany x_t_place0 x_t_rounds x_t_saidMany x_t_taped x_t_wordMany l2 H locs ls hl hP hD hS hf
      exact absurd hf (fun h => by rw [f_X12_letter_b40] at h; cases h)
    | succ n_40 ih_40 =>
      have hb_62 : ∀ (v_t_newWords : (Nat → Int32)) (v_t_roundAt : (Nat → Int32)) (v_t_roundFrom : (Nat → Int32)) (v_t_roundTimes : (Nat → Int32)) (v_t_wordAt : (Nat → Int32)) (x_t_codeMany : Int32) (x_t_fault : Int32) (x_t_itFrom : Int32) (x_t_itTimes : Int32) (x_t_length0 : Int32) (x_t_newMany : Int32) (x_t_place0 : Int32) (x_t_rounds : Int32) (x_t_saidMany : Int32) (x_t_taped : Int32) (x_t_wordMany : Int32) (H : Heap) (locs : List Loc) (ls : Array Slot), lv_has ls 4 [(0, .ref A_t)] → va_P D vwCl [oX12 A_t A_t_now A_t_aside A_t_kept A_t_rhymeOf A_t_wasRhyme A_t_wordAt x_t_wordMany A_t_tape x_t_taped x_t_place0 x_t_length0 x_t_fault x_t_number0 x_t_open x_t_codeMany x_t_waiting x_t_saidMany x_t_clauses A_t_said A_t_waitsAt A_t_saidLetter A_t_saidFrom A_t_saidHalf A_t_saidTo A_t_codes A_t_clauseOf A_t_codeFrom A_t_codeHalf A_t_codeTo A_t_stack A_t_facts x_t_lines A_t_newWords A_t_roundFrom A_t_roundAt A_t_roundTimes x_t_newMany x_t_rounds x_t_itFrom x_t_itTimes x_t_writtenNow x_t_picturesNow x_t_usedNow x_t_chosen x_t_fearOfChosen A_t_leastFrom A_t_rowNow x_t_changesNow x_t_left0 A_t_bornOf A_t_trainsTo A_t_trainAt x_t_trainMany x_t_leastTries x_t_firstTrained x_t_isKept, iA cI 48 A_t_newWords v_t_newWords, iA cI 2 A_t_roundAt v_t_roundAt, iA cI 2 A_t_roundFrom v_t_roundFrom, iA cI 2 A_t_roundTimes v_t_roundTimes, iA cB 260 A_t_tape v_t_tape, iA cI 48 A_t_wordAt v_t_wordAt] H → va_D A [oX12 A_t A_t_now A_t_aside A_t_kept A_t_rhymeOf A_t_wasRhyme A_t_wordAt x_t_wordMany A_t_tape x_t_taped x_t_place0 x_t_length0 x_t_fault x_t_number0 x_t_open x_t_codeMany x_t_waiting x_t_saidMany x_t_clauses A_t_said A_t_waitsAt A_t_saidLetter A_t_saidFrom A_t_saidHalf A_t_saidTo A_t_codes A_t_clauseOf A_t_codeFrom A_t_codeHalf A_t_codeTo A_t_stack A_t_facts x_t_lines A_t_newWords A_t_roundFrom A_t_roundAt A_t_roundTimes x_t_newMany x_t_rounds x_t_itFrom x_t_itTimes x_t_writtenNow x_t_picturesNow x_t_usedNow x_t_chosen x_t_fearOfChosen A_t_leastFrom A_t_rowNow x_t_changesNow x_t_left0 A_t_bornOf A_t_trainsTo A_t_trainAt x_t_trainMany x_t_leastTries x_t_firstTrained x_t_isKept, iA cI 48 A_t_newWords v_t_newWords, iA cI 2 A_t_roundAt v_t_roundAt, iA cI 2 A_t_roundFrom v_t_roundFrom, iA cI 2 A_t_roundTimes v_t_roundTimes, iA cB 260 A_t_tape v_t_tape, iA cI 48 A_t_wordAt v_t_wordAt] → va_S A s.heap H locs → f_X12_letter_b62 v_t_tape (f_X12_letter_b40 v_t_tape n_40) v_t_newWords v_t_roundAt v_t_roundFrom v_t_roundTimes v_t_wordAt x_t_codeMany x_t_fault x_t_itFrom x_t_itTimes x_t_length0 x_t_newMany x_t_place0 x_t_rounds x_t_saidMany x_t_taped x_t_wordMany = some (o_r, o_v_t_newWords, o_v_t_roundAt, o_v_t_roundFrom, o_v_t_roundTimes, o_v_t_wordAt, o_x_t_codeMany, o_x_t_fault, o_x_t_itFrom, o_x_t_itTimes, o_x_t_length0, o_x_t_newMany, o_x_t_place0, o_x_t_rounds, o_x_t_saidMany, o_x_t_taped, o_x_t_wordMany) → W p l e { frames := 3, cells := 0, slots := 0, locals := 69 } s m ([.ref A_t, .int a1] : List Value).toArray below meth c H locs 0 0 (MQ below (PoI D A [oX12 A_t A_t_now A_t_aside A_t_kept A_t_rhymeOf A_t_wasRhyme A_t_wordAt o_x_t_wordMany A_t_tape o_x_t_taped o_x_t_place0 o_x_t_length0 o_x_t_fault x_t_number0 x_t_open o_x_t_codeMany x_t_waiting o_x_t_saidMany x_t_clauses A_t_said A_t_waitsAt A_t_saidLetter A_t_saidFrom A_t_saidHalf A_t_saidTo A_t_codes A_t_clauseOf A_t_codeFrom A_t_codeHalf A_t_codeTo A_t_stack A_t_facts x_t_lines A_t_newWords A_t_roundFrom A_t_roundAt A_t_roundTimes o_x_t_newMany o_x_t_rounds o_x_t_itFrom o_x_t_itTimes x_t_writtenNow x_t_picturesNow x_t_usedNow x_t_chosen x_t_fearOfChosen A_t_leastFrom A_t_rowNow x_t_changesNow x_t_left0 A_t_bornOf A_t_trainsTo A_t_trainAt x_t_trainMany x_t_leastTries x_t_firstTrained x_t_isKept, iA cI 48 A_t_newWords o_v_t_newWords, iA cI 2 A_t_roundAt o_v_t_roundAt, iA cI 2 A_t_roundFrom o_v_t_roundFrom, iA cI 2 A_t_roundTimes o_v_t_roundTimes, iA cB 260 A_t_tape v_t_tape, iA cI 48 A_t_wordAt o_v_t_wordAt] o_r) ([.ref A_t, .int a1] : List Value).toArray s 0 0 A) (F0 m 62 ls []) := by
        intro v_t_newWords v_t_roundAt v_t_roundFrom v_t_roundTimes v_t_wordAt x_t_codeMany x_t_fault x_t_itFrom x_t_itTimes x_t_length0 x_t_newMany x_t_place0 x_t_rounds x_t_saidMany x_t_taped x_t_wordMany H locs ls hl hP hD hS hf
        unfold f_X12_letter_b62 at hf
        refine lv_aload_n hx hb dX12_letter_62 rfl (lv_at hl 0 rfl) ?_
        obtain ⟨r1, w2, w3, w4, w5, w6, w7, w8, w9, w10, w11, hc12, hf⟩ := bd11_e hf
        refine x_callVI (ws' := [oX12 A_t A_t_now A_t_aside A_t_kept A_t_rhymeOf A_t_wasRhyme A_t_wordAt x_t_wordMany A_t_tape x_t_taped w10 x_t_length0 w6 x_t_number0 x_t_open x_t_codeMany x_t_waiting x_t_saidMany x_t_clauses A_t_said A_t_waitsAt A_t_saidLetter A_t_saidFrom A_t_saidHalf A_t_saidTo A_t_codes A_t_clauseOf A_t_codeFrom A_t_codeHalf A_t_codeTo A_t_stack A_t_facts x_t_lines A_t_newWords A_t_roundFrom A_t_roundAt A_t_roundTimes w9 w11 w7 w8 x_t_writtenNow x_t_picturesNow x_t_usedNow x_t_chosen x_t_fearOfChosen A_t_leastFrom A_t_rowNow x_t_changesNow x_t_left0 A_t_bornOf A_t_trainsTo A_t_trainAt x_t_trainMany x_t_leastTries x_t_firstTrained x_t_isKept, iA cI 48 A_t_newWords w2, iA cI 2 A_t_roundAt w3, iA cI 2 A_t_roundFrom w4, iA cI 2 A_t_roundTimes w5, iA cB 260 A_t_tape v_t_tape, iA cI 48 A_t_wordAt v_t_wordAt]) (rest := []) C hK hP hD hS hA hl mf_X12_297 (c_X12_readsWord hc12) [0, 1, 2, 3, 4, 5] 0 12 rfl rfl rfl rfl rfl rfl rfl rfl rfl rfl (Nat.le_of_ble_eq_true rfl) ⟨Nat.le_of_ble_eq_true rfl, Nat.le_of_ble_eq_true rfl⟩ ⟨Nat.le_refl _, Nat.le_refl _⟩ dX12_letter_63 ?_
        intro H locs hP hD hS
        refine lv_istore_n (lv' := [(2, .int r1), (0, .ref A_t)]) hx hb dX12_letter_66 rfl hl (by decide) rfl (fun ls hl => ?_)
        refine lv_goto (tgt := 40) hx hb dX12_letter_67 (by decide) ?_
        exact ih_40 w2 w3 w4 w5 v_t_wordAt x_t_codeMany w6 w7 w8 x_t_length0 w9 w10 w11 x_t_saidMany x_t_taped x_t_wordMany r1 _ _ ls (lv_sub hl [1, 0] rfl) hP hD hS hf
      intro v_t_newWords v_t_roundAt v_t_roundFrom v_t_roundTimes v_t_wordAt x_t_codeMany x_t_fault x_t_itFrom x_t_itTimes x_t_length0 x_t_newMany x_t_place0 x_t_rounds x_t_saidMany x_t_taped x_t_wordMany l2 H locs ls hl hP hD hS hf
      rw [f_X12_letter_b40] at hf
      refine lv_iload_n hx hb dX12_letter_40 rfl (lv_at hl 1 rfl) ?_
      refine lv_if_eq (tgt := 70) hx hb dX12_letter_41 (by decide) (fun q => ?_) (fun q => ?_)
      · have hf := if_t q hf
        exact hb_70 v_t_newWords v_t_roundAt v_t_roundFrom v_t_roundTimes v_t_wordAt x_t_codeMany x_t_fault x_t_itFrom x_t_itTimes x_t_length0 x_t_newMany x_t_place0 x_t_rounds x_t_saidMany x_t_taped x_t_wordMany l2 _ _ ls (lv_sub hl [0, 1] rfl) hP hD hS hf
      · have hf := if_f q hf
        refine lv_aload_n hx hb dX12_letter_44 rfl (lv_at hl 0 rfl) ?_
        refine x_get C hK hP fd_X12_150 0 rfl rfl dX12_letter_45 ?_
        refine lv_aload_n hx hb dX12_letter_48 rfl (lv_at hl 0 rfl) ?_
        refine x_get C hK hP fd_X12_153 0 rfl rfl dX12_letter_49 ?_
        refine lv_icmp_lt (tgt := 62) hx hb dX12_letter_52 (by decide) (fun q => ?_) (fun q => ?_)
        · have hf := if_t q hf
          exact hb_62 v_t_newWords v_t_roundAt v_t_roundFrom v_t_roundTimes v_t_wordAt x_t_codeMany x_t_fault x_t_itFrom x_t_itTimes x_t_length0 x_t_newMany x_t_place0 x_t_rounds x_t_saidMany x_t_taped x_t_wordMany _ _ ls (lv_sub hl [0] rfl) hP hD hS hf
        · have hf := if_f q hf
          refine lv_aload_n hx hb dX12_letter_55 rfl (lv_at hl 0 rfl) ?_
          refine x_get C hK hP fd_X12_291 0 rfl rfl dX12_letter_56 ?_
          refine lv_if_le (tgt := 70) hx hb dX12_letter_59 (by decide) (fun q => ?_) (fun q => ?_)
          · have hf := if_t q hf
            exact hb_70 v_t_newWords v_t_roundAt v_t_roundFrom v_t_roundTimes v_t_wordAt x_t_codeMany x_t_fault x_t_itFrom x_t_itTimes x_t_length0 x_t_newMany x_t_place0 x_t_rounds x_t_saidMany x_t_taped x_t_wordMany l2 _ _ ls (lv_sub hl [0, 1] rfl) hP hD hS hf
          · have hf := if_f q hf
            exact hb_62 v_t_newWords v_t_roundAt v_t_roundFrom v_t_roundTimes v_t_wordAt x_t_codeMany x_t_fault x_t_itFrom x_t_itTimes x_t_length0 x_t_newMany x_t_place0 x_t_rounds x_t_saidMany x_t_taped x_t_wordMany _ _ ls (lv_sub hl [0] rfl) hP hD hS hf
  refine lv_iload_n hx hb dX12_letter_0 rfl (lv_at hl 1 rfl) ?_
  refine lv_iconst (v := 1) hx hb dX12_letter_1 (by decide) ?_
  refine lv_bipush (v := 60) hx hb dX12_letter_2 (by decide) ?_
  obtain ⟨r13, hc14, hf⟩ := bd1_e hf
  refine x_callSI (ws' := [oX12 A_t A_t_now A_t_aside A_t_kept A_t_rhymeOf A_t_wasRhyme A_t_wordAt x_t_wordMany A_t_tape x_t_taped x_t_place0 x_t_length0 x_t_fault x_t_number0 x_t_open x_t_codeMany x_t_waiting x_t_saidMany x_t_clauses A_t_said A_t_waitsAt A_t_saidLetter A_t_saidFrom A_t_saidHalf A_t_saidTo A_t_codes A_t_clauseOf A_t_codeFrom A_t_codeHalf A_t_codeTo A_t_stack A_t_facts x_t_lines A_t_newWords A_t_roundFrom A_t_roundAt A_t_roundTimes x_t_newMany x_t_rounds x_t_itFrom x_t_itTimes x_t_writtenNow x_t_picturesNow x_t_usedNow x_t_chosen x_t_fearOfChosen A_t_leastFrom A_t_rowNow x_t_changesNow x_t_left0 A_t_bornOf A_t_trainsTo A_t_trainAt x_t_trainMany x_t_leastTries x_t_firstTrained x_t_isKept, iA cI 48 A_t_newWords v_t_newWords, iA cI 2 A_t_roundAt v_t_roundAt, iA cI 2 A_t_roundFrom v_t_roundFrom, iA cI 2 A_t_roundTimes v_t_roundTimes, iA cB 260 A_t_tape v_t_tape, iA cI 48 A_t_wordAt v_t_wordAt]) (rest := []) C hK hP hD hS hA hl mf_X12_105 (c_X12_in hc14) [] rfl rfl rfl rfl rfl rfl rfl rfl (Nat.le_of_ble_eq_true rfl) ⟨Nat.le_of_ble_eq_true rfl, Nat.le_of_ble_eq_true rfl⟩ ⟨Nat.le_refl _, Nat.le_refl _⟩ dX12_letter_4 ?_
  intro H locs hP hD hS
  refine lv_if_eq (tgt := 18) hx hb dX12_letter_7 (by decide) (fun q => ?_) (fun q => ?_)
  · have hf := if_t q hf
    exact hb_18 v_t_newWords v_t_roundAt v_t_roundFrom v_t_roundTimes v_t_wordAt x_t_codeMany x_t_fault x_t_itFrom x_t_itTimes x_t_length0 x_t_newMany x_t_place0 x_t_rounds x_t_saidMany x_t_taped x_t_wordMany _ _ ls (lv_sub hl [] rfl) hP hD hS hf
  · have hf := if_f q hf
    refine lv_iload_n hx hb dX12_letter_10 rfl (lv_at hl 1 rfl) ?_
    refine lv_aload_n hx hb dX12_letter_11 rfl (lv_at hl 0 rfl) ?_
    refine x_get C hK hP fd_X12_143 0 rfl rfl dX12_letter_12 ?_
    refine lv_icmp_le (tgt := 20) hx hb dX12_letter_15 (by decide) (fun q => ?_) (fun q => ?_)
    · have hf := if_t q hf
      refine lv_aload_n hx hb dX12_letter_20 rfl (lv_at hl 0 rfl) ?_
      refine lv_iload_n hx hb dX12_letter_21 rfl (lv_at hl 1 rfl) ?_
      obtain ⟨w15, w16, w17, w18, hc19, hf⟩ := bd4_e hf
      refine x_callVV (ws' := [oX12 A_t A_t_now A_t_aside A_t_kept A_t_rhymeOf A_t_wasRhyme A_t_wordAt x_t_wordMany A_t_tape x_t_taped w17 w16 x_t_fault x_t_number0 x_t_open w15 x_t_waiting w18 x_t_clauses A_t_said A_t_waitsAt A_t_saidLetter A_t_saidFrom A_t_saidHalf A_t_saidTo A_t_codes A_t_clauseOf A_t_codeFrom A_t_codeHalf A_t_codeTo A_t_stack A_t_facts x_t_lines A_t_newWords A_t_roundFrom A_t_roundAt A_t_roundTimes x_t_newMany x_t_rounds x_t_itFrom x_t_itTimes x_t_writtenNow x_t_picturesNow x_t_usedNow x_t_chosen x_t_fearOfChosen A_t_leastFrom A_t_rowNow x_t_changesNow x_t_left0 A_t_bornOf A_t_trainsTo A_t_trainAt x_t_trainMany x_t_leastTries x_t_firstTrained x_t_isKept, iA cI 48 A_t_newWords v_t_newWords, iA cI 2 A_t_roundAt v_t_roundAt, iA cI 2 A_t_roundFrom v_t_roundFrom, iA cI 2 A_t_roundTimes v_t_roundTimes, iA cB 260 A_t_tape v_t_tape, iA cI 48 A_t_wordAt v_t_wordAt]) (rest := []) C hK hP hD hS hA hl mf_X12_233 (c_X12_beginsText hc19) [0] 0 12 rfl rfl rfl rfl rfl rfl rfl rfl rfl rfl (Nat.le_of_ble_eq_true rfl) ⟨Nat.le_of_ble_eq_true rfl, Nat.le_of_ble_eq_true rfl⟩ ⟨Nat.le_refl _, Nat.le_refl _⟩ dX12_letter_22 ?_
      intro H locs hP hD hS
      refine lv_aload_n hx hb dX12_letter_25 rfl (lv_at hl 0 rfl) ?_
      refine lv_iconst (v := 0) hx hb dX12_letter_26 (by decide) ?_
      refine x_put (ws' := [oX12 A_t A_t_now A_t_aside A_t_kept A_t_rhymeOf A_t_wasRhyme A_t_wordAt x_t_wordMany A_t_tape x_t_taped w17 w16 x_t_fault x_t_number0 x_t_open w15 x_t_waiting w18 x_t_clauses A_t_said A_t_waitsAt A_t_saidLetter A_t_saidFrom A_t_saidHalf A_t_saidTo A_t_codes A_t_clauseOf A_t_codeFrom A_t_codeHalf A_t_codeTo A_t_stack A_t_facts x_t_lines A_t_newWords A_t_roundFrom A_t_roundAt A_t_roundTimes (0 : Int32) x_t_rounds x_t_itFrom x_t_itTimes x_t_writtenNow x_t_picturesNow x_t_usedNow x_t_chosen x_t_fearOfChosen A_t_leastFrom A_t_rowNow x_t_changesNow x_t_left0 A_t_bornOf A_t_trainsTo A_t_trainAt x_t_trainMany x_t_leastTries x_t_firstTrained x_t_isKept, iA cI 48 A_t_newWords v_t_newWords, iA cI 2 A_t_roundAt v_t_roundAt, iA cI 2 A_t_roundFrom v_t_roundFrom, iA cI 2 A_t_roundTimes v_t_roundTimes, iA cB 260 A_t_tape v_t_tape, iA cI 48 A_t_wordAt v_t_wordAt]) C hK hP hD hS fp_X12_285 0 rfl rfl rfl (Nat.le_of_ble_eq_true rfl) rfl dX12_letter_27 ?_
      intro H locs hP hD hS
      refine lv_aload_n hx hb dX12_letter_30 rfl (lv_at hl 0 rfl) ?_
      refine lv_iconst (v := 0) hx hb dX12_letter_31 (by decide) ?_
      refine x_put (ws' := [oX12 A_t A_t_now A_t_aside A_t_kept A_t_rhymeOf A_t_wasRhyme A_t_wordAt x_t_wordMany A_t_tape x_t_taped w17 w16 x_t_fault x_t_number0 x_t_open w15 x_t_waiting w18 x_t_clauses A_t_said A_t_waitsAt A_t_saidLetter A_t_saidFrom A_t_saidHalf A_t_saidTo A_t_codes A_t_clauseOf A_t_codeFrom A_t_codeHalf A_t_codeTo A_t_stack A_t_facts x_t_lines A_t_newWords A_t_roundFrom A_t_roundAt A_t_roundTimes (0 : Int32) (0 : Int32) x_t_itFrom x_t_itTimes x_t_writtenNow x_t_picturesNow x_t_usedNow x_t_chosen x_t_fearOfChosen A_t_leastFrom A_t_rowNow x_t_changesNow x_t_left0 A_t_bornOf A_t_trainsTo A_t_trainAt x_t_trainMany x_t_leastTries x_t_firstTrained x_t_isKept, iA cI 48 A_t_newWords v_t_newWords, iA cI 2 A_t_roundAt v_t_roundAt, iA cI 2 A_t_roundFrom v_t_roundFrom, iA cI 2 A_t_roundTimes v_t_roundTimes, iA cB 260 A_t_tape v_t_tape, iA cI 48 A_t_wordAt v_t_wordAt]) C hK hP hD hS fp_X12_291 0 rfl rfl rfl (Nat.le_of_ble_eq_true rfl) rfl dX12_letter_32 ?_
      intro H locs hP hD hS
      refine lv_aload_n hx hb dX12_letter_35 rfl (lv_at hl 0 rfl) ?_
      obtain ⟨r20, w21, w22, w23, w24, w25, w26, w27, w28, w29, w30, hc31, hf⟩ := bd11_e hf
      refine x_callVI (ws' := [oX12 A_t A_t_now A_t_aside A_t_kept A_t_rhymeOf A_t_wasRhyme A_t_wordAt x_t_wordMany A_t_tape x_t_taped w29 w16 w25 x_t_number0 x_t_open w15 x_t_waiting w18 x_t_clauses A_t_said A_t_waitsAt A_t_saidLetter A_t_saidFrom A_t_saidHalf A_t_saidTo A_t_codes A_t_clauseOf A_t_codeFrom A_t_codeHalf A_t_codeTo A_t_stack A_t_facts x_t_lines A_t_newWords A_t_roundFrom A_t_roundAt A_t_roundTimes w28 w30 w26 w27 x_t_writtenNow x_t_picturesNow x_t_usedNow x_t_chosen x_t_fearOfChosen A_t_leastFrom A_t_rowNow x_t_changesNow x_t_left0 A_t_bornOf A_t_trainsTo A_t_trainAt x_t_trainMany x_t_leastTries x_t_firstTrained x_t_isKept, iA cI 48 A_t_newWords w21, iA cI 2 A_t_roundAt w22, iA cI 2 A_t_roundFrom w23, iA cI 2 A_t_roundTimes w24, iA cB 260 A_t_tape v_t_tape, iA cI 48 A_t_wordAt v_t_wordAt]) (rest := []) C hK hP hD hS hA hl mf_X12_297 (c_X12_readsWord hc31) [0, 1, 2, 3, 4, 5] 0 12 rfl rfl rfl rfl rfl rfl rfl rfl rfl rfl (Nat.le_of_ble_eq_true rfl) ⟨Nat.le_of_ble_eq_true rfl, Nat.le_of_ble_eq_true rfl⟩ ⟨Nat.le_refl _, Nat.le_refl _⟩ dX12_letter_36 ?_
      intro H locs hP hD hS
      refine lv_istore_n (lv' := [(2, .int r20), (0, .ref A_t), (1, .int a1)]) hx hb dX12_letter_39 rfl hl (by decide) rfl (fun ls hl => ?_)
      exact hb_40 FU w21 w22 w23 w24 v_t_wordAt w15 w25 w26 w27 w16 w28 w29 w30 w18 x_t_taped x_t_wordMany r20 _ _ ls (lv_sub hl [1, 0] rfl) hP hD hS hf
    · have hf := if_f q hf
      exact hb_18 v_t_newWords v_t_roundAt v_t_roundFrom v_t_roundTimes v_t_wordAt x_t_codeMany x_t_fault x_t_itFrom x_t_itTimes x_t_length0 x_t_newMany x_t_place0 x_t_rounds x_t_saidMany x_t_taped x_t_wordMany _ _ ls (lv_sub hl [] rfl) hP hD hS hf
def f_X12_feels (v_t_facts : (Nat → Int32)) (v_t_now : (Nat → Int32)) (v_t_rhymeOf : (Nat → Int32)) (a1 : Int32) (a2 : Int32) (a3 : Int32) (a4 : Int32) : Option ((Nat → Int32)) :=
  sI 10 v_t_facts (0 : Int32) a1 (fun w1 =>
  gI 293 v_t_now ((8 : Int32) + a1) (fun g2 =>
  sI 10 w1 (1 : Int32) g2 (fun w3 =>
  sI 10 w3 (2 : Int32) a2 (fun w4 =>
  bd1 (f_X12_dreadOf v_t_now a1 a2) (fun r5 =>
  sI 10 w4 (3 : Int32) r5 (fun w6 =>
  gI 293 v_t_now (((160 : Int32) + ((16 : Int32) * a1)) + a2) (fun g7 =>
  sI 10 w6 (4 : Int32) g7 (fun w8 =>
  gI 293 v_t_now ((16 : Int32) + a1) (fun g9 =>
  sI 10 w8 (5 : Int32) g9 (fun w10 =>
  bd1 (f_X12_shrinking v_t_now v_t_rhymeOf a1 a2) (fun r11 =>
  sI 10 w10 (6 : Int32) r11 (fun w12 =>
  sI 10 w12 (7 : Int32) a3 (fun w13 =>
  gI 293 v_t_now (291 : Int32) (fun g14 =>
  rI g14 (100 : Int32) (fun g15 =>
  sI 10 w13 (8 : Int32) g15 (fun w16 =>
  sI 10 w16 (9 : Int32) a4 (fun w17 =>
  some w17)))))))))))))))))
set_option maxHeartbeats 4000000 in
set_option maxRecDepth 100000 in
theorem c_X12_feels {l : Launch} {D : va_G} {cI cB : ClassId} {A_t A_t_now A_t_aside A_t_kept A_t_rhymeOf A_t_wasRhyme A_t_wordAt A_t_tape A_t_said A_t_waitsAt A_t_saidLetter A_t_saidFrom A_t_saidHalf A_t_saidTo A_t_codes A_t_clauseOf A_t_codeFrom A_t_codeHalf A_t_codeTo A_t_stack A_t_facts A_t_newWords A_t_roundFrom A_t_roundAt A_t_roundTimes A_t_leastFrom A_t_rowNow A_t_bornOf A_t_trainsTo A_t_trainAt : Nat} {x_t_wordMany x_t_taped x_t_place0 x_t_length0 x_t_fault x_t_number0 x_t_open x_t_codeMany x_t_waiting x_t_saidMany x_t_clauses x_t_lines x_t_newMany x_t_rounds x_t_itFrom x_t_itTimes x_t_writtenNow x_t_picturesNow x_t_usedNow x_t_chosen x_t_fearOfChosen x_t_changesNow x_t_left0 x_t_trainMany x_t_leastTries x_t_firstTrained x_t_isKept a1 a2 a3 a4 : Int32} {v_t_facts v_t_now v_t_rhymeOf : Nat → Int32} {o_v_t_facts : Nat → Int32} (hf : f_X12_feels v_t_facts v_t_now v_t_rhymeOf a1 a2 a3 a4 = some o_v_t_facts) : CtV l D cI cB yX12_feels cX12_feels 5 4 87 [.ref A_t, .int a1, .int a2, .int a3, .int a4] [oX12 A_t A_t_now A_t_aside A_t_kept A_t_rhymeOf A_t_wasRhyme A_t_wordAt x_t_wordMany A_t_tape x_t_taped x_t_place0 x_t_length0 x_t_fault x_t_number0 x_t_open x_t_codeMany x_t_waiting x_t_saidMany x_t_clauses A_t_said A_t_waitsAt A_t_saidLetter A_t_saidFrom A_t_saidHalf A_t_saidTo A_t_codes A_t_clauseOf A_t_codeFrom A_t_codeHalf A_t_codeTo A_t_stack A_t_facts x_t_lines A_t_newWords A_t_roundFrom A_t_roundAt A_t_roundTimes x_t_newMany x_t_rounds x_t_itFrom x_t_itTimes x_t_writtenNow x_t_picturesNow x_t_usedNow x_t_chosen x_t_fearOfChosen A_t_leastFrom A_t_rowNow x_t_changesNow x_t_left0 A_t_bornOf A_t_trainsTo A_t_trainAt x_t_trainMany x_t_leastTries x_t_firstTrained x_t_isKept, iA cI 10 A_t_facts v_t_facts, iA cI 293 A_t_now v_t_now, iA cI 16 A_t_rhymeOf v_t_rhymeOf] [oX12 A_t A_t_now A_t_aside A_t_kept A_t_rhymeOf A_t_wasRhyme A_t_wordAt x_t_wordMany A_t_tape x_t_taped x_t_place0 x_t_length0 x_t_fault x_t_number0 x_t_open x_t_codeMany x_t_waiting x_t_saidMany x_t_clauses A_t_said A_t_waitsAt A_t_saidLetter A_t_saidFrom A_t_saidHalf A_t_saidTo A_t_codes A_t_clauseOf A_t_codeFrom A_t_codeHalf A_t_codeTo A_t_stack A_t_facts x_t_lines A_t_newWords A_t_roundFrom A_t_roundAt A_t_roundTimes x_t_newMany x_t_rounds x_t_itFrom x_t_itTimes x_t_writtenNow x_t_picturesNow x_t_usedNow x_t_chosen x_t_fearOfChosen A_t_leastFrom A_t_rowNow x_t_changesNow x_t_left0 A_t_bornOf A_t_trainsTo A_t_trainAt x_t_trainMany x_t_leastTries x_t_firstTrained x_t_isKept, iA cI 10 A_t_facts o_v_t_facts, iA cI 293 A_t_now v_t_now, iA cI 16 A_t_rhymeOf v_t_rhymeOf] := by
  refine x_startV (by decide) (Nat.le_of_ble_eq_true rfl) ?_
  intro p e s m below meth c A C hr hlk hA hK hP hD hS ls hl
  have hl : lv_has ls 5 [(0, .ref A_t), (1, .int a1), (2, .int a2), (3, .int a3), (4, .int a4)] := hl
  have hx := C.1
  have hb := C.2.1
  unfold f_X12_feels at hf
  refine lv_aload_n hx hb dX12_feels_0 rfl (lv_at hl 0 rfl) ?_
  refine x_get C hK hP fd_X12_68 0 rfl rfl dX12_feels_1 ?_
  refine lv_iconst (v := 0) hx hb dX12_feels_4 (by decide) ?_
  refine lv_iload_n hx hb dX12_feels_5 rfl (lv_at hl 1 rfl) ?_
  obtain ⟨hi, hf⟩ := sI_e hf
  refine x_iast (ws' := [oX12 A_t A_t_now A_t_aside A_t_kept A_t_rhymeOf A_t_wasRhyme A_t_wordAt x_t_wordMany A_t_tape x_t_taped x_t_place0 x_t_length0 x_t_fault x_t_number0 x_t_open x_t_codeMany x_t_waiting x_t_saidMany x_t_clauses A_t_said A_t_waitsAt A_t_saidLetter A_t_saidFrom A_t_saidHalf A_t_saidTo A_t_codes A_t_clauseOf A_t_codeFrom A_t_codeHalf A_t_codeTo A_t_stack A_t_facts x_t_lines A_t_newWords A_t_roundFrom A_t_roundAt A_t_roundTimes x_t_newMany x_t_rounds x_t_itFrom x_t_itTimes x_t_writtenNow x_t_picturesNow x_t_usedNow x_t_chosen x_t_fearOfChosen A_t_leastFrom A_t_rowNow x_t_changesNow x_t_left0 A_t_bornOf A_t_trainsTo A_t_trainAt x_t_trainMany x_t_leastTries x_t_firstTrained x_t_isKept, iA cI 10 A_t_facts (upd v_t_facts (0 : Int32).toNatClampNeg a1), iA cI 293 A_t_now v_t_now, iA cI 16 A_t_rhymeOf v_t_rhymeOf]) C hK hP hD hS 1 rfl hi rfl dX12_feels_6 ?_
  intro H locs hP hD hS
  refine lv_aload_n hx hb dX12_feels_7 rfl (lv_at hl 0 rfl) ?_
  refine x_get C hK hP fd_X12_68 0 rfl rfl dX12_feels_8 ?_
  refine lv_iconst (v := 1) hx hb dX12_feels_11 (by decide) ?_
  refine lv_aload_n hx hb dX12_feels_12 rfl (lv_at hl 0 rfl) ?_
  refine x_get C hK hP fd_X12_7 0 rfl rfl dX12_feels_13 ?_
  refine lv_bipush (v := 8) hx hb dX12_feels_16 (by decide) ?_
  refine lv_iload_n hx hb dX12_feels_18 rfl (lv_at hl 1 rfl) ?_
  refine lv_iadd hx hb dX12_feels_19 ?_
  obtain ⟨hi, hf⟩ := gI_e hf
  refine x_iald C hK hP 2 rfl hi dX12_feels_20 ?_
  obtain ⟨hi, hf⟩ := sI_e hf
  refine x_iast (ws' := [oX12 A_t A_t_now A_t_aside A_t_kept A_t_rhymeOf A_t_wasRhyme A_t_wordAt x_t_wordMany A_t_tape x_t_taped x_t_place0 x_t_length0 x_t_fault x_t_number0 x_t_open x_t_codeMany x_t_waiting x_t_saidMany x_t_clauses A_t_said A_t_waitsAt A_t_saidLetter A_t_saidFrom A_t_saidHalf A_t_saidTo A_t_codes A_t_clauseOf A_t_codeFrom A_t_codeHalf A_t_codeTo A_t_stack A_t_facts x_t_lines A_t_newWords A_t_roundFrom A_t_roundAt A_t_roundTimes x_t_newMany x_t_rounds x_t_itFrom x_t_itTimes x_t_writtenNow x_t_picturesNow x_t_usedNow x_t_chosen x_t_fearOfChosen A_t_leastFrom A_t_rowNow x_t_changesNow x_t_left0 A_t_bornOf A_t_trainsTo A_t_trainAt x_t_trainMany x_t_leastTries x_t_firstTrained x_t_isKept, iA cI 10 A_t_facts (upd (upd v_t_facts (0 : Int32).toNatClampNeg a1) (1 : Int32).toNatClampNeg (v_t_now ((8 : Int32) + a1).toNatClampNeg)), iA cI 293 A_t_now v_t_now, iA cI 16 A_t_rhymeOf v_t_rhymeOf]) C hK hP hD hS 1 rfl hi rfl dX12_feels_21 ?_
  intro H locs hP hD hS
  refine lv_aload_n hx hb dX12_feels_22 rfl (lv_at hl 0 rfl) ?_
  refine x_get C hK hP fd_X12_68 0 rfl rfl dX12_feels_23 ?_
  refine lv_iconst (v := 2) hx hb dX12_feels_26 (by decide) ?_
  refine lv_iload_n hx hb dX12_feels_27 rfl (lv_at hl 2 rfl) ?_
  obtain ⟨hi, hf⟩ := sI_e hf
  refine x_iast (ws' := [oX12 A_t A_t_now A_t_aside A_t_kept A_t_rhymeOf A_t_wasRhyme A_t_wordAt x_t_wordMany A_t_tape x_t_taped x_t_place0 x_t_length0 x_t_fault x_t_number0 x_t_open x_t_codeMany x_t_waiting x_t_saidMany x_t_clauses A_t_said A_t_waitsAt A_t_saidLetter A_t_saidFrom A_t_saidHalf A_t_saidTo A_t_codes A_t_clauseOf A_t_codeFrom A_t_codeHalf A_t_codeTo A_t_stack A_t_facts x_t_lines A_t_newWords A_t_roundFrom A_t_roundAt A_t_roundTimes x_t_newMany x_t_rounds x_t_itFrom x_t_itTimes x_t_writtenNow x_t_picturesNow x_t_usedNow x_t_chosen x_t_fearOfChosen A_t_leastFrom A_t_rowNow x_t_changesNow x_t_left0 A_t_bornOf A_t_trainsTo A_t_trainAt x_t_trainMany x_t_leastTries x_t_firstTrained x_t_isKept, iA cI 10 A_t_facts (upd (upd (upd v_t_facts (0 : Int32).toNatClampNeg a1) (1 : Int32).toNatClampNeg (v_t_now ((8 : Int32) + a1).toNatClampNeg)) (2 : Int32).toNatClampNeg a2), iA cI 293 A_t_now v_t_now, iA cI 16 A_t_rhymeOf v_t_rhymeOf]) C hK hP hD hS 1 rfl hi rfl dX12_feels_28 ?_
  intro H locs hP hD hS
  refine lv_aload_n hx hb dX12_feels_29 rfl (lv_at hl 0 rfl) ?_
  refine x_get C hK hP fd_X12_68 0 rfl rfl dX12_feels_30 ?_
  refine lv_iconst (v := 3) hx hb dX12_feels_33 (by decide) ?_
  refine lv_aload_n hx hb dX12_feels_34 rfl (lv_at hl 0 rfl) ?_
  refine lv_iload_n hx hb dX12_feels_35 rfl (lv_at hl 1 rfl) ?_
  refine lv_iload_n hx hb dX12_feels_36 rfl (lv_at hl 2 rfl) ?_
  obtain ⟨r1, hc2, hf⟩ := bd1_e hf
  refine x_callVI (ws' := [oX12 A_t A_t_now A_t_aside A_t_kept A_t_rhymeOf A_t_wasRhyme A_t_wordAt x_t_wordMany A_t_tape x_t_taped x_t_place0 x_t_length0 x_t_fault x_t_number0 x_t_open x_t_codeMany x_t_waiting x_t_saidMany x_t_clauses A_t_said A_t_waitsAt A_t_saidLetter A_t_saidFrom A_t_saidHalf A_t_saidTo A_t_codes A_t_clauseOf A_t_codeFrom A_t_codeHalf A_t_codeTo A_t_stack A_t_facts x_t_lines A_t_newWords A_t_roundFrom A_t_roundAt A_t_roundTimes x_t_newMany x_t_rounds x_t_itFrom x_t_itTimes x_t_writtenNow x_t_picturesNow x_t_usedNow x_t_chosen x_t_fearOfChosen A_t_leastFrom A_t_rowNow x_t_changesNow x_t_left0 A_t_bornOf A_t_trainsTo A_t_trainAt x_t_trainMany x_t_leastTries x_t_firstTrained x_t_isKept, iA cI 10 A_t_facts (upd (upd (upd v_t_facts (0 : Int32).toNatClampNeg a1) (1 : Int32).toNatClampNeg (v_t_now ((8 : Int32) + a1).toNatClampNeg)) (2 : Int32).toNatClampNeg a2), iA cI 293 A_t_now v_t_now, iA cI 16 A_t_rhymeOf v_t_rhymeOf]) (rest := [.int (3 : Int32), .ref A_t_facts]) C hK hP hD hS hA hl mf_X12_113 (c_X12_dreadOf hc2) [0, 2] 0 12 rfl rfl rfl rfl rfl rfl rfl rfl rfl rfl (Nat.le_of_ble_eq_true rfl) ⟨Nat.le_of_ble_eq_true rfl, Nat.le_of_ble_eq_true rfl⟩ ⟨Nat.le_refl _, Nat.le_refl _⟩ dX12_feels_37 ?_
  intro H locs hP hD hS
  obtain ⟨hi, hf⟩ := sI_e hf
  refine x_iast (ws' := [oX12 A_t A_t_now A_t_aside A_t_kept A_t_rhymeOf A_t_wasRhyme A_t_wordAt x_t_wordMany A_t_tape x_t_taped x_t_place0 x_t_length0 x_t_fault x_t_number0 x_t_open x_t_codeMany x_t_waiting x_t_saidMany x_t_clauses A_t_said A_t_waitsAt A_t_saidLetter A_t_saidFrom A_t_saidHalf A_t_saidTo A_t_codes A_t_clauseOf A_t_codeFrom A_t_codeHalf A_t_codeTo A_t_stack A_t_facts x_t_lines A_t_newWords A_t_roundFrom A_t_roundAt A_t_roundTimes x_t_newMany x_t_rounds x_t_itFrom x_t_itTimes x_t_writtenNow x_t_picturesNow x_t_usedNow x_t_chosen x_t_fearOfChosen A_t_leastFrom A_t_rowNow x_t_changesNow x_t_left0 A_t_bornOf A_t_trainsTo A_t_trainAt x_t_trainMany x_t_leastTries x_t_firstTrained x_t_isKept, iA cI 10 A_t_facts (upd (upd (upd (upd v_t_facts (0 : Int32).toNatClampNeg a1) (1 : Int32).toNatClampNeg (v_t_now ((8 : Int32) + a1).toNatClampNeg)) (2 : Int32).toNatClampNeg a2) (3 : Int32).toNatClampNeg r1), iA cI 293 A_t_now v_t_now, iA cI 16 A_t_rhymeOf v_t_rhymeOf]) C hK hP hD hS 1 rfl hi rfl dX12_feels_40 ?_
  intro H locs hP hD hS
  refine lv_aload_n hx hb dX12_feels_41 rfl (lv_at hl 0 rfl) ?_
  refine x_get C hK hP fd_X12_68 0 rfl rfl dX12_feels_42 ?_
  refine lv_iconst (v := 4) hx hb dX12_feels_45 (by decide) ?_
  refine lv_aload_n hx hb dX12_feels_46 rfl (lv_at hl 0 rfl) ?_
  refine x_get C hK hP fd_X12_7 0 rfl rfl dX12_feels_47 ?_
  refine lv_sipush (v := 160) hx hb dX12_feels_50 (by decide) ?_
  refine lv_bipush (v := 16) hx hb dX12_feels_53 (by decide) ?_
  refine lv_iload_n hx hb dX12_feels_55 rfl (lv_at hl 1 rfl) ?_
  refine lv_imul hx hb dX12_feels_56 ?_
  refine lv_iadd hx hb dX12_feels_57 ?_
  refine lv_iload_n hx hb dX12_feels_58 rfl (lv_at hl 2 rfl) ?_
  refine lv_iadd hx hb dX12_feels_59 ?_
  obtain ⟨hi, hf⟩ := gI_e hf
  refine x_iald C hK hP 2 rfl hi dX12_feels_60 ?_
  obtain ⟨hi, hf⟩ := sI_e hf
  refine x_iast (ws' := [oX12 A_t A_t_now A_t_aside A_t_kept A_t_rhymeOf A_t_wasRhyme A_t_wordAt x_t_wordMany A_t_tape x_t_taped x_t_place0 x_t_length0 x_t_fault x_t_number0 x_t_open x_t_codeMany x_t_waiting x_t_saidMany x_t_clauses A_t_said A_t_waitsAt A_t_saidLetter A_t_saidFrom A_t_saidHalf A_t_saidTo A_t_codes A_t_clauseOf A_t_codeFrom A_t_codeHalf A_t_codeTo A_t_stack A_t_facts x_t_lines A_t_newWords A_t_roundFrom A_t_roundAt A_t_roundTimes x_t_newMany x_t_rounds x_t_itFrom x_t_itTimes x_t_writtenNow x_t_picturesNow x_t_usedNow x_t_chosen x_t_fearOfChosen A_t_leastFrom A_t_rowNow x_t_changesNow x_t_left0 A_t_bornOf A_t_trainsTo A_t_trainAt x_t_trainMany x_t_leastTries x_t_firstTrained x_t_isKept, iA cI 10 A_t_facts (upd (upd (upd (upd (upd v_t_facts (0 : Int32).toNatClampNeg a1) (1 : Int32).toNatClampNeg (v_t_now ((8 : Int32) + a1).toNatClampNeg)) (2 : Int32).toNatClampNeg a2) (3 : Int32).toNatClampNeg r1) (4 : Int32).toNatClampNeg (v_t_now (((160 : Int32) + ((16 : Int32) * a1)) + a2).toNatClampNeg)), iA cI 293 A_t_now v_t_now, iA cI 16 A_t_rhymeOf v_t_rhymeOf]) C hK hP hD hS 1 rfl hi rfl dX12_feels_61 ?_
  intro H locs hP hD hS
  refine lv_aload_n hx hb dX12_feels_62 rfl (lv_at hl 0 rfl) ?_
  refine x_get C hK hP fd_X12_68 0 rfl rfl dX12_feels_63 ?_
  refine lv_iconst (v := 5) hx hb dX12_feels_66 (by decide) ?_
  refine lv_aload_n hx hb dX12_feels_67 rfl (lv_at hl 0 rfl) ?_
  refine x_get C hK hP fd_X12_7 0 rfl rfl dX12_feels_68 ?_
  refine lv_bipush (v := 16) hx hb dX12_feels_71 (by decide) ?_
  refine lv_iload_n hx hb dX12_feels_73 rfl (lv_at hl 1 rfl) ?_
  refine lv_iadd hx hb dX12_feels_74 ?_
  obtain ⟨hi, hf⟩ := gI_e hf
  refine x_iald C hK hP 2 rfl hi dX12_feels_75 ?_
  obtain ⟨hi, hf⟩ := sI_e hf
  refine x_iast (ws' := [oX12 A_t A_t_now A_t_aside A_t_kept A_t_rhymeOf A_t_wasRhyme A_t_wordAt x_t_wordMany A_t_tape x_t_taped x_t_place0 x_t_length0 x_t_fault x_t_number0 x_t_open x_t_codeMany x_t_waiting x_t_saidMany x_t_clauses A_t_said A_t_waitsAt A_t_saidLetter A_t_saidFrom A_t_saidHalf A_t_saidTo A_t_codes A_t_clauseOf A_t_codeFrom A_t_codeHalf A_t_codeTo A_t_stack A_t_facts x_t_lines A_t_newWords A_t_roundFrom A_t_roundAt A_t_roundTimes x_t_newMany x_t_rounds x_t_itFrom x_t_itTimes x_t_writtenNow x_t_picturesNow x_t_usedNow x_t_chosen x_t_fearOfChosen A_t_leastFrom A_t_rowNow x_t_changesNow x_t_left0 A_t_bornOf A_t_trainsTo A_t_trainAt x_t_trainMany x_t_leastTries x_t_firstTrained x_t_isKept, iA cI 10 A_t_facts (upd (upd (upd (upd (upd (upd v_t_facts (0 : Int32).toNatClampNeg a1) (1 : Int32).toNatClampNeg (v_t_now ((8 : Int32) + a1).toNatClampNeg)) (2 : Int32).toNatClampNeg a2) (3 : Int32).toNatClampNeg r1) (4 : Int32).toNatClampNeg (v_t_now (((160 : Int32) + ((16 : Int32) * a1)) + a2).toNatClampNeg)) (5 : Int32).toNatClampNeg (v_t_now ((16 : Int32) + a1).toNatClampNeg)), iA cI 293 A_t_now v_t_now, iA cI 16 A_t_rhymeOf v_t_rhymeOf]) C hK hP hD hS 1 rfl hi rfl dX12_feels_76 ?_
  intro H locs hP hD hS
  refine lv_aload_n hx hb dX12_feels_77 rfl (lv_at hl 0 rfl) ?_
  refine x_get C hK hP fd_X12_68 0 rfl rfl dX12_feels_78 ?_
  refine lv_bipush (v := 6) hx hb dX12_feels_81 (by decide) ?_
  refine lv_aload_n hx hb dX12_feels_83 rfl (lv_at hl 0 rfl) ?_
  refine lv_iload_n hx hb dX12_feels_84 rfl (lv_at hl 1 rfl) ?_
  refine lv_iload_n hx hb dX12_feels_85 rfl (lv_at hl 2 rfl) ?_
  obtain ⟨r3, hc4, hf⟩ := bd1_e hf
  refine x_callVI (ws' := [oX12 A_t A_t_now A_t_aside A_t_kept A_t_rhymeOf A_t_wasRhyme A_t_wordAt x_t_wordMany A_t_tape x_t_taped x_t_place0 x_t_length0 x_t_fault x_t_number0 x_t_open x_t_codeMany x_t_waiting x_t_saidMany x_t_clauses A_t_said A_t_waitsAt A_t_saidLetter A_t_saidFrom A_t_saidHalf A_t_saidTo A_t_codes A_t_clauseOf A_t_codeFrom A_t_codeHalf A_t_codeTo A_t_stack A_t_facts x_t_lines A_t_newWords A_t_roundFrom A_t_roundAt A_t_roundTimes x_t_newMany x_t_rounds x_t_itFrom x_t_itTimes x_t_writtenNow x_t_picturesNow x_t_usedNow x_t_chosen x_t_fearOfChosen A_t_leastFrom A_t_rowNow x_t_changesNow x_t_left0 A_t_bornOf A_t_trainsTo A_t_trainAt x_t_trainMany x_t_leastTries x_t_firstTrained x_t_isKept, iA cI 10 A_t_facts (upd (upd (upd (upd (upd (upd v_t_facts (0 : Int32).toNatClampNeg a1) (1 : Int32).toNatClampNeg (v_t_now ((8 : Int32) + a1).toNatClampNeg)) (2 : Int32).toNatClampNeg a2) (3 : Int32).toNatClampNeg r1) (4 : Int32).toNatClampNeg (v_t_now (((160 : Int32) + ((16 : Int32) * a1)) + a2).toNatClampNeg)) (5 : Int32).toNatClampNeg (v_t_now ((16 : Int32) + a1).toNatClampNeg)), iA cI 293 A_t_now v_t_now, iA cI 16 A_t_rhymeOf v_t_rhymeOf]) (rest := [.int (6 : Int32), .ref A_t_facts]) C hK hP hD hS hA hl mf_X12_124 (c_X12_shrinking hc4) [0, 2, 3] 0 12 rfl rfl rfl rfl rfl rfl rfl rfl rfl rfl (Nat.le_of_ble_eq_true rfl) ⟨Nat.le_of_ble_eq_true rfl, Nat.le_of_ble_eq_true rfl⟩ ⟨Nat.le_refl _, Nat.le_refl _⟩ dX12_feels_86 ?_
  intro H locs hP hD hS
  obtain ⟨hi, hf⟩ := sI_e hf
  refine x_iast (ws' := [oX12 A_t A_t_now A_t_aside A_t_kept A_t_rhymeOf A_t_wasRhyme A_t_wordAt x_t_wordMany A_t_tape x_t_taped x_t_place0 x_t_length0 x_t_fault x_t_number0 x_t_open x_t_codeMany x_t_waiting x_t_saidMany x_t_clauses A_t_said A_t_waitsAt A_t_saidLetter A_t_saidFrom A_t_saidHalf A_t_saidTo A_t_codes A_t_clauseOf A_t_codeFrom A_t_codeHalf A_t_codeTo A_t_stack A_t_facts x_t_lines A_t_newWords A_t_roundFrom A_t_roundAt A_t_roundTimes x_t_newMany x_t_rounds x_t_itFrom x_t_itTimes x_t_writtenNow x_t_picturesNow x_t_usedNow x_t_chosen x_t_fearOfChosen A_t_leastFrom A_t_rowNow x_t_changesNow x_t_left0 A_t_bornOf A_t_trainsTo A_t_trainAt x_t_trainMany x_t_leastTries x_t_firstTrained x_t_isKept, iA cI 10 A_t_facts (upd (upd (upd (upd (upd (upd (upd v_t_facts (0 : Int32).toNatClampNeg a1) (1 : Int32).toNatClampNeg (v_t_now ((8 : Int32) + a1).toNatClampNeg)) (2 : Int32).toNatClampNeg a2) (3 : Int32).toNatClampNeg r1) (4 : Int32).toNatClampNeg (v_t_now (((160 : Int32) + ((16 : Int32) * a1)) + a2).toNatClampNeg)) (5 : Int32).toNatClampNeg (v_t_now ((16 : Int32) + a1).toNatClampNeg)) (6 : Int32).toNatClampNeg r3), iA cI 293 A_t_now v_t_now, iA cI 16 A_t_rhymeOf v_t_rhymeOf]) C hK hP hD hS 1 rfl hi rfl dX12_feels_89 ?_
  intro H locs hP hD hS
  refine lv_aload_n hx hb dX12_feels_90 rfl (lv_at hl 0 rfl) ?_
  refine x_get C hK hP fd_X12_68 0 rfl rfl dX12_feels_91 ?_
  refine lv_bipush (v := 7) hx hb dX12_feels_94 (by decide) ?_
  refine lv_iload_n hx hb dX12_feels_96 rfl (lv_at hl 3 rfl) ?_
  obtain ⟨hi, hf⟩ := sI_e hf
  refine x_iast (ws' := [oX12 A_t A_t_now A_t_aside A_t_kept A_t_rhymeOf A_t_wasRhyme A_t_wordAt x_t_wordMany A_t_tape x_t_taped x_t_place0 x_t_length0 x_t_fault x_t_number0 x_t_open x_t_codeMany x_t_waiting x_t_saidMany x_t_clauses A_t_said A_t_waitsAt A_t_saidLetter A_t_saidFrom A_t_saidHalf A_t_saidTo A_t_codes A_t_clauseOf A_t_codeFrom A_t_codeHalf A_t_codeTo A_t_stack A_t_facts x_t_lines A_t_newWords A_t_roundFrom A_t_roundAt A_t_roundTimes x_t_newMany x_t_rounds x_t_itFrom x_t_itTimes x_t_writtenNow x_t_picturesNow x_t_usedNow x_t_chosen x_t_fearOfChosen A_t_leastFrom A_t_rowNow x_t_changesNow x_t_left0 A_t_bornOf A_t_trainsTo A_t_trainAt x_t_trainMany x_t_leastTries x_t_firstTrained x_t_isKept, iA cI 10 A_t_facts (upd (upd (upd (upd (upd (upd (upd (upd v_t_facts (0 : Int32).toNatClampNeg a1) (1 : Int32).toNatClampNeg (v_t_now ((8 : Int32) + a1).toNatClampNeg)) (2 : Int32).toNatClampNeg a2) (3 : Int32).toNatClampNeg r1) (4 : Int32).toNatClampNeg (v_t_now (((160 : Int32) + ((16 : Int32) * a1)) + a2).toNatClampNeg)) (5 : Int32).toNatClampNeg (v_t_now ((16 : Int32) + a1).toNatClampNeg)) (6 : Int32).toNatClampNeg r3) (7 : Int32).toNatClampNeg a3), iA cI 293 A_t_now v_t_now, iA cI 16 A_t_rhymeOf v_t_rhymeOf]) C hK hP hD hS 1 rfl hi rfl dX12_feels_97 ?_
  intro H locs hP hD hS
  refine lv_aload_n hx hb dX12_feels_98 rfl (lv_at hl 0 rfl) ?_
  refine x_get C hK hP fd_X12_68 0 rfl rfl dX12_feels_99 ?_
  refine lv_bipush (v := 8) hx hb dX12_feels_102 (by decide) ?_
  refine lv_aload_n hx hb dX12_feels_104 rfl (lv_at hl 0 rfl) ?_
  refine x_get C hK hP fd_X12_7 0 rfl rfl dX12_feels_105 ?_
  refine lv_sipush (v := 291) hx hb dX12_feels_108 (by decide) ?_
  obtain ⟨hi, hf⟩ := gI_e hf
  refine x_iald C hK hP 2 rfl hi dX12_feels_111 ?_
  refine lv_bipush (v := 100) hx hb dX12_feels_112 (by decide) ?_
  obtain ⟨hz, hf⟩ := rI_e hf
  refine lv_irem hx hb dX12_feels_114 hz ?_
  obtain ⟨hi, hf⟩ := sI_e hf
  refine x_iast (ws' := [oX12 A_t A_t_now A_t_aside A_t_kept A_t_rhymeOf A_t_wasRhyme A_t_wordAt x_t_wordMany A_t_tape x_t_taped x_t_place0 x_t_length0 x_t_fault x_t_number0 x_t_open x_t_codeMany x_t_waiting x_t_saidMany x_t_clauses A_t_said A_t_waitsAt A_t_saidLetter A_t_saidFrom A_t_saidHalf A_t_saidTo A_t_codes A_t_clauseOf A_t_codeFrom A_t_codeHalf A_t_codeTo A_t_stack A_t_facts x_t_lines A_t_newWords A_t_roundFrom A_t_roundAt A_t_roundTimes x_t_newMany x_t_rounds x_t_itFrom x_t_itTimes x_t_writtenNow x_t_picturesNow x_t_usedNow x_t_chosen x_t_fearOfChosen A_t_leastFrom A_t_rowNow x_t_changesNow x_t_left0 A_t_bornOf A_t_trainsTo A_t_trainAt x_t_trainMany x_t_leastTries x_t_firstTrained x_t_isKept, iA cI 10 A_t_facts (upd (upd (upd (upd (upd (upd (upd (upd (upd v_t_facts (0 : Int32).toNatClampNeg a1) (1 : Int32).toNatClampNeg (v_t_now ((8 : Int32) + a1).toNatClampNeg)) (2 : Int32).toNatClampNeg a2) (3 : Int32).toNatClampNeg r1) (4 : Int32).toNatClampNeg (v_t_now (((160 : Int32) + ((16 : Int32) * a1)) + a2).toNatClampNeg)) (5 : Int32).toNatClampNeg (v_t_now ((16 : Int32) + a1).toNatClampNeg)) (6 : Int32).toNatClampNeg r3) (7 : Int32).toNatClampNeg a3) (8 : Int32).toNatClampNeg ((v_t_now (291 : Int32).toNatClampNeg) - (v_t_now (291 : Int32).toNatClampNeg) / (100 : Int32) * (100 : Int32))), iA cI 293 A_t_now v_t_now, iA cI 16 A_t_rhymeOf v_t_rhymeOf]) C hK hP hD hS 1 rfl hi rfl dX12_feels_115 ?_
  intro H locs hP hD hS
  refine lv_aload_n hx hb dX12_feels_116 rfl (lv_at hl 0 rfl) ?_
  refine x_get C hK hP fd_X12_68 0 rfl rfl dX12_feels_117 ?_
  refine lv_bipush (v := 9) hx hb dX12_feels_120 (by decide) ?_
  refine lv_iload hx hb dX12_feels_122 (lv_at hl 4 rfl) ?_
  obtain ⟨hi, hf⟩ := sI_e hf
  refine x_iast (ws' := [oX12 A_t A_t_now A_t_aside A_t_kept A_t_rhymeOf A_t_wasRhyme A_t_wordAt x_t_wordMany A_t_tape x_t_taped x_t_place0 x_t_length0 x_t_fault x_t_number0 x_t_open x_t_codeMany x_t_waiting x_t_saidMany x_t_clauses A_t_said A_t_waitsAt A_t_saidLetter A_t_saidFrom A_t_saidHalf A_t_saidTo A_t_codes A_t_clauseOf A_t_codeFrom A_t_codeHalf A_t_codeTo A_t_stack A_t_facts x_t_lines A_t_newWords A_t_roundFrom A_t_roundAt A_t_roundTimes x_t_newMany x_t_rounds x_t_itFrom x_t_itTimes x_t_writtenNow x_t_picturesNow x_t_usedNow x_t_chosen x_t_fearOfChosen A_t_leastFrom A_t_rowNow x_t_changesNow x_t_left0 A_t_bornOf A_t_trainsTo A_t_trainAt x_t_trainMany x_t_leastTries x_t_firstTrained x_t_isKept, iA cI 10 A_t_facts (upd (upd (upd (upd (upd (upd (upd (upd (upd (upd v_t_facts (0 : Int32).toNatClampNeg a1) (1 : Int32).toNatClampNeg (v_t_now ((8 : Int32) + a1).toNatClampNeg)) (2 : Int32).toNatClampNeg a2) (3 : Int32).toNatClampNeg r1) (4 : Int32).toNatClampNeg (v_t_now (((160 : Int32) + ((16 : Int32) * a1)) + a2).toNatClampNeg)) (5 : Int32).toNatClampNeg (v_t_now ((16 : Int32) + a1).toNatClampNeg)) (6 : Int32).toNatClampNeg r3) (7 : Int32).toNatClampNeg a3) (8 : Int32).toNatClampNeg ((v_t_now (291 : Int32).toNatClampNeg) - (v_t_now (291 : Int32).toNatClampNeg) / (100 : Int32) * (100 : Int32))) (9 : Int32).toNatClampNeg a4), iA cI 293 A_t_now v_t_now, iA cI 16 A_t_rhymeOf v_t_rhymeOf]) C hK hP hD hS 1 rfl hi rfl dX12_feels_124 ?_
  intro H locs hP hD hS
  obtain rfl := ev1 hf
  exact x_vret C hr hlk hP hD hS dX12_feels_125
def f_X12_choosesFor_b154 (a1 : Int32) (a2 : Int32) (a3 : Int32) (k18 : (Nat → Int32) → (Nat → Int32) → Int32 → Int32 → Int32 → Int32 → Option ((Nat → Int32) × (Nat → Int32) × Int32 × Int32)) (v_t_facts : (Nat → Int32)) (v_t_stack : (Nat → Int32)) (x_t_chosen : Int32) (x_t_fearOfChosen : Int32) (l4 : Int32) (l5 : Int32) : Option ((Nat → Int32) × (Nat → Int32) × Int32 × Int32) :=
  k18 v_t_facts v_t_stack x_t_chosen x_t_fearOfChosen l4 (l5 + (1 : Int32))
def f_X12_choosesFor_b138 (a1 : Int32) (a2 : Int32) (a3 : Int32) (k18 : (Nat → Int32) → (Nat → Int32) → Int32 → Int32 → Int32 → Int32 → Option ((Nat → Int32) × (Nat → Int32) × Int32 × Int32)) (v_t_facts : (Nat → Int32)) (v_t_stack : (Nat → Int32)) (x_t_chosen : Int32) (x_t_fearOfChosen : Int32) (l5 : Int32) (l6 : Int32) (l7 : Int32) : Option ((Nat → Int32) × (Nat → Int32) × Int32 × Int32) :=
  f_X12_choosesFor_b154 a1 a2 a3 k18 v_t_facts v_t_stack l5 l7 l6 l5
def f_X12_choosesFor_b18 (v_t_clauseOf : (Nat → Int32)) (v_t_codeFrom : (Nat → Int32)) (v_t_codeHalf : (Nat → Int32)) (v_t_codeTo : (Nat → Int32)) (v_t_codes : (Nat → Int32)) (v_t_now : (Nat → Int32)) (v_t_rhymeOf : (Nat → Int32)) (x_t_clauses : Int32) (a1 : Int32) (a2 : Int32) (a3 : Int32) : Nat → (Nat → Int32) → (Nat → Int32) → Int32 → Int32 → Int32 → Int32 → Option ((Nat → Int32) × (Nat → Int32) × Int32 × Int32)
  | 0, _, _, _, _, _, _ => none
  | n + 1, v_t_facts, v_t_stack, x_t_chosen, x_t_fearOfChosen, l4, l5 =>
    if (8 : Int32) ≤ l5 then
      some (v_t_facts, v_t_stack, x_t_chosen, x_t_fearOfChosen)
    else
      bd1 (f_X12_isTold v_t_now l5) (fun r1 =>
      if r1 = 0 then
        f_X12_choosesFor_b154 a1 a2 a3 (f_X12_choosesFor_b18 v_t_clauseOf v_t_codeFrom v_t_codeHalf v_t_codeTo v_t_codes v_t_now v_t_rhymeOf x_t_clauses a1 a2 a3 n) v_t_facts v_t_stack x_t_chosen x_t_fearOfChosen l4 l5
      else
        gI 293 v_t_now ((24 : Int32) + l5) (fun g2 =>
        if g2 = 0 then
          f_X12_choosesFor_b154 a1 a2 a3 (f_X12_choosesFor_b18 v_t_clauseOf v_t_codeFrom v_t_codeHalf v_t_codeTo v_t_codes v_t_now v_t_rhymeOf x_t_clauses a1 a2 a3 n) v_t_facts v_t_stack x_t_chosen x_t_fearOfChosen l4 l5
        else
          bd1 (f_X12_feels v_t_facts v_t_now v_t_rhymeOf l5 a1 a2 a3) (fun w3 =>
          bd2 (f_X12_holdsAny v_t_clauseOf v_t_codeHalf v_t_codeTo v_t_codes w3 v_t_stack x_t_clauses (120 : Int32)) (fun r4 w5 =>
          if r4 = 0 then
            bd2 (f_X12_byLaw v_t_clauseOf v_t_codeFrom v_t_codeHalf v_t_codeTo v_t_codes w3 w5 x_t_clauses (101 : Int32) (9999 : Int32) (1 : Int32)) (fun r6 w7 =>
            bd1 (f_X12_shrinking v_t_now v_t_rhymeOf l5 a1) (fun r8 =>
            bd2 (f_X12_byLaw v_t_clauseOf v_t_codeFrom v_t_codeHalf v_t_codeTo v_t_codes w3 w7 x_t_clauses (102 : Int32) (99 : Int32) (0 : Int32)) (fun r9 w10 =>
            bd1 (f_X12_min (99 : Int32) (r8 + r9)) (fun r11 =>
            if r6 = 0 then
              f_X12_choosesFor_b154 a1 a2 a3 (f_X12_choosesFor_b18 v_t_clauseOf v_t_codeFrom v_t_codeHalf v_t_codeTo v_t_codes v_t_now v_t_rhymeOf x_t_clauses a1 a2 a3 n) w3 w10 x_t_chosen x_t_fearOfChosen l4 l5
            else
              if r6 < l4 then
                f_X12_choosesFor_b154 a1 a2 a3 (f_X12_choosesFor_b18 v_t_clauseOf v_t_codeFrom v_t_codeHalf v_t_codeTo v_t_codes v_t_now v_t_rhymeOf x_t_clauses a1 a2 a3 n) w3 w10 x_t_chosen x_t_fearOfChosen l4 l5
              else
                if r6 = l4 then
                  if r11 < x_t_fearOfChosen then
                    f_X12_choosesFor_b138 a1 a2 a3 (f_X12_choosesFor_b18 v_t_clauseOf v_t_codeFrom v_t_codeHalf v_t_codeTo v_t_codes v_t_now v_t_rhymeOf x_t_clauses a1 a2 a3 n) w3 w10 x_t_chosen x_t_fearOfChosen l5 r6 r11
                  else
                    f_X12_choosesFor_b154 a1 a2 a3 (f_X12_choosesFor_b18 v_t_clauseOf v_t_codeFrom v_t_codeHalf v_t_codeTo v_t_codes v_t_now v_t_rhymeOf x_t_clauses a1 a2 a3 n) w3 w10 x_t_chosen x_t_fearOfChosen l4 l5
                else
                  f_X12_choosesFor_b138 a1 a2 a3 (f_X12_choosesFor_b18 v_t_clauseOf v_t_codeFrom v_t_codeHalf v_t_codeTo v_t_codes v_t_now v_t_rhymeOf x_t_clauses a1 a2 a3 n) w3 w10 x_t_chosen x_t_fearOfChosen l5 r6 r11))))
          else
            f_X12_choosesFor_b154 a1 a2 a3 (f_X12_choosesFor_b18 v_t_clauseOf v_t_codeFrom v_t_codeHalf v_t_codeTo v_t_codes v_t_now v_t_rhymeOf x_t_clauses a1 a2 a3 n) w3 w5 x_t_chosen x_t_fearOfChosen l4 l5))))
def f_X12_choosesFor (v_t_clauseOf : (Nat → Int32)) (v_t_codeFrom : (Nat → Int32)) (v_t_codeHalf : (Nat → Int32)) (v_t_codeTo : (Nat → Int32)) (v_t_codes : (Nat → Int32)) (v_t_facts : (Nat → Int32)) (v_t_now : (Nat → Int32)) (v_t_rhymeOf : (Nat → Int32)) (v_t_stack : (Nat → Int32)) (x_t_chosen : Int32) (x_t_clauses : Int32) (x_t_fearOfChosen : Int32) (a1 : Int32) (a2 : Int32) (a3 : Int32) : Option ((Nat → Int32) × (Nat → Int32) × Int32 × Int32) :=
  f_X12_choosesFor_b18 v_t_clauseOf v_t_codeFrom v_t_codeHalf v_t_codeTo v_t_codes v_t_now v_t_rhymeOf x_t_clauses a1 a2 a3 FU v_t_facts v_t_stack (-1 : Int32) (1000000 : Int32) (0 : Int32) (0 : Int32)
set_option maxHeartbeats 4000000 in
set_option maxRecDepth 100000 in
theorem c_X12_choosesFor {l : Launch} {D : va_G} {cI cB : ClassId} {A_t A_t_now A_t_aside A_t_kept A_t_rhymeOf A_t_wasRhyme A_t_wordAt A_t_tape A_t_said A_t_waitsAt A_t_saidLetter A_t_saidFrom A_t_saidHalf A_t_saidTo A_t_codes A_t_clauseOf A_t_codeFrom A_t_codeHalf A_t_codeTo A_t_stack A_t_facts A_t_newWords A_t_roundFrom A_t_roundAt A_t_roundTimes A_t_leastFrom A_t_rowNow A_t_bornOf A_t_trainsTo A_t_trainAt : Nat} {x_t_wordMany x_t_taped x_t_place0 x_t_length0 x_t_fault x_t_number0 x_t_open x_t_codeMany x_t_waiting x_t_saidMany x_t_clauses x_t_lines x_t_newMany x_t_rounds x_t_itFrom x_t_itTimes x_t_writtenNow x_t_picturesNow x_t_usedNow x_t_chosen x_t_fearOfChosen x_t_changesNow x_t_left0 x_t_trainMany x_t_leastTries x_t_firstTrained x_t_isKept a1 a2 a3 : Int32} {v_t_clauseOf v_t_codeFrom v_t_codeHalf v_t_codeTo v_t_codes v_t_facts v_t_now v_t_rhymeOf v_t_stack : Nat → Int32} {o_x_t_chosen o_x_t_fearOfChosen : Int32} {o_v_t_facts o_v_t_stack : Nat → Int32} (hf : f_X12_choosesFor v_t_clauseOf v_t_codeFrom v_t_codeHalf v_t_codeTo v_t_codes v_t_facts v_t_now v_t_rhymeOf v_t_stack x_t_chosen x_t_clauses x_t_fearOfChosen a1 a2 a3 = some (o_v_t_facts, o_v_t_stack, o_x_t_chosen, o_x_t_fearOfChosen)) : CtV l D cI cB yX12_choosesFor cX12_choosesFor 8 5 111 [.ref A_t, .int a1, .int a2, .int a3] [oX12 A_t A_t_now A_t_aside A_t_kept A_t_rhymeOf A_t_wasRhyme A_t_wordAt x_t_wordMany A_t_tape x_t_taped x_t_place0 x_t_length0 x_t_fault x_t_number0 x_t_open x_t_codeMany x_t_waiting x_t_saidMany x_t_clauses A_t_said A_t_waitsAt A_t_saidLetter A_t_saidFrom A_t_saidHalf A_t_saidTo A_t_codes A_t_clauseOf A_t_codeFrom A_t_codeHalf A_t_codeTo A_t_stack A_t_facts x_t_lines A_t_newWords A_t_roundFrom A_t_roundAt A_t_roundTimes x_t_newMany x_t_rounds x_t_itFrom x_t_itTimes x_t_writtenNow x_t_picturesNow x_t_usedNow x_t_chosen x_t_fearOfChosen A_t_leastFrom A_t_rowNow x_t_changesNow x_t_left0 A_t_bornOf A_t_trainsTo A_t_trainAt x_t_trainMany x_t_leastTries x_t_firstTrained x_t_isKept, iA cI 16 A_t_clauseOf v_t_clauseOf, iA cI 16 A_t_codeFrom v_t_codeFrom, iA cI 16 A_t_codeHalf v_t_codeHalf, iA cI 16 A_t_codeTo v_t_codeTo, iA cI 260 A_t_codes v_t_codes, iA cI 10 A_t_facts v_t_facts, iA cI 293 A_t_now v_t_now, iA cI 16 A_t_rhymeOf v_t_rhymeOf, iA cI 260 A_t_stack v_t_stack] [oX12 A_t A_t_now A_t_aside A_t_kept A_t_rhymeOf A_t_wasRhyme A_t_wordAt x_t_wordMany A_t_tape x_t_taped x_t_place0 x_t_length0 x_t_fault x_t_number0 x_t_open x_t_codeMany x_t_waiting x_t_saidMany x_t_clauses A_t_said A_t_waitsAt A_t_saidLetter A_t_saidFrom A_t_saidHalf A_t_saidTo A_t_codes A_t_clauseOf A_t_codeFrom A_t_codeHalf A_t_codeTo A_t_stack A_t_facts x_t_lines A_t_newWords A_t_roundFrom A_t_roundAt A_t_roundTimes x_t_newMany x_t_rounds x_t_itFrom x_t_itTimes x_t_writtenNow x_t_picturesNow x_t_usedNow o_x_t_chosen o_x_t_fearOfChosen A_t_leastFrom A_t_rowNow x_t_changesNow x_t_left0 A_t_bornOf A_t_trainsTo A_t_trainAt x_t_trainMany x_t_leastTries x_t_firstTrained x_t_isKept, iA cI 16 A_t_clauseOf v_t_clauseOf, iA cI 16 A_t_codeFrom v_t_codeFrom, iA cI 16 A_t_codeHalf v_t_codeHalf, iA cI 16 A_t_codeTo v_t_codeTo, iA cI 260 A_t_codes v_t_codes, iA cI 10 A_t_facts o_v_t_facts, iA cI 293 A_t_now v_t_now, iA cI 16 A_t_rhymeOf v_t_rhymeOf, iA cI 260 A_t_stack o_v_t_stack] := by
  refine x_startV (by decide) (Nat.le_of_ble_eq_true rfl) ?_
  intro p e s m below meth c A C hr hlk hA hK hP hD hS ls hl
  have hl : lv_has ls 8 [(0, .ref A_t), (1, .int a1), (2, .int a2), (3, .int a3)] := hl
  have hx := C.1
  have hb := C.2.1
  unfold f_X12_choosesFor at hf
  have hb_18 : ∀ (n_18 : Nat) (v_t_facts : (Nat → Int32)) (v_t_stack : (Nat → Int32)) (x_t_chosen : Int32) (x_t_fearOfChosen : Int32) (l4 : Int32) (l5 : Int32) (H : Heap) (locs : List Loc) (ls : Array Slot), lv_has ls 8 [(0, .ref A_t), (1, .int a1), (2, .int a2), (3, .int a3), (4, .int l4), (5, .int l5)] → va_P D vwCl [oX12 A_t A_t_now A_t_aside A_t_kept A_t_rhymeOf A_t_wasRhyme A_t_wordAt x_t_wordMany A_t_tape x_t_taped x_t_place0 x_t_length0 x_t_fault x_t_number0 x_t_open x_t_codeMany x_t_waiting x_t_saidMany x_t_clauses A_t_said A_t_waitsAt A_t_saidLetter A_t_saidFrom A_t_saidHalf A_t_saidTo A_t_codes A_t_clauseOf A_t_codeFrom A_t_codeHalf A_t_codeTo A_t_stack A_t_facts x_t_lines A_t_newWords A_t_roundFrom A_t_roundAt A_t_roundTimes x_t_newMany x_t_rounds x_t_itFrom x_t_itTimes x_t_writtenNow x_t_picturesNow x_t_usedNow x_t_chosen x_t_fearOfChosen A_t_leastFrom A_t_rowNow x_t_changesNow x_t_left0 A_t_bornOf A_t_trainsTo A_t_trainAt x_t_trainMany x_t_leastTries x_t_firstTrained x_t_isKept, iA cI 16 A_t_clauseOf v_t_clauseOf, iA cI 16 A_t_codeFrom v_t_codeFrom, iA cI 16 A_t_codeHalf v_t_codeHalf, iA cI 16 A_t_codeTo v_t_codeTo, iA cI 260 A_t_codes v_t_codes, iA cI 10 A_t_facts v_t_facts, iA cI 293 A_t_now v_t_now, iA cI 16 A_t_rhymeOf v_t_rhymeOf, iA cI 260 A_t_stack v_t_stack] H → va_D A [oX12 A_t A_t_now A_t_aside A_t_kept A_t_rhymeOf A_t_wasRhyme A_t_wordAt x_t_wordMany A_t_tape x_t_taped x_t_place0 x_t_length0 x_t_fault x_t_number0 x_t_open x_t_codeMany x_t_waiting x_t_saidMany x_t_clauses A_t_said A_t_waitsAt A_t_saidLetter A_t_saidFrom A_t_saidHalf A_t_saidTo A_t_codes A_t_clauseOf A_t_codeFrom A_t_codeHalf A_t_codeTo A_t_stack A_t_facts x_t_lines A_t_newWords A_t_roundFrom A_t_roundAt A_t_roundTimes x_t_newMany x_t_rounds x_t_itFrom x_t_itTimes x_t_writtenNow x_t_picturesNow x_t_usedNow x_t_chosen x_t_fearOfChosen A_t_leastFrom A_t_rowNow x_t_changesNow x_t_left0 A_t_bornOf A_t_trainsTo A_t_trainAt x_t_trainMany x_t_leastTries x_t_firstTrained x_t_isKept, iA cI 16 A_t_clauseOf v_t_clauseOf, iA cI 16 A_t_codeFrom v_t_codeFrom, iA cI 16 A_t_codeHalf v_t_codeHalf, iA cI 16 A_t_codeTo v_t_codeTo, iA cI 260 A_t_codes v_t_codes, iA cI 10 A_t_facts v_t_facts, iA cI 293 A_t_now v_t_now, iA cI 16 A_t_rhymeOf v_t_rhymeOf, iA cI 260 A_t_stack v_t_stack] → va_S A s.heap H locs → f_X12_choosesFor_b18 v_t_clauseOf v_t_codeFrom v_t_codeHalf v_t_codeTo v_t_codes v_t_now v_t_rhymeOf x_t_clauses a1 a2 a3 n_18 v_t_facts v_t_stack x_t_chosen x_t_fearOfChosen l4 l5 = some (o_v_t_facts, o_v_t_stack, o_x_t_chosen, o_x_t_fearOfChosen) → W p l e { frames := 5, cells := 0, slots := 0, locals := 111 } s m ([.ref A_t, .int a1, .int a2, .int a3] : List Value).toArray below meth c H locs 0 0 (MQ below (PoV D A [oX12 A_t A_t_now A_t_aside A_t_kept A_t_rhymeOf A_t_wasRhyme A_t_wordAt x_t_wordMany A_t_tape x_t_taped x_t_place0 x_t_length0 x_t_fault x_t_number0 x_t_open x_t_codeMany x_t_waiting x_t_saidMany x_t_clauses A_t_said A_t_waitsAt A_t_saidLetter A_t_saidFrom A_t_saidHalf A_t_saidTo A_t_codes A_t_clauseOf A_t_codeFrom A_t_codeHalf A_t_codeTo A_t_stack A_t_facts x_t_lines A_t_newWords A_t_roundFrom A_t_roundAt A_t_roundTimes x_t_newMany x_t_rounds x_t_itFrom x_t_itTimes x_t_writtenNow x_t_picturesNow x_t_usedNow o_x_t_chosen o_x_t_fearOfChosen A_t_leastFrom A_t_rowNow x_t_changesNow x_t_left0 A_t_bornOf A_t_trainsTo A_t_trainAt x_t_trainMany x_t_leastTries x_t_firstTrained x_t_isKept, iA cI 16 A_t_clauseOf v_t_clauseOf, iA cI 16 A_t_codeFrom v_t_codeFrom, iA cI 16 A_t_codeHalf v_t_codeHalf, iA cI 16 A_t_codeTo v_t_codeTo, iA cI 260 A_t_codes v_t_codes, iA cI 10 A_t_facts o_v_t_facts, iA cI 293 A_t_now v_t_now, iA cI 16 A_t_rhymeOf v_t_rhymeOf, iA cI 260 A_t_stack o_v_t_stack]) ([.ref A_t, .int a1, .int a2, .int a3] : List Value).toArray s 0 0 A) (F0 m 18 ls []) := by
    intro n_18
    induction n_18 with
    | zero =>
      intro v_t_facts v_t_stack x_t_chosen x_t_fearOfChosen l4 l5 H locs ls hl hP hD hS hf
      exact absurd hf (fun h => by rw [f_X12_choosesFor_b18] at h; cases h)
    | succ n_18 ih_18 =>
      have hb_154 : ∀ (v_t_facts : (Nat → Int32)) (v_t_stack : (Nat → Int32)) (x_t_chosen : Int32) (x_t_fearOfChosen : Int32) (l4 : Int32) (l5 : Int32) (H : Heap) (locs : List Loc) (ls : Array Slot), lv_has ls 8 [(0, .ref A_t), (1, .int a1), (2, .int a2), (3, .int a3), (4, .int l4), (5, .int l5)] → va_P D vwCl [oX12 A_t A_t_now A_t_aside A_t_kept A_t_rhymeOf A_t_wasRhyme A_t_wordAt x_t_wordMany A_t_tape x_t_taped x_t_place0 x_t_length0 x_t_fault x_t_number0 x_t_open x_t_codeMany x_t_waiting x_t_saidMany x_t_clauses A_t_said A_t_waitsAt A_t_saidLetter A_t_saidFrom A_t_saidHalf A_t_saidTo A_t_codes A_t_clauseOf A_t_codeFrom A_t_codeHalf A_t_codeTo A_t_stack A_t_facts x_t_lines A_t_newWords A_t_roundFrom A_t_roundAt A_t_roundTimes x_t_newMany x_t_rounds x_t_itFrom x_t_itTimes x_t_writtenNow x_t_picturesNow x_t_usedNow x_t_chosen x_t_fearOfChosen A_t_leastFrom A_t_rowNow x_t_changesNow x_t_left0 A_t_bornOf A_t_trainsTo A_t_trainAt x_t_trainMany x_t_leastTries x_t_firstTrained x_t_isKept, iA cI 16 A_t_clauseOf v_t_clauseOf, iA cI 16 A_t_codeFrom v_t_codeFrom, iA cI 16 A_t_codeHalf v_t_codeHalf, iA cI 16 A_t_codeTo v_t_codeTo, iA cI 260 A_t_codes v_t_codes, iA cI 10 A_t_facts v_t_facts, iA cI 293 A_t_now v_t_now, iA cI 16 A_t_rhymeOf v_t_rhymeOf, iA cI 260 A_t_stack v_t_stack] H → va_D A [oX12 A_t A_t_now A_t_aside A_t_kept A_t_rhymeOf A_t_wasRhyme A_t_wordAt x_t_wordMany A_t_tape x_t_taped x_t_place0 x_t_length0 x_t_fault x_t_number0 x_t_open x_t_codeMany x_t_waiting x_t_saidMany x_t_clauses A_t_said A_t_waitsAt A_t_saidLetter A_t_saidFrom A_t_saidHalf A_t_saidTo A_t_codes A_t_clauseOf A_t_codeFrom A_t_codeHalf A_t_codeTo A_t_stack A_t_facts x_t_lines A_t_newWords A_t_roundFrom A_t_roundAt A_t_roundTimes x_t_newMany x_t_rounds x_t_itFrom x_t_itTimes x_t_writtenNow x_t_picturesNow x_t_usedNow x_t_chosen x_t_fearOfChosen A_t_leastFrom A_t_rowNow x_t_changesNow x_t_left0 A_t_bornOf A_t_trainsTo A_t_trainAt x_t_trainMany x_t_leastTries x_t_firstTrained x_t_isKept, iA cI 16 A_t_clauseOf v_t_clauseOf, iA cI 16 A_t_codeFrom v_t_codeFrom, iA cI 16 A_t_codeHalf v_t_codeHalf, iA cI 16 A_t_codeTo v_t_codeTo, iA cI 260 A_t_codes v_t_codes, iA cI 10 A_t_facts v_t_facts, iA cI 293 A_t_now v_t_now, iA cI 16 A_t_rhymeOf v_t_rhymeOf, iA cI 260 A_t_stack v_t_stack] → va_S A s.heap H locs → f_X12_choosesFor_b154 a1 a2 a3 (f_X12_choosesFor_b18 v_t_clauseOf v_t_codeFrom v_t_codeHalf v_t_codeTo v_t_codes v_t_now v_t_rhymeOf x_t_clauses a1 a2 a3 n_18) v_t_facts v_t_stack x_t_chosen x_t_fearOfChosen l4 l5 = some (o_v_t_facts, o_v_t_stack, o_x_t_chosen, o_x_t_fearOfChosen) → W p l e { frames := 5, cells := 0, slots := 0, locals := 111 } s m ([.ref A_t, .int a1, .int a2, .int a3] : List Value).toArray below meth c H locs 0 0 (MQ below (PoV D A [oX12 A_t A_t_now A_t_aside A_t_kept A_t_rhymeOf A_t_wasRhyme A_t_wordAt x_t_wordMany A_t_tape x_t_taped x_t_place0 x_t_length0 x_t_fault x_t_number0 x_t_open x_t_codeMany x_t_waiting x_t_saidMany x_t_clauses A_t_said A_t_waitsAt A_t_saidLetter A_t_saidFrom A_t_saidHalf A_t_saidTo A_t_codes A_t_clauseOf A_t_codeFrom A_t_codeHalf A_t_codeTo A_t_stack A_t_facts x_t_lines A_t_newWords A_t_roundFrom A_t_roundAt A_t_roundTimes x_t_newMany x_t_rounds x_t_itFrom x_t_itTimes x_t_writtenNow x_t_picturesNow x_t_usedNow o_x_t_chosen o_x_t_fearOfChosen A_t_leastFrom A_t_rowNow x_t_changesNow x_t_left0 A_t_bornOf A_t_trainsTo A_t_trainAt x_t_trainMany x_t_leastTries x_t_firstTrained x_t_isKept, iA cI 16 A_t_clauseOf v_t_clauseOf, iA cI 16 A_t_codeFrom v_t_codeFrom, iA cI 16 A_t_codeHalf v_t_codeHalf, iA cI 16 A_t_codeTo v_t_codeTo, iA cI 260 A_t_codes v_t_codes, iA cI 10 A_t_facts o_v_t_facts, iA cI 293 A_t_now v_t_now, iA cI 16 A_t_rhymeOf v_t_rhymeOf, iA cI 260 A_t_stack o_v_t_stack]) ([.ref A_t, .int a1, .int a2, .int a3] : List Value).toArray s 0 0 A) (F0 m 154 ls []) := by
        intro v_t_facts v_t_stack x_t_chosen x_t_fearOfChosen l4 l5 H locs ls hl hP hD hS hf
        unfold f_X12_choosesFor_b154 at hf
        refine lv_iinc (v := (l5 + (1 : Int32))) (lv' := [(5, .int (l5 + (1 : Int32))), (0, .ref A_t), (1, .int a1), (2, .int a2), (3, .int a3), (4, .int l4)]) hx hb dX12_choosesFor_154 hl (k := 5) rfl rfl (by decide) rfl (fun ls hl => ?_)
        refine lv_goto (tgt := 18) hx hb dX12_choosesFor_157 (by decide) ?_
        exact ih_18 v_t_facts v_t_stack x_t_chosen x_t_fearOfChosen l4 (l5 + (1 : Int32)) _ _ ls (lv_sub hl [1, 2, 3, 4, 5, 0] rfl) hP hD hS hf
      have hb_138 : ∀ (v_t_facts : (Nat → Int32)) (v_t_stack : (Nat → Int32)) (x_t_chosen : Int32) (x_t_fearOfChosen : Int32) (l5 : Int32) (l6 : Int32) (l7 : Int32) (H : Heap) (locs : List Loc) (ls : Array Slot), lv_has ls 8 [(0, .ref A_t), (1, .int a1), (2, .int a2), (3, .int a3), (5, .int l5), (6, .int l6), (7, .int l7)] → va_P D vwCl [oX12 A_t A_t_now A_t_aside A_t_kept A_t_rhymeOf A_t_wasRhyme A_t_wordAt x_t_wordMany A_t_tape x_t_taped x_t_place0 x_t_length0 x_t_fault x_t_number0 x_t_open x_t_codeMany x_t_waiting x_t_saidMany x_t_clauses A_t_said A_t_waitsAt A_t_saidLetter A_t_saidFrom A_t_saidHalf A_t_saidTo A_t_codes A_t_clauseOf A_t_codeFrom A_t_codeHalf A_t_codeTo A_t_stack A_t_facts x_t_lines A_t_newWords A_t_roundFrom A_t_roundAt A_t_roundTimes x_t_newMany x_t_rounds x_t_itFrom x_t_itTimes x_t_writtenNow x_t_picturesNow x_t_usedNow x_t_chosen x_t_fearOfChosen A_t_leastFrom A_t_rowNow x_t_changesNow x_t_left0 A_t_bornOf A_t_trainsTo A_t_trainAt x_t_trainMany x_t_leastTries x_t_firstTrained x_t_isKept, iA cI 16 A_t_clauseOf v_t_clauseOf, iA cI 16 A_t_codeFrom v_t_codeFrom, iA cI 16 A_t_codeHalf v_t_codeHalf, iA cI 16 A_t_codeTo v_t_codeTo, iA cI 260 A_t_codes v_t_codes, iA cI 10 A_t_facts v_t_facts, iA cI 293 A_t_now v_t_now, iA cI 16 A_t_rhymeOf v_t_rhymeOf, iA cI 260 A_t_stack v_t_stack] H → va_D A [oX12 A_t A_t_now A_t_aside A_t_kept A_t_rhymeOf A_t_wasRhyme A_t_wordAt x_t_wordMany A_t_tape x_t_taped x_t_place0 x_t_length0 x_t_fault x_t_number0 x_t_open x_t_codeMany x_t_waiting x_t_saidMany x_t_clauses A_t_said A_t_waitsAt A_t_saidLetter A_t_saidFrom A_t_saidHalf A_t_saidTo A_t_codes A_t_clauseOf A_t_codeFrom A_t_codeHalf A_t_codeTo A_t_stack A_t_facts x_t_lines A_t_newWords A_t_roundFrom A_t_roundAt A_t_roundTimes x_t_newMany x_t_rounds x_t_itFrom x_t_itTimes x_t_writtenNow x_t_picturesNow x_t_usedNow x_t_chosen x_t_fearOfChosen A_t_leastFrom A_t_rowNow x_t_changesNow x_t_left0 A_t_bornOf A_t_trainsTo A_t_trainAt x_t_trainMany x_t_leastTries x_t_firstTrained x_t_isKept, iA cI 16 A_t_clauseOf v_t_clauseOf, iA cI 16 A_t_codeFrom v_t_codeFrom, iA cI 16 A_t_codeHalf v_t_codeHalf, iA cI 16 A_t_codeTo v_t_codeTo, iA cI 260 A_t_codes v_t_codes, iA cI 10 A_t_facts v_t_facts, iA cI 293 A_t_now v_t_now, iA cI 16 A_t_rhymeOf v_t_rhymeOf, iA cI 260 A_t_stack v_t_stack] → va_S A s.heap H locs → f_X12_choosesFor_b138 a1 a2 a3 (f_X12_choosesFor_b18 v_t_clauseOf v_t_codeFrom v_t_codeHalf v_t_codeTo v_t_codes v_t_now v_t_rhymeOf x_t_clauses a1 a2 a3 n_18) v_t_facts v_t_stack x_t_chosen x_t_fearOfChosen l5 l6 l7 = some (o_v_t_facts, o_v_t_stack, o_x_t_chosen, o_x_t_fearOfChosen) → W p l e { frames := 5, cells := 0, slots := 0, locals := 111 } s m ([.ref A_t, .int a1, .int a2, .int a3] : List Value).toArray below meth c H locs 0 0 (MQ below (PoV D A [oX12 A_t A_t_now A_t_aside A_t_kept A_t_rhymeOf A_t_wasRhyme A_t_wordAt x_t_wordMany A_t_tape x_t_taped x_t_place0 x_t_length0 x_t_fault x_t_number0 x_t_open x_t_codeMany x_t_waiting x_t_saidMany x_t_clauses A_t_said A_t_waitsAt A_t_saidLetter A_t_saidFrom A_t_saidHalf A_t_saidTo A_t_codes A_t_clauseOf A_t_codeFrom A_t_codeHalf A_t_codeTo A_t_stack A_t_facts x_t_lines A_t_newWords A_t_roundFrom A_t_roundAt A_t_roundTimes x_t_newMany x_t_rounds x_t_itFrom x_t_itTimes x_t_writtenNow x_t_picturesNow x_t_usedNow o_x_t_chosen o_x_t_fearOfChosen A_t_leastFrom A_t_rowNow x_t_changesNow x_t_left0 A_t_bornOf A_t_trainsTo A_t_trainAt x_t_trainMany x_t_leastTries x_t_firstTrained x_t_isKept, iA cI 16 A_t_clauseOf v_t_clauseOf, iA cI 16 A_t_codeFrom v_t_codeFrom, iA cI 16 A_t_codeHalf v_t_codeHalf, iA cI 16 A_t_codeTo v_t_codeTo, iA cI 260 A_t_codes v_t_codes, iA cI 10 A_t_facts o_v_t_facts, iA cI 293 A_t_now v_t_now, iA cI 16 A_t_rhymeOf v_t_rhymeOf, iA cI 260 A_t_stack o_v_t_stack]) ([.ref A_t, .int a1, .int a2, .int a3] : List Value).toArray s 0 0 A) (F0 m 138 ls []) := by
        intro v_t_facts v_t_stack x_t_chosen x_t_fearOfChosen l5 l6 l7 H locs ls hl hP hD hS hf
        unfold f_X12_choosesFor_b138 at hf
        refine lv_iload hx hb dX12_choosesFor_138 (lv_at hl 5 rfl) ?_
        refine lv_istore (lv' := [(4, .int l6), (0, .ref A_t), (1, .int a1), (2, .int a2), (3, .int a3), (5, .int l5), (6, .int l6), (7, .int l7)]) hx hb dX12_choosesFor_140 hl (by decide) rfl (fun ls hl => ?_)
        refine lv_aload_n hx hb dX12_choosesFor_142 rfl (lv_at hl 1 rfl) ?_
        refine lv_iload hx hb dX12_choosesFor_143 (lv_at hl 5 rfl) ?_
        refine x_put (ws' := [oX12 A_t A_t_now A_t_aside A_t_kept A_t_rhymeOf A_t_wasRhyme A_t_wordAt x_t_wordMany A_t_tape x_t_taped x_t_place0 x_t_length0 x_t_fault x_t_number0 x_t_open x_t_codeMany x_t_waiting x_t_saidMany x_t_clauses A_t_said A_t_waitsAt A_t_saidLetter A_t_saidFrom A_t_saidHalf A_t_saidTo A_t_codes A_t_clauseOf A_t_codeFrom A_t_codeHalf A_t_codeTo A_t_stack A_t_facts x_t_lines A_t_newWords A_t_roundFrom A_t_roundAt A_t_roundTimes x_t_newMany x_t_rounds x_t_itFrom x_t_itTimes x_t_writtenNow x_t_picturesNow x_t_usedNow l5 x_t_fearOfChosen A_t_leastFrom A_t_rowNow x_t_changesNow x_t_left0 A_t_bornOf A_t_trainsTo A_t_trainAt x_t_trainMany x_t_leastTries x_t_firstTrained x_t_isKept, iA cI 16 A_t_clauseOf v_t_clauseOf, iA cI 16 A_t_codeFrom v_t_codeFrom, iA cI 16 A_t_codeHalf v_t_codeHalf, iA cI 16 A_t_codeTo v_t_codeTo, iA cI 260 A_t_codes v_t_codes, iA cI 10 A_t_facts v_t_facts, iA cI 293 A_t_now v_t_now, iA cI 16 A_t_rhymeOf v_t_rhymeOf, iA cI 260 A_t_stack v_t_stack]) C hK hP hD hS fp_X12_303 0 rfl rfl rfl (Nat.le_of_ble_eq_true rfl) rfl dX12_choosesFor_145 ?_
        intro H locs hP hD hS
        refine lv_aload_n hx hb dX12_choosesFor_148 rfl (lv_at hl 1 rfl) ?_
        refine lv_iload hx hb dX12_choosesFor_149 (lv_at hl 7 rfl) ?_
        refine x_put (ws' := [oX12 A_t A_t_now A_t_aside A_t_kept A_t_rhymeOf A_t_wasRhyme A_t_wordAt x_t_wordMany A_t_tape x_t_taped x_t_place0 x_t_length0 x_t_fault x_t_number0 x_t_open x_t_codeMany x_t_waiting x_t_saidMany x_t_clauses A_t_said A_t_waitsAt A_t_saidLetter A_t_saidFrom A_t_saidHalf A_t_saidTo A_t_codes A_t_clauseOf A_t_codeFrom A_t_codeHalf A_t_codeTo A_t_stack A_t_facts x_t_lines A_t_newWords A_t_roundFrom A_t_roundAt A_t_roundTimes x_t_newMany x_t_rounds x_t_itFrom x_t_itTimes x_t_writtenNow x_t_picturesNow x_t_usedNow l5 l7 A_t_leastFrom A_t_rowNow x_t_changesNow x_t_left0 A_t_bornOf A_t_trainsTo A_t_trainAt x_t_trainMany x_t_leastTries x_t_firstTrained x_t_isKept, iA cI 16 A_t_clauseOf v_t_clauseOf, iA cI 16 A_t_codeFrom v_t_codeFrom, iA cI 16 A_t_codeHalf v_t_codeHalf, iA cI 16 A_t_codeTo v_t_codeTo, iA cI 260 A_t_codes v_t_codes, iA cI 10 A_t_facts v_t_facts, iA cI 293 A_t_now v_t_now, iA cI 16 A_t_rhymeOf v_t_rhymeOf, iA cI 260 A_t_stack v_t_stack]) C hK hP hD hS fp_X12_307 0 rfl rfl rfl (Nat.le_of_ble_eq_true rfl) rfl dX12_choosesFor_151 ?_
        intro H locs hP hD hS
        exact hb_154 v_t_facts v_t_stack l5 l7 l6 l5 _ _ ls (lv_sub hl [1, 2, 3, 4, 0, 5] rfl) hP hD hS hf
      intro v_t_facts v_t_stack x_t_chosen x_t_fearOfChosen l4 l5 H locs ls hl hP hD hS hf
      rw [f_X12_choosesFor_b18] at hf
      refine lv_iload hx hb dX12_choosesFor_18 (lv_at hl 5 rfl) ?_
      refine lv_bipush (v := 8) hx hb dX12_choosesFor_20 (by decide) ?_
      refine lv_icmp_ge (tgt := 160) hx hb dX12_choosesFor_22 (by decide) (fun q => ?_) (fun q => ?_)
      · have hf := if_t q hf
        obtain ⟨rfl, rfl, rfl, rfl⟩ := ev4 hf
        exact x_vret C hr hlk hP hD hS dX12_choosesFor_160
      · have hf := if_f q hf
        refine lv_aload_n hx hb dX12_choosesFor_25 rfl (lv_at hl 0 rfl) ?_
        refine lv_iload hx hb dX12_choosesFor_26 (lv_at hl 5 rfl) ?_
        obtain ⟨r1, hc2, hf⟩ := bd1_e hf
        refine x_callVI (ws' := [oX12 A_t A_t_now A_t_aside A_t_kept A_t_rhymeOf A_t_wasRhyme A_t_wordAt x_t_wordMany A_t_tape x_t_taped x_t_place0 x_t_length0 x_t_fault x_t_number0 x_t_open x_t_codeMany x_t_waiting x_t_saidMany x_t_clauses A_t_said A_t_waitsAt A_t_saidLetter A_t_saidFrom A_t_saidHalf A_t_saidTo A_t_codes A_t_clauseOf A_t_codeFrom A_t_codeHalf A_t_codeTo A_t_stack A_t_facts x_t_lines A_t_newWords A_t_roundFrom A_t_roundAt A_t_roundTimes x_t_newMany x_t_rounds x_t_itFrom x_t_itTimes x_t_writtenNow x_t_picturesNow x_t_usedNow x_t_chosen x_t_fearOfChosen A_t_leastFrom A_t_rowNow x_t_changesNow x_t_left0 A_t_bornOf A_t_trainsTo A_t_trainAt x_t_trainMany x_t_leastTries x_t_firstTrained x_t_isKept, iA cI 16 A_t_clauseOf v_t_clauseOf, iA cI 16 A_t_codeFrom v_t_codeFrom, iA cI 16 A_t_codeHalf v_t_codeHalf, iA cI 16 A_t_codeTo v_t_codeTo, iA cI 260 A_t_codes v_t_codes, iA cI 10 A_t_facts v_t_facts, iA cI 293 A_t_now v_t_now, iA cI 16 A_t_rhymeOf v_t_rhymeOf, iA cI 260 A_t_stack v_t_stack]) (rest := []) C hK hP hD hS hA hl mf_X12_109 (c_X12_isTold hc2) [0, 7] 0 12 rfl rfl rfl rfl rfl rfl rfl rfl rfl rfl (Nat.le_of_ble_eq_true rfl) ⟨Nat.le_of_ble_eq_true rfl, Nat.le_of_ble_eq_true rfl⟩ ⟨Nat.le_refl _, Nat.le_refl _⟩ dX12_choosesFor_28 ?_
        intro H locs hP hD hS
        refine lv_if_eq (tgt := 154) hx hb dX12_choosesFor_31 (by decide) (fun q => ?_) (fun q => ?_)
        · have hf := if_t q hf
          exact hb_154 v_t_facts v_t_stack x_t_chosen x_t_fearOfChosen l4 l5 _ _ ls (lv_sub hl [0, 1, 2, 3, 4, 5] rfl) hP hD hS hf
        · have hf := if_f q hf
          refine lv_aload_n hx hb dX12_choosesFor_34 rfl (lv_at hl 0 rfl) ?_
          refine x_get C hK hP fd_X12_7 0 rfl rfl dX12_choosesFor_35 ?_
          refine lv_bipush (v := 24) hx hb dX12_choosesFor_38 (by decide) ?_
          refine lv_iload hx hb dX12_choosesFor_40 (lv_at hl 5 rfl) ?_
          refine lv_iadd hx hb dX12_choosesFor_42 ?_
          obtain ⟨hi, hf⟩ := gI_e hf
          refine x_iald C hK hP 7 rfl hi dX12_choosesFor_43 ?_
          refine lv_if_ne (tgt := 50) hx hb dX12_choosesFor_44 (by decide) (fun q => ?_) (fun q => ?_)
          · have hf := if_f q hf
            refine lv_aload_n hx hb dX12_choosesFor_50 rfl (lv_at hl 0 rfl) ?_
            refine lv_iload hx hb dX12_choosesFor_51 (lv_at hl 5 rfl) ?_
            refine lv_iload_n hx hb dX12_choosesFor_53 rfl (lv_at hl 1 rfl) ?_
            refine lv_iload_n hx hb dX12_choosesFor_54 rfl (lv_at hl 2 rfl) ?_
            refine lv_iload_n hx hb dX12_choosesFor_55 rfl (lv_at hl 3 rfl) ?_
            obtain ⟨w3, hc4, hf⟩ := bd1_e hf
            refine x_callVV (ws' := [oX12 A_t A_t_now A_t_aside A_t_kept A_t_rhymeOf A_t_wasRhyme A_t_wordAt x_t_wordMany A_t_tape x_t_taped x_t_place0 x_t_length0 x_t_fault x_t_number0 x_t_open x_t_codeMany x_t_waiting x_t_saidMany x_t_clauses A_t_said A_t_waitsAt A_t_saidLetter A_t_saidFrom A_t_saidHalf A_t_saidTo A_t_codes A_t_clauseOf A_t_codeFrom A_t_codeHalf A_t_codeTo A_t_stack A_t_facts x_t_lines A_t_newWords A_t_roundFrom A_t_roundAt A_t_roundTimes x_t_newMany x_t_rounds x_t_itFrom x_t_itTimes x_t_writtenNow x_t_picturesNow x_t_usedNow x_t_chosen x_t_fearOfChosen A_t_leastFrom A_t_rowNow x_t_changesNow x_t_left0 A_t_bornOf A_t_trainsTo A_t_trainAt x_t_trainMany x_t_leastTries x_t_firstTrained x_t_isKept, iA cI 16 A_t_clauseOf v_t_clauseOf, iA cI 16 A_t_codeFrom v_t_codeFrom, iA cI 16 A_t_codeHalf v_t_codeHalf, iA cI 16 A_t_codeTo v_t_codeTo, iA cI 260 A_t_codes v_t_codes, iA cI 10 A_t_facts w3, iA cI 293 A_t_now v_t_now, iA cI 16 A_t_rhymeOf v_t_rhymeOf, iA cI 260 A_t_stack v_t_stack]) (rest := []) C hK hP hD hS hA hl mf_X12_310 (c_X12_feels hc4) [0, 6, 7, 8] 0 12 rfl rfl rfl rfl rfl rfl rfl rfl rfl rfl (Nat.le_of_ble_eq_true rfl) ⟨Nat.le_of_ble_eq_true rfl, Nat.le_of_ble_eq_true rfl⟩ ⟨Nat.le_refl _, Nat.le_refl _⟩ dX12_choosesFor_56 ?_
            intro H locs hP hD hS
            refine lv_aload_n hx hb dX12_choosesFor_59 rfl (lv_at hl 0 rfl) ?_
            refine lv_bipush (v := 120) hx hb dX12_choosesFor_60 (by decide) ?_
            obtain ⟨r5, w6, hc7, hf⟩ := bd2_e hf
            refine x_callVI (ws' := [oX12 A_t A_t_now A_t_aside A_t_kept A_t_rhymeOf A_t_wasRhyme A_t_wordAt x_t_wordMany A_t_tape x_t_taped x_t_place0 x_t_length0 x_t_fault x_t_number0 x_t_open x_t_codeMany x_t_waiting x_t_saidMany x_t_clauses A_t_said A_t_waitsAt A_t_saidLetter A_t_saidFrom A_t_saidHalf A_t_saidTo A_t_codes A_t_clauseOf A_t_codeFrom A_t_codeHalf A_t_codeTo A_t_stack A_t_facts x_t_lines A_t_newWords A_t_roundFrom A_t_roundAt A_t_roundTimes x_t_newMany x_t_rounds x_t_itFrom x_t_itTimes x_t_writtenNow x_t_picturesNow x_t_usedNow x_t_chosen x_t_fearOfChosen A_t_leastFrom A_t_rowNow x_t_changesNow x_t_left0 A_t_bornOf A_t_trainsTo A_t_trainAt x_t_trainMany x_t_leastTries x_t_firstTrained x_t_isKept, iA cI 16 A_t_clauseOf v_t_clauseOf, iA cI 16 A_t_codeFrom v_t_codeFrom, iA cI 16 A_t_codeHalf v_t_codeHalf, iA cI 16 A_t_codeTo v_t_codeTo, iA cI 260 A_t_codes v_t_codes, iA cI 10 A_t_facts w3, iA cI 293 A_t_now v_t_now, iA cI 16 A_t_rhymeOf v_t_rhymeOf, iA cI 260 A_t_stack w6]) (rest := []) C hK hP hD hS hA hl mf_X12_314 (c_X12_holdsAny hc7) [0, 1, 3, 4, 5, 6, 9] 0 12 rfl rfl rfl rfl rfl rfl rfl rfl rfl rfl (Nat.le_of_ble_eq_true rfl) ⟨Nat.le_of_ble_eq_true rfl, Nat.le_of_ble_eq_true rfl⟩ ⟨Nat.le_refl _, Nat.le_refl _⟩ dX12_choosesFor_62 ?_
            intro H locs hP hD hS
            refine lv_if_eq (tgt := 71) hx hb dX12_choosesFor_65 (by decide) (fun q => ?_) (fun q => ?_)
            · have hf := if_t q hf
              refine lv_aload_n hx hb dX12_choosesFor_71 rfl (lv_at hl 0 rfl) ?_
              refine lv_bipush (v := 101) hx hb dX12_choosesFor_72 (by decide) ?_
              refine lv_sipush (v := 9999) hx hb dX12_choosesFor_74 (by decide) ?_
              refine lv_iconst (v := 1) hx hb dX12_choosesFor_77 (by decide) ?_
              obtain ⟨r8, w9, hc10, hf⟩ := bd2_e hf
              refine x_callVI (ws' := [oX12 A_t A_t_now A_t_aside A_t_kept A_t_rhymeOf A_t_wasRhyme A_t_wordAt x_t_wordMany A_t_tape x_t_taped x_t_place0 x_t_length0 x_t_fault x_t_number0 x_t_open x_t_codeMany x_t_waiting x_t_saidMany x_t_clauses A_t_said A_t_waitsAt A_t_saidLetter A_t_saidFrom A_t_saidHalf A_t_saidTo A_t_codes A_t_clauseOf A_t_codeFrom A_t_codeHalf A_t_codeTo A_t_stack A_t_facts x_t_lines A_t_newWords A_t_roundFrom A_t_roundAt A_t_roundTimes x_t_newMany x_t_rounds x_t_itFrom x_t_itTimes x_t_writtenNow x_t_picturesNow x_t_usedNow x_t_chosen x_t_fearOfChosen A_t_leastFrom A_t_rowNow x_t_changesNow x_t_left0 A_t_bornOf A_t_trainsTo A_t_trainAt x_t_trainMany x_t_leastTries x_t_firstTrained x_t_isKept, iA cI 16 A_t_clauseOf v_t_clauseOf, iA cI 16 A_t_codeFrom v_t_codeFrom, iA cI 16 A_t_codeHalf v_t_codeHalf, iA cI 16 A_t_codeTo v_t_codeTo, iA cI 260 A_t_codes v_t_codes, iA cI 10 A_t_facts w3, iA cI 293 A_t_now v_t_now, iA cI 16 A_t_rhymeOf v_t_rhymeOf, iA cI 260 A_t_stack w9]) (rest := []) C hK hP hD hS hA hl mf_X12_317 (c_X12_byLaw hc10) [0, 1, 2, 3, 4, 5, 6, 9] 0 12 rfl rfl rfl rfl rfl rfl rfl rfl rfl rfl (Nat.le_of_ble_eq_true rfl) ⟨Nat.le_of_ble_eq_true rfl, Nat.le_of_ble_eq_true rfl⟩ ⟨Nat.le_refl _, Nat.le_refl _⟩ dX12_choosesFor_78 ?_
              intro H locs hP hD hS
              refine lv_istore (lv' := [(6, .int r8), (0, .ref A_t), (1, .int a1), (2, .int a2), (3, .int a3), (4, .int l4), (5, .int l5)]) hx hb dX12_choosesFor_81 hl (by decide) rfl (fun ls hl => ?_)
              refine lv_bipush (v := 99) hx hb dX12_choosesFor_83 (by decide) ?_
              refine lv_aload_n hx hb dX12_choosesFor_85 rfl (lv_at hl 1 rfl) ?_
              refine lv_iload hx hb dX12_choosesFor_86 (lv_at hl 6 rfl) ?_
              refine lv_iload_n hx hb dX12_choosesFor_88 rfl (lv_at hl 2 rfl) ?_
              obtain ⟨r11, hc12, hf⟩ := bd1_e hf
              refine x_callVI (ws' := [oX12 A_t A_t_now A_t_aside A_t_kept A_t_rhymeOf A_t_wasRhyme A_t_wordAt x_t_wordMany A_t_tape x_t_taped x_t_place0 x_t_length0 x_t_fault x_t_number0 x_t_open x_t_codeMany x_t_waiting x_t_saidMany x_t_clauses A_t_said A_t_waitsAt A_t_saidLetter A_t_saidFrom A_t_saidHalf A_t_saidTo A_t_codes A_t_clauseOf A_t_codeFrom A_t_codeHalf A_t_codeTo A_t_stack A_t_facts x_t_lines A_t_newWords A_t_roundFrom A_t_roundAt A_t_roundTimes x_t_newMany x_t_rounds x_t_itFrom x_t_itTimes x_t_writtenNow x_t_picturesNow x_t_usedNow x_t_chosen x_t_fearOfChosen A_t_leastFrom A_t_rowNow x_t_changesNow x_t_left0 A_t_bornOf A_t_trainsTo A_t_trainAt x_t_trainMany x_t_leastTries x_t_firstTrained x_t_isKept, iA cI 16 A_t_clauseOf v_t_clauseOf, iA cI 16 A_t_codeFrom v_t_codeFrom, iA cI 16 A_t_codeHalf v_t_codeHalf, iA cI 16 A_t_codeTo v_t_codeTo, iA cI 260 A_t_codes v_t_codes, iA cI 10 A_t_facts w3, iA cI 293 A_t_now v_t_now, iA cI 16 A_t_rhymeOf v_t_rhymeOf, iA cI 260 A_t_stack w9]) (rest := [.int (99 : Int32)]) C hK hP hD hS hA hl mf_X12_124 (c_X12_shrinking hc12) [0, 7, 8] 0 12 rfl rfl rfl rfl rfl rfl rfl rfl rfl rfl (Nat.le_of_ble_eq_true rfl) ⟨Nat.le_of_ble_eq_true rfl, Nat.le_of_ble_eq_true rfl⟩ ⟨Nat.le_refl _, Nat.le_refl _⟩ dX12_choosesFor_89 ?_
              intro H locs hP hD hS
              refine lv_aload_n hx hb dX12_choosesFor_92 rfl (lv_at hl 1 rfl) ?_
              refine lv_bipush (v := 102) hx hb dX12_choosesFor_93 (by decide) ?_
              refine lv_bipush (v := 99) hx hb dX12_choosesFor_95 (by decide) ?_
              refine lv_iconst (v := 0) hx hb dX12_choosesFor_97 (by decide) ?_
              obtain ⟨r13, w14, hc15, hf⟩ := bd2_e hf
              refine x_callVI (ws' := [oX12 A_t A_t_now A_t_aside A_t_kept A_t_rhymeOf A_t_wasRhyme A_t_wordAt x_t_wordMany A_t_tape x_t_taped x_t_place0 x_t_length0 x_t_fault x_t_number0 x_t_open x_t_codeMany x_t_waiting x_t_saidMany x_t_clauses A_t_said A_t_waitsAt A_t_saidLetter A_t_saidFrom A_t_saidHalf A_t_saidTo A_t_codes A_t_clauseOf A_t_codeFrom A_t_codeHalf A_t_codeTo A_t_stack A_t_facts x_t_lines A_t_newWords A_t_roundFrom A_t_roundAt A_t_roundTimes x_t_newMany x_t_rounds x_t_itFrom x_t_itTimes x_t_writtenNow x_t_picturesNow x_t_usedNow x_t_chosen x_t_fearOfChosen A_t_leastFrom A_t_rowNow x_t_changesNow x_t_left0 A_t_bornOf A_t_trainsTo A_t_trainAt x_t_trainMany x_t_leastTries x_t_firstTrained x_t_isKept, iA cI 16 A_t_clauseOf v_t_clauseOf, iA cI 16 A_t_codeFrom v_t_codeFrom, iA cI 16 A_t_codeHalf v_t_codeHalf, iA cI 16 A_t_codeTo v_t_codeTo, iA cI 260 A_t_codes v_t_codes, iA cI 10 A_t_facts w3, iA cI 293 A_t_now v_t_now, iA cI 16 A_t_rhymeOf v_t_rhymeOf, iA cI 260 A_t_stack w14]) (rest := [.int r11, .int (99 : Int32)]) C hK hP hD hS hA hl mf_X12_317 (c_X12_byLaw hc15) [0, 1, 2, 3, 4, 5, 6, 9] 0 12 rfl rfl rfl rfl rfl rfl rfl rfl rfl rfl (Nat.le_of_ble_eq_true rfl) ⟨Nat.le_of_ble_eq_true rfl, Nat.le_of_ble_eq_true rfl⟩ ⟨Nat.le_refl _, Nat.le_refl _⟩ dX12_choosesFor_98 ?_
              intro H locs hP hD hS
              refine lv_iadd hx hb dX12_choosesFor_101 ?_
              obtain ⟨r16, hc17, hf⟩ := bd1_e hf
              refine x_callSI (ws' := [oX12 A_t A_t_now A_t_aside A_t_kept A_t_rhymeOf A_t_wasRhyme A_t_wordAt x_t_wordMany A_t_tape x_t_taped x_t_place0 x_t_length0 x_t_fault x_t_number0 x_t_open x_t_codeMany x_t_waiting x_t_saidMany x_t_clauses A_t_said A_t_waitsAt A_t_saidLetter A_t_saidFrom A_t_saidHalf A_t_saidTo A_t_codes A_t_clauseOf A_t_codeFrom A_t_codeHalf A_t_codeTo A_t_stack A_t_facts x_t_lines A_t_newWords A_t_roundFrom A_t_roundAt A_t_roundTimes x_t_newMany x_t_rounds x_t_itFrom x_t_itTimes x_t_writtenNow x_t_picturesNow x_t_usedNow x_t_chosen x_t_fearOfChosen A_t_leastFrom A_t_rowNow x_t_changesNow x_t_left0 A_t_bornOf A_t_trainsTo A_t_trainAt x_t_trainMany x_t_leastTries x_t_firstTrained x_t_isKept, iA cI 16 A_t_clauseOf v_t_clauseOf, iA cI 16 A_t_codeFrom v_t_codeFrom, iA cI 16 A_t_codeHalf v_t_codeHalf, iA cI 16 A_t_codeTo v_t_codeTo, iA cI 260 A_t_codes v_t_codes, iA cI 10 A_t_facts w3, iA cI 293 A_t_now v_t_now, iA cI 16 A_t_rhymeOf v_t_rhymeOf, iA cI 260 A_t_stack w14]) (rest := []) C hK hP hD hS hA hl mf_X12_98 (c_X12_min hc17) [] rfl rfl rfl rfl rfl rfl rfl rfl (Nat.le_of_ble_eq_true rfl) ⟨Nat.le_of_ble_eq_true rfl, Nat.le_of_ble_eq_true rfl⟩ ⟨Nat.le_refl _, Nat.le_refl _⟩ dX12_choosesFor_102 ?_
              intro H locs hP hD hS
              refine lv_istore (lv' := [(7, .int r16), (6, .int r8), (0, .ref A_t), (1, .int a1), (2, .int a2), (3, .int a3), (4, .int l4), (5, .int l5)]) hx hb dX12_choosesFor_105 hl (by decide) rfl (fun ls hl => ?_)
              refine lv_iload hx hb dX12_choosesFor_107 (lv_at hl 1 rfl) ?_
              refine lv_if_eq (tgt := 154) hx hb dX12_choosesFor_109 (by decide) (fun q => ?_) (fun q => ?_)
              · have hf := if_t q hf
                exact hb_154 w3 w14 x_t_chosen x_t_fearOfChosen l4 l5 _ _ ls (lv_sub hl [2, 3, 4, 5, 6, 7] rfl) hP hD hS hf
              · have hf := if_f q hf
                refine lv_iload hx hb dX12_choosesFor_112 (lv_at hl 1 rfl) ?_
                refine lv_iload hx hb dX12_choosesFor_114 (lv_at hl 6 rfl) ?_
                refine lv_icmp_lt (tgt := 154) hx hb dX12_choosesFor_116 (by decide) (fun q => ?_) (fun q => ?_)
                · have hf := if_t q hf
                  exact hb_154 w3 w14 x_t_chosen x_t_fearOfChosen l4 l5 _ _ ls (lv_sub hl [2, 3, 4, 5, 6, 7] rfl) hP hD hS hf
                · have hf := if_f q hf
                  refine lv_iload hx hb dX12_choosesFor_119 (lv_at hl 1 rfl) ?_
                  refine lv_iload hx hb dX12_choosesFor_121 (lv_at hl 6 rfl) ?_
                  refine lv_icmp_ne (tgt := 138) hx hb dX12_choosesFor_123 (by decide) (fun q => ?_) (fun q => ?_)
                  · have hf := if_f q hf
                    exact hb_138 w3 w14 x_t_chosen x_t_fearOfChosen l5 r8 r16 _ _ ls (lv_sub hl [2, 3, 4, 5, 7, 1, 0] rfl) hP hD hS hf
                  · have hf := if_t q hf
                    refine lv_iload hx hb dX12_choosesFor_126 (lv_at hl 0 rfl) ?_
                    refine lv_aload_n hx hb dX12_choosesFor_128 rfl (lv_at hl 2 rfl) ?_
                    refine x_get C hK hP fd_X12_307 0 rfl rfl dX12_choosesFor_129 ?_
                    refine lv_icmp_lt (tgt := 138) hx hb dX12_choosesFor_132 (by decide) (fun q => ?_) (fun q => ?_)
                    · have hf := if_t q hf
                      exact hb_138 w3 w14 x_t_chosen x_t_fearOfChosen l5 r8 r16 _ _ ls (lv_sub hl [2, 3, 4, 5, 7, 1, 0] rfl) hP hD hS hf
                    · have hf := if_f q hf
                      refine lv_goto (tgt := 154) hx hb dX12_choosesFor_135 (by decide) ?_
                      exact hb_154 w3 w14 x_t_chosen x_t_fearOfChosen l4 l5 _ _ ls (lv_sub hl [2, 3, 4, 5, 6, 7] rfl) hP hD hS hf
            · have hf := if_f q hf
              refine lv_goto (tgt := 154) hx hb dX12_choosesFor_68 (by decide) ?_
              exact hb_154 w3 w6 x_t_chosen x_t_fearOfChosen l4 l5 _ _ ls (lv_sub hl [0, 1, 2, 3, 4, 5] rfl) hP hD hS hf
          · have hf := if_t q hf
            refine lv_goto (tgt := 154) hx hb dX12_choosesFor_47 (by decide) ?_
            exact hb_154 v_t_facts v_t_stack x_t_chosen x_t_fearOfChosen l4 l5 _ _ ls (lv_sub hl [0, 1, 2, 3, 4, 5] rfl) hP hD hS hf
  refine lv_aload_n hx hb dX12_choosesFor_0 rfl (lv_at hl 0 rfl) ?_
  refine lv_iconst (v := -1) hx hb dX12_choosesFor_1 (by decide) ?_
  refine x_put (ws' := [oX12 A_t A_t_now A_t_aside A_t_kept A_t_rhymeOf A_t_wasRhyme A_t_wordAt x_t_wordMany A_t_tape x_t_taped x_t_place0 x_t_length0 x_t_fault x_t_number0 x_t_open x_t_codeMany x_t_waiting x_t_saidMany x_t_clauses A_t_said A_t_waitsAt A_t_saidLetter A_t_saidFrom A_t_saidHalf A_t_saidTo A_t_codes A_t_clauseOf A_t_codeFrom A_t_codeHalf A_t_codeTo A_t_stack A_t_facts x_t_lines A_t_newWords A_t_roundFrom A_t_roundAt A_t_roundTimes x_t_newMany x_t_rounds x_t_itFrom x_t_itTimes x_t_writtenNow x_t_picturesNow x_t_usedNow (-1 : Int32) x_t_fearOfChosen A_t_leastFrom A_t_rowNow x_t_changesNow x_t_left0 A_t_bornOf A_t_trainsTo A_t_trainAt x_t_trainMany x_t_leastTries x_t_firstTrained x_t_isKept, iA cI 16 A_t_clauseOf v_t_clauseOf, iA cI 16 A_t_codeFrom v_t_codeFrom, iA cI 16 A_t_codeHalf v_t_codeHalf, iA cI 16 A_t_codeTo v_t_codeTo, iA cI 260 A_t_codes v_t_codes, iA cI 10 A_t_facts v_t_facts, iA cI 293 A_t_now v_t_now, iA cI 16 A_t_rhymeOf v_t_rhymeOf, iA cI 260 A_t_stack v_t_stack]) C hK hP hD hS fp_X12_303 0 rfl rfl rfl (Nat.le_of_ble_eq_true rfl) rfl dX12_choosesFor_2 ?_
  intro H locs hP hD hS
  refine lv_aload_n hx hb dX12_choosesFor_5 rfl (lv_at hl 0 rfl) ?_
  refine x_ldcw C kc_X12_306 dX12_choosesFor_6 ?_
  refine x_put (ws' := [oX12 A_t A_t_now A_t_aside A_t_kept A_t_rhymeOf A_t_wasRhyme A_t_wordAt x_t_wordMany A_t_tape x_t_taped x_t_place0 x_t_length0 x_t_fault x_t_number0 x_t_open x_t_codeMany x_t_waiting x_t_saidMany x_t_clauses A_t_said A_t_waitsAt A_t_saidLetter A_t_saidFrom A_t_saidHalf A_t_saidTo A_t_codes A_t_clauseOf A_t_codeFrom A_t_codeHalf A_t_codeTo A_t_stack A_t_facts x_t_lines A_t_newWords A_t_roundFrom A_t_roundAt A_t_roundTimes x_t_newMany x_t_rounds x_t_itFrom x_t_itTimes x_t_writtenNow x_t_picturesNow x_t_usedNow (-1 : Int32) (1000000 : Int32) A_t_leastFrom A_t_rowNow x_t_changesNow x_t_left0 A_t_bornOf A_t_trainsTo A_t_trainAt x_t_trainMany x_t_leastTries x_t_firstTrained x_t_isKept, iA cI 16 A_t_clauseOf v_t_clauseOf, iA cI 16 A_t_codeFrom v_t_codeFrom, iA cI 16 A_t_codeHalf v_t_codeHalf, iA cI 16 A_t_codeTo v_t_codeTo, iA cI 260 A_t_codes v_t_codes, iA cI 10 A_t_facts v_t_facts, iA cI 293 A_t_now v_t_now, iA cI 16 A_t_rhymeOf v_t_rhymeOf, iA cI 260 A_t_stack v_t_stack]) C hK hP hD hS fp_X12_307 0 rfl rfl rfl (Nat.le_of_ble_eq_true rfl) rfl dX12_choosesFor_9 ?_
  intro H locs hP hD hS
  refine lv_iconst (v := 0) hx hb dX12_choosesFor_12 (by decide) ?_
  refine lv_istore (lv' := [(4, .int (0 : Int32)), (0, .ref A_t), (1, .int a1), (2, .int a2), (3, .int a3)]) hx hb dX12_choosesFor_13 hl (by decide) rfl (fun ls hl => ?_)
  refine lv_iconst (v := 0) hx hb dX12_choosesFor_15 (by decide) ?_
  refine lv_istore (lv' := [(5, .int (0 : Int32)), (4, .int (0 : Int32)), (0, .ref A_t), (1, .int a1), (2, .int a2), (3, .int a3)]) hx hb dX12_choosesFor_16 hl (by decide) rfl (fun ls hl => ?_)
  exact hb_18 FU v_t_facts v_t_stack (-1 : Int32) (1000000 : Int32) (0 : Int32) (0 : Int32) _ _ ls (lv_sub hl [2, 3, 4, 5, 1, 0] rfl) hP hD hS hf
def f_X12_isUsedTo_b69 (v_t_now : (Nat → Int32)) : Option ((Nat → Int32)) :=
  some v_t_now
def f_X12_isUsedTo (v_t_now : (Nat → Int32)) (v_t_rhymeOf : (Nat → Int32)) (a1 : Int32) (a2 : Int32) : Option ((Nat → Int32)) :=
  sI 293 v_t_now (((32 : Int32) + ((16 : Int32) * a1)) + a2) (0 : Int32) (fun w1 =>
  sI 293 w1 (((160 : Int32) + ((16 : Int32) * a1)) + a2) (0 : Int32) (fun w2 =>
  gI 16 v_t_rhymeOf a2 (fun g3 =>
  if g3 = a2 then
    f_X12_isUsedTo_b69 w2
  else
    bd1 (f_X12_dreadOf w2 a1 g3) (fun r4 =>
    bd1 (f_X12_limit (r4 + (9 : Int32))) (fun r5 =>
    sI 293 w2 (((32 : Int32) + ((16 : Int32) * a1)) + g3) r5 (fun w6 =>
    f_X12_isUsedTo_b69 w6))))))
set_option maxHeartbeats 4000000 in
set_option maxRecDepth 100000 in
theorem c_X12_isUsedTo {l : Launch} {D : va_G} {cI cB : ClassId} {A_t A_t_now A_t_aside A_t_kept A_t_rhymeOf A_t_wasRhyme A_t_wordAt A_t_tape A_t_said A_t_waitsAt A_t_saidLetter A_t_saidFrom A_t_saidHalf A_t_saidTo A_t_codes A_t_clauseOf A_t_codeFrom A_t_codeHalf A_t_codeTo A_t_stack A_t_facts A_t_newWords A_t_roundFrom A_t_roundAt A_t_roundTimes A_t_leastFrom A_t_rowNow A_t_bornOf A_t_trainsTo A_t_trainAt : Nat} {x_t_wordMany x_t_taped x_t_place0 x_t_length0 x_t_fault x_t_number0 x_t_open x_t_codeMany x_t_waiting x_t_saidMany x_t_clauses x_t_lines x_t_newMany x_t_rounds x_t_itFrom x_t_itTimes x_t_writtenNow x_t_picturesNow x_t_usedNow x_t_chosen x_t_fearOfChosen x_t_changesNow x_t_left0 x_t_trainMany x_t_leastTries x_t_firstTrained x_t_isKept a1 a2 : Int32} {v_t_now v_t_rhymeOf : Nat → Int32} {o_v_t_now : Nat → Int32} (hf : f_X12_isUsedTo v_t_now v_t_rhymeOf a1 a2 = some o_v_t_now) : CtV l D cI cB yX12_isUsedTo cX12_isUsedTo 4 2 41 [.ref A_t, .int a1, .int a2] [oX12 A_t A_t_now A_t_aside A_t_kept A_t_rhymeOf A_t_wasRhyme A_t_wordAt x_t_wordMany A_t_tape x_t_taped x_t_place0 x_t_length0 x_t_fault x_t_number0 x_t_open x_t_codeMany x_t_waiting x_t_saidMany x_t_clauses A_t_said A_t_waitsAt A_t_saidLetter A_t_saidFrom A_t_saidHalf A_t_saidTo A_t_codes A_t_clauseOf A_t_codeFrom A_t_codeHalf A_t_codeTo A_t_stack A_t_facts x_t_lines A_t_newWords A_t_roundFrom A_t_roundAt A_t_roundTimes x_t_newMany x_t_rounds x_t_itFrom x_t_itTimes x_t_writtenNow x_t_picturesNow x_t_usedNow x_t_chosen x_t_fearOfChosen A_t_leastFrom A_t_rowNow x_t_changesNow x_t_left0 A_t_bornOf A_t_trainsTo A_t_trainAt x_t_trainMany x_t_leastTries x_t_firstTrained x_t_isKept, iA cI 293 A_t_now v_t_now, iA cI 16 A_t_rhymeOf v_t_rhymeOf] [oX12 A_t A_t_now A_t_aside A_t_kept A_t_rhymeOf A_t_wasRhyme A_t_wordAt x_t_wordMany A_t_tape x_t_taped x_t_place0 x_t_length0 x_t_fault x_t_number0 x_t_open x_t_codeMany x_t_waiting x_t_saidMany x_t_clauses A_t_said A_t_waitsAt A_t_saidLetter A_t_saidFrom A_t_saidHalf A_t_saidTo A_t_codes A_t_clauseOf A_t_codeFrom A_t_codeHalf A_t_codeTo A_t_stack A_t_facts x_t_lines A_t_newWords A_t_roundFrom A_t_roundAt A_t_roundTimes x_t_newMany x_t_rounds x_t_itFrom x_t_itTimes x_t_writtenNow x_t_picturesNow x_t_usedNow x_t_chosen x_t_fearOfChosen A_t_leastFrom A_t_rowNow x_t_changesNow x_t_left0 A_t_bornOf A_t_trainsTo A_t_trainAt x_t_trainMany x_t_leastTries x_t_firstTrained x_t_isKept, iA cI 293 A_t_now o_v_t_now, iA cI 16 A_t_rhymeOf v_t_rhymeOf] := by
  refine x_startV (by decide) (Nat.le_of_ble_eq_true rfl) ?_
  intro p e s m below meth c A C hr hlk hA hK hP hD hS ls hl
  have hl : lv_has ls 4 [(0, .ref A_t), (1, .int a1), (2, .int a2)] := hl
  have hx := C.1
  have hb := C.2.1
  unfold f_X12_isUsedTo at hf
  have hb_69 : ∀ (v_t_now : (Nat → Int32)) (H : Heap) (locs : List Loc) (ls : Array Slot), lv_has ls 4 [] → va_P D vwCl [oX12 A_t A_t_now A_t_aside A_t_kept A_t_rhymeOf A_t_wasRhyme A_t_wordAt x_t_wordMany A_t_tape x_t_taped x_t_place0 x_t_length0 x_t_fault x_t_number0 x_t_open x_t_codeMany x_t_waiting x_t_saidMany x_t_clauses A_t_said A_t_waitsAt A_t_saidLetter A_t_saidFrom A_t_saidHalf A_t_saidTo A_t_codes A_t_clauseOf A_t_codeFrom A_t_codeHalf A_t_codeTo A_t_stack A_t_facts x_t_lines A_t_newWords A_t_roundFrom A_t_roundAt A_t_roundTimes x_t_newMany x_t_rounds x_t_itFrom x_t_itTimes x_t_writtenNow x_t_picturesNow x_t_usedNow x_t_chosen x_t_fearOfChosen A_t_leastFrom A_t_rowNow x_t_changesNow x_t_left0 A_t_bornOf A_t_trainsTo A_t_trainAt x_t_trainMany x_t_leastTries x_t_firstTrained x_t_isKept, iA cI 293 A_t_now v_t_now, iA cI 16 A_t_rhymeOf v_t_rhymeOf] H → va_D A [oX12 A_t A_t_now A_t_aside A_t_kept A_t_rhymeOf A_t_wasRhyme A_t_wordAt x_t_wordMany A_t_tape x_t_taped x_t_place0 x_t_length0 x_t_fault x_t_number0 x_t_open x_t_codeMany x_t_waiting x_t_saidMany x_t_clauses A_t_said A_t_waitsAt A_t_saidLetter A_t_saidFrom A_t_saidHalf A_t_saidTo A_t_codes A_t_clauseOf A_t_codeFrom A_t_codeHalf A_t_codeTo A_t_stack A_t_facts x_t_lines A_t_newWords A_t_roundFrom A_t_roundAt A_t_roundTimes x_t_newMany x_t_rounds x_t_itFrom x_t_itTimes x_t_writtenNow x_t_picturesNow x_t_usedNow x_t_chosen x_t_fearOfChosen A_t_leastFrom A_t_rowNow x_t_changesNow x_t_left0 A_t_bornOf A_t_trainsTo A_t_trainAt x_t_trainMany x_t_leastTries x_t_firstTrained x_t_isKept, iA cI 293 A_t_now v_t_now, iA cI 16 A_t_rhymeOf v_t_rhymeOf] → va_S A s.heap H locs → f_X12_isUsedTo_b69 v_t_now = some o_v_t_now → W p l e { frames := 2, cells := 0, slots := 0, locals := 41 } s m ([.ref A_t, .int a1, .int a2] : List Value).toArray below meth c H locs 0 0 (MQ below (PoV D A [oX12 A_t A_t_now A_t_aside A_t_kept A_t_rhymeOf A_t_wasRhyme A_t_wordAt x_t_wordMany A_t_tape x_t_taped x_t_place0 x_t_length0 x_t_fault x_t_number0 x_t_open x_t_codeMany x_t_waiting x_t_saidMany x_t_clauses A_t_said A_t_waitsAt A_t_saidLetter A_t_saidFrom A_t_saidHalf A_t_saidTo A_t_codes A_t_clauseOf A_t_codeFrom A_t_codeHalf A_t_codeTo A_t_stack A_t_facts x_t_lines A_t_newWords A_t_roundFrom A_t_roundAt A_t_roundTimes x_t_newMany x_t_rounds x_t_itFrom x_t_itTimes x_t_writtenNow x_t_picturesNow x_t_usedNow x_t_chosen x_t_fearOfChosen A_t_leastFrom A_t_rowNow x_t_changesNow x_t_left0 A_t_bornOf A_t_trainsTo A_t_trainAt x_t_trainMany x_t_leastTries x_t_firstTrained x_t_isKept, iA cI 293 A_t_now o_v_t_now, iA cI 16 A_t_rhymeOf v_t_rhymeOf]) ([.ref A_t, .int a1, .int a2] : List Value).toArray s 0 0 A) (F0 m 69 ls []) := by
    intro v_t_now H locs ls hl hP hD hS hf
    unfold f_X12_isUsedTo_b69 at hf
    obtain rfl := ev1 hf
    exact x_vret C hr hlk hP hD hS dX12_isUsedTo_69
  refine lv_aload_n hx hb dX12_isUsedTo_0 rfl (lv_at hl 0 rfl) ?_
  refine x_get C hK hP fd_X12_7 0 rfl rfl dX12_isUsedTo_1 ?_
  refine lv_bipush (v := 32) hx hb dX12_isUsedTo_4 (by decide) ?_
  refine lv_bipush (v := 16) hx hb dX12_isUsedTo_6 (by decide) ?_
  refine lv_iload_n hx hb dX12_isUsedTo_8 rfl (lv_at hl 1 rfl) ?_
  refine lv_imul hx hb dX12_isUsedTo_9 ?_
  refine lv_iadd hx hb dX12_isUsedTo_10 ?_
  refine lv_iload_n hx hb dX12_isUsedTo_11 rfl (lv_at hl 2 rfl) ?_
  refine lv_iadd hx hb dX12_isUsedTo_12 ?_
  refine lv_iconst (v := 0) hx hb dX12_isUsedTo_13 (by decide) ?_
  obtain ⟨hi, hf⟩ := sI_e hf
  refine x_iast (ws' := [oX12 A_t A_t_now A_t_aside A_t_kept A_t_rhymeOf A_t_wasRhyme A_t_wordAt x_t_wordMany A_t_tape x_t_taped x_t_place0 x_t_length0 x_t_fault x_t_number0 x_t_open x_t_codeMany x_t_waiting x_t_saidMany x_t_clauses A_t_said A_t_waitsAt A_t_saidLetter A_t_saidFrom A_t_saidHalf A_t_saidTo A_t_codes A_t_clauseOf A_t_codeFrom A_t_codeHalf A_t_codeTo A_t_stack A_t_facts x_t_lines A_t_newWords A_t_roundFrom A_t_roundAt A_t_roundTimes x_t_newMany x_t_rounds x_t_itFrom x_t_itTimes x_t_writtenNow x_t_picturesNow x_t_usedNow x_t_chosen x_t_fearOfChosen A_t_leastFrom A_t_rowNow x_t_changesNow x_t_left0 A_t_bornOf A_t_trainsTo A_t_trainAt x_t_trainMany x_t_leastTries x_t_firstTrained x_t_isKept, iA cI 293 A_t_now (upd v_t_now (((32 : Int32) + ((16 : Int32) * a1)) + a2).toNatClampNeg (0 : Int32)), iA cI 16 A_t_rhymeOf v_t_rhymeOf]) C hK hP hD hS 1 rfl hi rfl dX12_isUsedTo_14 ?_
  intro H locs hP hD hS
  refine lv_aload_n hx hb dX12_isUsedTo_15 rfl (lv_at hl 0 rfl) ?_
  refine x_get C hK hP fd_X12_7 0 rfl rfl dX12_isUsedTo_16 ?_
  refine lv_sipush (v := 160) hx hb dX12_isUsedTo_19 (by decide) ?_
  refine lv_bipush (v := 16) hx hb dX12_isUsedTo_22 (by decide) ?_
  refine lv_iload_n hx hb dX12_isUsedTo_24 rfl (lv_at hl 1 rfl) ?_
  refine lv_imul hx hb dX12_isUsedTo_25 ?_
  refine lv_iadd hx hb dX12_isUsedTo_26 ?_
  refine lv_iload_n hx hb dX12_isUsedTo_27 rfl (lv_at hl 2 rfl) ?_
  refine lv_iadd hx hb dX12_isUsedTo_28 ?_
  refine lv_iconst (v := 0) hx hb dX12_isUsedTo_29 (by decide) ?_
  obtain ⟨hi, hf⟩ := sI_e hf
  refine x_iast (ws' := [oX12 A_t A_t_now A_t_aside A_t_kept A_t_rhymeOf A_t_wasRhyme A_t_wordAt x_t_wordMany A_t_tape x_t_taped x_t_place0 x_t_length0 x_t_fault x_t_number0 x_t_open x_t_codeMany x_t_waiting x_t_saidMany x_t_clauses A_t_said A_t_waitsAt A_t_saidLetter A_t_saidFrom A_t_saidHalf A_t_saidTo A_t_codes A_t_clauseOf A_t_codeFrom A_t_codeHalf A_t_codeTo A_t_stack A_t_facts x_t_lines A_t_newWords A_t_roundFrom A_t_roundAt A_t_roundTimes x_t_newMany x_t_rounds x_t_itFrom x_t_itTimes x_t_writtenNow x_t_picturesNow x_t_usedNow x_t_chosen x_t_fearOfChosen A_t_leastFrom A_t_rowNow x_t_changesNow x_t_left0 A_t_bornOf A_t_trainsTo A_t_trainAt x_t_trainMany x_t_leastTries x_t_firstTrained x_t_isKept, iA cI 293 A_t_now (upd (upd v_t_now (((32 : Int32) + ((16 : Int32) * a1)) + a2).toNatClampNeg (0 : Int32)) (((160 : Int32) + ((16 : Int32) * a1)) + a2).toNatClampNeg (0 : Int32)), iA cI 16 A_t_rhymeOf v_t_rhymeOf]) C hK hP hD hS 1 rfl hi rfl dX12_isUsedTo_30 ?_
  intro H locs hP hD hS
  refine lv_aload_n hx hb dX12_isUsedTo_31 rfl (lv_at hl 0 rfl) ?_
  refine x_get C hK hP fd_X12_19 0 rfl rfl dX12_isUsedTo_32 ?_
  refine lv_iload_n hx hb dX12_isUsedTo_35 rfl (lv_at hl 2 rfl) ?_
  obtain ⟨hi, hf⟩ := gI_e hf
  refine x_iald C hK hP 2 rfl hi dX12_isUsedTo_36 ?_
  refine lv_istore_n (lv' := [(3, .int (v_t_rhymeOf a2.toNatClampNeg)), (0, .ref A_t), (1, .int a1), (2, .int a2)]) hx hb dX12_isUsedTo_37 rfl hl (by decide) rfl (fun ls hl => ?_)
  refine lv_iload_n hx hb dX12_isUsedTo_38 rfl (lv_at hl 0 rfl) ?_
  refine lv_iload_n hx hb dX12_isUsedTo_39 rfl (lv_at hl 3 rfl) ?_
  refine lv_icmp_eq (tgt := 69) hx hb dX12_isUsedTo_40 (by decide) (fun q => ?_) (fun q => ?_)
  · have hf := if_t q hf
    exact hb_69 (upd (upd v_t_now (((32 : Int32) + ((16 : Int32) * a1)) + a2).toNatClampNeg (0 : Int32)) (((160 : Int32) + ((16 : Int32) * a1)) + a2).toNatClampNeg (0 : Int32)) _ _ ls (lv_sub hl [] rfl) hP hD hS hf
  · have hf := if_f q hf
    refine lv_aload_n hx hb dX12_isUsedTo_43 rfl (lv_at hl 1 rfl) ?_
    refine x_get C hK hP fd_X12_7 0 rfl rfl dX12_isUsedTo_44 ?_
    refine lv_bipush (v := 32) hx hb dX12_isUsedTo_47 (by decide) ?_
    refine lv_bipush (v := 16) hx hb dX12_isUsedTo_49 (by decide) ?_
    refine lv_iload_n hx hb dX12_isUsedTo_51 rfl (lv_at hl 2 rfl) ?_
    refine lv_imul hx hb dX12_isUsedTo_52 ?_
    refine lv_iadd hx hb dX12_isUsedTo_53 ?_
    refine lv_iload_n hx hb dX12_isUsedTo_54 rfl (lv_at hl 0 rfl) ?_
    refine lv_iadd hx hb dX12_isUsedTo_55 ?_
    refine lv_aload_n hx hb dX12_isUsedTo_56 rfl (lv_at hl 1 rfl) ?_
    refine lv_iload_n hx hb dX12_isUsedTo_57 rfl (lv_at hl 2 rfl) ?_
    refine lv_iload_n hx hb dX12_isUsedTo_58 rfl (lv_at hl 0 rfl) ?_
    obtain ⟨r1, hc2, hf⟩ := bd1_e hf
    refine x_callVI (ws' := [oX12 A_t A_t_now A_t_aside A_t_kept A_t_rhymeOf A_t_wasRhyme A_t_wordAt x_t_wordMany A_t_tape x_t_taped x_t_place0 x_t_length0 x_t_fault x_t_number0 x_t_open x_t_codeMany x_t_waiting x_t_saidMany x_t_clauses A_t_said A_t_waitsAt A_t_saidLetter A_t_saidFrom A_t_saidHalf A_t_saidTo A_t_codes A_t_clauseOf A_t_codeFrom A_t_codeHalf A_t_codeTo A_t_stack A_t_facts x_t_lines A_t_newWords A_t_roundFrom A_t_roundAt A_t_roundTimes x_t_newMany x_t_rounds x_t_itFrom x_t_itTimes x_t_writtenNow x_t_picturesNow x_t_usedNow x_t_chosen x_t_fearOfChosen A_t_leastFrom A_t_rowNow x_t_changesNow x_t_left0 A_t_bornOf A_t_trainsTo A_t_trainAt x_t_trainMany x_t_leastTries x_t_firstTrained x_t_isKept, iA cI 293 A_t_now (upd (upd v_t_now (((32 : Int32) + ((16 : Int32) * a1)) + a2).toNatClampNeg (0 : Int32)) (((160 : Int32) + ((16 : Int32) * a1)) + a2).toNatClampNeg (0 : Int32)), iA cI 16 A_t_rhymeOf v_t_rhymeOf]) (rest := [.int (((32 : Int32) + ((16 : Int32) * a1)) + (v_t_rhymeOf a2.toNatClampNeg)), .ref A_t_now]) C hK hP hD hS hA hl mf_X12_113 (c_X12_dreadOf hc2) [0, 1] 0 12 rfl rfl rfl rfl rfl rfl rfl rfl rfl rfl (Nat.le_of_ble_eq_true rfl) ⟨Nat.le_of_ble_eq_true rfl, Nat.le_of_ble_eq_true rfl⟩ ⟨Nat.le_refl _, Nat.le_refl _⟩ dX12_isUsedTo_59 ?_
    intro H locs hP hD hS
    refine lv_bipush (v := 9) hx hb dX12_isUsedTo_62 (by decide) ?_
    refine lv_iadd hx hb dX12_isUsedTo_64 ?_
    obtain ⟨r3, hc4, hf⟩ := bd1_e hf
    refine x_callSI (ws' := [oX12 A_t A_t_now A_t_aside A_t_kept A_t_rhymeOf A_t_wasRhyme A_t_wordAt x_t_wordMany A_t_tape x_t_taped x_t_place0 x_t_length0 x_t_fault x_t_number0 x_t_open x_t_codeMany x_t_waiting x_t_saidMany x_t_clauses A_t_said A_t_waitsAt A_t_saidLetter A_t_saidFrom A_t_saidHalf A_t_saidTo A_t_codes A_t_clauseOf A_t_codeFrom A_t_codeHalf A_t_codeTo A_t_stack A_t_facts x_t_lines A_t_newWords A_t_roundFrom A_t_roundAt A_t_roundTimes x_t_newMany x_t_rounds x_t_itFrom x_t_itTimes x_t_writtenNow x_t_picturesNow x_t_usedNow x_t_chosen x_t_fearOfChosen A_t_leastFrom A_t_rowNow x_t_changesNow x_t_left0 A_t_bornOf A_t_trainsTo A_t_trainAt x_t_trainMany x_t_leastTries x_t_firstTrained x_t_isKept, iA cI 293 A_t_now (upd (upd v_t_now (((32 : Int32) + ((16 : Int32) * a1)) + a2).toNatClampNeg (0 : Int32)) (((160 : Int32) + ((16 : Int32) * a1)) + a2).toNatClampNeg (0 : Int32)), iA cI 16 A_t_rhymeOf v_t_rhymeOf]) (rest := [.int (((32 : Int32) + ((16 : Int32) * a1)) + (v_t_rhymeOf a2.toNatClampNeg)), .ref A_t_now]) C hK hP hD hS hA hl mf_X12_116 (c_X12_limit hc4) [] rfl rfl rfl rfl rfl rfl rfl rfl (Nat.le_of_ble_eq_true rfl) ⟨Nat.le_of_ble_eq_true rfl, Nat.le_of_ble_eq_true rfl⟩ ⟨Nat.le_refl _, Nat.le_refl _⟩ dX12_isUsedTo_65 ?_
    intro H locs hP hD hS
    obtain ⟨hi, hf⟩ := sI_e hf
    refine x_iast (ws' := [oX12 A_t A_t_now A_t_aside A_t_kept A_t_rhymeOf A_t_wasRhyme A_t_wordAt x_t_wordMany A_t_tape x_t_taped x_t_place0 x_t_length0 x_t_fault x_t_number0 x_t_open x_t_codeMany x_t_waiting x_t_saidMany x_t_clauses A_t_said A_t_waitsAt A_t_saidLetter A_t_saidFrom A_t_saidHalf A_t_saidTo A_t_codes A_t_clauseOf A_t_codeFrom A_t_codeHalf A_t_codeTo A_t_stack A_t_facts x_t_lines A_t_newWords A_t_roundFrom A_t_roundAt A_t_roundTimes x_t_newMany x_t_rounds x_t_itFrom x_t_itTimes x_t_writtenNow x_t_picturesNow x_t_usedNow x_t_chosen x_t_fearOfChosen A_t_leastFrom A_t_rowNow x_t_changesNow x_t_left0 A_t_bornOf A_t_trainsTo A_t_trainAt x_t_trainMany x_t_leastTries x_t_firstTrained x_t_isKept, iA cI 293 A_t_now (upd (upd (upd v_t_now (((32 : Int32) + ((16 : Int32) * a1)) + a2).toNatClampNeg (0 : Int32)) (((160 : Int32) + ((16 : Int32) * a1)) + a2).toNatClampNeg (0 : Int32)) (((32 : Int32) + ((16 : Int32) * a1)) + (v_t_rhymeOf a2.toNatClampNeg)).toNatClampNeg r3), iA cI 16 A_t_rhymeOf v_t_rhymeOf]) C hK hP hD hS 1 rfl hi rfl dX12_isUsedTo_68 ?_
    intro H locs hP hD hS
    exact hb_69 (upd (upd (upd v_t_now (((32 : Int32) + ((16 : Int32) * a1)) + a2).toNatClampNeg (0 : Int32)) (((160 : Int32) + ((16 : Int32) * a1)) + a2).toNatClampNeg (0 : Int32)) (((32 : Int32) + ((16 : Int32) * a1)) + (v_t_rhymeOf a2.toNatClampNeg)).toNatClampNeg r3) _ _ ls (lv_sub hl [] rfl) hP hD hS hf
