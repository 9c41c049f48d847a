def f_X12_guards_b51 (a1 : Int32) (k2 : Int32 → Option (Int32)) (k10 : Int32 → Int32 → Option (Int32)) (l2 : Int32) (l3 : Int32) : Option (Int32) :=
  k10 l2 (l3 + (1 : Int32))
def f_X12_guards_b10 (v_t_bornOf : (Nat → Int32)) (v_t_now : (Nat → Int32)) (a1 : Int32) (k2 : Int32 → Option (Int32)) : Nat → Int32 → Int32 → Option (Int32)
  | 0, _, _ => none
  | n + 1, l2, l3 =>
    if l2 ≤ l3 then
      k2 (l2 + (1 : Int32))
    else
      bd1 (f_X12_isTold v_t_now l2) (fun r1 =>
      if r1 = 0 then
        f_X12_guards_b51 a1 k2 (f_X12_guards_b10 v_t_bornOf v_t_now a1 k2 n) l2 l3
      else
        bd1 (f_X12_isTold v_t_now l3) (fun r2 =>
        if r2 = 0 then
          f_X12_guards_b51 a1 k2 (f_X12_guards_b10 v_t_bornOf v_t_now a1 k2 n) l2 l3
        else
          gI 8 v_t_bornOf l2 (fun g3 =>
          gI 8 v_t_bornOf l3 (fun g4 =>
          if ((g3 ^^^ g4) &&& a1) = 0 then
            some (0 : Int32)
          else
            f_X12_guards_b51 a1 k2 (f_X12_guards_b10 v_t_bornOf v_t_now a1 k2 n) l2 l3))))
def f_X12_guards_b2 (v_t_bornOf : (Nat → Int32)) (v_t_now : (Nat → Int32)) (a1 : Int32) : Nat → Int32 → Option (Int32)
  | 0, _ => none
  | n + 1, l2 =>
    if (8 : Int32) ≤ l2 then
      some (1 : Int32)
    else
      f_X12_guards_b10 v_t_bornOf v_t_now a1 (f_X12_guards_b2 v_t_bornOf v_t_now a1 n) FU l2 (0 : Int32)
def f_X12_guards (v_t_bornOf : (Nat → Int32)) (v_t_now : (Nat → Int32)) (a1 : Int32) : Option (Int32) :=
  f_X12_guards_b2 v_t_bornOf v_t_now a1 FU (0 : Int32)
set_option maxHeartbeats 4000000 in
set_option maxRecDepth 100000 in
theorem c_X12_guards {l : Launch} {D : va_G} {cI cB : ClassId} {A_t A_t_now A_t_aside A_t_kept A_t_rhymeOf A_t_wasRhyme A_t_wordAt A_t_tape A_t_said A_t_waitsAt A_t_saidLetter A_t_saidFrom A_t_saidHalf A_t_saidTo A_t_codes A_t_clauseOf A_t_codeFrom A_t_codeHalf A_t_codeTo A_t_stack A_t_facts A_t_newWords A_t_roundFrom A_t_roundAt A_t_roundTimes A_t_leastFrom A_t_rowNow A_t_bornOf A_t_trainsTo A_t_trainAt : Nat} {x_t_wordMany x_t_taped x_t_place0 x_t_length0 x_t_fault x_t_number0 x_t_open x_t_codeMany x_t_waiting x_t_saidMany x_t_clauses x_t_lines x_t_newMany x_t_rounds x_t_itFrom x_t_itTimes x_t_writtenNow x_t_picturesNow x_t_usedNow x_t_chosen x_t_fearOfChosen x_t_changesNow x_t_left0 x_t_trainMany x_t_leastTries x_t_firstTrained x_t_isKept a1 : Int32} {v_t_bornOf v_t_now : Nat → Int32} {o_r : Int32} (hf : f_X12_guards v_t_bornOf v_t_now a1 = some o_r) : CtI l D cI cB yX12_guards cX12_guards 4 (some .boolean) 2 43 [.ref A_t, .int a1] [oX12 A_t A_t_now A_t_aside A_t_kept A_t_rhymeOf A_t_wasRhyme A_t_wordAt x_t_wordMany A_t_tape x_t_taped x_t_place0 x_t_length0 x_t_fault x_t_number0 x_t_open x_t_codeMany x_t_waiting x_t_saidMany x_t_clauses A_t_said A_t_waitsAt A_t_saidLetter A_t_saidFrom A_t_saidHalf A_t_saidTo A_t_codes A_t_clauseOf A_t_codeFrom A_t_codeHalf A_t_codeTo A_t_stack A_t_facts x_t_lines A_t_newWords A_t_roundFrom A_t_roundAt A_t_roundTimes x_t_newMany x_t_rounds x_t_itFrom x_t_itTimes x_t_writtenNow x_t_picturesNow x_t_usedNow x_t_chosen x_t_fearOfChosen A_t_leastFrom A_t_rowNow x_t_changesNow x_t_left0 A_t_bornOf A_t_trainsTo A_t_trainAt x_t_trainMany x_t_leastTries x_t_firstTrained x_t_isKept, iA cI 8 A_t_bornOf v_t_bornOf, iA cI 293 A_t_now v_t_now] [oX12 A_t A_t_now A_t_aside A_t_kept A_t_rhymeOf A_t_wasRhyme A_t_wordAt x_t_wordMany A_t_tape x_t_taped x_t_place0 x_t_length0 x_t_fault x_t_number0 x_t_open x_t_codeMany x_t_waiting x_t_saidMany x_t_clauses A_t_said A_t_waitsAt A_t_saidLetter A_t_saidFrom A_t_saidHalf A_t_saidTo A_t_codes A_t_clauseOf A_t_codeFrom A_t_codeHalf A_t_codeTo A_t_stack A_t_facts x_t_lines A_t_newWords A_t_roundFrom A_t_roundAt A_t_roundTimes x_t_newMany x_t_rounds x_t_itFrom x_t_itTimes x_t_writtenNow x_t_picturesNow x_t_usedNow x_t_chosen x_t_fearOfChosen A_t_leastFrom A_t_rowNow x_t_changesNow x_t_left0 A_t_bornOf A_t_trainsTo A_t_trainAt x_t_trainMany x_t_leastTries x_t_firstTrained x_t_isKept, iA cI 8 A_t_bornOf v_t_bornOf, iA cI 293 A_t_now v_t_now] o_r := by
  refine x_startI (by decide) (Nat.le_of_ble_eq_true rfl) ?_
  intro p e s m below meth c A C hr hlk hA hK hP hD hS ls hl
  have hl : lv_has ls 4 [(0, .ref A_t), (1, .int a1)] := hl
  have hx := C.1
  have hb := C.2.1
  unfold f_X12_guards at hf
  have hb_2 : ∀ (n_2 : Nat) (l2 : Int32) (H : Heap) (locs : List Loc) (ls : Array Slot), lv_has ls 4 [(0, .ref A_t), (1, .int a1), (2, .int l2)] → va_P D vwCl [oX12 A_t A_t_now A_t_aside A_t_kept A_t_rhymeOf A_t_wasRhyme A_t_wordAt x_t_wordMany A_t_tape x_t_taped x_t_place0 x_t_length0 x_t_fault x_t_number0 x_t_open x_t_codeMany x_t_waiting x_t_saidMany x_t_clauses A_t_said A_t_waitsAt A_t_saidLetter A_t_saidFrom A_t_saidHalf A_t_saidTo A_t_codes A_t_clauseOf A_t_codeFrom A_t_codeHalf A_t_codeTo A_t_stack A_t_facts x_t_lines A_t_newWords A_t_roundFrom A_t_roundAt A_t_roundTimes x_t_newMany x_t_rounds x_t_itFrom x_t_itTimes x_t_writtenNow x_t_picturesNow x_t_usedNow x_t_chosen x_t_fearOfChosen A_t_leastFrom A_t_rowNow x_t_changesNow x_t_left0 A_t_bornOf A_t_trainsTo A_t_trainAt x_t_trainMany x_t_leastTries x_t_firstTrained x_t_isKept, iA cI 8 A_t_bornOf v_t_bornOf, iA cI 293 A_t_now v_t_now] H → va_D A [oX12 A_t A_t_now A_t_aside A_t_kept A_t_rhymeOf A_t_wasRhyme A_t_wordAt x_t_wordMany A_t_tape x_t_taped x_t_place0 x_t_length0 x_t_fault x_t_number0 x_t_open x_t_codeMany x_t_waiting x_t_saidMany x_t_clauses A_t_said A_t_waitsAt A_t_saidLetter A_t_saidFrom A_t_saidHalf A_t_saidTo A_t_codes A_t_clauseOf A_t_codeFrom A_t_codeHalf A_t_codeTo A_t_stack A_t_facts x_t_lines A_t_newWords A_t_roundFrom A_t_roundAt A_t_roundTimes x_t_newMany x_t_rounds x_t_itFrom x_t_itTimes x_t_writtenNow x_t_picturesNow x_t_usedNow x_t_chosen x_t_fearOfChosen A_t_leastFrom A_t_rowNow x_t_changesNow x_t_left0 A_t_bornOf A_t_trainsTo A_t_trainAt x_t_trainMany x_t_leastTries x_t_firstTrained x_t_isKept, iA cI 8 A_t_bornOf v_t_bornOf, iA cI 293 A_t_now v_t_now] → va_S A s.heap H locs → f_X12_guards_b2 v_t_bornOf v_t_now a1 n_2 l2 = some o_r → W p l e { frames := 2, cells := 0, slots := 0, locals := 43 } s m ([.ref A_t, .int a1] : List Value).toArray below meth c H locs 0 0 (MQ below (PoI D A [oX12 A_t A_t_now A_t_aside A_t_kept A_t_rhymeOf A_t_wasRhyme A_t_wordAt x_t_wordMany A_t_tape x_t_taped x_t_place0 x_t_length0 x_t_fault x_t_number0 x_t_open x_t_codeMany x_t_waiting x_t_saidMany x_t_clauses A_t_said A_t_waitsAt A_t_saidLetter A_t_saidFrom A_t_saidHalf A_t_saidTo A_t_codes A_t_clauseOf A_t_codeFrom A_t_codeHalf A_t_codeTo A_t_stack A_t_facts x_t_lines A_t_newWords A_t_roundFrom A_t_roundAt A_t_roundTimes x_t_newMany x_t_rounds x_t_itFrom x_t_itTimes x_t_writtenNow x_t_picturesNow x_t_usedNow x_t_chosen x_t_fearOfChosen A_t_leastFrom A_t_rowNow x_t_changesNow x_t_left0 A_t_bornOf A_t_trainsTo A_t_trainAt x_t_trainMany x_t_leastTries x_t_firstTrained x_t_isKept, iA cI 8 A_t_bornOf v_t_bornOf, iA cI 293 A_t_now v_t_now] o_r) ([.ref A_t, .int a1] : List Value).toArray s 0 0 A) (F0 m 2 ls []) := by
    intro n_2
    induction n_2 with
    | zero =>
      intro l2 H locs ls hl hP hD hS hf
      exact absurd hf (fun h => by rw [f_X12_guards_b2] at h; cases h)
    | succ n_2 ih_2 =>
      have hb_10 : ∀ (n_10 : Nat) (l2 : Int32) (l3 : Int32) (H : Heap) (locs : List Loc) (ls : Array Slot), lv_has ls 4 [(0, .ref A_t), (1, .int a1), (2, .int l2), (3, .int l3)] → va_P D vwCl [oX12 A_t A_t_now A_t_aside A_t_kept A_t_rhymeOf A_t_wasRhyme A_t_wordAt x_t_wordMany A_t_tape x_t_taped x_t_place0 x_t_length0 x_t_fault x_t_number0 x_t_open x_t_codeMany x_t_waiting x_t_saidMany x_t_clauses A_t_said A_t_waitsAt A_t_saidLetter A_t_saidFrom A_t_saidHalf A_t_saidTo A_t_codes A_t_clauseOf A_t_codeFrom A_t_codeHalf A_t_codeTo A_t_stack A_t_facts x_t_lines A_t_newWords A_t_roundFrom A_t_roundAt A_t_roundTimes x_t_newMany x_t_rounds x_t_itFrom x_t_itTimes x_t_writtenNow x_t_picturesNow x_t_usedNow x_t_chosen x_t_fearOfChosen A_t_leastFrom A_t_rowNow x_t_changesNow x_t_left0 A_t_bornOf A_t_trainsTo A_t_trainAt x_t_trainMany x_t_leastTries x_t_firstTrained x_t_isKept, iA cI 8 A_t_bornOf v_t_bornOf, iA cI 293 A_t_now v_t_now] H → va_D A [oX12 A_t A_t_now A_t_aside A_t_kept A_t_rhymeOf A_t_wasRhyme A_t_wordAt x_t_wordMany A_t_tape x_t_taped x_t_place0 x_t_length0 x_t_fault x_t_number0 x_t_open x_t_codeMany x_t_waiting x_t_saidMany x_t_clauses A_t_said A_t_waitsAt A_t_saidLetter A_t_saidFrom A_t_saidHalf A_t_saidTo A_t_codes A_t_clauseOf A_t_codeFrom A_t_codeHalf A_t_codeTo A_t_stack A_t_facts x_t_lines A_t_newWords A_t_roundFrom A_t_roundAt A_t_roundTimes x_t_newMany x_t_rounds x_t_itFrom x_t_itTimes x_t_writtenNow x_t_picturesNow x_t_usedNow x_t_chosen x_t_fearOfChosen A_t_leastFrom A_t_rowNow x_t_changesNow x_t_left0 A_t_bornOf A_t_trainsTo A_t_trainAt x_t_trainMany x_t_leastTries x_t_firstTrained x_t_isKept, iA cI 8 A_t_bornOf v_t_bornOf, iA cI 293 A_t_now v_t_now] → va_S A s.heap H locs → f_X12_guards_b10 v_t_bornOf v_t_now a1 (f_X12_guards_b2 v_t_bornOf v_t_now a1 n_2) n_10 l2 l3 = some o_r → W p l e { frames := 2, cells := 0, slots := 0, locals := 43 } s m ([.ref A_t, .int a1] : List Value).toArray below meth c H locs 0 0 (MQ below (PoI D A [oX12 A_t A_t_now A_t_aside A_t_kept A_t_rhymeOf A_t_wasRhyme A_t_wordAt x_t_wordMany A_t_tape x_t_taped x_t_place0 x_t_length0 x_t_fault x_t_number0 x_t_open x_t_codeMany x_t_waiting x_t_saidMany x_t_clauses A_t_said A_t_waitsAt A_t_saidLetter A_t_saidFrom A_t_saidHalf A_t_saidTo A_t_codes A_t_clauseOf A_t_codeFrom A_t_codeHalf A_t_codeTo A_t_stack A_t_facts x_t_lines A_t_newWords A_t_roundFrom A_t_roundAt A_t_roundTimes x_t_newMany x_t_rounds x_t_itFrom x_t_itTimes x_t_writtenNow x_t_picturesNow x_t_usedNow x_t_chosen x_t_fearOfChosen A_t_leastFrom A_t_rowNow x_t_changesNow x_t_left0 A_t_bornOf A_t_trainsTo A_t_trainAt x_t_trainMany x_t_leastTries x_t_firstTrained x_t_isKept, iA cI 8 A_t_bornOf v_t_bornOf, iA cI 293 A_t_now v_t_now] o_r) ([.ref A_t, .int a1] : List Value).toArray s 0 0 A) (F0 m 10 ls []) := by
        intro n_10
        induction n_10 with
        | zero =>
          intro l2 l3 H locs ls hl hP hD hS hf
          exact absurd hf (fun h => by rw [f_X12_guards_b10] at h; cases h)
        | succ n_10 ih_10 =>
          have hb_51 : ∀ (l2 : Int32) (l3 : Int32) (H : Heap) (locs : List Loc) (ls : Array Slot), lv_has ls 4 [(0, .ref A_t), (1, .int a1), (2, .int l2), (3, .int l3)] → va_P D vwCl [oX12 A_t A_t_now A_t_aside A_t_kept A_t_rhymeOf A_t_wasRhyme A_t_wordAt x_t_wordMany A_t_tape x_t_taped x_t_place0 x_t_length0 x_t_fault x_t_number0 x_t_open x_t_codeMany x_t_waiting x_t_saidMany x_t_clauses A_t_said A_t_waitsAt A_t_saidLetter A_t_saidFrom A_t_saidHalf A_t_saidTo A_t_codes A_t_clauseOf A_t_codeFrom A_t_codeHalf A_t_codeTo A_t_stack A_t_facts x_t_lines A_t_newWords A_t_roundFrom A_t_roundAt A_t_roundTimes x_t_newMany x_t_rounds x_t_itFrom x_t_itTimes x_t_writtenNow x_t_picturesNow x_t_usedNow x_t_chosen x_t_fearOfChosen A_t_leastFrom A_t_rowNow x_t_changesNow x_t_left0 A_t_bornOf A_t_trainsTo A_t_trainAt x_t_trainMany x_t_leastTries x_t_firstTrained x_t_isKept, iA cI 8 A_t_bornOf v_t_bornOf, iA cI 293 A_t_now v_t_now] H → va_D A [oX12 A_t A_t_now A_t_aside A_t_kept A_t_rhymeOf A_t_wasRhyme A_t_wordAt x_t_wordMany A_t_tape x_t_taped x_t_place0 x_t_length0 x_t_fault x_t_number0 x_t_open x_t_codeMany x_t_waiting x_t_saidMany x_t_clauses A_t_said A_t_waitsAt A_t_saidLetter A_t_saidFrom A_t_saidHalf A_t_saidTo A_t_codes A_t_clauseOf A_t_codeFrom A_t_codeHalf A_t_codeTo A_t_stack A_t_facts x_t_lines A_t_newWords A_t_roundFrom A_t_roundAt A_t_roundTimes x_t_newMany x_t_rounds x_t_itFrom x_t_itTimes x_t_writtenNow x_t_picturesNow x_t_usedNow x_t_chosen x_t_fearOfChosen A_t_leastFrom A_t_rowNow x_t_changesNow x_t_left0 A_t_bornOf A_t_trainsTo A_t_trainAt x_t_trainMany x_t_leastTries x_t_firstTrained x_t_isKept, iA cI 8 A_t_bornOf v_t_bornOf, iA cI 293 A_t_now v_t_now] → va_S A s.heap H locs → f_X12_guards_b51 a1 (f_X12_guards_b2 v_t_bornOf v_t_now a1 n_2) (f_X12_guards_b10 v_t_bornOf v_t_now a1 (f_X12_guards_b2 v_t_bornOf v_t_now a1 n_2) n_10) l2 l3 = some o_r → W p l e { frames := 2, cells := 0, slots := 0, locals := 43 } s m ([.ref A_t, .int a1] : List Value).toArray below meth c H locs 0 0 (MQ below (PoI D A [oX12 A_t A_t_now A_t_aside A_t_kept A_t_rhymeOf A_t_wasRhyme A_t_wordAt x_t_wordMany A_t_tape x_t_taped x_t_place0 x_t_length0 x_t_fault x_t_number0 x_t_open x_t_codeMany x_t_waiting x_t_saidMany x_t_clauses A_t_said A_t_waitsAt A_t_saidLetter A_t_saidFrom A_t_saidHalf A_t_saidTo A_t_codes A_t_clauseOf A_t_codeFrom A_t_codeHalf A_t_codeTo A_t_stack A_t_facts x_t_lines A_t_newWords A_t_roundFrom A_t_roundAt A_t_roundTimes x_t_newMany x_t_rounds x_t_itFrom x_t_itTimes x_t_writtenNow x_t_picturesNow x_t_usedNow x_t_chosen x_t_fearOfChosen A_t_leastFrom A_t_rowNow x_t_changesNow x_t_left0 A_t_bornOf A_t_trainsTo A_t_trainAt x_t_trainMany x_t_leastTries x_t_firstTrained x_t_isKept, iA cI 8 A_t_bornOf v_t_bornOf, iA cI 293 A_t_now v_t_now] o_r) ([.ref A_t, .int a1] : List Value).toArray s 0 0 A) (F0 m 51 ls []) := by
            intro l2 l3 H locs ls hl hP hD hS hf
            unfold f_X12_guards_b51 at hf
            refine lv_iinc (v := (l3 + (1 : Int32))) (lv' := [(3, .int (l3 + (1 : Int32))), (0, .ref A_t), (1, .int a1), (2, .int l2)]) hx hb dX12_guards_51 hl (k := 3) rfl rfl (by decide) rfl (fun ls hl => ?_)
            refine lv_goto (tgt := 10) hx hb dX12_guards_54 (by decide) ?_
            exact ih_10 l2 (l3 + (1 : Int32)) _ _ ls (lv_sub hl [1, 2, 3, 0] rfl) hP hD hS hf
          intro l2 l3 H locs ls hl hP hD hS hf
          rw [f_X12_guards_b10] at hf
          refine lv_iload_n hx hb dX12_guards_10 rfl (lv_at hl 3 rfl) ?_
          refine lv_iload_n hx hb dX12_guards_11 rfl (lv_at hl 2 rfl) ?_
          refine lv_icmp_ge (tgt := 57) hx hb dX12_guards_12 (by decide) (fun q => ?_) (fun q => ?_)
          · have hf := if_t q hf
            refine lv_iinc (v := (l2 + (1 : Int32))) (lv' := [(2, .int (l2 + (1 : Int32))), (0, .ref A_t), (1, .int a1), (3, .int l3)]) hx hb dX12_guards_57 hl (k := 2) rfl rfl (by decide) rfl (fun ls hl => ?_)
            refine lv_goto (tgt := 2) hx hb dX12_guards_60 (by decide) ?_
            exact ih_2 (l2 + (1 : Int32)) _ _ ls (lv_sub hl [1, 2, 0] rfl) hP hD hS hf
          · have hf := if_f q hf
            refine lv_aload_n hx hb dX12_guards_15 rfl (lv_at hl 0 rfl) ?_
            refine lv_iload_n hx hb dX12_guards_16 rfl (lv_at hl 2 rfl) ?_
            obtain ⟨r1, hc2, hf⟩ := bd1_e hf
            refine x_callVI (ws' := [oX12 A_t A_t_now A_t_aside A_t_kept A_t_rhymeOf A_t_wasRhyme A_t_wordAt x_t_wordMany A_t_tape x_t_taped x_t_place0 x_t_length0 x_t_fault x_t_number0 x_t_open x_t_codeMany x_t_waiting x_t_saidMany x_t_clauses A_t_said A_t_waitsAt A_t_saidLetter A_t_saidFrom A_t_saidHalf A_t_saidTo A_t_codes A_t_clauseOf A_t_codeFrom A_t_codeHalf A_t_codeTo A_t_stack A_t_facts x_t_lines A_t_newWords A_t_roundFrom A_t_roundAt A_t_roundTimes x_t_newMany x_t_rounds x_t_itFrom x_t_itTimes x_t_writtenNow x_t_picturesNow x_t_usedNow x_t_chosen x_t_fearOfChosen A_t_leastFrom A_t_rowNow x_t_changesNow x_t_left0 A_t_bornOf A_t_trainsTo A_t_trainAt x_t_trainMany x_t_leastTries x_t_firstTrained x_t_isKept, iA cI 8 A_t_bornOf v_t_bornOf, iA cI 293 A_t_now v_t_now]) (rest := []) C hK hP hD hS hA hl mf_X12_109 (c_X12_isTold hc2) [0, 2] 0 12 rfl rfl rfl rfl rfl rfl rfl rfl rfl rfl (Nat.le_of_ble_eq_true rfl) ⟨Nat.le_of_ble_eq_true rfl, Nat.le_of_ble_eq_true rfl⟩ ⟨Nat.le_refl _, Nat.le_refl _⟩ dX12_guards_17 ?_
            intro H locs hP hD hS
            refine lv_if_eq (tgt := 51) hx hb dX12_guards_20 (by decide) (fun q => ?_) (fun q => ?_)
            · have hf := if_t q hf
              exact hb_51 l2 l3 _ _ ls (lv_sub hl [0, 1, 2, 3] rfl) hP hD hS hf
            · have hf := if_f q hf
              refine lv_aload_n hx hb dX12_guards_23 rfl (lv_at hl 0 rfl) ?_
              refine lv_iload_n hx hb dX12_guards_24 rfl (lv_at hl 3 rfl) ?_
              obtain ⟨r3, hc4, hf⟩ := bd1_e hf
              refine x_callVI (ws' := [oX12 A_t A_t_now A_t_aside A_t_kept A_t_rhymeOf A_t_wasRhyme A_t_wordAt x_t_wordMany A_t_tape x_t_taped x_t_place0 x_t_length0 x_t_fault x_t_number0 x_t_open x_t_codeMany x_t_waiting x_t_saidMany x_t_clauses A_t_said A_t_waitsAt A_t_saidLetter A_t_saidFrom A_t_saidHalf A_t_saidTo A_t_codes A_t_clauseOf A_t_codeFrom A_t_codeHalf A_t_codeTo A_t_stack A_t_facts x_t_lines A_t_newWords A_t_roundFrom A_t_roundAt A_t_roundTimes x_t_newMany x_t_rounds x_t_itFrom x_t_itTimes x_t_writtenNow x_t_picturesNow x_t_usedNow x_t_chosen x_t_fearOfChosen A_t_leastFrom A_t_rowNow x_t_changesNow x_t_left0 A_t_bornOf A_t_trainsTo A_t_trainAt x_t_trainMany x_t_leastTries x_t_firstTrained x_t_isKept, iA cI 8 A_t_bornOf v_t_bornOf, iA cI 293 A_t_now v_t_now]) (rest := []) C hK hP hD hS hA hl mf_X12_109 (c_X12_isTold hc4) [0, 2] 0 12 rfl rfl rfl rfl rfl rfl rfl rfl rfl rfl (Nat.le_of_ble_eq_true rfl) ⟨Nat.le_of_ble_eq_true rfl, Nat.le_of_ble_eq_true rfl⟩ ⟨Nat.le_refl _, Nat.le_refl _⟩ dX12_guards_25 ?_
              intro H locs hP hD hS
              refine lv_if_eq (tgt := 51) hx hb dX12_guards_28 (by decide) (fun q => ?_) (fun q => ?_)
              · have hf := if_t q hf
                exact hb_51 l2 l3 _ _ ls (lv_sub hl [0, 1, 2, 3] rfl) hP hD hS hf
              · have hf := if_f q hf
                refine lv_aload_n hx hb dX12_guards_31 rfl (lv_at hl 0 rfl) ?_
                refine x_get C hK hP fd_X12_89 0 rfl rfl dX12_guards_32 ?_
                refine lv_iload_n hx hb dX12_guards_35 rfl (lv_at hl 2 rfl) ?_
                obtain ⟨hi, hf⟩ := gI_e hf
                refine x_iald C hK hP 1 rfl hi dX12_guards_36 ?_
                refine lv_aload_n hx hb dX12_guards_37 rfl (lv_at hl 0 rfl) ?_
                refine x_get C hK hP fd_X12_89 0 rfl rfl dX12_guards_38 ?_
                refine lv_iload_n hx hb dX12_guards_41 rfl (lv_at hl 3 rfl) ?_
                obtain ⟨hi, hf⟩ := gI_e hf
                refine x_iald C hK hP 1 rfl hi dX12_guards_42 ?_
                refine lv_ixor hx hb dX12_guards_43 ?_
                refine lv_iload_n hx hb dX12_guards_44 rfl (lv_at hl 1 rfl) ?_
                refine lv_iand hx hb dX12_guards_45 ?_
                refine lv_if_ne (tgt := 51) hx hb dX12_guards_46 (by decide) (fun q => ?_) (fun q => ?_)
                · have hf := if_f q hf
                  exact hb_51 l2 l3 _ _ ls (lv_sub hl [0, 1, 2, 3] rfl) hP hD hS hf
                · have hf := if_t q hf
                  refine lv_iconst (v := 0) hx hb dX12_guards_49 (by decide) ?_
                  obtain rfl := ev1 hf
                  exact x_zret C hr hlk (Or.inl rfl) hP hD hS dX12_guards_50
      intro l2 H locs ls hl hP hD hS hf
      rw [f_X12_guards_b2] at hf
      refine lv_iload_n hx hb dX12_guards_2 rfl (lv_at hl 2 rfl) ?_
      refine lv_bipush (v := 8) hx hb dX12_guards_3 (by decide) ?_
      refine lv_icmp_ge (tgt := 63) hx hb dX12_guards_5 (by decide) (fun q => ?_) (fun q => ?_)
      · have hf := if_t q hf
        refine lv_iconst (v := 1) hx hb dX12_guards_63 (by decide) ?_
        obtain rfl := ev1 hf
        exact x_zret C hr hlk (Or.inr rfl) hP hD hS dX12_guards_64
      · have hf := if_f q hf
        refine lv_iconst (v := 0) hx hb dX12_guards_8 (by decide) ?_
        refine lv_istore_n (lv' := [(3, .int (0 : Int32)), (0, .ref A_t), (1, .int a1), (2, .int l2)]) hx hb dX12_guards_9 rfl hl (by decide) rfl (fun ls hl => ?_)
        exact hb_10 FU l2 (0 : Int32) _ _ ls (lv_sub hl [1, 2, 3, 0] rfl) hP hD hS hf
  refine lv_iconst (v := 0) hx hb dX12_guards_0 (by decide) ?_
  refine lv_istore_n (lv' := [(2, .int (0 : Int32)), (0, .ref A_t), (1, .int a1)]) hx hb dX12_guards_1 rfl hl (by decide) rfl (fun ls hl => ?_)
  exact hb_2 FU (0 : Int32) _ _ ls (lv_sub hl [1, 2, 0] rfl) hP hD hS hf
def f_X12_guard_b41 (a1 : Int32) (k13 : (Nat → Int32) → Int32 → Option (Int32 × (Nat → Int32))) (v_t_bornOf : (Nat → Int32)) (s1 : Int32) (s2 : Int32) (l2 : Int32) : Option (Int32 × (Nat → Int32)) :=
  sI 8 v_t_bornOf s1 s2 (fun w1 =>
  k13 w1 (l2 + (1 : Int32)))
def f_X12_guard_b92 (a1 : Int32) (k67 : (Nat → Int32) → Int32 → Int32 → Option (Int32 × (Nat → Int32))) (v_t_bornOf : (Nat → Int32)) (l2 : Int32) (l3 : Int32) : Option (Int32 × (Nat → Int32)) :=
  k67 v_t_bornOf l2 (l3 + (-1 : Int32))
def f_X12_guard_b110 (v_t_bornOf : (Nat → Int32)) (s0 : Int32) : Option (Int32 × (Nat → Int32)) :=
  some (s0, v_t_bornOf)
def f_X12_guard_b67 (v_t_now : (Nat → Int32)) (a1 : Int32) : Nat → (Nat → Int32) → Int32 → Int32 → Option (Int32 × (Nat → Int32))
  | 0, _, _, _ => none
  | n + 1, v_t_bornOf, l2, l3 =>
    if l3 < 0 then
      if a1 = 0 then
        bd1 (f_X12_bits l2) (fun r1 =>
        f_X12_guard_b110 v_t_bornOf r1)
      else
        f_X12_guard_b110 v_t_bornOf l2
    else
      bd1 (f_X12_bits l3) (fun r2 =>
      bd1 (f_X12_bits l2) (fun r3 =>
      if r3 < r2 then
        f_X12_guard_b92 a1 (f_X12_guard_b67 v_t_now a1 n) v_t_bornOf l2 l3
      else
        bd1 (f_X12_guards v_t_bornOf v_t_now l3) (fun r4 =>
        if r4 = 0 then
          f_X12_guard_b92 a1 (f_X12_guard_b67 v_t_now a1 n) v_t_bornOf l2 l3
        else
          f_X12_guard_b92 a1 (f_X12_guard_b67 v_t_now a1 n) v_t_bornOf l3 l3)))
def f_X12_guard_b13 (v_t_now : (Nat → Int32)) (v_t_rhymeOf : (Nat → Int32)) (a1 : Int32) : Nat → (Nat → Int32) → Int32 → Option (Int32 × (Nat → Int32))
  | 0, _, _ => none
  | n + 1, v_t_bornOf, l2 =>
    if (8 : Int32) ≤ l2 then
      bd1 (f_X12_guards v_t_bornOf v_t_now (65535 : Int32)) (fun r1 =>
      if r1 = 0 then
        some ((-2 : Int32), v_t_bornOf)
      else
        f_X12_guard_b67 v_t_now a1 FU v_t_bornOf (65535 : Int32) (65534 : Int32))
    else
      bd1 (f_X12_isTold v_t_now l2) (fun r2 =>
      if r2 = 0 then
        f_X12_guard_b41 a1 (f_X12_guard_b13 v_t_now v_t_rhymeOf a1 n) v_t_bornOf l2 (0 : Int32) l2
      else
        bd1 (f_X12_bornBy v_t_now v_t_rhymeOf l2) (fun r3 =>
        f_X12_guard_b41 a1 (f_X12_guard_b13 v_t_now v_t_rhymeOf a1 n) v_t_bornOf l2 r3 l2))
def f_X12_guard (v_t_bornOf : (Nat → Int32)) (v_t_now : (Nat → Int32)) (v_t_rhymeOf : (Nat → Int32)) (a1 : Int32) : Option (Int32 × (Nat → Int32)) :=
  bd1 (f_X12_in a1 (0 : Int32) (1 : Int32)) (fun r4 =>
  if r4 = 0 then
    some ((-1 : Int32), v_t_bornOf)
  else
    f_X12_guard_b13 v_t_now v_t_rhymeOf a1 FU v_t_bornOf (0 : Int32))
set_option maxHeartbeats 4000000 in
set_option maxRecDepth 100000 in
theorem c_X12_guard {l : Launch} {D : va_G} {cI cB : ClassId} {A_t A_t_now A_t_aside A_t_kept A_t_rhymeOf A_t_wasRhyme A_t_wordAt A_t_tape A_t_said A_t_waitsAt A_t_saidLetter A_t_saidFrom A_t_saidHalf A_t_saidTo A_t_codes A_t_clauseOf A_t_codeFrom A_t_codeHalf A_t_codeTo A_t_stack A_t_facts A_t_newWords A_t_roundFrom A_t_roundAt A_t_roundTimes A_t_leastFrom A_t_rowNow A_t_bornOf A_t_trainsTo A_t_trainAt : Nat} {x_t_wordMany x_t_taped x_t_place0 x_t_length0 x_t_fault x_t_number0 x_t_open x_t_codeMany x_t_waiting x_t_saidMany x_t_clauses x_t_lines x_t_newMany x_t_rounds x_t_itFrom x_t_itTimes x_t_writtenNow x_t_picturesNow x_t_usedNow x_t_chosen x_t_fearOfChosen x_t_changesNow x_t_left0 x_t_trainMany x_t_leastTries x_t_firstTrained x_t_isKept a1 : Int32} {v_t_bornOf v_t_now v_t_rhymeOf : Nat → Int32} {o_r : Int32} {o_v_t_bornOf : Nat → Int32} (hf : f_X12_guard v_t_bornOf v_t_now v_t_rhymeOf a1 = some (o_r, o_v_t_bornOf)) : CtI l D cI cB yX12_guard cX12_guard 4 (some .int) 6 132 [.ref A_t, .int a1] [oX12 A_t A_t_now A_t_aside A_t_kept A_t_rhymeOf A_t_wasRhyme A_t_wordAt x_t_wordMany A_t_tape x_t_taped x_t_place0 x_t_length0 x_t_fault x_t_number0 x_t_open x_t_codeMany x_t_waiting x_t_saidMany x_t_clauses A_t_said A_t_waitsAt A_t_saidLetter A_t_saidFrom A_t_saidHalf A_t_saidTo A_t_codes A_t_clauseOf A_t_codeFrom A_t_codeHalf A_t_codeTo A_t_stack A_t_facts x_t_lines A_t_newWords A_t_roundFrom A_t_roundAt A_t_roundTimes x_t_newMany x_t_rounds x_t_itFrom x_t_itTimes x_t_writtenNow x_t_picturesNow x_t_usedNow x_t_chosen x_t_fearOfChosen A_t_leastFrom A_t_rowNow x_t_changesNow x_t_left0 A_t_bornOf A_t_trainsTo A_t_trainAt x_t_trainMany x_t_leastTries x_t_firstTrained x_t_isKept, iA cI 8 A_t_bornOf v_t_bornOf, iA cI 293 A_t_now v_t_now, iA cI 16 A_t_rhymeOf v_t_rhymeOf] [oX12 A_t A_t_now A_t_aside A_t_kept A_t_rhymeOf A_t_wasRhyme A_t_wordAt x_t_wordMany A_t_tape x_t_taped x_t_place0 x_t_length0 x_t_fault x_t_number0 x_t_open x_t_codeMany x_t_waiting x_t_saidMany x_t_clauses A_t_said A_t_waitsAt A_t_saidLetter A_t_saidFrom A_t_saidHalf A_t_saidTo A_t_codes A_t_clauseOf A_t_codeFrom A_t_codeHalf A_t_codeTo A_t_stack A_t_facts x_t_lines A_t_newWords A_t_roundFrom A_t_roundAt A_t_roundTimes x_t_newMany x_t_rounds x_t_itFrom x_t_itTimes x_t_writtenNow x_t_picturesNow x_t_usedNow x_t_chosen x_t_fearOfChosen A_t_leastFrom A_t_rowNow x_t_changesNow x_t_left0 A_t_bornOf A_t_trainsTo A_t_trainAt x_t_trainMany x_t_leastTries x_t_firstTrained x_t_isKept, iA cI 8 A_t_bornOf o_v_t_bornOf, iA cI 293 A_t_now v_t_now, iA cI 16 A_t_rhymeOf v_t_rhymeOf] o_r := by
  refine x_startI (by decide) (Nat.le_of_ble_eq_true rfl) ?_
  intro p e s m below meth c A C hr hlk hA hK hP hD hS ls hl
  have hl : lv_has ls 4 [(0, .ref A_t), (1, .int a1)] := hl
  have hx := C.1
  have hb := C.2.1
  unfold f_X12_guard at hf
  have hb_110 : ∀ (v_t_bornOf : (Nat → Int32)) (s0 : Int32) (H : Heap) (locs : List Loc) (ls : Array Slot), lv_has ls 4 [] → va_P D vwCl [oX12 A_t A_t_now A_t_aside A_t_kept A_t_rhymeOf A_t_wasRhyme A_t_wordAt x_t_wordMany A_t_tape x_t_taped x_t_place0 x_t_length0 x_t_fault x_t_number0 x_t_open x_t_codeMany x_t_waiting x_t_saidMany x_t_clauses A_t_said A_t_waitsAt A_t_saidLetter A_t_saidFrom A_t_saidHalf A_t_saidTo A_t_codes A_t_clauseOf A_t_codeFrom A_t_codeHalf A_t_codeTo A_t_stack A_t_facts x_t_lines A_t_newWords A_t_roundFrom A_t_roundAt A_t_roundTimes x_t_newMany x_t_rounds x_t_itFrom x_t_itTimes x_t_writtenNow x_t_picturesNow x_t_usedNow x_t_chosen x_t_fearOfChosen A_t_leastFrom A_t_rowNow x_t_changesNow x_t_left0 A_t_bornOf A_t_trainsTo A_t_trainAt x_t_trainMany x_t_leastTries x_t_firstTrained x_t_isKept, iA cI 8 A_t_bornOf v_t_bornOf, iA cI 293 A_t_now v_t_now, iA cI 16 A_t_rhymeOf v_t_rhymeOf] H → va_D A [oX12 A_t A_t_now A_t_aside A_t_kept A_t_rhymeOf A_t_wasRhyme A_t_wordAt x_t_wordMany A_t_tape x_t_taped x_t_place0 x_t_length0 x_t_fault x_t_number0 x_t_open x_t_codeMany x_t_waiting x_t_saidMany x_t_clauses A_t_said A_t_waitsAt A_t_saidLetter A_t_saidFrom A_t_saidHalf A_t_saidTo A_t_codes A_t_clauseOf A_t_codeFrom A_t_codeHalf A_t_codeTo A_t_stack A_t_facts x_t_lines A_t_newWords A_t_roundFrom A_t_roundAt A_t_roundTimes x_t_newMany x_t_rounds x_t_itFrom x_t_itTimes x_t_writtenNow x_t_picturesNow x_t_usedNow x_t_chosen x_t_fearOfChosen A_t_leastFrom A_t_rowNow x_t_changesNow x_t_left0 A_t_bornOf A_t_trainsTo A_t_trainAt x_t_trainMany x_t_leastTries x_t_firstTrained x_t_isKept, iA cI 8 A_t_bornOf v_t_bornOf, iA cI 293 A_t_now v_t_now, iA cI 16 A_t_rhymeOf v_t_rhymeOf] → va_S A s.heap H locs → f_X12_guard_b110 v_t_bornOf s0 = some (o_r, o_v_t_bornOf) → W p l e { frames := 6, cells := 0, slots := 0, locals := 132 } s m ([.ref A_t, .int a1] : List Value).toArray below meth c H locs 0 0 (MQ below (PoI D A [oX12 A_t A_t_now A_t_aside A_t_kept A_t_rhymeOf A_t_wasRhyme A_t_wordAt x_t_wordMany A_t_tape x_t_taped x_t_place0 x_t_length0 x_t_fault x_t_number0 x_t_open x_t_codeMany x_t_waiting x_t_saidMany x_t_clauses A_t_said A_t_waitsAt A_t_saidLetter A_t_saidFrom A_t_saidHalf A_t_saidTo A_t_codes A_t_clauseOf A_t_codeFrom A_t_codeHalf A_t_codeTo A_t_stack A_t_facts x_t_lines A_t_newWords A_t_roundFrom A_t_roundAt A_t_roundTimes x_t_newMany x_t_rounds x_t_itFrom x_t_itTimes x_t_writtenNow x_t_picturesNow x_t_usedNow x_t_chosen x_t_fearOfChosen A_t_leastFrom A_t_rowNow x_t_changesNow x_t_left0 A_t_bornOf A_t_trainsTo A_t_trainAt x_t_trainMany x_t_leastTries x_t_firstTrained x_t_isKept, iA cI 8 A_t_bornOf o_v_t_bornOf, iA cI 293 A_t_now v_t_now, iA cI 16 A_t_rhymeOf v_t_rhymeOf] o_r) ([.ref A_t, .int a1] : List Value).toArray s 0 0 A) (F0 m 110 ls [.int s0]) := by
    intro v_t_bornOf s0 H locs ls hl hP hD hS hf
    unfold f_X12_guard_b110 at hf
    obtain ⟨rfl, rfl⟩ := ev2 hf
    exact x_iret C hr hlk hP hD hS dX12_guard_110
  have hb_67 : ∀ (n_67 : Nat) (v_t_bornOf : (Nat → Int32)) (l2 : Int32) (l3 : Int32) (H : Heap) (locs : List Loc) (ls : Array Slot), lv_has ls 4 [(0, .ref A_t), (1, .int a1), (2, .int l2), (3, .int l3)] → va_P D vwCl [oX12 A_t A_t_now A_t_aside A_t_kept A_t_rhymeOf A_t_wasRhyme A_t_wordAt x_t_wordMany A_t_tape x_t_taped x_t_place0 x_t_length0 x_t_fault x_t_number0 x_t_open x_t_codeMany x_t_waiting x_t_saidMany x_t_clauses A_t_said A_t_waitsAt A_t_saidLetter A_t_saidFrom A_t_saidHalf A_t_saidTo A_t_codes A_t_clauseOf A_t_codeFrom A_t_codeHalf A_t_codeTo A_t_stack A_t_facts x_t_lines A_t_newWords A_t_roundFrom A_t_roundAt A_t_roundTimes x_t_newMany x_t_rounds x_t_itFrom x_t_itTimes x_t_writtenNow x_t_picturesNow x_t_usedNow x_t_chosen x_t_fearOfChosen A_t_leastFrom A_t_rowNow x_t_changesNow x_t_left0 A_t_bornOf A_t_trainsTo A_t_trainAt x_t_trainMany x_t_leastTries x_t_firstTrained x_t_isKept, iA cI 8 A_t_bornOf v_t_bornOf, iA cI 293 A_t_now v_t_now, iA cI 16 A_t_rhymeOf v_t_rhymeOf] H → va_D A [oX12 A_t A_t_now A_t_aside A_t_kept A_t_rhymeOf A_t_wasRhyme A_t_wordAt x_t_wordMany A_t_tape x_t_taped x_t_place0 x_t_length0 x_t_fault x_t_number0 x_t_open x_t_codeMany x_t_waiting x_t_saidMany x_t_clauses A_t_said A_t_waitsAt A_t_saidLetter A_t_saidFrom A_t_saidHalf A_t_saidTo A_t_codes A_t_clauseOf A_t_codeFrom A_t_codeHalf A_t_codeTo A_t_stack A_t_facts x_t_lines A_t_newWords A_t_roundFrom A_t_roundAt A_t_roundTimes x_t_newMany x_t_rounds x_t_itFrom x_t_itTimes x_t_writtenNow x_t_picturesNow x_t_usedNow x_t_chosen x_t_fearOfChosen A_t_leastFrom A_t_rowNow x_t_changesNow x_t_left0 A_t_bornOf A_t_trainsTo A_t_trainAt x_t_trainMany x_t_leastTries x_t_firstTrained x_t_isKept, iA cI 8 A_t_bornOf v_t_bornOf, iA cI 293 A_t_now v_t_now, iA cI 16 A_t_rhymeOf v_t_rhymeOf] → va_S A s.heap H locs → f_X12_guard_b67 v_t_now a1 n_67 v_t_bornOf l2 l3 = some (o_r, o_v_t_bornOf) → W p l e { frames := 6, cells := 0, slots := 0, locals := 132 } s m ([.ref A_t, .int a1] : List Value).toArray below meth c H locs 0 0 (MQ below (PoI D A [oX12 A_t A_t_now A_t_aside A_t_kept A_t_rhymeOf A_t_wasRhyme A_t_wordAt x_t_wordMany A_t_tape x_t_taped x_t_place0 x_t_length0 x_t_fault x_t_number0 x_t_open x_t_codeMany x_t_waiting x_t_saidMany x_t_clauses A_t_said A_t_waitsAt A_t_saidLetter A_t_saidFrom A_t_saidHalf A_t_saidTo A_t_codes A_t_clauseOf A_t_codeFrom A_t_codeHalf A_t_codeTo A_t_stack A_t_facts x_t_lines A_t_newWords A_t_roundFrom A_t_roundAt A_t_roundTimes x_t_newMany x_t_rounds x_t_itFrom x_t_itTimes x_t_writtenNow x_t_picturesNow x_t_usedNow x_t_chosen x_t_fearOfChosen A_t_leastFrom A_t_rowNow x_t_changesNow x_t_left0 A_t_bornOf A_t_trainsTo A_t_trainAt x_t_trainMany x_t_leastTries x_t_firstTrained x_t_isKept, iA cI 8 A_t_bornOf o_v_t_bornOf, iA cI 293 A_t_now v_t_now, iA cI 16 A_t_rhymeOf v_t_rhymeOf] o_r) ([.ref A_t, .int a1] : List Value).toArray s 0 0 A) (F0 m 67 ls []) := by
    intro n_67
    induction n_67 with
    | zero =>
      intro v_t_bornOf l2 l3 H locs ls hl hP hD hS hf
      exact absurd hf (fun h => by rw [f_X12_guard_b67] at h; cases h)
    | succ n_67 ih_67 =>
      have hb_92 : ∀ (v_t_bornOf : (Nat → Int32)) (l2 : Int32) (l3 : Int32) (H : Heap) (locs : List Loc) (ls : Array Slot), lv_has ls 4 [(0, .ref A_t), (1, .int a1), (2, .int l2), (3, .int l3)] → va_P D vwCl [oX12 A_t A_t_now A_t_aside A_t_kept A_t_rhymeOf A_t_wasRhyme A_t_wordAt x_t_wordMany A_t_tape x_t_taped x_t_place0 x_t_length0 x_t_fault x_t_number0 x_t_open x_t_codeMany x_t_waiting x_t_saidMany x_t_clauses A_t_said A_t_waitsAt A_t_saidLetter A_t_saidFrom A_t_saidHalf A_t_saidTo A_t_codes A_t_clauseOf A_t_codeFrom A_t_codeHalf A_t_codeTo A_t_stack A_t_facts x_t_lines A_t_newWords A_t_roundFrom A_t_roundAt A_t_roundTimes x_t_newMany x_t_rounds x_t_itFrom x_t_itTimes x_t_writtenNow x_t_picturesNow x_t_usedNow x_t_chosen x_t_fearOfChosen A_t_leastFrom A_t_rowNow x_t_changesNow x_t_left0 A_t_bornOf A_t_trainsTo A_t_trainAt x_t_trainMany x_t_leastTries x_t_firstTrained x_t_isKept, iA cI 8 A_t_bornOf v_t_bornOf, iA cI 293 A_t_now v_t_now, iA cI 16 A_t_rhymeOf v_t_rhymeOf] H → va_D A [oX12 A_t A_t_now A_t_aside A_t_kept A_t_rhymeOf A_t_wasRhyme A_t_wordAt x_t_wordMany A_t_tape x_t_taped x_t_place0 x_t_length0 x_t_fault x_t_number0 x_t_open x_t_codeMany x_t_waiting x_t_saidMany x_t_clauses A_t_said A_t_waitsAt A_t_saidLetter A_t_saidFrom A_t_saidHalf A_t_saidTo A_t_codes A_t_clauseOf A_t_codeFrom A_t_codeHalf A_t_codeTo A_t_stack A_t_facts x_t_lines A_t_newWords A_t_roundFrom A_t_roundAt A_t_roundTimes x_t_newMany x_t_rounds x_t_itFrom x_t_itTimes x_t_writtenNow x_t_picturesNow x_t_usedNow x_t_chosen x_t_fearOfChosen A_t_leastFrom A_t_rowNow x_t_changesNow x_t_left0 A_t_bornOf A_t_trainsTo A_t_trainAt x_t_trainMany x_t_leastTries x_t_firstTrained x_t_isKept, iA cI 8 A_t_bornOf v_t_bornOf, iA cI 293 A_t_now v_t_now, iA cI 16 A_t_rhymeOf v_t_rhymeOf] → va_S A s.heap H locs → f_X12_guard_b92 a1 (f_X12_guard_b67 v_t_now a1 n_67) v_t_bornOf l2 l3 = some (o_r, o_v_t_bornOf) → W p l e { frames := 6, cells := 0, slots := 0, locals := 132 } s m ([.ref A_t, .int a1] : List Value).toArray below meth c H locs 0 0 (MQ below (PoI D A [oX12 A_t A_t_now A_t_aside A_t_kept A_t_rhymeOf A_t_wasRhyme A_t_wordAt x_t_wordMany A_t_tape x_t_taped x_t_place0 x_t_length0 x_t_fault x_t_number0 x_t_open x_t_codeMany x_t_waiting x_t_saidMany x_t_clauses A_t_said A_t_waitsAt A_t_saidLetter A_t_saidFrom A_t_saidHalf A_t_saidTo A_t_codes A_t_clauseOf A_t_codeFrom A_t_codeHalf A_t_codeTo A_t_stack A_t_facts x_t_lines A_t_newWords A_t_roundFrom A_t_roundAt A_t_roundTimes x_t_newMany x_t_rounds x_t_itFrom x_t_itTimes x_t_writtenNow x_t_picturesNow x_t_usedNow x_t_chosen x_t_fearOfChosen A_t_leastFrom A_t_rowNow x_t_changesNow x_t_left0 A_t_bornOf A_t_trainsTo A_t_trainAt x_t_trainMany x_t_leastTries x_t_firstTrained x_t_isKept, iA cI 8 A_t_bornOf o_v_t_bornOf, iA cI 293 A_t_now v_t_now, iA cI 16 A_t_rhymeOf v_t_rhymeOf] o_r) ([.ref A_t, .int a1] : List Value).toArray s 0 0 A) (F0 m 92 ls []) := by
        intro v_t_bornOf l2 l3 H locs ls hl hP hD hS hf
        unfold f_X12_guard_b92 at hf
        refine lv_iinc (v := (l3 + (-1 : Int32))) (lv' := [(3, .int (l3 + (-1 : Int32))), (0, .ref A_t), (1, .int a1), (2, .int l2)]) hx hb dX12_guard_92 hl (k := 3) rfl rfl (by decide) rfl (fun ls hl => ?_)
        refine lv_goto (tgt := 67) hx hb dX12_guard_95 (by decide) ?_
        exact ih_67 v_t_bornOf l2 (l3 + (-1 : Int32)) _ _ ls (lv_sub hl [1, 2, 3, 0] rfl) hP hD hS hf
      intro v_t_bornOf l2 l3 H locs ls hl hP hD hS hf
      rw [f_X12_guard_b67] at hf
      refine lv_iload_n hx hb dX12_guard_67 rfl (lv_at hl 3 rfl) ?_
      refine lv_if_lt (tgt := 98) hx hb dX12_guard_68 (by decide) (fun q => ?_) (fun q => ?_)
      · have hf := if_t q hf
        refine lv_iload_n hx hb dX12_guard_98 rfl (lv_at hl 1 rfl) ?_
        refine lv_if_ne (tgt := 109) hx hb dX12_guard_99 (by decide) (fun q => ?_) (fun q => ?_)
        · have hf := if_f q hf
          refine lv_iload_n hx hb dX12_guard_109 rfl (lv_at hl 2 rfl) ?_
          exact hb_110 v_t_bornOf l2 _ _ ls (lv_sub hl [] rfl) hP hD hS hf
        · have hf := if_t q hf
          refine lv_iload_n hx hb dX12_guard_102 rfl (lv_at hl 2 rfl) ?_
          obtain ⟨r1, hc2, hf⟩ := bd1_e hf
          refine x_callSI (ws' := [oX12 A_t A_t_now A_t_aside A_t_kept A_t_rhymeOf A_t_wasRhyme A_t_wordAt x_t_wordMany A_t_tape x_t_taped x_t_place0 x_t_length0 x_t_fault x_t_number0 x_t_open x_t_codeMany x_t_waiting x_t_saidMany x_t_clauses A_t_said A_t_waitsAt A_t_saidLetter A_t_saidFrom A_t_saidHalf A_t_saidTo A_t_codes A_t_clauseOf A_t_codeFrom A_t_codeHalf A_t_codeTo A_t_stack A_t_facts x_t_lines A_t_newWords A_t_roundFrom A_t_roundAt A_t_roundTimes x_t_newMany x_t_rounds x_t_itFrom x_t_itTimes x_t_writtenNow x_t_picturesNow x_t_usedNow x_t_chosen x_t_fearOfChosen A_t_leastFrom A_t_rowNow x_t_changesNow x_t_left0 A_t_bornOf A_t_trainsTo A_t_trainAt x_t_trainMany x_t_leastTries x_t_firstTrained x_t_isKept, iA cI 8 A_t_bornOf v_t_bornOf, iA cI 293 A_t_now v_t_now, iA cI 16 A_t_rhymeOf v_t_rhymeOf]) (rest := []) C hK hP hD hS hA hl mf_X12_384 (c_X12_bits hc2) [] rfl rfl rfl rfl rfl rfl rfl rfl (Nat.le_of_ble_eq_true rfl) ⟨Nat.le_of_ble_eq_true rfl, Nat.le_of_ble_eq_true rfl⟩ ⟨Nat.le_refl _, Nat.le_refl _⟩ dX12_guard_103 ?_
          intro H locs hP hD hS
          refine lv_goto (tgt := 110) hx hb dX12_guard_106 (by decide) ?_
          exact hb_110 v_t_bornOf r1 _ _ ls (lv_sub hl [] rfl) hP hD hS hf
      · have hf := if_f q hf
        refine lv_iload_n hx hb dX12_guard_71 rfl (lv_at hl 3 rfl) ?_
        obtain ⟨r3, hc4, hf⟩ := bd1_e hf
        refine x_callSI (ws' := [oX12 A_t A_t_now A_t_aside A_t_kept A_t_rhymeOf A_t_wasRhyme A_t_wordAt x_t_wordMany A_t_tape x_t_taped x_t_place0 x_t_length0 x_t_fault x_t_number0 x_t_open x_t_codeMany x_t_waiting x_t_saidMany x_t_clauses A_t_said A_t_waitsAt A_t_saidLetter A_t_saidFrom A_t_saidHalf A_t_saidTo A_t_codes A_t_clauseOf A_t_codeFrom A_t_codeHalf A_t_codeTo A_t_stack A_t_facts x_t_lines A_t_newWords A_t_roundFrom A_t_roundAt A_t_roundTimes x_t_newMany x_t_rounds x_t_itFrom x_t_itTimes x_t_writtenNow x_t_picturesNow x_t_usedNow x_t_chosen x_t_fearOfChosen A_t_leastFrom A_t_rowNow x_t_changesNow x_t_left0 A_t_bornOf A_t_trainsTo A_t_trainAt x_t_trainMany x_t_leastTries x_t_firstTrained x_t_isKept, iA cI 8 A_t_bornOf v_t_bornOf, iA cI 293 A_t_now v_t_now, iA cI 16 A_t_rhymeOf v_t_rhymeOf]) (rest := []) C hK hP hD hS hA hl mf_X12_384 (c_X12_bits hc4) [] rfl rfl rfl rfl rfl rfl rfl rfl (Nat.le_of_ble_eq_true rfl) ⟨Nat.le_of_ble_eq_true rfl, Nat.le_of_ble_eq_true rfl⟩ ⟨Nat.le_refl _, Nat.le_refl _⟩ dX12_guard_72 ?_
        intro H locs hP hD hS
        refine lv_iload_n hx hb dX12_guard_75 rfl (lv_at hl 2 rfl) ?_
        obtain ⟨r5, hc6, hf⟩ := bd1_e hf
        refine x_callSI (ws' := [oX12 A_t A_t_now A_t_aside A_t_kept A_t_rhymeOf A_t_wasRhyme A_t_wordAt x_t_wordMany A_t_tape x_t_taped x_t_place0 x_t_length0 x_t_fault x_t_number0 x_t_open x_t_codeMany x_t_waiting x_t_saidMany x_t_clauses A_t_said A_t_waitsAt A_t_saidLetter A_t_saidFrom A_t_saidHalf A_t_saidTo A_t_codes A_t_clauseOf A_t_codeFrom A_t_codeHalf A_t_codeTo A_t_stack A_t_facts x_t_lines A_t_newWords A_t_roundFrom A_t_roundAt A_t_roundTimes x_t_newMany x_t_rounds x_t_itFrom x_t_itTimes x_t_writtenNow x_t_picturesNow x_t_usedNow x_t_chosen x_t_fearOfChosen A_t_leastFrom A_t_rowNow x_t_changesNow x_t_left0 A_t_bornOf A_t_trainsTo A_t_trainAt x_t_trainMany x_t_leastTries x_t_firstTrained x_t_isKept, iA cI 8 A_t_bornOf v_t_bornOf, iA cI 293 A_t_now v_t_now, iA cI 16 A_t_rhymeOf v_t_rhymeOf]) (rest := [.int r3]) C hK hP hD hS hA hl mf_X12_384 (c_X12_bits hc6) [] rfl rfl rfl rfl rfl rfl rfl rfl (Nat.le_of_ble_eq_true rfl) ⟨Nat.le_of_ble_eq_true rfl, Nat.le_of_ble_eq_true rfl⟩ ⟨Nat.le_refl _, Nat.le_refl _⟩ dX12_guard_76 ?_
        intro H locs hP hD hS
        refine lv_icmp_gt (tgt := 92) hx hb dX12_guard_79 (by decide) (fun q => ?_) (fun q => ?_)
        · have hf := if_t q hf
          exact hb_92 v_t_bornOf l2 l3 _ _ ls (lv_sub hl [0, 1, 2, 3] rfl) hP hD hS hf
        · have hf := if_f q hf
          refine lv_aload_n hx hb dX12_guard_82 rfl (lv_at hl 0 rfl) ?_
          refine lv_iload_n hx hb dX12_guard_83 rfl (lv_at hl 3 rfl) ?_
          obtain ⟨r7, hc8, hf⟩ := bd1_e hf
          refine x_callVI (ws' := [oX12 A_t A_t_now A_t_aside A_t_kept A_t_rhymeOf A_t_wasRhyme A_t_wordAt x_t_wordMany A_t_tape x_t_taped x_t_place0 x_t_length0 x_t_fault x_t_number0 x_t_open x_t_codeMany x_t_waiting x_t_saidMany x_t_clauses A_t_said A_t_waitsAt A_t_saidLetter A_t_saidFrom A_t_saidHalf A_t_saidTo A_t_codes A_t_clauseOf A_t_codeFrom A_t_codeHalf A_t_codeTo A_t_stack A_t_facts x_t_lines A_t_newWords A_t_roundFrom A_t_roundAt A_t_roundTimes x_t_newMany x_t_rounds x_t_itFrom x_t_itTimes x_t_writtenNow x_t_picturesNow x_t_usedNow x_t_chosen x_t_fearOfChosen A_t_leastFrom A_t_rowNow x_t_changesNow x_t_left0 A_t_bornOf A_t_trainsTo A_t_trainAt x_t_trainMany x_t_leastTries x_t_firstTrained x_t_isKept, iA cI 8 A_t_bornOf v_t_bornOf, iA cI 293 A_t_now v_t_now, iA cI 16 A_t_rhymeOf v_t_rhymeOf]) (rest := []) C hK hP hD hS hA hl mf_X12_393 (c_X12_guards hc8) [0, 1, 2] 0 12 rfl rfl rfl rfl rfl rfl rfl rfl rfl rfl (Nat.le_of_ble_eq_true rfl) ⟨Nat.le_of_ble_eq_true rfl, Nat.le_of_ble_eq_true rfl⟩ ⟨Nat.le_refl _, Nat.le_refl _⟩ dX12_guard_84 ?_
          intro H locs hP hD hS
          refine lv_if_eq (tgt := 92) hx hb dX12_guard_87 (by decide) (fun q => ?_) (fun q => ?_)
          · have hf := if_t q hf
            exact hb_92 v_t_bornOf l2 l3 _ _ ls (lv_sub hl [0, 1, 2, 3] rfl) hP hD hS hf
          · have hf := if_f q hf
            refine lv_iload_n hx hb dX12_guard_90 rfl (lv_at hl 3 rfl) ?_
            refine lv_istore_n (lv' := [(2, .int l3), (0, .ref A_t), (1, .int a1), (3, .int l3)]) hx hb dX12_guard_91 rfl hl (by decide) rfl (fun ls hl => ?_)
            exact hb_92 v_t_bornOf l3 l3 _ _ ls (lv_sub hl [1, 2, 0, 3] rfl) hP hD hS hf
  have hb_13 : ∀ (n_13 : Nat) (v_t_bornOf : (Nat → Int32)) (l2 : Int32) (H : Heap) (locs : List Loc) (ls : Array Slot), lv_has ls 4 [(0, .ref A_t), (1, .int a1), (2, .int l2)] → va_P D vwCl [oX12 A_t A_t_now A_t_aside A_t_kept A_t_rhymeOf A_t_wasRhyme A_t_wordAt x_t_wordMany A_t_tape x_t_taped x_t_place0 x_t_length0 x_t_fault x_t_number0 x_t_open x_t_codeMany x_t_waiting x_t_saidMany x_t_clauses A_t_said A_t_waitsAt A_t_saidLetter A_t_saidFrom A_t_saidHalf A_t_saidTo A_t_codes A_t_clauseOf A_t_codeFrom A_t_codeHalf A_t_codeTo A_t_stack A_t_facts x_t_lines A_t_newWords A_t_roundFrom A_t_roundAt A_t_roundTimes x_t_newMany x_t_rounds x_t_itFrom x_t_itTimes x_t_writtenNow x_t_picturesNow x_t_usedNow x_t_chosen x_t_fearOfChosen A_t_leastFrom A_t_rowNow x_t_changesNow x_t_left0 A_t_bornOf A_t_trainsTo A_t_trainAt x_t_trainMany x_t_leastTries x_t_firstTrained x_t_isKept, iA cI 8 A_t_bornOf v_t_bornOf, iA cI 293 A_t_now v_t_now, iA cI 16 A_t_rhymeOf v_t_rhymeOf] H → va_D A [oX12 A_t A_t_now A_t_aside A_t_kept A_t_rhymeOf A_t_wasRhyme A_t_wordAt x_t_wordMany A_t_tape x_t_taped x_t_place0 x_t_length0 x_t_fault x_t_number0 x_t_open x_t_codeMany x_t_waiting x_t_saidMany x_t_clauses A_t_said A_t_waitsAt A_t_saidLetter A_t_saidFrom A_t_saidHalf A_t_saidTo A_t_codes A_t_clauseOf A_t_codeFrom A_t_codeHalf A_t_codeTo A_t_stack A_t_facts x_t_lines A_t_newWords A_t_roundFrom A_t_roundAt A_t_roundTimes x_t_newMany x_t_rounds x_t_itFrom x_t_itTimes x_t_writtenNow x_t_picturesNow x_t_usedNow x_t_chosen x_t_fearOfChosen A_t_leastFrom A_t_rowNow x_t_changesNow x_t_left0 A_t_bornOf A_t_trainsTo A_t_trainAt x_t_trainMany x_t_leastTries x_t_firstTrained x_t_isKept, iA cI 8 A_t_bornOf v_t_bornOf, iA cI 293 A_t_now v_t_now, iA cI 16 A_t_rhymeOf v_t_rhymeOf] → va_S A s.heap H locs → f_X12_guard_b13 v_t_now v_t_rhymeOf a1 n_13 v_t_bornOf l2 = some (o_r, o_v_t_bornOf) → W p l e { frames := 6, cells := 0, slots := 0, locals := 132 } s m ([.ref A_t, .int a1] : List Value).toArray below meth c H locs 0 0 (MQ below (PoI D A [oX12 A_t A_t_now A_t_aside A_t_kept A_t_rhymeOf A_t_wasRhyme A_t_wordAt x_t_wordMany A_t_tape x_t_taped x_t_place0 x_t_length0 x_t_fault x_t_number0 x_t_open x_t_codeMany x_t_waiting x_t_saidMany x_t_clauses A_t_said A_t_waitsAt A_t_saidLetter A_t_saidFrom A_t_saidHalf A_t_saidTo A_t_codes A_t_clauseOf A_t_codeFrom A_t_codeHalf A_t_codeTo A_t_stack A_t_facts x_t_lines A_t_newWords A_t_roundFrom A_t_roundAt A_t_roundTimes x_t_newMany x_t_rounds x_t_itFrom x_t_itTimes x_t_writtenNow x_t_picturesNow x_t_usedNow x_t_chosen x_t_fearOfChosen A_t_leastFrom A_t_rowNow x_t_changesNow x_t_left0 A_t_bornOf A_t_trainsTo A_t_trainAt x_t_trainMany x_t_leastTries x_t_firstTrained x_t_isKept, iA cI 8 A_t_bornOf o_v_t_bornOf, iA cI 293 A_t_now v_t_now, iA cI 16 A_t_rhymeOf v_t_rhymeOf] o_r) ([.ref A_t, .int a1] : List Value).toArray s 0 0 A) (F0 m 13 ls []) := by
    intro n_13
    induction n_13 with
    | zero =>
      intro v_t_bornOf l2 H locs ls hl hP hD hS hf
      exact absurd hf (fun h => by rw [f_X12_guard_b13] at h; cases h)
    | succ n_13 ih_13 =>
      have hb_41 : ∀ (v_t_bornOf : (Nat → Int32)) (s1 : Int32) (s2 : Int32) (l2 : Int32) (H : Heap) (locs : List Loc) (ls : Array Slot), lv_has ls 4 [(0, .ref A_t), (1, .int a1), (2, .int l2)] → va_P D vwCl [oX12 A_t A_t_now A_t_aside A_t_kept A_t_rhymeOf A_t_wasRhyme A_t_wordAt x_t_wordMany A_t_tape x_t_taped x_t_place0 x_t_length0 x_t_fault x_t_number0 x_t_open x_t_codeMany x_t_waiting x_t_saidMany x_t_clauses A_t_said A_t_waitsAt A_t_saidLetter A_t_saidFrom A_t_saidHalf A_t_saidTo A_t_codes A_t_clauseOf A_t_codeFrom A_t_codeHalf A_t_codeTo A_t_stack A_t_facts x_t_lines A_t_newWords A_t_roundFrom A_t_roundAt A_t_roundTimes x_t_newMany x_t_rounds x_t_itFrom x_t_itTimes x_t_writtenNow x_t_picturesNow x_t_usedNow x_t_chosen x_t_fearOfChosen A_t_leastFrom A_t_rowNow x_t_changesNow x_t_left0 A_t_bornOf A_t_trainsTo A_t_trainAt x_t_trainMany x_t_leastTries x_t_firstTrained x_t_isKept, iA cI 8 A_t_bornOf v_t_bornOf, iA cI 293 A_t_now v_t_now, iA cI 16 A_t_rhymeOf v_t_rhymeOf] H → va_D A [oX12 A_t A_t_now A_t_aside A_t_kept A_t_rhymeOf A_t_wasRhyme A_t_wordAt x_t_wordMany A_t_tape x_t_taped x_t_place0 x_t_length0 x_t_fault x_t_number0 x_t_open x_t_codeMany x_t_waiting x_t_saidMany x_t_clauses A_t_said A_t_waitsAt A_t_saidLetter A_t_saidFrom A_t_saidHalf A_t_saidTo A_t_codes A_t_clauseOf A_t_codeFrom A_t_codeHalf A_t_codeTo A_t_stack A_t_facts x_t_lines A_t_newWords A_t_roundFrom A_t_roundAt A_t_roundTimes x_t_newMany x_t_rounds x_t_itFrom x_t_itTimes x_t_writtenNow x_t_picturesNow x_t_usedNow x_t_chosen x_t_fearOfChosen A_t_leastFrom A_t_rowNow x_t_changesNow x_t_left0 A_t_bornOf A_t_trainsTo A_t_trainAt x_t_trainMany x_t_leastTries x_t_firstTrained x_t_isKept, iA cI 8 A_t_bornOf v_t_bornOf, iA cI 293 A_t_now v_t_now, iA cI 16 A_t_rhymeOf v_t_rhymeOf] → va_S A s.heap H locs → f_X12_guard_b41 a1 (f_X12_guard_b13 v_t_now v_t_rhymeOf a1 n_13) v_t_bornOf s1 s2 l2 = some (o_r, o_v_t_bornOf) → W p l e { frames := 6, cells := 0, slots := 0, locals := 132 } s m ([.ref A_t, .int a1] : List Value).toArray below meth c H locs 0 0 (MQ below (PoI D A [oX12 A_t A_t_now A_t_aside A_t_kept A_t_rhymeOf A_t_wasRhyme A_t_wordAt x_t_wordMany A_t_tape x_t_taped x_t_place0 x_t_length0 x_t_fault x_t_number0 x_t_open x_t_codeMany x_t_waiting x_t_saidMany x_t_clauses A_t_said A_t_waitsAt A_t_saidLetter A_t_saidFrom A_t_saidHalf A_t_saidTo A_t_codes A_t_clauseOf A_t_codeFrom A_t_codeHalf A_t_codeTo A_t_stack A_t_facts x_t_lines A_t_newWords A_t_roundFrom A_t_roundAt A_t_roundTimes x_t_newMany x_t_rounds x_t_itFrom x_t_itTimes x_t_writtenNow x_t_picturesNow x_t_usedNow x_t_chosen x_t_fearOfChosen A_t_leastFrom A_t_rowNow x_t_changesNow x_t_left0 A_t_bornOf A_t_trainsTo A_t_trainAt x_t_trainMany x_t_leastTries x_t_firstTrained x_t_isKept, iA cI 8 A_t_bornOf o_v_t_bornOf, iA cI 293 A_t_now v_t_now, iA cI 16 A_t_rhymeOf v_t_rhymeOf] o_r) ([.ref A_t, .int a1] : List Value).toArray s 0 0 A) (F0 m 41 ls [.int s2, .int s1, .ref A_t_bornOf]) := by
        intro v_t_bornOf s1 s2 l2 H locs ls hl hP hD hS hf
        unfold f_X12_guard_b41 at hf
        obtain ⟨hi, hf⟩ := sI_e hf
        refine x_iast (ws' := [oX12 A_t A_t_now A_t_aside A_t_kept A_t_rhymeOf A_t_wasRhyme A_t_wordAt x_t_wordMany A_t_tape x_t_taped x_t_place0 x_t_length0 x_t_fault x_t_number0 x_t_open x_t_codeMany x_t_waiting x_t_saidMany x_t_clauses A_t_said A_t_waitsAt A_t_saidLetter A_t_saidFrom A_t_saidHalf A_t_saidTo A_t_codes A_t_clauseOf A_t_codeFrom A_t_codeHalf A_t_codeTo A_t_stack A_t_facts x_t_lines A_t_newWords A_t_roundFrom A_t_roundAt A_t_roundTimes x_t_newMany x_t_rounds x_t_itFrom x_t_itTimes x_t_writtenNow x_t_picturesNow x_t_usedNow x_t_chosen x_t_fearOfChosen A_t_leastFrom A_t_rowNow x_t_changesNow x_t_left0 A_t_bornOf A_t_trainsTo A_t_trainAt x_t_trainMany x_t_leastTries x_t_firstTrained x_t_isKept, iA cI 8 A_t_bornOf (upd v_t_bornOf s1.toNatClampNeg s2), iA cI 293 A_t_now v_t_now, iA cI 16 A_t_rhymeOf v_t_rhymeOf]) C hK hP hD hS 1 rfl hi rfl dX12_guard_41 ?_
        intro H locs hP hD hS
        refine lv_iinc (v := (l2 + (1 : Int32))) (lv' := [(2, .int (l2 + (1 : Int32))), (0, .ref A_t), (1, .int a1)]) hx hb dX12_guard_42 hl (k := 2) rfl rfl (by decide) rfl (fun ls hl => ?_)
        refine lv_goto (tgt := 13) hx hb dX12_guard_45 (by decide) ?_
        exact ih_13 (upd v_t_bornOf s1.toNatClampNeg s2) (l2 + (1 : Int32)) _ _ ls (lv_sub hl [1, 2, 0] rfl) hP hD hS hf
      intro v_t_bornOf l2 H locs ls hl hP hD hS hf
      rw [f_X12_guard_b13] at hf
      refine lv_iload_n hx hb dX12_guard_13 rfl (lv_at hl 2 rfl) ?_
      refine lv_bipush (v := 8) hx hb dX12_guard_14 (by decide) ?_
      refine lv_icmp_ge (tgt := 48) hx hb dX12_guard_16 (by decide) (fun q => ?_) (fun q => ?_)
      · have hf := if_t q hf
        refine lv_aload_n hx hb dX12_guard_48 rfl (lv_at hl 0 rfl) ?_
        refine x_ldc C kc_X12_136 dX12_guard_49 ?_
        obtain ⟨r9, hc10, hf⟩ := bd1_e hf
        refine x_callVI (ws' := [oX12 A_t A_t_now A_t_aside A_t_kept A_t_rhymeOf A_t_wasRhyme A_t_wordAt x_t_wordMany A_t_tape x_t_taped x_t_place0 x_t_length0 x_t_fault x_t_number0 x_t_open x_t_codeMany x_t_waiting x_t_saidMany x_t_clauses A_t_said A_t_waitsAt A_t_saidLetter A_t_saidFrom A_t_saidHalf A_t_saidTo A_t_codes A_t_clauseOf A_t_codeFrom A_t_codeHalf A_t_codeTo A_t_stack A_t_facts x_t_lines A_t_newWords A_t_roundFrom A_t_roundAt A_t_roundTimes x_t_newMany x_t_rounds x_t_itFrom x_t_itTimes x_t_writtenNow x_t_picturesNow x_t_usedNow x_t_chosen x_t_fearOfChosen A_t_leastFrom A_t_rowNow x_t_changesNow x_t_left0 A_t_bornOf A_t_trainsTo A_t_trainAt x_t_trainMany x_t_leastTries x_t_firstTrained x_t_isKept, iA cI 8 A_t_bornOf v_t_bornOf, iA cI 293 A_t_now v_t_now, iA cI 16 A_t_rhymeOf v_t_rhymeOf]) (rest := []) C hK hP hD hS hA hl mf_X12_393 (c_X12_guards hc10) [0, 1, 2] 0 12 rfl rfl rfl rfl rfl rfl rfl rfl rfl rfl (Nat.le_of_ble_eq_true rfl) ⟨Nat.le_of_ble_eq_true rfl, Nat.le_of_ble_eq_true rfl⟩ ⟨Nat.le_refl _, Nat.le_refl _⟩ dX12_guard_51 ?_
        intro H locs hP hD hS
        refine lv_if_ne (tgt := 60) hx hb dX12_guard_54 (by decide) (fun q => ?_) (fun q => ?_)
        · have hf := if_f q hf
          refine x_ldc C kc_X12_136 dX12_guard_60 ?_
          refine lv_istore_n (lv' := [(2, .int (65535 : Int32)), (0, .ref A_t), (1, .int a1)]) hx hb dX12_guard_62 rfl hl (by decide) rfl (fun ls hl => ?_)
          refine x_ldcw C kc_X12_396 dX12_guard_63 ?_
          refine lv_istore_n (lv' := [(3, .int (65534 : Int32)), (2, .int (65535 : Int32)), (0, .ref A_t), (1, .int a1)]) hx hb dX12_guard_66 rfl hl (by decide) rfl (fun ls hl => ?_)
          exact hb_67 FU v_t_bornOf (65535 : Int32) (65534 : Int32) _ _ ls (lv_sub hl [2, 3, 1, 0] rfl) hP hD hS hf
        · have hf := if_t q hf
          refine lv_bipush (v := -2) hx hb dX12_guard_57 (by decide) ?_
          obtain ⟨rfl, rfl⟩ := ev2 hf
          exact x_iret C hr hlk hP hD hS dX12_guard_59
      · have hf := if_f q hf
        refine lv_aload_n hx hb dX12_guard_19 rfl (lv_at hl 0 rfl) ?_
        refine x_get C hK hP fd_X12_89 0 rfl rfl dX12_guard_20 ?_
        refine lv_iload_n hx hb dX12_guard_23 rfl (lv_at hl 2 rfl) ?_
        refine lv_aload_n hx hb dX12_guard_24 rfl (lv_at hl 0 rfl) ?_
        refine lv_iload_n hx hb dX12_guard_25 rfl (lv_at hl 2 rfl) ?_
        obtain ⟨r11, hc12, hf⟩ := bd1_e hf
        refine x_callVI (ws' := [oX12 A_t A_t_now A_t_aside A_t_kept A_t_rhymeOf A_t_wasRhyme A_t_wordAt x_t_wordMany A_t_tape x_t_taped x_t_place0 x_t_length0 x_t_fault x_t_number0 x_t_open x_t_codeMany x_t_waiting x_t_saidMany x_t_clauses A_t_said A_t_waitsAt A_t_saidLetter A_t_saidFrom A_t_saidHalf A_t_saidTo A_t_codes A_t_clauseOf A_t_codeFrom A_t_codeHalf A_t_codeTo A_t_stack A_t_facts x_t_lines A_t_newWords A_t_roundFrom A_t_roundAt A_t_roundTimes x_t_newMany x_t_rounds x_t_itFrom x_t_itTimes x_t_writtenNow x_t_picturesNow x_t_usedNow x_t_chosen x_t_fearOfChosen A_t_leastFrom A_t_rowNow x_t_changesNow x_t_left0 A_t_bornOf A_t_trainsTo A_t_trainAt x_t_trainMany x_t_leastTries x_t_firstTrained x_t_isKept, iA cI 8 A_t_bornOf v_t_bornOf, iA cI 293 A_t_now v_t_now, iA cI 16 A_t_rhymeOf v_t_rhymeOf]) (rest := [.int l2, .ref A_t_bornOf]) C hK hP hD hS hA hl mf_X12_109 (c_X12_isTold hc12) [0, 2] 0 12 rfl rfl rfl rfl rfl rfl rfl rfl rfl rfl (Nat.le_of_ble_eq_true rfl) ⟨Nat.le_of_ble_eq_true rfl, Nat.le_of_ble_eq_true rfl⟩ ⟨Nat.le_refl _, Nat.le_refl _⟩ dX12_guard_26 ?_
        intro H locs hP hD hS
        refine lv_if_eq (tgt := 40) hx hb dX12_guard_29 (by decide) (fun q => ?_) (fun q => ?_)
        · have hf := if_t q hf
          refine lv_iconst (v := 0) hx hb dX12_guard_40 (by decide) ?_
          exact hb_41 v_t_bornOf l2 (0 : Int32) l2 _ _ ls (lv_sub hl [0, 1, 2] rfl) hP hD hS hf
        · have hf := if_f q hf
          refine lv_aload_n hx hb dX12_guard_32 rfl (lv_at hl 0 rfl) ?_
          refine lv_iload_n hx hb dX12_guard_33 rfl (lv_at hl 2 rfl) ?_
          obtain ⟨r13, hc14, hf⟩ := bd1_e hf
          refine x_callVI (ws' := [oX12 A_t A_t_now A_t_aside A_t_kept A_t_rhymeOf A_t_wasRhyme A_t_wordAt x_t_wordMany A_t_tape x_t_taped x_t_place0 x_t_length0 x_t_fault x_t_number0 x_t_open x_t_codeMany x_t_waiting x_t_saidMany x_t_clauses A_t_said A_t_waitsAt A_t_saidLetter A_t_saidFrom A_t_saidHalf A_t_saidTo A_t_codes A_t_clauseOf A_t_codeFrom A_t_codeHalf A_t_codeTo A_t_stack A_t_facts x_t_lines A_t_newWords A_t_roundFrom A_t_roundAt A_t_roundTimes x_t_newMany x_t_rounds x_t_itFrom x_t_itTimes x_t_writtenNow x_t_picturesNow x_t_usedNow x_t_chosen x_t_fearOfChosen A_t_leastFrom A_t_rowNow x_t_changesNow x_t_left0 A_t_bornOf A_t_trainsTo A_t_trainAt x_t_trainMany x_t_leastTries x_t_firstTrained x_t_isKept, iA cI 8 A_t_bornOf v_t_bornOf, iA cI 293 A_t_now v_t_now, iA cI 16 A_t_rhymeOf v_t_rhymeOf]) (rest := [.int l2, .ref A_t_bornOf]) C hK hP hD hS hA hl mf_X12_348 (c_X12_bornBy hc14) [0, 2, 3] 0 12 rfl rfl rfl rfl rfl rfl rfl rfl rfl rfl (Nat.le_of_ble_eq_true rfl) ⟨Nat.le_of_ble_eq_true rfl, Nat.le_of_ble_eq_true rfl⟩ ⟨Nat.le_refl _, Nat.le_refl _⟩ dX12_guard_34 ?_
          intro H locs hP hD hS
          refine lv_goto (tgt := 41) hx hb dX12_guard_37 (by decide) ?_
          exact hb_41 v_t_bornOf l2 r13 l2 _ _ ls (lv_sub hl [0, 1, 2] rfl) hP hD hS hf
  refine lv_iload_n hx hb dX12_guard_0 rfl (lv_at hl 1 rfl) ?_
  refine lv_iconst (v := 0) hx hb dX12_guard_1 (by decide) ?_
  refine lv_iconst (v := 1) hx hb dX12_guard_2 (by decide) ?_
  obtain ⟨r15, hc16, hf⟩ := bd1_e hf
  refine x_callSI (ws' := [oX12 A_t A_t_now A_t_aside A_t_kept A_t_rhymeOf A_t_wasRhyme A_t_wordAt x_t_wordMany A_t_tape x_t_taped x_t_place0 x_t_length0 x_t_fault x_t_number0 x_t_open x_t_codeMany x_t_waiting x_t_saidMany x_t_clauses A_t_said A_t_waitsAt A_t_saidLetter A_t_saidFrom A_t_saidHalf A_t_saidTo A_t_codes A_t_clauseOf A_t_codeFrom A_t_codeHalf A_t_codeTo A_t_stack A_t_facts x_t_lines A_t_newWords A_t_roundFrom A_t_roundAt A_t_roundTimes x_t_newMany x_t_rounds x_t_itFrom x_t_itTimes x_t_writtenNow x_t_picturesNow x_t_usedNow x_t_chosen x_t_fearOfChosen A_t_leastFrom A_t_rowNow x_t_changesNow x_t_left0 A_t_bornOf A_t_trainsTo A_t_trainAt x_t_trainMany x_t_leastTries x_t_firstTrained x_t_isKept, iA cI 8 A_t_bornOf v_t_bornOf, iA cI 293 A_t_now v_t_now, iA cI 16 A_t_rhymeOf v_t_rhymeOf]) (rest := []) C hK hP hD hS hA hl mf_X12_105 (c_X12_in hc16) [] rfl rfl rfl rfl rfl rfl rfl rfl (Nat.le_of_ble_eq_true rfl) ⟨Nat.le_of_ble_eq_true rfl, Nat.le_of_ble_eq_true rfl⟩ ⟨Nat.le_refl _, Nat.le_refl _⟩ dX12_guard_3 ?_
  intro H locs hP hD hS
  refine lv_if_ne (tgt := 11) hx hb dX12_guard_6 (by decide) (fun q => ?_) (fun q => ?_)
  · have hf := if_f q hf
    refine lv_iconst (v := 0) hx hb dX12_guard_11 (by decide) ?_
    refine lv_istore_n (lv' := [(2, .int (0 : Int32)), (0, .ref A_t), (1, .int a1)]) hx hb dX12_guard_12 rfl hl (by decide) rfl (fun ls hl => ?_)
    exact hb_13 FU v_t_bornOf (0 : Int32) _ _ ls (lv_sub hl [1, 2, 0] rfl) hP hD hS hf
  · have hf := if_t q hf
    refine lv_iconst (v := -1) hx hb dX12_guard_9 (by decide) ?_
    obtain ⟨rfl, rfl⟩ := ev2 hf
    exact x_iret C hr hlk hP hD hS dX12_guard_10
def f_X12_areWords_b33 : Option (Int32) :=
  some (0 : Int32)
def f_X12_areWords_b4 (v_t_tape : (Nat → Int32)) (a1 : Int32) : Nat → Int32 → Int32 → Option (Int32)
  | 0, _, _ => none
  | n + 1, l2, l3 =>
    if a1 ≤ l3 then
      some (1 : Int32)
    else
      bd1 (f_X12_octet v_t_tape l3) (fun r1 =>
      bd1 (f_X12_isWord r1) (fun r2 =>
      if r2 = 0 then
        f_X12_areWords_b33
      else
        bd1 (f_X12_has l2 r1) (fun r3 =>
        if r3 = 0 then
          f_X12_areWords_b4 v_t_tape a1 n (l2 ||| ((1 : Int32) <<< (r1 &&& 31))) (l3 + (1 : Int32))
        else
          f_X12_areWords_b33)))
def f_X12_areWords (v_t_tape : (Nat → Int32)) (a1 : Int32) : Option (Int32) :=
  f_X12_areWords_b4 v_t_tape a1 FU (0 : Int32) (0 : Int32)
set_option maxHeartbeats 4000000 in
set_option maxRecDepth 100000 in
theorem c_X12_areWords {l : Launch} {D : va_G} {cI cB : ClassId} {A_t A_t_now A_t_aside A_t_kept A_t_rhymeOf A_t_wasRhyme A_t_wordAt A_t_tape A_t_said A_t_waitsAt A_t_saidLetter A_t_saidFrom A_t_saidHalf A_t_saidTo A_t_codes A_t_clauseOf A_t_codeFrom A_t_codeHalf A_t_codeTo A_t_stack A_t_facts A_t_newWords A_t_roundFrom A_t_roundAt A_t_roundTimes A_t_leastFrom A_t_rowNow A_t_bornOf A_t_trainsTo A_t_trainAt : Nat} {x_t_wordMany x_t_taped x_t_place0 x_t_length0 x_t_fault x_t_number0 x_t_open x_t_codeMany x_t_waiting x_t_saidMany x_t_clauses x_t_lines x_t_newMany x_t_rounds x_t_itFrom x_t_itTimes x_t_writtenNow x_t_picturesNow x_t_usedNow x_t_chosen x_t_fearOfChosen x_t_changesNow x_t_left0 x_t_trainMany x_t_leastTries x_t_firstTrained x_t_isKept a1 : Int32} {v_t_tape : Nat → Int32} {o_r : Int32} (hf : f_X12_areWords v_t_tape a1 = some o_r) : CtI l D cI cB yX12_areWords cX12_areWords 5 (some .boolean) 2 42 [.ref A_t, .int a1] [oX12 A_t A_t_now A_t_aside A_t_kept A_t_rhymeOf A_t_wasRhyme A_t_wordAt x_t_wordMany A_t_tape x_t_taped x_t_place0 x_t_length0 x_t_fault x_t_number0 x_t_open x_t_codeMany x_t_waiting x_t_saidMany x_t_clauses A_t_said A_t_waitsAt A_t_saidLetter A_t_saidFrom A_t_saidHalf A_t_saidTo A_t_codes A_t_clauseOf A_t_codeFrom A_t_codeHalf A_t_codeTo A_t_stack A_t_facts x_t_lines A_t_newWords A_t_roundFrom A_t_roundAt A_t_roundTimes x_t_newMany x_t_rounds x_t_itFrom x_t_itTimes x_t_writtenNow x_t_picturesNow x_t_usedNow x_t_chosen x_t_fearOfChosen A_t_leastFrom A_t_rowNow x_t_changesNow x_t_left0 A_t_bornOf A_t_trainsTo A_t_trainAt x_t_trainMany x_t_leastTries x_t_firstTrained x_t_isKept, iA cB 260 A_t_tape v_t_tape] [oX12 A_t A_t_now A_t_aside A_t_kept A_t_rhymeOf A_t_wasRhyme A_t_wordAt x_t_wordMany A_t_tape x_t_taped x_t_place0 x_t_length0 x_t_fault x_t_number0 x_t_open x_t_codeMany x_t_waiting x_t_saidMany x_t_clauses A_t_said A_t_waitsAt A_t_saidLetter A_t_saidFrom A_t_saidHalf A_t_saidTo A_t_codes A_t_clauseOf A_t_codeFrom A_t_codeHalf A_t_codeTo A_t_stack A_t_facts x_t_lines A_t_newWords A_t_roundFrom A_t_roundAt A_t_roundTimes x_t_newMany x_t_rounds x_t_itFrom x_t_itTimes x_t_writtenNow x_t_picturesNow x_t_usedNow x_t_chosen x_t_fearOfChosen A_t_leastFrom A_t_rowNow x_t_changesNow x_t_left0 A_t_bornOf A_t_trainsTo A_t_trainAt x_t_trainMany x_t_leastTries x_t_firstTrained x_t_isKept, iA cB 260 A_t_tape v_t_tape] o_r := by
  refine x_startI (by decide) (Nat.le_of_ble_eq_true rfl) ?_
  intro p e s m below meth c A C hr hlk hA hK hP hD hS ls hl
  have hl : lv_has ls 5 [(0, .ref A_t), (1, .int a1)] := hl
  have hx := C.1
  have hb := C.2.1
  unfold f_X12_areWords at hf
  have hb_33 : ∀ (H : Heap) (locs : List Loc) (ls : Array Slot), lv_has ls 5 [] → va_P D vwCl [oX12 A_t A_t_now A_t_aside A_t_kept A_t_rhymeOf A_t_wasRhyme A_t_wordAt x_t_wordMany A_t_tape x_t_taped x_t_place0 x_t_length0 x_t_fault x_t_number0 x_t_open x_t_codeMany x_t_waiting x_t_saidMany x_t_clauses A_t_said A_t_waitsAt A_t_saidLetter A_t_saidFrom A_t_saidHalf A_t_saidTo A_t_codes A_t_clauseOf A_t_codeFrom A_t_codeHalf A_t_codeTo A_t_stack A_t_facts x_t_lines A_t_newWords A_t_roundFrom A_t_roundAt A_t_roundTimes x_t_newMany x_t_rounds x_t_itFrom x_t_itTimes x_t_writtenNow x_t_picturesNow x_t_usedNow x_t_chosen x_t_fearOfChosen A_t_leastFrom A_t_rowNow x_t_changesNow x_t_left0 A_t_bornOf A_t_trainsTo A_t_trainAt x_t_trainMany x_t_leastTries x_t_firstTrained x_t_isKept, iA cB 260 A_t_tape v_t_tape] H → va_D A [oX12 A_t A_t_now A_t_aside A_t_kept A_t_rhymeOf A_t_wasRhyme A_t_wordAt x_t_wordMany A_t_tape x_t_taped x_t_place0 x_t_length0 x_t_fault x_t_number0 x_t_open x_t_codeMany x_t_waiting x_t_saidMany x_t_clauses A_t_said A_t_waitsAt A_t_saidLetter A_t_saidFrom A_t_saidHalf A_t_saidTo A_t_codes A_t_clauseOf A_t_codeFrom A_t_codeHalf A_t_codeTo A_t_stack A_t_facts x_t_lines A_t_newWords A_t_roundFrom A_t_roundAt A_t_roundTimes x_t_newMany x_t_rounds x_t_itFrom x_t_itTimes x_t_writtenNow x_t_picturesNow x_t_usedNow x_t_chosen x_t_fearOfChosen A_t_leastFrom A_t_rowNow x_t_changesNow x_t_left0 A_t_bornOf A_t_trainsTo A_t_trainAt x_t_trainMany x_t_leastTries x_t_firstTrained x_t_isKept, iA cB 260 A_t_tape v_t_tape] → va_S A s.heap H locs → f_X12_areWords_b33 = some o_r → W p l e { frames := 2, cells := 0, slots := 0, locals := 42 } s m ([.ref A_t, .int a1] : List Value).toArray below meth c H locs 0 0 (MQ below (PoI D A [oX12 A_t A_t_now A_t_aside A_t_kept A_t_rhymeOf A_t_wasRhyme A_t_wordAt x_t_wordMany A_t_tape x_t_taped x_t_place0 x_t_length0 x_t_fault x_t_number0 x_t_open x_t_codeMany x_t_waiting x_t_saidMany x_t_clauses A_t_said A_t_waitsAt A_t_saidLetter A_t_saidFrom A_t_saidHalf A_t_saidTo A_t_codes A_t_clauseOf A_t_codeFrom A_t_codeHalf A_t_codeTo A_t_stack A_t_facts x_t_lines A_t_newWords A_t_roundFrom A_t_roundAt A_t_roundTimes x_t_newMany x_t_rounds x_t_itFrom x_t_itTimes x_t_writtenNow x_t_picturesNow x_t_usedNow x_t_chosen x_t_fearOfChosen A_t_leastFrom A_t_rowNow x_t_changesNow x_t_left0 A_t_bornOf A_t_trainsTo A_t_trainAt x_t_trainMany x_t_leastTries x_t_firstTrained x_t_isKept, iA cB 260 A_t_tape v_t_tape] o_r) ([.ref A_t, .int a1] : List Value).toArray s 0 0 A) (F0 m 33 ls []) := by
    intro H locs ls hl hP hD hS hf
    unfold f_X12_areWords_b33 at hf
    refine lv_iconst (v := 0) hx hb dX12_areWords_33 (by decide) ?_
    obtain rfl := ev1 hf
    exact x_zret C hr hlk (Or.inl rfl) hP hD hS dX12_areWords_34
  have hb_4 : ∀ (n_4 : Nat) (l2 : Int32) (l3 : Int32) (H : Heap) (locs : List Loc) (ls : Array Slot), lv_has ls 5 [(0, .ref A_t), (1, .int a1), (2, .int l2), (3, .int l3)] → va_P D vwCl [oX12 A_t A_t_now A_t_aside A_t_kept A_t_rhymeOf A_t_wasRhyme A_t_wordAt x_t_wordMany A_t_tape x_t_taped x_t_place0 x_t_length0 x_t_fault x_t_number0 x_t_open x_t_codeMany x_t_waiting x_t_saidMany x_t_clauses A_t_said A_t_waitsAt A_t_saidLetter A_t_saidFrom A_t_saidHalf A_t_saidTo A_t_codes A_t_clauseOf A_t_codeFrom A_t_codeHalf A_t_codeTo A_t_stack A_t_facts x_t_lines A_t_newWords A_t_roundFrom A_t_roundAt A_t_roundTimes x_t_newMany x_t_rounds x_t_itFrom x_t_itTimes x_t_writtenNow x_t_picturesNow x_t_usedNow x_t_chosen x_t_fearOfChosen A_t_leastFrom A_t_rowNow x_t_changesNow x_t_left0 A_t_bornOf A_t_trainsTo A_t_trainAt x_t_trainMany x_t_leastTries x_t_firstTrained x_t_isKept, iA cB 260 A_t_tape v_t_tape] H → va_D A [oX12 A_t A_t_now A_t_aside A_t_kept A_t_rhymeOf A_t_wasRhyme A_t_wordAt x_t_wordMany A_t_tape x_t_taped x_t_place0 x_t_length0 x_t_fault x_t_number0 x_t_open x_t_codeMany x_t_waiting x_t_saidMany x_t_clauses A_t_said A_t_waitsAt A_t_saidLetter A_t_saidFrom A_t_saidHalf A_t_saidTo A_t_codes A_t_clauseOf A_t_codeFrom A_t_codeHalf A_t_codeTo A_t_stack A_t_facts x_t_lines A_t_newWords A_t_roundFrom A_t_roundAt A_t_roundTimes x_t_newMany x_t_rounds x_t_itFrom x_t_itTimes x_t_writtenNow x_t_picturesNow x_t_usedNow x_t_chosen x_t_fearOfChosen A_t_leastFrom A_t_rowNow x_t_changesNow x_t_left0 A_t_bornOf A_t_trainsTo A_t_trainAt x_t_trainMany x_t_leastTries x_t_firstTrained x_t_isKept, iA cB 260 A_t_tape v_t_tape] → va_S A s.heap H locs → f_X12_areWords_b4 v_t_tape a1 n_4 l2 l3 = some o_r → W p l e { frames := 2, cells := 0, slots := 0, locals := 42 } s m ([.ref A_t, .int a1] : List Value).toArray below meth c H locs 0 0 (MQ below (PoI D A [oX12 A_t A_t_now A_t_aside A_t_kept A_t_rhymeOf A_t_wasRhyme A_t_wordAt x_t_wordMany A_t_tape x_t_taped x_t_place0 x_t_length0 x_t_fault x_t_number0 x_t_open x_t_codeMany x_t_waiting x_t_saidMany x_t_clauses A_t_said A_t_waitsAt A_t_saidLetter A_t_saidFrom A_t_saidHalf A_t_saidTo A_t_codes A_t_clauseOf A_t_codeFrom A_t_codeHalf A_t_codeTo A_t_stack A_t_facts x_t_lines A_t_newWords A_t_roundFrom A_t_roundAt A_t_roundTimes x_t_newMany x_t_rounds x_t_itFrom x_t_itTimes x_t_writtenNow x_t_picturesNow x_t_usedNow x_t_chosen x_t_fearOfChosen A_t_leastFrom A_t_rowNow x_t_changesNow x_t_left0 A_t_bornOf A_t_trainsTo A_t_trainAt x_t_trainMany x_t_leastTries x_t_firstTrained x_t_isKept, iA cB 260 A_t_tape v_t_tape] o_r) ([.ref A_t, .int a1] : List Value).toArray s 0 0 A) (F0 m 4 ls []) := by
    intro n_4
    induction n_4 with
    | zero =>
      intro l2 l3 H locs ls hl hP hD hS hf
      exact absurd hf (fun h => by rw [f_X12_areWords_b4] at h; cases h)
    | succ n_4 ih_4 =>
      intro l2 l3 H locs ls hl hP hD hS hf
      rw [f_X12_areWords_b4] at hf
      refine lv_iload_n hx hb dX12_areWords_4 rfl (lv_at hl 3 rfl) ?_
      refine lv_iload_n hx hb dX12_areWords_5 rfl (lv_at hl 1 rfl) ?_
      refine lv_icmp_ge (tgt := 48) hx hb dX12_areWords_6 (by decide) (fun q => ?_) (fun q => ?_)
      · have hf := if_t q hf
        refine lv_iconst (v := 1) hx hb dX12_areWords_48 (by decide) ?_
        obtain rfl := ev1 hf
        exact x_zret C hr hlk (Or.inr rfl) hP hD hS dX12_areWords_49
      · have hf := if_f q hf
        refine lv_aload_n hx hb dX12_areWords_9 rfl (lv_at hl 0 rfl) ?_
        refine lv_iload_n hx hb dX12_areWords_10 rfl (lv_at hl 3 rfl) ?_
        obtain ⟨r1, hc2, hf⟩ := bd1_e hf
        refine x_callVI (ws' := [oX12 A_t A_t_now A_t_aside A_t_kept A_t_rhymeOf A_t_wasRhyme A_t_wordAt x_t_wordMany A_t_tape x_t_taped x_t_place0 x_t_length0 x_t_fault x_t_number0 x_t_open x_t_codeMany x_t_waiting x_t_saidMany x_t_clauses A_t_said A_t_waitsAt A_t_saidLetter A_t_saidFrom A_t_saidHalf A_t_saidTo A_t_codes A_t_clauseOf A_t_codeFrom A_t_codeHalf A_t_codeTo A_t_stack A_t_facts x_t_lines A_t_newWords A_t_roundFrom A_t_roundAt A_t_roundTimes x_t_newMany x_t_rounds x_t_itFrom x_t_itTimes x_t_writtenNow x_t_picturesNow x_t_usedNow x_t_chosen x_t_fearOfChosen A_t_leastFrom A_t_rowNow x_t_changesNow x_t_left0 A_t_bornOf A_t_trainsTo A_t_trainAt x_t_trainMany x_t_leastTries x_t_firstTrained x_t_isKept, iA cB 260 A_t_tape v_t_tape]) (rest := []) C hK hP hD hS hA hl mf_X12_378 (c_X12_octet hc2) [0, 1] 0 12 rfl rfl rfl rfl rfl rfl rfl rfl rfl rfl (Nat.le_of_ble_eq_true rfl) ⟨Nat.le_of_ble_eq_true rfl, Nat.le_of_ble_eq_true rfl⟩ ⟨Nat.le_refl _, Nat.le_refl _⟩ dX12_areWords_11 ?_
        intro H locs hP hD hS
        refine lv_istore (lv' := [(4, .int r1), (0, .ref A_t), (1, .int a1), (2, .int l2), (3, .int l3)]) hx hb dX12_areWords_14 hl (by decide) rfl (fun ls hl => ?_)
        refine lv_iload hx hb dX12_areWords_16 (lv_at hl 0 rfl) ?_
        obtain ⟨r3, hc4, hf⟩ := bd1_e hf
        refine x_callSI (ws' := [oX12 A_t A_t_now A_t_aside A_t_kept A_t_rhymeOf A_t_wasRhyme A_t_wordAt x_t_wordMany A_t_tape x_t_taped x_t_place0 x_t_length0 x_t_fault x_t_number0 x_t_open x_t_codeMany x_t_waiting x_t_saidMany x_t_clauses A_t_said A_t_waitsAt A_t_saidLetter A_t_saidFrom A_t_saidHalf A_t_saidTo A_t_codes A_t_clauseOf A_t_codeFrom A_t_codeHalf A_t_codeTo A_t_stack A_t_facts x_t_lines A_t_newWords A_t_roundFrom A_t_roundAt A_t_roundTimes x_t_newMany x_t_rounds x_t_itFrom x_t_itTimes x_t_writtenNow x_t_picturesNow x_t_usedNow x_t_chosen x_t_fearOfChosen A_t_leastFrom A_t_rowNow x_t_changesNow x_t_left0 A_t_bornOf A_t_trainsTo A_t_trainAt x_t_trainMany x_t_leastTries x_t_firstTrained x_t_isKept, iA cB 260 A_t_tape v_t_tape]) (rest := []) C hK hP hD hS hA hl mf_X12_351 (c_X12_isWord hc4) [] rfl rfl rfl rfl rfl rfl rfl rfl (Nat.le_of_ble_eq_true rfl) ⟨Nat.le_of_ble_eq_true rfl, Nat.le_of_ble_eq_true rfl⟩ ⟨Nat.le_refl _, Nat.le_refl _⟩ dX12_areWords_18 ?_
        intro H locs hP hD hS
        refine lv_if_eq (tgt := 33) hx hb dX12_areWords_21 (by decide) (fun q => ?_) (fun q => ?_)
        · have hf := if_t q hf
          exact hb_33 _ _ ls (lv_sub hl [] rfl) hP hD hS hf
        · have hf := if_f q hf
          refine lv_iload_n hx hb dX12_areWords_24 rfl (lv_at hl 3 rfl) ?_
          refine lv_iload hx hb dX12_areWords_25 (lv_at hl 0 rfl) ?_
          obtain ⟨r5, hc6, hf⟩ := bd1_e hf
          refine x_callSI (ws' := [oX12 A_t A_t_now A_t_aside A_t_kept A_t_rhymeOf A_t_wasRhyme A_t_wordAt x_t_wordMany A_t_tape x_t_taped x_t_place0 x_t_length0 x_t_fault x_t_number0 x_t_open x_t_codeMany x_t_waiting x_t_saidMany x_t_clauses A_t_said A_t_waitsAt A_t_saidLetter A_t_saidFrom A_t_saidHalf A_t_saidTo A_t_codes A_t_clauseOf A_t_codeFrom A_t_codeHalf A_t_codeTo A_t_stack A_t_facts x_t_lines A_t_newWords A_t_roundFrom A_t_roundAt A_t_roundTimes x_t_newMany x_t_rounds x_t_itFrom x_t_itTimes x_t_writtenNow x_t_picturesNow x_t_usedNow x_t_chosen x_t_fearOfChosen A_t_leastFrom A_t_rowNow x_t_changesNow x_t_left0 A_t_bornOf A_t_trainsTo A_t_trainAt x_t_trainMany x_t_leastTries x_t_firstTrained x_t_isKept, iA cB 260 A_t_tape v_t_tape]) (rest := []) C hK hP hD hS hA hl mf_X12_381 (c_X12_has hc6) [] rfl rfl rfl rfl rfl rfl rfl rfl (Nat.le_of_ble_eq_true rfl) ⟨Nat.le_of_ble_eq_true rfl, Nat.le_of_ble_eq_true rfl⟩ ⟨Nat.le_refl _, Nat.le_refl _⟩ dX12_areWords_27 ?_
          intro H locs hP hD hS
          refine lv_if_eq (tgt := 35) hx hb dX12_areWords_30 (by decide) (fun q => ?_) (fun q => ?_)
          · have hf := if_t q hf
            refine lv_iload_n hx hb dX12_areWords_35 rfl (lv_at hl 3 rfl) ?_
            refine lv_iconst (v := 1) hx hb dX12_areWords_36 (by decide) ?_
            refine lv_iload hx hb dX12_areWords_37 (lv_at hl 0 rfl) ?_
            refine lv_ishl hx hb dX12_areWords_39 ?_
            refine lv_ior hx hb dX12_areWords_40 ?_
            refine lv_istore_n (lv' := [(2, .int (l2 ||| ((1 : Int32) <<< (r1 &&& 31)))), (4, .int r1), (0, .ref A_t), (1, .int a1), (3, .int l3)]) hx hb dX12_areWords_41 rfl hl (by decide) rfl (fun ls hl => ?_)
            refine lv_iinc (v := (l3 + (1 : Int32))) (lv' := [(3, .int (l3 + (1 : Int32))), (2, .int (l2 ||| ((1 : Int32) <<< (r1 &&& 31)))), (4, .int r1), (0, .ref A_t), (1, .int a1)]) hx hb dX12_areWords_42 hl (k := 4) rfl rfl (by decide) rfl (fun ls hl => ?_)
            refine lv_goto (tgt := 4) hx hb dX12_areWords_45 (by decide) ?_
            exact ih_4 (l2 ||| ((1 : Int32) <<< (r1 &&& 31))) (l3 + (1 : Int32)) _ _ ls (lv_sub hl [3, 4, 1, 0] rfl) hP hD hS hf
          · have hf := if_f q hf
            exact hb_33 _ _ ls (lv_sub hl [] rfl) hP hD hS hf
  refine lv_iconst (v := 0) hx hb dX12_areWords_0 (by decide) ?_
  refine lv_istore_n (lv' := [(2, .int (0 : Int32)), (0, .ref A_t), (1, .int a1)]) hx hb dX12_areWords_1 rfl hl (by decide) rfl (fun ls hl => ?_)
  refine lv_iconst (v := 0) hx hb dX12_areWords_2 (by decide) ?_
  refine lv_istore_n (lv' := [(3, .int (0 : Int32)), (2, .int (0 : Int32)), (0, .ref A_t), (1, .int a1)]) hx hb dX12_areWords_3 rfl hl (by decide) rfl (fun ls hl => ?_)
  exact hb_4 FU (0 : Int32) (0 : Int32) _ _ ls (lv_sub hl [2, 3, 1, 0] rfl) hP hD hS hf
def f_X12_sortsWords_b36 (a1 : Int32) (k7 : (Nat → Int32) → Int32 → Int32 → Option ((Nat → Int32) × Int32)) (k18 : (Nat → Int32) → Int32 → Int32 → Int32 → Int32 → Option ((Nat → Int32) × Int32)) (v_t_trainsTo : (Nat → Int32)) (x_t_trainMany : Int32) (l2 : Int32) (l3 : Int32) (l4 : Int32) : Option ((Nat → Int32) × Int32) :=
  k18 v_t_trainsTo x_t_trainMany l2 l3 (l4 + (1 : Int32))
def f_X12_sortsWords_b69 (a1 : Int32) (k7 : (Nat → Int32) → Int32 → Int32 → Option ((Nat → Int32) × Int32)) (v_t_trainsTo : (Nat → Int32)) (x_t_trainMany : Int32) (l2 : Int32) : Option ((Nat → Int32) × Int32) :=
  k7 v_t_trainsTo x_t_trainMany (l2 + (1 : Int32))
def f_X12_sortsWords_b18 (v_t_tape : (Nat → Int32)) (a1 : Int32) (k7 : (Nat → Int32) → Int32 → Int32 → Option ((Nat → Int32) × Int32)) : Nat → (Nat → Int32) → Int32 → Int32 → Int32 → Int32 → Option ((Nat → Int32) × Int32)
  | 0, _, _, _, _, _ => none
  | n + 1, v_t_trainsTo, x_t_trainMany, l2, l3, l4 =>
    if a1 ≤ l4 then
      if l3 = 0 then
        f_X12_sortsWords_b69 a1 k7 v_t_trainsTo x_t_trainMany l2
      else
        sI 6 v_t_trainsTo x_t_trainMany l2 (fun w1 =>
        f_X12_sortsWords_b69 a1 k7 w1 (x_t_trainMany + (1 : Int32)) l2)
    else
      bd1 (f_X12_octet v_t_tape l4) (fun r2 =>
      if r2 = l2 then
        f_X12_sortsWords_b36 a1 k7 (f_X12_sortsWords_b18 v_t_tape a1 k7 n) v_t_trainsTo x_t_trainMany l2 (1 : Int32) l4
      else
        f_X12_sortsWords_b36 a1 k7 (f_X12_sortsWords_b18 v_t_tape a1 k7 n) v_t_trainsTo x_t_trainMany l2 l3 l4)
def f_X12_sortsWords_b7 (v_t_tape : (Nat → Int32)) (a1 : Int32) : Nat → (Nat → Int32) → Int32 → Int32 → Option ((Nat → Int32) × Int32)
  | 0, _, _, _ => none
  | n + 1, v_t_trainsTo, x_t_trainMany, l2 =>
    if (16 : Int32) ≤ l2 then
      some (v_t_trainsTo, x_t_trainMany)
    else
      f_X12_sortsWords_b18 v_t_tape a1 (f_X12_sortsWords_b7 v_t_tape a1 n) FU v_t_trainsTo x_t_trainMany l2 (0 : Int32) (0 : Int32)
def f_X12_sortsWords (v_t_tape : (Nat → Int32)) (v_t_trainsTo : (Nat → Int32)) (x_t_trainMany : Int32) (a1 : Int32) : Option ((Nat → Int32) × Int32) :=
  f_X12_sortsWords_b7 v_t_tape a1 FU v_t_trainsTo (0 : Int32) (0 : Int32)
set_option maxHeartbeats 4000000 in
set_option maxRecDepth 100000 in
theorem c_X12_sortsWords {l : Launch} {D : va_G} {cI cB : ClassId} {A_t A_t_now A_t_aside A_t_kept A_t_rhymeOf A_t_wasRhyme A_t_wordAt A_t_tape A_t_said A_t_waitsAt A_t_saidLetter A_t_saidFrom A_t_saidHalf A_t_saidTo A_t_codes A_t_clauseOf A_t_codeFrom A_t_codeHalf A_t_codeTo A_t_stack A_t_facts A_t_newWords A_t_roundFrom A_t_roundAt A_t_roundTimes A_t_leastFrom A_t_rowNow A_t_bornOf A_t_trainsTo A_t_trainAt : Nat} {x_t_wordMany x_t_taped x_t_place0 x_t_length0 x_t_fault x_t_number0 x_t_open x_t_codeMany x_t_waiting x_t_saidMany x_t_clauses x_t_lines x_t_newMany x_t_rounds x_t_itFrom x_t_itTimes x_t_writtenNow x_t_picturesNow x_t_usedNow x_t_chosen x_t_fearOfChosen x_t_changesNow x_t_left0 x_t_trainMany x_t_leastTries x_t_firstTrained x_t_isKept a1 : Int32} {v_t_tape v_t_trainsTo : Nat → Int32} {o_x_t_trainMany : Int32} {o_v_t_trainsTo : Nat → Int32} (hf : f_X12_sortsWords v_t_tape v_t_trainsTo x_t_trainMany a1 = some (o_v_t_trainsTo, o_x_t_trainMany)) : CtV l D cI cB yX12_sortsWords cX12_sortsWords 5 1 21 [.ref A_t, .int a1] [oX12 A_t A_t_now A_t_aside A_t_kept A_t_rhymeOf A_t_wasRhyme A_t_wordAt x_t_wordMany A_t_tape x_t_taped x_t_place0 x_t_length0 x_t_fault x_t_number0 x_t_open x_t_codeMany x_t_waiting x_t_saidMany x_t_clauses A_t_said A_t_waitsAt A_t_saidLetter A_t_saidFrom A_t_saidHalf A_t_saidTo A_t_codes A_t_clauseOf A_t_codeFrom A_t_codeHalf A_t_codeTo A_t_stack A_t_facts x_t_lines A_t_newWords A_t_roundFrom A_t_roundAt A_t_roundTimes x_t_newMany x_t_rounds x_t_itFrom x_t_itTimes x_t_writtenNow x_t_picturesNow x_t_usedNow x_t_chosen x_t_fearOfChosen A_t_leastFrom A_t_rowNow x_t_changesNow x_t_left0 A_t_bornOf A_t_trainsTo A_t_trainAt x_t_trainMany x_t_leastTries x_t_firstTrained x_t_isKept, iA cB 260 A_t_tape v_t_tape, iA cI 6 A_t_trainsTo v_t_trainsTo] [oX12 A_t A_t_now A_t_aside A_t_kept A_t_rhymeOf A_t_wasRhyme A_t_wordAt x_t_wordMany A_t_tape x_t_taped x_t_place0 x_t_length0 x_t_fault x_t_number0 x_t_open x_t_codeMany x_t_waiting x_t_saidMany x_t_clauses A_t_said A_t_waitsAt A_t_saidLetter A_t_saidFrom A_t_saidHalf A_t_saidTo A_t_codes A_t_clauseOf A_t_codeFrom A_t_codeHalf A_t_codeTo A_t_stack A_t_facts x_t_lines A_t_newWords A_t_roundFrom A_t_roundAt A_t_roundTimes x_t_newMany x_t_rounds x_t_itFrom x_t_itTimes x_t_writtenNow x_t_picturesNow x_t_usedNow x_t_chosen x_t_fearOfChosen A_t_leastFrom A_t_rowNow x_t_changesNow x_t_left0 A_t_bornOf A_t_trainsTo A_t_trainAt o_x_t_trainMany x_t_leastTries x_t_firstTrained x_t_isKept, iA cB 260 A_t_tape v_t_tape, iA cI 6 A_t_trainsTo o_v_t_trainsTo] := by
  refine x_startV (by decide) (Nat.le_of_ble_eq_true rfl) ?_
  intro p e s m below meth c A C hr hlk hA hK hP hD hS ls hl
  have hl : lv_has ls 5 [(0, .ref A_t), (1, .int a1)] := hl
  have hx := C.1
  have hb := C.2.1
  unfold f_X12_sortsWords at hf
  have hb_7 : ∀ (n_7 : Nat) (v_t_trainsTo : (Nat → Int32)) (x_t_trainMany : Int32) (l2 : Int32) (H : Heap) (locs : List Loc) (ls : Array Slot), lv_has ls 5 [(0, .ref A_t), (1, .int a1), (2, .int l2)] → va_P D vwCl [oX12 A_t A_t_now A_t_aside A_t_kept A_t_rhymeOf A_t_wasRhyme A_t_wordAt x_t_wordMany A_t_tape x_t_taped x_t_place0 x_t_length0 x_t_fault x_t_number0 x_t_open x_t_codeMany x_t_waiting x_t_saidMany x_t_clauses A_t_said A_t_waitsAt A_t_saidLetter A_t_saidFrom A_t_saidHalf A_t_saidTo A_t_codes A_t_clauseOf A_t_codeFrom A_t_codeHalf A_t_codeTo A_t_stack A_t_facts x_t_lines A_t_newWords A_t_roundFrom A_t_roundAt A_t_roundTimes x_t_newMany x_t_rounds x_t_itFrom x_t_itTimes x_t_writtenNow x_t_picturesNow x_t_usedNow x_t_chosen x_t_fearOfChosen A_t_leastFrom A_t_rowNow x_t_changesNow x_t_left0 A_t_bornOf A_t_trainsTo A_t_trainAt x_t_trainMany x_t_leastTries x_t_firstTrained x_t_isKept, iA cB 260 A_t_tape v_t_tape, iA cI 6 A_t_trainsTo v_t_trainsTo] H → va_D A [oX12 A_t A_t_now A_t_aside A_t_kept A_t_rhymeOf A_t_wasRhyme A_t_wordAt x_t_wordMany A_t_tape x_t_taped x_t_place0 x_t_length0 x_t_fault x_t_number0 x_t_open x_t_codeMany x_t_waiting x_t_saidMany x_t_clauses A_t_said A_t_waitsAt A_t_saidLetter A_t_saidFrom A_t_saidHalf A_t_saidTo A_t_codes A_t_clauseOf A_t_codeFrom A_t_codeHalf A_t_codeTo A_t_stack A_t_facts x_t_lines A_t_newWords A_t_roundFrom A_t_roundAt A_t_roundTimes x_t_newMany x_t_rounds x_t_itFrom x_t_itTimes x_t_writtenNow x_t_picturesNow x_t_usedNow x_t_chosen x_t_fearOfChosen A_t_leastFrom A_t_rowNow x_t_changesNow x_t_left0 A_t_bornOf A_t_trainsTo A_t_trainAt x_t_trainMany x_t_leastTries x_t_firstTrained x_t_isKept, iA cB 260 A_t_tape v_t_tape, iA cI 6 A_t_trainsTo v_t_trainsTo] → va_S A s.heap H locs → f_X12_sortsWords_b7 v_t_tape a1 n_7 v_t_trainsTo x_t_trainMany l2 = some (o_v_t_trainsTo, o_x_t_trainMany) → W p l e { frames := 1, cells := 0, slots := 0, locals := 21 } s m ([.ref A_t, .int a1] : List Value).toArray below meth c H locs 0 0 (MQ below (PoV D A [oX12 A_t A_t_now A_t_aside A_t_kept A_t_rhymeOf A_t_wasRhyme A_t_wordAt x_t_wordMany A_t_tape x_t_taped x_t_place0 x_t_length0 x_t_fault x_t_number0 x_t_open x_t_codeMany x_t_waiting x_t_saidMany x_t_clauses A_t_said A_t_waitsAt A_t_saidLetter A_t_saidFrom A_t_saidHalf A_t_saidTo A_t_codes A_t_clauseOf A_t_codeFrom A_t_codeHalf A_t_codeTo A_t_stack A_t_facts x_t_lines A_t_newWords A_t_roundFrom A_t_roundAt A_t_roundTimes x_t_newMany x_t_rounds x_t_itFrom x_t_itTimes x_t_writtenNow x_t_picturesNow x_t_usedNow x_t_chosen x_t_fearOfChosen A_t_leastFrom A_t_rowNow x_t_changesNow x_t_left0 A_t_bornOf A_t_trainsTo A_t_trainAt o_x_t_trainMany x_t_leastTries x_t_firstTrained x_t_isKept, iA cB 260 A_t_tape v_t_tape, iA cI 6 A_t_trainsTo o_v_t_trainsTo]) ([.ref A_t, .int a1] : List Value).toArray s 0 0 A) (F0 m 7 ls []) := by
    intro n_7
    induction n_7 with
    | zero =>
      intro v_t_trainsTo x_t_trainMany l2 H locs ls hl hP hD hS hf
      exact absurd hf (fun h => by rw [f_X12_sortsWords_b7] at h; cases h)
    | succ n_7 ih_7 =>
      have hb_69 : ∀ (v_t_trainsTo : (Nat → Int32)) (x_t_trainMany : Int32) (l2 : Int32) (H : Heap) (locs : List Loc) (ls : Array Slot), lv_has ls 5 [(0, .ref A_t), (1, .int a1), (2, .int l2)] → va_P D vwCl [oX12 A_t A_t_now A_t_aside A_t_kept A_t_rhymeOf A_t_wasRhyme A_t_wordAt x_t_wordMany A_t_tape x_t_taped x_t_place0 x_t_length0 x_t_fault x_t_number0 x_t_open x_t_codeMany x_t_waiting x_t_saidMany x_t_clauses A_t_said A_t_waitsAt A_t_saidLetter A_t_saidFrom A_t_saidHalf A_t_saidTo A_t_codes A_t_clauseOf A_t_codeFrom A_t_codeHalf A_t_codeTo A_t_stack A_t_facts x_t_lines A_t_newWords A_t_roundFrom A_t_roundAt A_t_roundTimes x_t_newMany x_t_rounds x_t_itFrom x_t_itTimes x_t_writtenNow x_t_picturesNow x_t_usedNow x_t_chosen x_t_fearOfChosen A_t_leastFrom A_t_rowNow x_t_changesNow x_t_left0 A_t_bornOf A_t_trainsTo A_t_trainAt x_t_trainMany x_t_leastTries x_t_firstTrained x_t_isKept, iA cB 260 A_t_tape v_t_tape, iA cI 6 A_t_trainsTo v_t_trainsTo] H → va_D A [oX12 A_t A_t_now A_t_aside A_t_kept A_t_rhymeOf A_t_wasRhyme A_t_wordAt x_t_wordMany A_t_tape x_t_taped x_t_place0 x_t_length0 x_t_fault x_t_number0 x_t_open x_t_codeMany x_t_waiting x_t_saidMany x_t_clauses A_t_said A_t_waitsAt A_t_saidLetter A_t_saidFrom A_t_saidHalf A_t_saidTo A_t_codes A_t_clauseOf A_t_codeFrom A_t_codeHalf A_t_codeTo A_t_stack A_t_facts x_t_lines A_t_newWords A_t_roundFrom A_t_roundAt A_t_roundTimes x_t_newMany x_t_rounds x_t_itFrom x_t_itTimes x_t_writtenNow x_t_picturesNow x_t_usedNow x_t_chosen x_t_fearOfChosen A_t_leastFrom A_t_rowNow x_t_changesNow x_t_left0 A_t_bornOf A_t_trainsTo A_t_trainAt x_t_trainMany x_t_leastTries x_t_firstTrained x_t_isKept, iA cB 260 A_t_tape v_t_tape, iA cI 6 A_t_trainsTo v_t_trainsTo] → va_S A s.heap H locs → f_X12_sortsWords_b69 a1 (f_X12_sortsWords_b7 v_t_tape a1 n_7) v_t_trainsTo x_t_trainMany l2 = some (o_v_t_trainsTo, o_x_t_trainMany) → W p l e { frames := 1, cells := 0, slots := 0, locals := 21 } s m ([.ref A_t, .int a1] : List Value).toArray below meth c H locs 0 0 (MQ below (PoV D A [oX12 A_t A_t_now A_t_aside A_t_kept A_t_rhymeOf A_t_wasRhyme A_t_wordAt x_t_wordMany A_t_tape x_t_taped x_t_place0 x_t_length0 x_t_fault x_t_number0 x_t_open x_t_codeMany x_t_waiting x_t_saidMany x_t_clauses A_t_said A_t_waitsAt A_t_saidLetter A_t_saidFrom A_t_saidHalf A_t_saidTo A_t_codes A_t_clauseOf A_t_codeFrom A_t_codeHalf A_t_codeTo A_t_stack A_t_facts x_t_lines A_t_newWords A_t_roundFrom A_t_roundAt A_t_roundTimes x_t_newMany x_t_rounds x_t_itFrom x_t_itTimes x_t_writtenNow x_t_picturesNow x_t_usedNow x_t_chosen x_t_fearOfChosen A_t_leastFrom A_t_rowNow x_t_changesNow x_t_left0 A_t_bornOf A_t_trainsTo A_t_trainAt o_x_t_trainMany x_t_leastTries x_t_firstTrained x_t_isKept, iA cB 260 A_t_tape v_t_tape, iA cI 6 A_t_trainsTo o_v_t_trainsTo]) ([.ref A_t, .int a1] : List Value).toArray s 0 0 A) (F0 m 69 ls []) := by
        intro v_t_trainsTo x_t_trainMany l2 H locs ls hl hP hD hS hf
        unfold f_X12_sortsWords_b69 at hf
        refine lv_iinc (v := (l2 + (1 : Int32))) (lv' := [(2, .int (l2 + (1 : Int32))), (0, .ref A_t), (1, .int a1)]) hx hb dX12_sortsWords_69 hl (k := 2) rfl rfl (by decide) rfl (fun ls hl => ?_)
        refine lv_goto (tgt := 7) hx hb dX12_sortsWords_72 (by decide) ?_
        exact ih_7 v_t_trainsTo x_t_trainMany (l2 + (1 : Int32)) _ _ ls (lv_sub hl [1, 2, 0] rfl) hP hD hS hf
      have hb_18 : ∀ (n_18 : Nat) (v_t_trainsTo : (Nat → Int32)) (x_t_trainMany : Int32) (l2 : Int32) (l3 : Int32) (l4 : Int32) (H : Heap) (locs : List Loc) (ls : Array Slot), lv_has ls 5 [(0, .ref A_t), (1, .int a1), (2, .int l2), (3, .int l3), (4, .int l4)] → va_P D vwCl [oX12 A_t A_t_now A_t_aside A_t_kept A_t_rhymeOf A_t_wasRhyme A_t_wordAt x_t_wordMany A_t_tape x_t_taped x_t_place0 x_t_length0 x_t_fault x_t_number0 x_t_open x_t_codeMany x_t_waiting x_t_saidMany x_t_clauses A_t_said A_t_waitsAt A_t_saidLetter A_t_saidFrom A_t_saidHalf A_t_saidTo A_t_codes A_t_clauseOf A_t_codeFrom A_t_codeHalf A_t_codeTo A_t_stack A_t_facts x_t_lines A_t_newWords A_t_roundFrom A_t_roundAt A_t_roundTimes x_t_newMany x_t_rounds x_t_itFrom x_t_itTimes x_t_writtenNow x_t_picturesNow x_t_usedNow x_t_chosen x_t_fearOfChosen A_t_leastFrom A_t_rowNow x_t_changesNow x_t_left0 A_t_bornOf A_t_trainsTo A_t_trainAt x_t_trainMany x_t_leastTries x_t_firstTrained x_t_isKept, iA cB 260 A_t_tape v_t_tape, iA cI 6 A_t_trainsTo v_t_trainsTo] H → va_D A [oX12 A_t A_t_now A_t_aside A_t_kept A_t_rhymeOf A_t_wasRhyme A_t_wordAt x_t_wordMany A_t_tape x_t_taped x_t_place0 x_t_length0 x_t_fault x_t_number0 x_t_open x_t_codeMany x_t_waiting x_t_saidMany x_t_clauses A_t_said A_t_waitsAt A_t_saidLetter A_t_saidFrom A_t_saidHalf A_t_saidTo A_t_codes A_t_clauseOf A_t_codeFrom A_t_codeHalf A_t_codeTo A_t_stack A_t_facts x_t_lines A_t_newWords A_t_roundFrom A_t_roundAt A_t_roundTimes x_t_newMany x_t_rounds x_t_itFrom x_t_itTimes x_t_writtenNow x_t_picturesNow x_t_usedNow x_t_chosen x_t_fearOfChosen A_t_leastFrom A_t_rowNow x_t_changesNow x_t_left0 A_t_bornOf A_t_trainsTo A_t_trainAt x_t_trainMany x_t_leastTries x_t_firstTrained x_t_isKept, iA cB 260 A_t_tape v_t_tape, iA cI 6 A_t_trainsTo v_t_trainsTo] → va_S A s.heap H locs → f_X12_sortsWords_b18 v_t_tape a1 (f_X12_sortsWords_b7 v_t_tape a1 n_7) n_18 v_t_trainsTo x_t_trainMany l2 l3 l4 = some (o_v_t_trainsTo, o_x_t_trainMany) → W p l e { frames := 1, cells := 0, slots := 0, locals := 21 } s m ([.ref A_t, .int a1] : List Value).toArray below meth c H locs 0 0 (MQ below (PoV D A [oX12 A_t A_t_now A_t_aside A_t_kept A_t_rhymeOf A_t_wasRhyme A_t_wordAt x_t_wordMany A_t_tape x_t_taped x_t_place0 x_t_length0 x_t_fault x_t_number0 x_t_open x_t_codeMany x_t_waiting x_t_saidMany x_t_clauses A_t_said A_t_waitsAt A_t_saidLetter A_t_saidFrom A_t_saidHalf A_t_saidTo A_t_codes A_t_clauseOf A_t_codeFrom A_t_codeHalf A_t_codeTo A_t_stack A_t_facts x_t_lines A_t_newWords A_t_roundFrom A_t_roundAt A_t_roundTimes x_t_newMany x_t_rounds x_t_itFrom x_t_itTimes x_t_writtenNow x_t_picturesNow x_t_usedNow x_t_chosen x_t_fearOfChosen A_t_leastFrom A_t_rowNow x_t_changesNow x_t_left0 A_t_bornOf A_t_trainsTo A_t_trainAt o_x_t_trainMany x_t_leastTries x_t_firstTrained x_t_isKept, iA cB 260 A_t_tape v_t_tape, iA cI 6 A_t_trainsTo o_v_t_trainsTo]) ([.ref A_t, .int a1] : List Value).toArray s 0 0 A) (F0 m 18 ls []) := by
        intro n_18
        induction n_18 with
        | zero =>
          intro v_t_trainsTo x_t_trainMany l2 l3 l4 H locs ls hl hP hD hS hf
          exact absurd hf (fun h => by rw [f_X12_sortsWords_b18] at h; cases h)
        | succ n_18 ih_18 =>
          have hb_36 : ∀ (v_t_trainsTo : (Nat → Int32)) (x_t_trainMany : Int32) (l2 : Int32) (l3 : Int32) (l4 : Int32) (H : Heap) (locs : List Loc) (ls : Array Slot), lv_has ls 5 [(0, .ref A_t), (1, .int a1), (2, .int l2), (3, .int l3), (4, .int l4)] → va_P D vwCl [oX12 A_t A_t_now A_t_aside A_t_kept A_t_rhymeOf A_t_wasRhyme A_t_wordAt x_t_wordMany A_t_tape x_t_taped x_t_place0 x_t_length0 x_t_fault x_t_number0 x_t_open x_t_codeMany x_t_waiting x_t_saidMany x_t_clauses A_t_said A_t_waitsAt A_t_saidLetter A_t_saidFrom A_t_saidHalf A_t_saidTo A_t_codes A_t_clauseOf A_t_codeFrom A_t_codeHalf A_t_codeTo A_t_stack A_t_facts x_t_lines A_t_newWords A_t_roundFrom A_t_roundAt A_t_roundTimes x_t_newMany x_t_rounds x_t_itFrom x_t_itTimes x_t_writtenNow x_t_picturesNow x_t_usedNow x_t_chosen x_t_fearOfChosen A_t_leastFrom A_t_rowNow x_t_changesNow x_t_left0 A_t_bornOf A_t_trainsTo A_t_trainAt x_t_trainMany x_t_leastTries x_t_firstTrained x_t_isKept, iA cB 260 A_t_tape v_t_tape, iA cI 6 A_t_trainsTo v_t_trainsTo] H → va_D A [oX12 A_t A_t_now A_t_aside A_t_kept A_t_rhymeOf A_t_wasRhyme A_t_wordAt x_t_wordMany A_t_tape x_t_taped x_t_place0 x_t_length0 x_t_fault x_t_number0 x_t_open x_t_codeMany x_t_waiting x_t_saidMany x_t_clauses A_t_said A_t_waitsAt A_t_saidLetter A_t_saidFrom A_t_saidHalf A_t_saidTo A_t_codes A_t_clauseOf A_t_codeFrom A_t_codeHalf A_t_codeTo A_t_stack A_t_facts x_t_lines A_t_newWords A_t_roundFrom A_t_roundAt A_t_roundTimes x_t_newMany x_t_rounds x_t_itFrom x_t_itTimes x_t_writtenNow x_t_picturesNow x_t_usedNow x_t_chosen x_t_fearOfChosen A_t_leastFrom A_t_rowNow x_t_changesNow x_t_left0 A_t_bornOf A_t_trainsTo A_t_trainAt x_t_trainMany x_t_leastTries x_t_firstTrained x_t_isKept, iA cB 260 A_t_tape v_t_tape, iA cI 6 A_t_trainsTo v_t_trainsTo] → va_S A s.heap H locs → f_X12_sortsWords_b36 a1 (f_X12_sortsWords_b7 v_t_tape a1 n_7) (f_X12_sortsWords_b18 v_t_tape a1 (f_X12_sortsWords_b7 v_t_tape a1 n_7) n_18) v_t_trainsTo x_t_trainMany l2 l3 l4 = some (o_v_t_trainsTo, o_x_t_trainMany) → W p l e { frames := 1, cells := 0, slots := 0, locals := 21 } s m ([.ref A_t, .int a1] : List Value).toArray below meth c H locs 0 0 (MQ below (PoV D A [oX12 A_t A_t_now A_t_aside A_t_kept A_t_rhymeOf A_t_wasRhyme A_t_wordAt x_t_wordMany A_t_tape x_t_taped x_t_place0 x_t_length0 x_t_fault x_t_number0 x_t_open x_t_codeMany x_t_waiting x_t_saidMany x_t_clauses A_t_said A_t_waitsAt A_t_saidLetter A_t_saidFrom A_t_saidHalf A_t_saidTo A_t_codes A_t_clauseOf A_t_codeFrom A_t_codeHalf A_t_codeTo A_t_stack A_t_facts x_t_lines A_t_newWords A_t_roundFrom A_t_roundAt A_t_roundTimes x_t_newMany x_t_rounds x_t_itFrom x_t_itTimes x_t_writtenNow x_t_picturesNow x_t_usedNow x_t_chosen x_t_fearOfChosen A_t_leastFrom A_t_rowNow x_t_changesNow x_t_left0 A_t_bornOf A_t_trainsTo A_t_trainAt o_x_t_trainMany x_t_leastTries x_t_firstTrained x_t_isKept, iA cB 260 A_t_tape v_t_tape, iA cI 6 A_t_trainsTo o_v_t_trainsTo]) ([.ref A_t, .int a1] : List Value).toArray s 0 0 A) (F0 m 36 ls []) := by
            intro v_t_trainsTo x_t_trainMany l2 l3 l4 H locs ls hl hP hD hS hf
            unfold f_X12_sortsWords_b36 at hf
            refine lv_iinc (v := (l4 + (1 : Int32))) (lv' := [(4, .int (l4 + (1 : Int32))), (0, .ref A_t), (1, .int a1), (2, .int l2), (3, .int l3)]) hx hb dX12_sortsWords_36 hl (k := 4) rfl rfl (by decide) rfl (fun ls hl => ?_)
            refine lv_goto (tgt := 18) hx hb dX12_sortsWords_39 (by decide) ?_
            exact ih_18 v_t_trainsTo x_t_trainMany l2 l3 (l4 + (1 : Int32)) _ _ ls (lv_sub hl [1, 2, 3, 4, 0] rfl) hP hD hS hf
          intro v_t_trainsTo x_t_trainMany l2 l3 l4 H locs ls hl hP hD hS hf
          rw [f_X12_sortsWords_b18] at hf
          refine lv_iload hx hb dX12_sortsWords_18 (lv_at hl 4 rfl) ?_
          refine lv_iload_n hx hb dX12_sortsWords_20 rfl (lv_at hl 1 rfl) ?_
          refine lv_icmp_ge (tgt := 42) hx hb dX12_sortsWords_21 (by decide) (fun q => ?_) (fun q => ?_)
          · have hf := if_t q hf
            refine lv_iload_n hx hb dX12_sortsWords_42 rfl (lv_at hl 3 rfl) ?_
            refine lv_if_ne (tgt := 49) hx hb dX12_sortsWords_43 (by decide) (fun q => ?_) (fun q => ?_)
            · have hf := if_f q hf
              refine lv_aload_n hx hb dX12_sortsWords_49 rfl (lv_at hl 0 rfl) ?_
              refine x_get C hK hP fd_X12_92 0 rfl rfl dX12_sortsWords_50 ?_
              refine lv_aload_n hx hb dX12_sortsWords_53 rfl (lv_at hl 0 rfl) ?_
              refine x_get C hK hP fd_X12_397 0 rfl rfl dX12_sortsWords_54 ?_
              refine lv_iload_n hx hb dX12_sortsWords_57 rfl (lv_at hl 2 rfl) ?_
              obtain ⟨hi, hf⟩ := sI_e hf
              refine x_iast (ws' := [oX12 A_t A_t_now A_t_aside A_t_kept A_t_rhymeOf A_t_wasRhyme A_t_wordAt x_t_wordMany A_t_tape x_t_taped x_t_place0 x_t_length0 x_t_fault x_t_number0 x_t_open x_t_codeMany x_t_waiting x_t_saidMany x_t_clauses A_t_said A_t_waitsAt A_t_saidLetter A_t_saidFrom A_t_saidHalf A_t_saidTo A_t_codes A_t_clauseOf A_t_codeFrom A_t_codeHalf A_t_codeTo A_t_stack A_t_facts x_t_lines A_t_newWords A_t_roundFrom A_t_roundAt A_t_roundTimes x_t_newMany x_t_rounds x_t_itFrom x_t_itTimes x_t_writtenNow x_t_picturesNow x_t_usedNow x_t_chosen x_t_fearOfChosen A_t_leastFrom A_t_rowNow x_t_changesNow x_t_left0 A_t_bornOf A_t_trainsTo A_t_trainAt x_t_trainMany x_t_leastTries x_t_firstTrained x_t_isKept, iA cB 260 A_t_tape v_t_tape, iA cI 6 A_t_trainsTo (upd v_t_trainsTo x_t_trainMany.toNatClampNeg l2)]) C hK hP hD hS 2 rfl hi rfl dX12_sortsWords_58 ?_
              intro H locs hP hD hS
              refine lv_aload_n hx hb dX12_sortsWords_59 rfl (lv_at hl 0 rfl) ?_
              refine lv_aload_n hx hb dX12_sortsWords_60 rfl (lv_at hl 0 rfl) ?_
              refine x_get C hK hP fd_X12_397 0 rfl rfl dX12_sortsWords_61 ?_
              refine lv_iconst (v := 1) hx hb dX12_sortsWords_64 (by decide) ?_
              refine lv_iadd hx hb dX12_sortsWords_65 ?_
              refine x_put (ws' := [oX12 A_t A_t_now A_t_aside A_t_kept A_t_rhymeOf A_t_wasRhyme A_t_wordAt x_t_wordMany A_t_tape x_t_taped x_t_place0 x_t_length0 x_t_fault x_t_number0 x_t_open x_t_codeMany x_t_waiting x_t_saidMany x_t_clauses A_t_said A_t_waitsAt A_t_saidLetter A_t_saidFrom A_t_saidHalf A_t_saidTo A_t_codes A_t_clauseOf A_t_codeFrom A_t_codeHalf A_t_codeTo A_t_stack A_t_facts x_t_lines A_t_newWords A_t_roundFrom A_t_roundAt A_t_roundTimes x_t_newMany x_t_rounds x_t_itFrom x_t_itTimes x_t_writtenNow x_t_picturesNow x_t_usedNow x_t_chosen x_t_fearOfChosen A_t_leastFrom A_t_rowNow x_t_changesNow x_t_left0 A_t_bornOf A_t_trainsTo A_t_trainAt (x_t_trainMany + (1 : Int32)) x_t_leastTries x_t_firstTrained x_t_isKept, iA cB 260 A_t_tape v_t_tape, iA cI 6 A_t_trainsTo (upd v_t_trainsTo x_t_trainMany.toNatClampNeg l2)]) C hK hP hD hS fp_X12_397 0 rfl rfl rfl (Nat.le_of_ble_eq_true rfl) rfl dX12_sortsWords_66 ?_
              intro H locs hP hD hS
              exact hb_69 (upd v_t_trainsTo x_t_trainMany.toNatClampNeg l2) (x_t_trainMany + (1 : Int32)) l2 _ _ ls (lv_sub hl [0, 1, 2] rfl) hP hD hS hf
            · have hf := if_t q hf
              refine lv_goto (tgt := 69) hx hb dX12_sortsWords_46 (by decide) ?_
              exact hb_69 v_t_trainsTo x_t_trainMany l2 _ _ ls (lv_sub hl [0, 1, 2] rfl) hP hD hS hf
          · have hf := if_f q hf
            refine lv_aload_n hx hb dX12_sortsWords_24 rfl (lv_at hl 0 rfl) ?_
            refine lv_iload hx hb dX12_sortsWords_25 (lv_at hl 4 rfl) ?_
            obtain ⟨r1, hc2, hf⟩ := bd1_e hf
            refine x_callVI (ws' := [oX12 A_t A_t_now A_t_aside A_t_kept A_t_rhymeOf A_t_wasRhyme A_t_wordAt x_t_wordMany A_t_tape x_t_taped x_t_place0 x_t_length0 x_t_fault x_t_number0 x_t_open x_t_codeMany x_t_waiting x_t_saidMany x_t_clauses A_t_said A_t_waitsAt A_t_saidLetter A_t_saidFrom A_t_saidHalf A_t_saidTo A_t_codes A_t_clauseOf A_t_codeFrom A_t_codeHalf A_t_codeTo A_t_stack A_t_facts x_t_lines A_t_newWords A_t_roundFrom A_t_roundAt A_t_roundTimes x_t_newMany x_t_rounds x_t_itFrom x_t_itTimes x_t_writtenNow x_t_picturesNow x_t_usedNow x_t_chosen x_t_fearOfChosen A_t_leastFrom A_t_rowNow x_t_changesNow x_t_left0 A_t_bornOf A_t_trainsTo A_t_trainAt x_t_trainMany x_t_leastTries x_t_firstTrained x_t_isKept, iA cB 260 A_t_tape v_t_tape, iA cI 6 A_t_trainsTo v_t_trainsTo]) (rest := []) C hK hP hD hS hA hl mf_X12_378 (c_X12_octet hc2) [0, 1] 0 12 rfl rfl rfl rfl rfl rfl rfl rfl rfl rfl (Nat.le_of_ble_eq_true rfl) ⟨Nat.le_of_ble_eq_true rfl, Nat.le_of_ble_eq_true rfl⟩ ⟨Nat.le_refl _, Nat.le_refl _⟩ dX12_sortsWords_27 ?_
            intro H locs hP hD hS
            refine lv_iload_n hx hb dX12_sortsWords_30 rfl (lv_at hl 2 rfl) ?_
            refine lv_icmp_ne (tgt := 36) hx hb dX12_sortsWords_31 (by decide) (fun q => ?_) (fun q => ?_)
            · have hf := if_f q hf
              exact hb_36 v_t_trainsTo x_t_trainMany l2 l3 l4 _ _ ls (lv_sub hl [0, 1, 2, 3, 4] rfl) hP hD hS hf
            · have hf := if_t q hf
              refine lv_iconst (v := 1) hx hb dX12_sortsWords_34 (by decide) ?_
              refine lv_istore_n (lv' := [(3, .int (1 : Int32)), (0, .ref A_t), (1, .int a1), (2, .int l2), (4, .int l4)]) hx hb dX12_sortsWords_35 rfl hl (by decide) rfl (fun ls hl => ?_)
              exact hb_36 v_t_trainsTo x_t_trainMany l2 (1 : Int32) l4 _ _ ls (lv_sub hl [1, 2, 3, 0, 4] rfl) hP hD hS hf
      intro v_t_trainsTo x_t_trainMany l2 H locs ls hl hP hD hS hf
      rw [f_X12_sortsWords_b7] at hf
      refine lv_iload_n hx hb dX12_sortsWords_7 rfl (lv_at hl 2 rfl) ?_
      refine lv_bipush (v := 16) hx hb dX12_sortsWords_8 (by decide) ?_
      refine lv_icmp_ge (tgt := 75) hx hb dX12_sortsWords_10 (by decide) (fun q => ?_) (fun q => ?_)
      · have hf := if_t q hf
        obtain ⟨rfl, rfl⟩ := ev2 hf
        exact x_vret C hr hlk hP hD hS dX12_sortsWords_75
      · have hf := if_f q hf
        refine lv_iconst (v := 0) hx hb dX12_sortsWords_13 (by decide) ?_
        refine lv_istore_n (lv' := [(3, .int (0 : Int32)), (0, .ref A_t), (1, .int a1), (2, .int l2)]) hx hb dX12_sortsWords_14 rfl hl (by decide) rfl (fun ls hl => ?_)
        refine lv_iconst (v := 0) hx hb dX12_sortsWords_15 (by decide) ?_
        refine lv_istore (lv' := [(4, .int (0 : Int32)), (3, .int (0 : Int32)), (0, .ref A_t), (1, .int a1), (2, .int l2)]) hx hb dX12_sortsWords_16 hl (by decide) rfl (fun ls hl => ?_)
        exact hb_18 FU v_t_trainsTo x_t_trainMany l2 (0 : Int32) (0 : Int32) _ _ ls (lv_sub hl [2, 3, 4, 1, 0] rfl) hP hD hS hf
  refine lv_aload_n hx hb dX12_sortsWords_0 rfl (lv_at hl 0 rfl) ?_
  refine lv_iconst (v := 0) hx hb dX12_sortsWords_1 (by decide) ?_
  refine x_put (ws' := [oX12 A_t A_t_now A_t_aside A_t_kept A_t_rhymeOf A_t_wasRhyme A_t_wordAt x_t_wordMany A_t_tape x_t_taped x_t_place0 x_t_length0 x_t_fault x_t_number0 x_t_open x_t_codeMany x_t_waiting x_t_saidMany x_t_clauses A_t_said A_t_waitsAt A_t_saidLetter A_t_saidFrom A_t_saidHalf A_t_saidTo A_t_codes A_t_clauseOf A_t_codeFrom A_t_codeHalf A_t_codeTo A_t_stack A_t_facts x_t_lines A_t_newWords A_t_roundFrom A_t_roundAt A_t_roundTimes x_t_newMany x_t_rounds x_t_itFrom x_t_itTimes x_t_writtenNow x_t_picturesNow x_t_usedNow x_t_chosen x_t_fearOfChosen A_t_leastFrom A_t_rowNow x_t_changesNow x_t_left0 A_t_bornOf A_t_trainsTo A_t_trainAt (0 : Int32) x_t_leastTries x_t_firstTrained x_t_isKept, iA cB 260 A_t_tape v_t_tape, iA cI 6 A_t_trainsTo v_t_trainsTo]) C hK hP hD hS fp_X12_397 0 rfl rfl rfl (Nat.le_of_ble_eq_true rfl) rfl dX12_sortsWords_2 ?_
  intro H locs hP hD hS
  refine lv_iconst (v := 0) hx hb dX12_sortsWords_5 (by decide) ?_
  refine lv_istore_n (lv' := [(2, .int (0 : Int32)), (0, .ref A_t), (1, .int a1)]) hx hb dX12_sortsWords_6 rfl hl (by decide) rfl (fun ls hl => ?_)
  exact hb_7 FU v_t_trainsTo (0 : Int32) (0 : Int32) _ _ ls (lv_sub hl [1, 2, 0] rfl) hP hD hS hf
def f_X12_triesOf_b100 (a1 : Int32) (k66 : (Nat → Int32) → Int32 → Int32 → Int32 → Option (Int32 × (Nat → Int32))) (v_t_now : (Nat → Int32)) (s0 : Int32) (l3 : Int32) (l5 : Int32) : Option (Int32 × (Nat → Int32)) :=
  k66 v_t_now l3 s0 (l5 + (1 : Int32))
def f_X12_triesOf_b99 (a1 : Int32) (k66 : (Nat → Int32) → Int32 → Int32 → Int32 → Option (Int32 × (Nat → Int32))) (v_t_now : (Nat → Int32)) (l3 : Int32) (l5 : Int32) : Option (Int32 × (Nat → Int32)) :=
  f_X12_triesOf_b100 a1 k66 v_t_now (0 : Int32) l3 l5
def f_X12_triesOf_b131 (v_t_now : (Nat → Int32)) (s0 : Int32) : Option (Int32 × (Nat → Int32)) :=
  some (s0, v_t_now)
def f_X12_triesOf_b66 (v_t_aside : (Nat → Int32)) (v_t_rhymeOf : (Nat → Int32)) (v_t_trainsTo : (Nat → Int32)) (x_t_trainMany : Int32) (a1 : Int32) : Nat → (Nat → Int32) → Int32 → Int32 → Int32 → Option (Int32 × (Nat → Int32))
  | 0, _, _, _, _ => none
  | n + 1, v_t_now, l3, l4, l5 =>
    if x_t_trainMany ≤ l5 then
      bd1 (f_X12_copies v_t_aside v_t_now) (fun w1 =>
      if l4 = 0 then
        f_X12_triesOf_b131 w1 (1000000 : Int32)
      else
        f_X12_triesOf_b131 w1 l3)
    else
      if l4 = 0 then
        f_X12_triesOf_b99 a1 (f_X12_triesOf_b66 v_t_aside v_t_rhymeOf v_t_trainsTo x_t_trainMany a1 n) v_t_now l3 l5
      else
        gI 6 v_t_trainsTo l5 (fun g2 =>
        bd1 (f_X12_bears v_t_now v_t_rhymeOf a1 g2) (fun r3 =>
        if r3 = 0 then
          f_X12_triesOf_b99 a1 (f_X12_triesOf_b66 v_t_aside v_t_rhymeOf v_t_trainsTo x_t_trainMany a1 n) v_t_now l3 l5
        else
          f_X12_triesOf_b100 a1 (f_X12_triesOf_b66 v_t_aside v_t_rhymeOf v_t_trainsTo x_t_trainMany a1 n) v_t_now (1 : Int32) l3 l5))
def f_X12_triesOf_b5 (v_t_aside : (Nat → Int32)) (v_t_rhymeOf : (Nat → Int32)) (v_t_trainAt : (Nat → Int32)) (v_t_trainsTo : (Nat → Int32)) (x_t_trainMany : Int32) (a1 : Int32) (a2 : Int32) : Nat → (Nat → Int32) → Int32 → Int32 → Option (Int32 × (Nat → Int32))
  | 0, _, _, _ => none
  | n + 1, v_t_now, l3, l4 =>
    if a2 ≤ l4 then
      f_X12_triesOf_b66 v_t_aside v_t_rhymeOf v_t_trainsTo x_t_trainMany a1 FU v_t_now l3 (1 : Int32) (0 : Int32)
    else
      gI 7 v_t_trainAt l4 (fun g1 =>
      gI 6 v_t_trainsTo g1 (fun g2 =>
      gI 293 v_t_now (((160 : Int32) + ((16 : Int32) * a1)) + g2) (fun g3 =>
      bd1 (f_X12_isUsedTo v_t_now v_t_rhymeOf a1 g2) (fun w4 =>
      f_X12_triesOf_b5 v_t_aside v_t_rhymeOf v_t_trainAt v_t_trainsTo x_t_trainMany a1 a2 n w4 ((l3 + (9 : Int32)) - g3) (l4 + (1 : Int32))))))
def f_X12_triesOf (v_t_aside : (Nat → Int32)) (v_t_now : (Nat → Int32)) (v_t_rhymeOf : (Nat → Int32)) (v_t_trainAt : (Nat → Int32)) (v_t_trainsTo : (Nat → Int32)) (x_t_trainMany : Int32) (a1 : Int32) (a2 : Int32) : Option (Int32 × (Nat → Int32)) :=
  f_X12_triesOf_b5 v_t_aside v_t_rhymeOf v_t_trainAt v_t_trainsTo x_t_trainMany a1 a2 FU v_t_now (0 : Int32) (0 : Int32)
set_option maxHeartbeats 4000000 in
set_option maxRecDepth 100000 in
theorem c_X12_triesOf {l : Launch} {D : va_G} {cI cB : ClassId} {A_t A_t_now A_t_aside A_t_kept A_t_rhymeOf A_t_wasRhyme A_t_wordAt A_t_tape A_t_said A_t_waitsAt A_t_saidLetter A_t_saidFrom A_t_saidHalf A_t_saidTo A_t_codes A_t_clauseOf A_t_codeFrom A_t_codeHalf A_t_codeTo A_t_stack A_t_facts A_t_newWords A_t_roundFrom A_t_roundAt A_t_roundTimes A_t_leastFrom A_t_rowNow A_t_bornOf A_t_trainsTo A_t_trainAt : Nat} {x_t_wordMany x_t_taped x_t_place0 x_t_length0 x_t_fault x_t_number0 x_t_open x_t_codeMany x_t_waiting x_t_saidMany x_t_clauses x_t_lines x_t_newMany x_t_rounds x_t_itFrom x_t_itTimes x_t_writtenNow x_t_picturesNow x_t_usedNow x_t_chosen x_t_fearOfChosen x_t_changesNow x_t_left0 x_t_trainMany x_t_leastTries x_t_firstTrained x_t_isKept a1 a2 : Int32} {v_t_aside v_t_now v_t_rhymeOf v_t_trainAt v_t_trainsTo : Nat → Int32} {o_r : Int32} {o_v_t_now : Nat → Int32} (hf : f_X12_triesOf v_t_aside v_t_now v_t_rhymeOf v_t_trainAt v_t_trainsTo x_t_trainMany a1 a2 = some (o_r, o_v_t_now)) : CtI l D cI cB yX12_triesOf cX12_triesOf 6 (some .int) 5 109 [.ref A_t, .int a1, .int a2] [oX12 A_t A_t_now A_t_aside A_t_kept A_t_rhymeOf A_t_wasRhyme A_t_wordAt x_t_wordMany A_t_tape x_t_taped x_t_place0 x_t_length0 x_t_fault x_t_number0 x_t_open x_t_codeMany x_t_waiting x_t_saidMany x_t_clauses A_t_said A_t_waitsAt A_t_saidLetter A_t_saidFrom A_t_saidHalf A_t_saidTo A_t_codes A_t_clauseOf A_t_codeFrom A_t_codeHalf A_t_codeTo A_t_stack A_t_facts x_t_lines A_t_newWords A_t_roundFrom A_t_roundAt A_t_roundTimes x_t_newMany x_t_rounds x_t_itFrom x_t_itTimes x_t_writtenNow x_t_picturesNow x_t_usedNow x_t_chosen x_t_fearOfChosen A_t_leastFrom A_t_rowNow x_t_changesNow x_t_left0 A_t_bornOf A_t_trainsTo A_t_trainAt x_t_trainMany x_t_leastTries x_t_firstTrained x_t_isKept, iA cI 293 A_t_aside v_t_aside, iA cI 293 A_t_now v_t_now, iA cI 16 A_t_rhymeOf v_t_rhymeOf, iA cI 7 A_t_trainAt v_t_trainAt, iA cI 6 A_t_trainsTo v_t_trainsTo] [oX12 A_t A_t_now A_t_aside A_t_kept A_t_rhymeOf A_t_wasRhyme A_t_wordAt x_t_wordMany A_t_tape x_t_taped x_t_place0 x_t_length0 x_t_fault x_t_number0 x_t_open x_t_codeMany x_t_waiting x_t_saidMany x_t_clauses A_t_said A_t_waitsAt A_t_saidLetter A_t_saidFrom A_t_saidHalf A_t_saidTo A_t_codes A_t_clauseOf A_t_codeFrom A_t_codeHalf A_t_codeTo A_t_stack A_t_facts x_t_lines A_t_newWords A_t_roundFrom A_t_roundAt A_t_roundTimes x_t_newMany x_t_rounds x_t_itFrom x_t_itTimes x_t_writtenNow x_t_picturesNow x_t_usedNow x_t_chosen x_t_fearOfChosen A_t_leastFrom A_t_rowNow x_t_changesNow x_t_left0 A_t_bornOf A_t_trainsTo A_t_trainAt x_t_trainMany x_t_leastTries x_t_firstTrained x_t_isKept, iA cI 293 A_t_aside v_t_aside, iA cI 293 A_t_now o_v_t_now, iA cI 16 A_t_rhymeOf v_t_rhymeOf, iA cI 7 A_t_trainAt v_t_trainAt, iA cI 6 A_t_trainsTo v_t_trainsTo] o_r := by
  refine x_startI (by decide) (Nat.le_of_ble_eq_true rfl) ?_
  intro p e s m below meth c A C hr hlk hA hK hP hD hS ls hl
  have hl : lv_has ls 6 [(0, .ref A_t), (1, .int a1), (2, .int a2)] := hl
  have hx := C.1
  have hb := C.2.1
  unfold f_X12_triesOf at hf
  have hb_131 : ∀ (v_t_now : (Nat → Int32)) (s0 : Int32) (H : Heap) (locs : List Loc) (ls : Array Slot), lv_has ls 6 [] → va_P D vwCl [oX12 A_t A_t_now A_t_aside A_t_kept A_t_rhymeOf A_t_wasRhyme A_t_wordAt x_t_wordMany A_t_tape x_t_taped x_t_place0 x_t_length0 x_t_fault x_t_number0 x_t_open x_t_codeMany x_t_waiting x_t_saidMany x_t_clauses A_t_said A_t_waitsAt A_t_saidLetter A_t_saidFrom A_t_saidHalf A_t_saidTo A_t_codes A_t_clauseOf A_t_codeFrom A_t_codeHalf A_t_codeTo A_t_stack A_t_facts x_t_lines A_t_newWords A_t_roundFrom A_t_roundAt A_t_roundTimes x_t_newMany x_t_rounds x_t_itFrom x_t_itTimes x_t_writtenNow x_t_picturesNow x_t_usedNow x_t_chosen x_t_fearOfChosen A_t_leastFrom A_t_rowNow x_t_changesNow x_t_left0 A_t_bornOf A_t_trainsTo A_t_trainAt x_t_trainMany x_t_leastTries x_t_firstTrained x_t_isKept, iA cI 293 A_t_aside v_t_aside, iA cI 293 A_t_now v_t_now, iA cI 16 A_t_rhymeOf v_t_rhymeOf, iA cI 7 A_t_trainAt v_t_trainAt, iA cI 6 A_t_trainsTo v_t_trainsTo] H → va_D A [oX12 A_t A_t_now A_t_aside A_t_kept A_t_rhymeOf A_t_wasRhyme A_t_wordAt x_t_wordMany A_t_tape x_t_taped x_t_place0 x_t_length0 x_t_fault x_t_number0 x_t_open x_t_codeMany x_t_waiting x_t_saidMany x_t_clauses A_t_said A_t_waitsAt A_t_saidLetter A_t_saidFrom A_t_saidHalf A_t_saidTo A_t_codes A_t_clauseOf A_t_codeFrom A_t_codeHalf A_t_codeTo A_t_stack A_t_facts x_t_lines A_t_newWords A_t_roundFrom A_t_roundAt A_t_roundTimes x_t_newMany x_t_rounds x_t_itFrom x_t_itTimes x_t_writtenNow x_t_picturesNow x_t_usedNow x_t_chosen x_t_fearOfChosen A_t_leastFrom A_t_rowNow x_t_changesNow x_t_left0 A_t_bornOf A_t_trainsTo A_t_trainAt x_t_trainMany x_t_leastTries x_t_firstTrained x_t_isKept, iA cI 293 A_t_aside v_t_aside, iA cI 293 A_t_now v_t_now, iA cI 16 A_t_rhymeOf v_t_rhymeOf, iA cI 7 A_t_trainAt v_t_trainAt, iA cI 6 A_t_trainsTo v_t_trainsTo] → va_S A s.heap H locs → f_X12_triesOf_b131 v_t_now s0 = some (o_r, o_v_t_now) → W p l e { frames := 5, cells := 0, slots := 0, locals := 109 } s m ([.ref A_t, .int a1, .int a2] : List Value).toArray below meth c H locs 0 0 (MQ below (PoI D A [oX12 A_t A_t_now A_t_aside A_t_kept A_t_rhymeOf A_t_wasRhyme A_t_wordAt x_t_wordMany A_t_tape x_t_taped x_t_place0 x_t_length0 x_t_fault x_t_number0 x_t_open x_t_codeMany x_t_waiting x_t_saidMany x_t_clauses A_t_said A_t_waitsAt A_t_saidLetter A_t_saidFrom A_t_saidHalf A_t_saidTo A_t_codes A_t_clauseOf A_t_codeFrom A_t_codeHalf A_t_codeTo A_t_stack A_t_facts x_t_lines A_t_newWords A_t_roundFrom A_t_roundAt A_t_roundTimes x_t_newMany x_t_rounds x_t_itFrom x_t_itTimes x_t_writtenNow x_t_picturesNow x_t_usedNow x_t_chosen x_t_fearOfChosen A_t_leastFrom A_t_rowNow x_t_changesNow x_t_left0 A_t_bornOf A_t_trainsTo A_t_trainAt x_t_trainMany x_t_leastTries x_t_firstTrained x_t_isKept, iA cI 293 A_t_aside v_t_aside, iA cI 293 A_t_now o_v_t_now, iA cI 16 A_t_rhymeOf v_t_rhymeOf, iA cI 7 A_t_trainAt v_t_trainAt, iA cI 6 A_t_trainsTo v_t_trainsTo] o_r) ([.ref A_t, .int a1, .int a2] : List Value).toArray s 0 0 A) (F0 m 131 ls [.int s0]) := by
    intro v_t_now s0 H locs ls hl hP hD hS hf
    unfold f_X12_triesOf_b131 at hf
    obtain ⟨rfl, rfl⟩ := ev2 hf
    exact x_iret C hr hlk hP hD hS dX12_triesOf_131
  have hb_66 : ∀ (n_66 : Nat) (v_t_now : (Nat → Int32)) (l3 : Int32) (l4 : Int32) (l5 : Int32) (H : Heap) (locs : List Loc) (ls : Array Slot), lv_has ls 6 [(0, .ref A_t), (1, .int a1), (3, .int l3), (4, .int l4), (5, .int l5)] → va_P D vwCl [oX12 A_t A_t_now A_t_aside A_t_kept A_t_rhymeOf A_t_wasRhyme A_t_wordAt x_t_wordMany A_t_tape x_t_taped x_t_place0 x_t_length0 x_t_fault x_t_number0 x_t_open x_t_codeMany x_t_waiting x_t_saidMany x_t_clauses A_t_said A_t_waitsAt A_t_saidLetter A_t_saidFrom A_t_saidHalf A_t_saidTo A_t_codes A_t_clauseOf A_t_codeFrom A_t_codeHalf A_t_codeTo A_t_stack A_t_facts x_t_lines A_t_newWords A_t_roundFrom A_t_roundAt A_t_roundTimes x_t_newMany x_t_rounds x_t_itFrom x_t_itTimes x_t_writtenNow x_t_picturesNow x_t_usedNow x_t_chosen x_t_fearOfChosen A_t_leastFrom A_t_rowNow x_t_changesNow x_t_left0 A_t_bornOf A_t_trainsTo A_t_trainAt x_t_trainMany x_t_leastTries x_t_firstTrained x_t_isKept, iA cI 293 A_t_aside v_t_aside, iA cI 293 A_t_now v_t_now, iA cI 16 A_t_rhymeOf v_t_rhymeOf, iA cI 7 A_t_trainAt v_t_trainAt, iA cI 6 A_t_trainsTo v_t_trainsTo] H → va_D A [oX12 A_t A_t_now A_t_aside A_t_kept A_t_rhymeOf A_t_wasRhyme A_t_wordAt x_t_wordMany A_t_tape x_t_taped x_t_place0 x_t_length0 x_t_fault x_t_number0 x_t_open x_t_codeMany x_t_waiting x_t_saidMany x_t_clauses A_t_said A_t_waitsAt A_t_saidLetter A_t_saidFrom A_t_saidHalf A_t_saidTo A_t_codes A_t_clauseOf A_t_codeFrom A_t_codeHalf A_t_codeTo A_t_stack A_t_facts x_t_lines A_t_newWords A_t_roundFrom A_t_roundAt A_t_roundTimes x_t_newMany x_t_rounds x_t_itFrom x_t_itTimes x_t_writtenNow x_t_picturesNow x_t_usedNow x_t_chosen x_t_fearOfChosen A_t_leastFrom A_t_rowNow x_t_changesNow x_t_left0 A_t_bornOf A_t_trainsTo A_t_trainAt x_t_trainMany x_t_leastTries x_t_firstTrained x_t_isKept, iA cI 293 A_t_aside v_t_aside, iA cI 293 A_t_now v_t_now, iA cI 16 A_t_rhymeOf v_t_rhymeOf, iA cI 7 A_t_trainAt v_t_trainAt, iA cI 6 A_t_trainsTo v_t_trainsTo] → va_S A s.heap H locs → f_X12_triesOf_b66 v_t_aside v_t_rhymeOf v_t_trainsTo x_t_trainMany a1 n_66 v_t_now l3 l4 l5 = some (o_r, o_v_t_now) → W p l e { frames := 5, cells := 0, slots := 0, locals := 109 } s m ([.ref A_t, .int a1, .int a2] : List Value).toArray below meth c H locs 0 0 (MQ below (PoI D A [oX12 A_t A_t_now A_t_aside A_t_kept A_t_rhymeOf A_t_wasRhyme A_t_wordAt x_t_wordMany A_t_tape x_t_taped x_t_place0 x_t_length0 x_t_fault x_t_number0 x_t_open x_t_codeMany x_t_waiting x_t_saidMany x_t_clauses A_t_said A_t_waitsAt A_t_saidLetter A_t_saidFrom A_t_saidHalf A_t_saidTo A_t_codes A_t_clauseOf A_t_codeFrom A_t_codeHalf A_t_codeTo A_t_stack A_t_facts x_t_lines A_t_newWords A_t_roundFrom A_t_roundAt A_t_roundTimes x_t_newMany x_t_rounds x_t_itFrom x_t_itTimes x_t_writtenNow x_t_picturesNow x_t_usedNow x_t_chosen x_t_fearOfChosen A_t_leastFrom A_t_rowNow x_t_changesNow x_t_left0 A_t_bornOf A_t_trainsTo A_t_trainAt x_t_trainMany x_t_leastTries x_t_firstTrained x_t_isKept, iA cI 293 A_t_aside v_t_aside, iA cI 293 A_t_now o_v_t_now, iA cI 16 A_t_rhymeOf v_t_rhymeOf, iA cI 7 A_t_trainAt v_t_trainAt, iA cI 6 A_t_trainsTo v_t_trainsTo] o_r) ([.ref A_t, .int a1, .int a2] : List Value).toArray s 0 0 A) (F0 m 66 ls []) := by
    intro n_66
    induction n_66 with
    | zero =>
      intro v_t_now l3 l4 l5 H locs ls hl hP hD hS hf
      exact absurd hf (fun h => by rw [f_X12_triesOf_b66] at h; cases h)
    | succ n_66 ih_66 =>
      have hb_100 : ∀ (v_t_now : (Nat → Int32)) (s0 : Int32) (l3 : Int32) (l5 : Int32) (H : Heap) (locs : List Loc) (ls : Array Slot), lv_has ls 6 [(0, .ref A_t), (1, .int a1), (3, .int l3), (5, .int l5)] → va_P D vwCl [oX12 A_t A_t_now A_t_aside A_t_kept A_t_rhymeOf A_t_wasRhyme A_t_wordAt x_t_wordMany A_t_tape x_t_taped x_t_place0 x_t_length0 x_t_fault x_t_number0 x_t_open x_t_codeMany x_t_waiting x_t_saidMany x_t_clauses A_t_said A_t_waitsAt A_t_saidLetter A_t_saidFrom A_t_saidHalf A_t_saidTo A_t_codes A_t_clauseOf A_t_codeFrom A_t_codeHalf A_t_codeTo A_t_stack A_t_facts x_t_lines A_t_newWords A_t_roundFrom A_t_roundAt A_t_roundTimes x_t_newMany x_t_rounds x_t_itFrom x_t_itTimes x_t_writtenNow x_t_picturesNow x_t_usedNow x_t_chosen x_t_fearOfChosen A_t_leastFrom A_t_rowNow x_t_changesNow x_t_left0 A_t_bornOf A_t_trainsTo A_t_trainAt x_t_trainMany x_t_leastTries x_t_firstTrained x_t_isKept, iA cI 293 A_t_aside v_t_aside, iA cI 293 A_t_now v_t_now, iA cI 16 A_t_rhymeOf v_t_rhymeOf, iA cI 7 A_t_trainAt v_t_trainAt, iA cI 6 A_t_trainsTo v_t_trainsTo] H → va_D A [oX12 A_t A_t_now A_t_aside A_t_kept A_t_rhymeOf A_t_wasRhyme A_t_wordAt x_t_wordMany A_t_tape x_t_taped x_t_place0 x_t_length0 x_t_fault x_t_number0 x_t_open x_t_codeMany x_t_waiting x_t_saidMany x_t_clauses A_t_said A_t_waitsAt A_t_saidLetter A_t_saidFrom A_t_saidHalf A_t_saidTo A_t_codes A_t_clauseOf A_t_codeFrom A_t_codeHalf A_t_codeTo A_t_stack A_t_facts x_t_lines A_t_newWords A_t_roundFrom A_t_roundAt A_t_roundTimes x_t_newMany x_t_rounds x_t_itFrom x_t_itTimes x_t_writtenNow x_t_picturesNow x_t_usedNow x_t_chosen x_t_fearOfChosen A_t_leastFrom A_t_rowNow x_t_changesNow x_t_left0 A_t_bornOf A_t_trainsTo A_t_trainAt x_t_trainMany x_t_leastTries x_t_firstTrained x_t_isKept, iA cI 293 A_t_aside v_t_aside, iA cI 293 A_t_now v_t_now, iA cI 16 A_t_rhymeOf v_t_rhymeOf, iA cI 7 A_t_trainAt v_t_trainAt, iA cI 6 A_t_trainsTo v_t_trainsTo] → va_S A s.heap H locs → f_X12_triesOf_b100 a1 (f_X12_triesOf_b66 v_t_aside v_t_rhymeOf v_t_trainsTo x_t_trainMany a1 n_66) v_t_now s0 l3 l5 = some (o_r, o_v_t_now) → W p l e { frames := 5, cells := 0, slots := 0, locals := 109 } s m ([.ref A_t, .int a1, .int a2] : List Value).toArray below meth c H locs 0 0 (MQ below (PoI D A [oX12 A_t A_t_now A_t_aside A_t_kept A_t_rhymeOf A_t_wasRhyme A_t_wordAt x_t_wordMany A_t_tape x_t_taped x_t_place0 x_t_length0 x_t_fault x_t_number0 x_t_open x_t_codeMany x_t_waiting x_t_saidMany x_t_clauses A_t_said A_t_waitsAt A_t_saidLetter A_t_saidFrom A_t_saidHalf A_t_saidTo A_t_codes A_t_clauseOf A_t_codeFrom A_t_codeHalf A_t_codeTo A_t_stack A_t_facts x_t_lines A_t_newWords A_t_roundFrom A_t_roundAt A_t_roundTimes x_t_newMany x_t_rounds x_t_itFrom x_t_itTimes x_t_writtenNow x_t_picturesNow x_t_usedNow x_t_chosen x_t_fearOfChosen A_t_leastFrom A_t_rowNow x_t_changesNow x_t_left0 A_t_bornOf A_t_trainsTo A_t_trainAt x_t_trainMany x_t_leastTries x_t_firstTrained x_t_isKept, iA cI 293 A_t_aside v_t_aside, iA cI 293 A_t_now o_v_t_now, iA cI 16 A_t_rhymeOf v_t_rhymeOf, iA cI 7 A_t_trainAt v_t_trainAt, iA cI 6 A_t_trainsTo v_t_trainsTo] o_r) ([.ref A_t, .int a1, .int a2] : List Value).toArray s 0 0 A) (F0 m 100 ls [.int s0]) := by
        intro v_t_now s0 l3 l5 H locs ls hl hP hD hS hf
        unfold f_X12_triesOf_b100 at hf
        refine lv_istore (lv' := [(4, .int s0), (0, .ref A_t), (1, .int a1), (3, .int l3), (5, .int l5)]) hx hb dX12_triesOf_100 hl (by decide) rfl (fun ls hl => ?_)
        refine lv_iinc (v := (l5 + (1 : Int32))) (lv' := [(5, .int (l5 + (1 : Int32))), (4, .int s0), (0, .ref A_t), (1, .int a1), (3, .int l3)]) hx hb dX12_triesOf_102 hl (k := 4) rfl rfl (by decide) rfl (fun ls hl => ?_)
        refine lv_goto (tgt := 66) hx hb dX12_triesOf_105 (by decide) ?_
        exact ih_66 v_t_now l3 s0 (l5 + (1 : Int32)) _ _ ls (lv_sub hl [2, 3, 4, 1, 0] rfl) hP hD hS hf
      have hb_99 : ∀ (v_t_now : (Nat → Int32)) (l3 : Int32) (l5 : Int32) (H : Heap) (locs : List Loc) (ls : Array Slot), lv_has ls 6 [(0, .ref A_t), (1, .int a1), (3, .int l3), (5, .int l5)] → va_P D vwCl [oX12 A_t A_t_now A_t_aside A_t_kept A_t_rhymeOf A_t_wasRhyme A_t_wordAt x_t_wordMany A_t_tape x_t_taped x_t_place0 x_t_length0 x_t_fault x_t_number0 x_t_open x_t_codeMany x_t_waiting x_t_saidMany x_t_clauses A_t_said A_t_waitsAt A_t_saidLetter A_t_saidFrom A_t_saidHalf A_t_saidTo A_t_codes A_t_clauseOf A_t_codeFrom A_t_codeHalf A_t_codeTo A_t_stack A_t_facts x_t_lines A_t_newWords A_t_roundFrom A_t_roundAt A_t_roundTimes x_t_newMany x_t_rounds x_t_itFrom x_t_itTimes x_t_writtenNow x_t_picturesNow x_t_usedNow x_t_chosen x_t_fearOfChosen A_t_leastFrom A_t_rowNow x_t_changesNow x_t_left0 A_t_bornOf A_t_trainsTo A_t_trainAt x_t_trainMany x_t_leastTries x_t_firstTrained x_t_isKept, iA cI 293 A_t_aside v_t_aside, iA cI 293 A_t_now v_t_now, iA cI 16 A_t_rhymeOf v_t_rhymeOf, iA cI 7 A_t_trainAt v_t_trainAt, iA cI 6 A_t_trainsTo v_t_trainsTo] H → va_D A [oX12 A_t A_t_now A_t_aside A_t_kept A_t_rhymeOf A_t_wasRhyme A_t_wordAt x_t_wordMany A_t_tape x_t_taped x_t_place0 x_t_length0 x_t_fault x_t_number0 x_t_open x_t_codeMany x_t_waiting x_t_saidMany x_t_clauses A_t_said A_t_waitsAt A_t_saidLetter A_t_saidFrom A_t_saidHalf A_t_saidTo A_t_codes A_t_clauseOf A_t_codeFrom A_t_codeHalf A_t_codeTo A_t_stack A_t_facts x_t_lines A_t_newWords A_t_roundFrom A_t_roundAt A_t_roundTimes x_t_newMany x_t_rounds x_t_itFrom x_t_itTimes x_t_writtenNow x_t_picturesNow x_t_usedNow x_t_chosen x_t_fearOfChosen A_t_leastFrom A_t_rowNow x_t_changesNow x_t_left0 A_t_bornOf A_t_trainsTo A_t_trainAt x_t_trainMany x_t_leastTries x_t_firstTrained x_t_isKept, iA cI 293 A_t_aside v_t_aside, iA cI 293 A_t_now v_t_now, iA cI 16 A_t_rhymeOf v_t_rhymeOf, iA cI 7 A_t_trainAt v_t_trainAt, iA cI 6 A_t_trainsTo v_t_trainsTo] → va_S A s.heap H locs → f_X12_triesOf_b99 a1 (f_X12_triesOf_b66 v_t_aside v_t_rhymeOf v_t_trainsTo x_t_trainMany a1 n_66) v_t_now l3 l5 = some (o_r, o_v_t_now) → W p l e { frames := 5, cells := 0, slots := 0, locals := 109 } s m ([.ref A_t, .int a1, .int a2] : List Value).toArray below meth c H locs 0 0 (MQ below (PoI D A [oX12 A_t A_t_now A_t_aside A_t_kept A_t_rhymeOf A_t_wasRhyme A_t_wordAt x_t_wordMany A_t_tape x_t_taped x_t_place0 x_t_length0 x_t_fault x_t_number0 x_t_open x_t_codeMany x_t_waiting x_t_saidMany x_t_clauses A_t_said A_t_waitsAt A_t_saidLetter A_t_saidFrom A_t_saidHalf A_t_saidTo A_t_codes A_t_clauseOf A_t_codeFrom A_t_codeHalf A_t_codeTo A_t_stack A_t_facts x_t_lines A_t_newWords A_t_roundFrom A_t_roundAt A_t_roundTimes x_t_newMany x_t_rounds x_t_itFrom x_t_itTimes x_t_writtenNow x_t_picturesNow x_t_usedNow x_t_chosen x_t_fearOfChosen A_t_leastFrom A_t_rowNow x_t_changesNow x_t_left0 A_t_bornOf A_t_trainsTo A_t_trainAt x_t_trainMany x_t_leastTries x_t_firstTrained x_t_isKept, iA cI 293 A_t_aside v_t_aside, iA cI 293 A_t_now o_v_t_now, iA cI 16 A_t_rhymeOf v_t_rhymeOf, iA cI 7 A_t_trainAt v_t_trainAt, iA cI 6 A_t_trainsTo v_t_trainsTo] o_r) ([.ref A_t, .int a1, .int a2] : List Value).toArray s 0 0 A) (F0 m 99 ls []) := by
        intro v_t_now l3 l5 H locs ls hl hP hD hS hf
        unfold f_X12_triesOf_b99 at hf
        refine lv_iconst (v := 0) hx hb dX12_triesOf_99 (by decide) ?_
        exact hb_100 v_t_now (0 : Int32) l3 l5 _ _ ls (lv_sub hl [0, 1, 2, 3] rfl) hP hD hS hf
      intro v_t_now l3 l4 l5 H locs ls hl hP hD hS hf
      rw [f_X12_triesOf_b66] at hf
      refine lv_iload hx hb dX12_triesOf_66 (lv_at hl 4 rfl) ?_
      refine lv_aload_n hx hb dX12_triesOf_68 rfl (lv_at hl 0 rfl) ?_
      refine x_get C hK hP fd_X12_397 0 rfl rfl dX12_triesOf_69 ?_
      refine lv_icmp_ge (tgt := 108) hx hb dX12_triesOf_72 (by decide) (fun q => ?_) (fun q => ?_)
      · have hf := if_t q hf
        refine lv_aload_n hx hb dX12_triesOf_108 rfl (lv_at hl 0 rfl) ?_
        refine x_get C hK hP fd_X12_13 0 rfl rfl dX12_triesOf_109 ?_
        refine lv_aload_n hx hb dX12_triesOf_112 rfl (lv_at hl 0 rfl) ?_
        refine x_get C hK hP fd_X12_7 0 rfl rfl dX12_triesOf_113 ?_
        obtain ⟨w1, hc2, hf⟩ := bd1_e hf
        refine x_callSV (ws' := [oX12 A_t A_t_now A_t_aside A_t_kept A_t_rhymeOf A_t_wasRhyme A_t_wordAt x_t_wordMany A_t_tape x_t_taped x_t_place0 x_t_length0 x_t_fault x_t_number0 x_t_open x_t_codeMany x_t_waiting x_t_saidMany x_t_clauses A_t_said A_t_waitsAt A_t_saidLetter A_t_saidFrom A_t_saidHalf A_t_saidTo A_t_codes A_t_clauseOf A_t_codeFrom A_t_codeHalf A_t_codeTo A_t_stack A_t_facts x_t_lines A_t_newWords A_t_roundFrom A_t_roundAt A_t_roundTimes x_t_newMany x_t_rounds x_t_itFrom x_t_itTimes x_t_writtenNow x_t_picturesNow x_t_usedNow x_t_chosen x_t_fearOfChosen A_t_leastFrom A_t_rowNow x_t_changesNow x_t_left0 A_t_bornOf A_t_trainsTo A_t_trainAt x_t_trainMany x_t_leastTries x_t_firstTrained x_t_isKept, iA cI 293 A_t_aside v_t_aside, iA cI 293 A_t_now w1, iA cI 16 A_t_rhymeOf v_t_rhymeOf, iA cI 7 A_t_trainAt v_t_trainAt, iA cI 6 A_t_trainsTo v_t_trainsTo]) (rest := []) C hK hP hD hS hA hl mf_X12_272 (c_X12_copies hc2) [1, 2] rfl rfl rfl rfl rfl rfl rfl rfl (Nat.le_of_ble_eq_true rfl) ⟨Nat.le_of_ble_eq_true rfl, Nat.le_of_ble_eq_true rfl⟩ ⟨Nat.le_refl _, Nat.le_refl _⟩ dX12_triesOf_116 ?_
        intro H locs hP hD hS
        refine lv_iload hx hb dX12_triesOf_119 (lv_at hl 3 rfl) ?_
        refine lv_if_eq (tgt := 128) hx hb dX12_triesOf_121 (by decide) (fun q => ?_) (fun q => ?_)
        · have hf := if_t q hf
          refine x_ldcw C kc_X12_306 dX12_triesOf_128 ?_
          exact hb_131 w1 (1000000 : Int32) _ _ ls (lv_sub hl [] rfl) hP hD hS hf
        · have hf := if_f q hf
          refine lv_iload_n hx hb dX12_triesOf_124 rfl (lv_at hl 2 rfl) ?_
          refine lv_goto (tgt := 131) hx hb dX12_triesOf_125 (by decide) ?_
          exact hb_131 w1 l3 _ _ ls (lv_sub hl [] rfl) hP hD hS hf
      · have hf := if_f q hf
        refine lv_iload hx hb dX12_triesOf_75 (lv_at hl 3 rfl) ?_
        refine lv_if_eq (tgt := 99) hx hb dX12_triesOf_77 (by decide) (fun q => ?_) (fun q => ?_)
        · have hf := if_t q hf
          exact hb_99 v_t_now l3 l5 _ _ ls (lv_sub hl [0, 1, 2, 4] rfl) hP hD hS hf
        · have hf := if_f q hf
          refine lv_aload_n hx hb dX12_triesOf_80 rfl (lv_at hl 0 rfl) ?_
          refine lv_iload_n hx hb dX12_triesOf_81 rfl (lv_at hl 1 rfl) ?_
          refine lv_aload_n hx hb dX12_triesOf_82 rfl (lv_at hl 0 rfl) ?_
          refine x_get C hK hP fd_X12_92 0 rfl rfl dX12_triesOf_83 ?_
          refine lv_iload hx hb dX12_triesOf_86 (lv_at hl 4 rfl) ?_
          obtain ⟨hi, hf⟩ := gI_e hf
          refine x_iald C hK hP 5 rfl hi dX12_triesOf_88 ?_
          obtain ⟨r3, hc4, hf⟩ := bd1_e hf
          refine x_callVI (ws' := [oX12 A_t A_t_now A_t_aside A_t_kept A_t_rhymeOf A_t_wasRhyme A_t_wordAt x_t_wordMany A_t_tape x_t_taped x_t_place0 x_t_length0 x_t_fault x_t_number0 x_t_open x_t_codeMany x_t_waiting x_t_saidMany x_t_clauses A_t_said A_t_waitsAt A_t_saidLetter A_t_saidFrom A_t_saidHalf A_t_saidTo A_t_codes A_t_clauseOf A_t_codeFrom A_t_codeHalf A_t_codeTo A_t_stack A_t_facts x_t_lines A_t_newWords A_t_roundFrom A_t_roundAt A_t_roundTimes x_t_newMany x_t_rounds x_t_itFrom x_t_itTimes x_t_writtenNow x_t_picturesNow x_t_usedNow x_t_chosen x_t_fearOfChosen A_t_leastFrom A_t_rowNow x_t_changesNow x_t_left0 A_t_bornOf A_t_trainsTo A_t_trainAt x_t_trainMany x_t_leastTries x_t_firstTrained x_t_isKept, iA cI 293 A_t_aside v_t_aside, iA cI 293 A_t_now v_t_now, iA cI 16 A_t_rhymeOf v_t_rhymeOf, iA cI 7 A_t_trainAt v_t_trainAt, iA cI 6 A_t_trainsTo v_t_trainsTo]) (rest := []) C hK hP hD hS hA hl mf_X12_127 (c_X12_bears hc4) [0, 2, 3] 0 12 rfl rfl rfl rfl rfl rfl rfl rfl rfl rfl (Nat.le_of_ble_eq_true rfl) ⟨Nat.le_of_ble_eq_true rfl, Nat.le_of_ble_eq_true rfl⟩ ⟨Nat.le_refl _, Nat.le_refl _⟩ dX12_triesOf_89 ?_
          intro H locs hP hD hS
          refine lv_if_eq (tgt := 99) hx hb dX12_triesOf_92 (by decide) (fun q => ?_) (fun q => ?_)
          · have hf := if_t q hf
            exact hb_99 v_t_now l3 l5 _ _ ls (lv_sub hl [0, 1, 2, 4] rfl) hP hD hS hf
          · have hf := if_f q hf
            refine lv_iconst (v := 1) hx hb dX12_triesOf_95 (by decide) ?_
            refine lv_goto (tgt := 100) hx hb dX12_triesOf_96 (by decide) ?_
            exact hb_100 v_t_now (1 : Int32) l3 l5 _ _ ls (lv_sub hl [0, 1, 2, 4] rfl) hP hD hS hf
  have hb_5 : ∀ (n_5 : Nat) (v_t_now : (Nat → Int32)) (l3 : Int32) (l4 : Int32) (H : Heap) (locs : List Loc) (ls : Array Slot), lv_has ls 6 [(0, .ref A_t), (1, .int a1), (2, .int a2), (3, .int l3), (4, .int l4)] → va_P D vwCl [oX12 A_t A_t_now A_t_aside A_t_kept A_t_rhymeOf A_t_wasRhyme A_t_wordAt x_t_wordMany A_t_tape x_t_taped x_t_place0 x_t_length0 x_t_fault x_t_number0 x_t_open x_t_codeMany x_t_waiting x_t_saidMany x_t_clauses A_t_said A_t_waitsAt A_t_saidLetter A_t_saidFrom A_t_saidHalf A_t_saidTo A_t_codes A_t_clauseOf A_t_codeFrom A_t_codeHalf A_t_codeTo A_t_stack A_t_facts x_t_lines A_t_newWords A_t_roundFrom A_t_roundAt A_t_roundTimes x_t_newMany x_t_rounds x_t_itFrom x_t_itTimes x_t_writtenNow x_t_picturesNow x_t_usedNow x_t_chosen x_t_fearOfChosen A_t_leastFrom A_t_rowNow x_t_changesNow x_t_left0 A_t_bornOf A_t_trainsTo A_t_trainAt x_t_trainMany x_t_leastTries x_t_firstTrained x_t_isKept, iA cI 293 A_t_aside v_t_aside, iA cI 293 A_t_now v_t_now, iA cI 16 A_t_rhymeOf v_t_rhymeOf, iA cI 7 A_t_trainAt v_t_trainAt, iA cI 6 A_t_trainsTo v_t_trainsTo] H → va_D A [oX12 A_t A_t_now A_t_aside A_t_kept A_t_rhymeOf A_t_wasRhyme A_t_wordAt x_t_wordMany A_t_tape x_t_taped x_t_place0 x_t_length0 x_t_fault x_t_number0 x_t_open x_t_codeMany x_t_waiting x_t_saidMany x_t_clauses A_t_said A_t_waitsAt A_t_saidLetter A_t_saidFrom A_t_saidHalf A_t_saidTo A_t_codes A_t_clauseOf A_t_codeFrom A_t_codeHalf A_t_codeTo A_t_stack A_t_facts x_t_lines A_t_newWords A_t_roundFrom A_t_roundAt A_t_roundTimes x_t_newMany x_t_rounds x_t_itFrom x_t_itTimes x_t_writtenNow x_t_picturesNow x_t_usedNow x_t_chosen x_t_fearOfChosen A_t_leastFrom A_t_rowNow x_t_changesNow x_t_left0 A_t_bornOf A_t_trainsTo A_t_trainAt x_t_trainMany x_t_leastTries x_t_firstTrained x_t_isKept, iA cI 293 A_t_aside v_t_aside, iA cI 293 A_t_now v_t_now, iA cI 16 A_t_rhymeOf v_t_rhymeOf, iA cI 7 A_t_trainAt v_t_trainAt, iA cI 6 A_t_trainsTo v_t_trainsTo] → va_S A s.heap H locs → f_X12_triesOf_b5 v_t_aside v_t_rhymeOf v_t_trainAt v_t_trainsTo x_t_trainMany a1 a2 n_5 v_t_now l3 l4 = some (o_r, o_v_t_now) → W p l e { frames := 5, cells := 0, slots := 0, locals := 109 } s m ([.ref A_t, .int a1, .int a2] : List Value).toArray below meth c H locs 0 0 (MQ below (PoI D A [oX12 A_t A_t_now A_t_aside A_t_kept A_t_rhymeOf A_t_wasRhyme A_t_wordAt x_t_wordMany A_t_tape x_t_taped x_t_place0 x_t_length0 x_t_fault x_t_number0 x_t_open x_t_codeMany x_t_waiting x_t_saidMany x_t_clauses A_t_said A_t_waitsAt A_t_saidLetter A_t_saidFrom A_t_saidHalf A_t_saidTo A_t_codes A_t_clauseOf A_t_codeFrom A_t_codeHalf A_t_codeTo A_t_stack A_t_facts x_t_lines A_t_newWords A_t_roundFrom A_t_roundAt A_t_roundTimes x_t_newMany x_t_rounds x_t_itFrom x_t_itTimes x_t_writtenNow x_t_picturesNow x_t_usedNow x_t_chosen x_t_fearOfChosen A_t_leastFrom A_t_rowNow x_t_changesNow x_t_left0 A_t_bornOf A_t_trainsTo A_t_trainAt x_t_trainMany x_t_leastTries x_t_firstTrained x_t_isKept, iA cI 293 A_t_aside v_t_aside, iA cI 293 A_t_now o_v_t_now, iA cI 16 A_t_rhymeOf v_t_rhymeOf, iA cI 7 A_t_trainAt v_t_trainAt, iA cI 6 A_t_trainsTo v_t_trainsTo] o_r) ([.ref A_t, .int a1, .int a2] : List Value).toArray s 0 0 A) (F0 m 5 ls []) := by
    intro n_5
    induction n_5 with
    | zero =>
      intro v_t_now l3 l4 H locs ls hl hP hD hS hf
      exact absurd hf (fun h => by rw [f_X12_triesOf_b5] at h; cases h)
    | succ n_5 ih_5 =>
      intro v_t_now l3 l4 H locs ls hl hP hD hS hf
      rw [f_X12_triesOf_b5] at hf
      refine lv_iload hx hb dX12_triesOf_5 (lv_at hl 4 rfl) ?_
      refine lv_iload_n hx hb dX12_triesOf_7 rfl (lv_at hl 2 rfl) ?_
      refine lv_icmp_ge (tgt := 60) hx hb dX12_triesOf_8 (by decide) (fun q => ?_) (fun q => ?_)
      · have hf := if_t q hf
        refine lv_iconst (v := 1) hx hb dX12_triesOf_60 (by decide) ?_
        refine lv_istore (lv' := [(4, .int (1 : Int32)), (0, .ref A_t), (1, .int a1), (2, .int a2), (3, .int l3)]) hx hb dX12_triesOf_61 hl (by decide) rfl (fun ls hl => ?_)
        refine lv_iconst (v := 0) hx hb dX12_triesOf_63 (by decide) ?_
        refine lv_istore (lv' := [(5, .int (0 : Int32)), (4, .int (1 : Int32)), (0, .ref A_t), (1, .int a1), (2, .int a2), (3, .int l3)]) hx hb dX12_triesOf_64 hl (by decide) rfl (fun ls hl => ?_)
        exact hb_66 FU v_t_now l3 (1 : Int32) (0 : Int32) _ _ ls (lv_sub hl [2, 3, 5, 1, 0] rfl) hP hD hS hf
      · have hf := if_f q hf
        refine lv_aload_n hx hb dX12_triesOf_11 rfl (lv_at hl 0 rfl) ?_
        refine x_get C hK hP fd_X12_92 0 rfl rfl dX12_triesOf_12 ?_
        refine lv_aload_n hx hb dX12_triesOf_15 rfl (lv_at hl 0 rfl) ?_
        refine x_get C hK hP fd_X12_95 0 rfl rfl dX12_triesOf_16 ?_
        refine lv_iload hx hb dX12_triesOf_19 (lv_at hl 4 rfl) ?_
        obtain ⟨hi, hf⟩ := gI_e hf
        refine x_iald C hK hP 4 rfl hi dX12_triesOf_21 ?_
        obtain ⟨hi, hf⟩ := gI_e hf
        refine x_iald C hK hP 5 rfl hi dX12_triesOf_22 ?_
        refine lv_istore (lv' := [(5, .int (v_t_trainsTo (v_t_trainAt l4.toNatClampNeg).toNatClampNeg)), (0, .ref A_t), (1, .int a1), (2, .int a2), (3, .int l3), (4, .int l4)]) hx hb dX12_triesOf_23 hl (by decide) rfl (fun ls hl => ?_)
        refine lv_iload_n hx hb dX12_triesOf_25 rfl (lv_at hl 4 rfl) ?_
        refine lv_bipush (v := 9) hx hb dX12_triesOf_26 (by decide) ?_
        refine lv_iadd hx hb dX12_triesOf_28 ?_
        refine lv_aload_n hx hb dX12_triesOf_29 rfl (lv_at hl 1 rfl) ?_
        refine x_get C hK hP fd_X12_7 0 rfl rfl dX12_triesOf_30 ?_
        refine lv_sipush (v := 160) hx hb dX12_triesOf_33 (by decide) ?_
        refine lv_bipush (v := 16) hx hb dX12_triesOf_36 (by decide) ?_
        refine lv_iload_n hx hb dX12_triesOf_38 rfl (lv_at hl 2 rfl) ?_
        refine lv_imul hx hb dX12_triesOf_39 ?_
        refine lv_iadd hx hb dX12_triesOf_40 ?_
        refine lv_iload hx hb dX12_triesOf_41 (lv_at hl 0 rfl) ?_
        refine lv_iadd hx hb dX12_triesOf_43 ?_
        obtain ⟨hi, hf⟩ := gI_e hf
        refine x_iald C hK hP 2 rfl hi dX12_triesOf_44 ?_
        refine lv_isub hx hb dX12_triesOf_45 ?_
        refine lv_istore_n (lv' := [(3, .int ((l3 + (9 : Int32)) - (v_t_now (((160 : Int32) + ((16 : Int32) * a1)) + (v_t_trainsTo (v_t_trainAt l4.toNatClampNeg).toNatClampNeg)).toNatClampNeg))), (5, .int (v_t_trainsTo (v_t_trainAt l4.toNatClampNeg).toNatClampNeg)), (0, .ref A_t), (1, .int a1), (2, .int a2), (4, .int l4)]) hx hb dX12_triesOf_46 rfl hl (by decide) rfl (fun ls hl => ?_)
        refine lv_aload_n hx hb dX12_triesOf_47 rfl (lv_at hl 2 rfl) ?_
        refine lv_iload_n hx hb dX12_triesOf_48 rfl (lv_at hl 3 rfl) ?_
        refine lv_iload hx hb dX12_triesOf_49 (lv_at hl 1 rfl) ?_
        obtain ⟨w5, hc6, hf⟩ := bd1_e hf
        refine x_callVV (ws' := [oX12 A_t A_t_now A_t_aside A_t_kept A_t_rhymeOf A_t_wasRhyme A_t_wordAt x_t_wordMany A_t_tape x_t_taped x_t_place0 x_t_length0 x_t_fault x_t_number0 x_t_open x_t_codeMany x_t_waiting x_t_saidMany x_t_clauses A_t_said A_t_waitsAt A_t_saidLetter A_t_saidFrom A_t_saidHalf A_t_saidTo A_t_codes A_t_clauseOf A_t_codeFrom A_t_codeHalf A_t_codeTo A_t_stack A_t_facts x_t_lines A_t_newWords A_t_roundFrom A_t_roundAt A_t_roundTimes x_t_newMany x_t_rounds x_t_itFrom x_t_itTimes x_t_writtenNow x_t_picturesNow x_t_usedNow x_t_chosen x_t_fearOfChosen A_t_leastFrom A_t_rowNow x_t_changesNow x_t_left0 A_t_bornOf A_t_trainsTo A_t_trainAt x_t_trainMany x_t_leastTries x_t_firstTrained x_t_isKept, iA cI 293 A_t_aside v_t_aside, iA cI 293 A_t_now w5, iA cI 16 A_t_rhymeOf v_t_rhymeOf, iA cI 7 A_t_trainAt v_t_trainAt, iA cI 6 A_t_trainsTo v_t_trainsTo]) (rest := []) C hK hP hD hS hA hl mf_X12_333 (c_X12_isUsedTo hc6) [0, 2, 3] 0 12 rfl rfl rfl rfl rfl rfl rfl rfl rfl rfl (Nat.le_of_ble_eq_true rfl) ⟨Nat.le_of_ble_eq_true rfl, Nat.le_of_ble_eq_true rfl⟩ ⟨Nat.le_refl _, Nat.le_refl _⟩ dX12_triesOf_51 ?_
        intro H locs hP hD hS
        refine lv_iinc (v := (l4 + (1 : Int32))) (lv' := [(4, .int (l4 + (1 : Int32))), (3, .int ((l3 + (9 : Int32)) - (v_t_now (((160 : Int32) + ((16 : Int32) * a1)) + (v_t_trainsTo (v_t_trainAt l4.toNatClampNeg).toNatClampNeg)).toNatClampNeg))), (5, .int (v_t_trainsTo (v_t_trainAt l4.toNatClampNeg).toNatClampNeg)), (0, .ref A_t), (1, .int a1), (2, .int a2)]) hx hb dX12_triesOf_54 hl (k := 5) rfl rfl (by decide) rfl (fun ls hl => ?_)
        refine lv_goto (tgt := 5) hx hb dX12_triesOf_57 (by decide) ?_
        exact ih_5 w5 ((l3 + (9 : Int32)) - (v_t_now (((160 : Int32) + ((16 : Int32) * a1)) + (v_t_trainsTo (v_t_trainAt l4.toNatClampNeg).toNatClampNeg)).toNatClampNeg)) (l4 + (1 : Int32)) _ _ ls (lv_sub hl [3, 4, 5, 1, 0] rfl) hP hD hS hf
  refine lv_iconst (v := 0) hx hb dX12_triesOf_0 (by decide) ?_
  refine lv_istore_n (lv' := [(3, .int (0 : Int32)), (0, .ref A_t), (1, .int a1), (2, .int a2)]) hx hb dX12_triesOf_1 rfl hl (by decide) rfl (fun ls hl => ?_)
  refine lv_iconst (v := 0) hx hb dX12_triesOf_2 (by decide) ?_
  refine lv_istore (lv' := [(4, .int (0 : Int32)), (3, .int (0 : Int32)), (0, .ref A_t), (1, .int a1), (2, .int a2)]) hx hb dX12_triesOf_3 hl (by decide) rfl (fun ls hl => ?_)
  exact hb_5 FU v_t_now (0 : Int32) (0 : Int32) _ _ ls (lv_sub hl [2, 3, 4, 1, 0] rfl) hP hD hS hf
def f_X12_isInRow_b2 (v_t_trainAt : (Nat → Int32)) (a1 : Int32) (a2 : Int32) : Nat → Int32 → Option (Int32)
  | 0, _ => none
  | n + 1, l3 =>
    if a1 ≤ l3 then
      some (0 : Int32)
    else
      gI 7 v_t_trainAt l3 (fun g1 =>
      if g1 = a2 then
        some (1 : Int32)
      else
        f_X12_isInRow_b2 v_t_trainAt a1 a2 n (l3 + (1 : Int32)))
def f_X12_isInRow (v_t_trainAt : (Nat → Int32)) (a1 : Int32) (a2 : Int32) : Option (Int32) :=
  f_X12_isInRow_b2 v_t_trainAt a1 a2 FU (0 : Int32)
set_option maxHeartbeats 4000000 in
set_option maxRecDepth 100000 in
theorem c_X12_isInRow {l : Launch} {D : va_G} {cI cB : ClassId} {A_t A_t_now A_t_aside A_t_kept A_t_rhymeOf A_t_wasRhyme A_t_wordAt A_t_tape A_t_said A_t_waitsAt A_t_saidLetter A_t_saidFrom A_t_saidHalf A_t_saidTo A_t_codes A_t_clauseOf A_t_codeFrom A_t_codeHalf A_t_codeTo A_t_stack A_t_facts A_t_newWords A_t_roundFrom A_t_roundAt A_t_roundTimes A_t_leastFrom A_t_rowNow A_t_bornOf A_t_trainsTo A_t_trainAt : Nat} {x_t_wordMany x_t_taped x_t_place0 x_t_length0 x_t_fault x_t_number0 x_t_open x_t_codeMany x_t_waiting x_t_saidMany x_t_clauses x_t_lines x_t_newMany x_t_rounds x_t_itFrom x_t_itTimes x_t_writtenNow x_t_picturesNow x_t_usedNow x_t_chosen x_t_fearOfChosen x_t_changesNow x_t_left0 x_t_trainMany x_t_leastTries x_t_firstTrained x_t_isKept a1 a2 : Int32} {v_t_trainAt : Nat → Int32} {o_r : Int32} (hf : f_X12_isInRow v_t_trainAt a1 a2 = some o_r) : CtI l D cI cB yX12_isInRow cX12_isInRow 4 (some .boolean) 0 0 [.ref A_t, .int a1, .int a2] [oX12 A_t A_t_now A_t_aside A_t_kept A_t_rhymeOf A_t_wasRhyme A_t_wordAt x_t_wordMany A_t_tape x_t_taped x_t_place0 x_t_length0 x_t_fault x_t_number0 x_t_open x_t_codeMany x_t_waiting x_t_saidMany x_t_clauses A_t_said A_t_waitsAt A_t_saidLetter A_t_saidFrom A_t_saidHalf A_t_saidTo A_t_codes A_t_clauseOf A_t_codeFrom A_t_codeHalf A_t_codeTo A_t_stack A_t_facts x_t_lines A_t_newWords A_t_roundFrom A_t_roundAt A_t_roundTimes x_t_newMany x_t_rounds x_t_itFrom x_t_itTimes x_t_writtenNow x_t_picturesNow x_t_usedNow x_t_chosen x_t_fearOfChosen A_t_leastFrom A_t_rowNow x_t_changesNow x_t_left0 A_t_bornOf A_t_trainsTo A_t_trainAt x_t_trainMany x_t_leastTries x_t_firstTrained x_t_isKept, iA cI 7 A_t_trainAt v_t_trainAt] [oX12 A_t A_t_now A_t_aside A_t_kept A_t_rhymeOf A_t_wasRhyme A_t_wordAt x_t_wordMany A_t_tape x_t_taped x_t_place0 x_t_length0 x_t_fault x_t_number0 x_t_open x_t_codeMany x_t_waiting x_t_saidMany x_t_clauses A_t_said A_t_waitsAt A_t_saidLetter A_t_saidFrom A_t_saidHalf A_t_saidTo A_t_codes A_t_clauseOf A_t_codeFrom A_t_codeHalf A_t_codeTo A_t_stack A_t_facts x_t_lines A_t_newWords A_t_roundFrom A_t_roundAt A_t_roundTimes x_t_newMany x_t_rounds x_t_itFrom x_t_itTimes x_t_writtenNow x_t_picturesNow x_t_usedNow x_t_chosen x_t_fearOfChosen A_t_leastFrom A_t_rowNow x_t_changesNow x_t_left0 A_t_bornOf A_t_trainsTo A_t_trainAt x_t_trainMany x_t_leastTries x_t_firstTrained x_t_isKept, iA cI 7 A_t_trainAt v_t_trainAt] o_r := by
  refine x_startI (by decide) (Nat.le_of_ble_eq_true rfl) ?_
  intro p e s m below meth c A C hr hlk hA hK hP hD hS ls hl
  have hl : lv_has ls 4 [(0, .ref A_t), (1, .int a1), (2, .int a2)] := hl
  have hx := C.1
  have hb := C.2.1
  unfold f_X12_isInRow at hf
  have hb_2 : ∀ (n_2 : Nat) (l3 : Int32) (H : Heap) (locs : List Loc) (ls : Array Slot), lv_has ls 4 [(0, .ref A_t), (1, .int a1), (2, .int a2), (3, .int l3)] → va_P D vwCl [oX12 A_t A_t_now A_t_aside A_t_kept A_t_rhymeOf A_t_wasRhyme A_t_wordAt x_t_wordMany A_t_tape x_t_taped x_t_place0 x_t_length0 x_t_fault x_t_number0 x_t_open x_t_codeMany x_t_waiting x_t_saidMany x_t_clauses A_t_said A_t_waitsAt A_t_saidLetter A_t_saidFrom A_t_saidHalf A_t_saidTo A_t_codes A_t_clauseOf A_t_codeFrom A_t_codeHalf A_t_codeTo A_t_stack A_t_facts x_t_lines A_t_newWords A_t_roundFrom A_t_roundAt A_t_roundTimes x_t_newMany x_t_rounds x_t_itFrom x_t_itTimes x_t_writtenNow x_t_picturesNow x_t_usedNow x_t_chosen x_t_fearOfChosen A_t_leastFrom A_t_rowNow x_t_changesNow x_t_left0 A_t_bornOf A_t_trainsTo A_t_trainAt x_t_trainMany x_t_leastTries x_t_firstTrained x_t_isKept, iA cI 7 A_t_trainAt v_t_trainAt] H → va_D A [oX12 A_t A_t_now A_t_aside A_t_kept A_t_rhymeOf A_t_wasRhyme A_t_wordAt x_t_wordMany A_t_tape x_t_taped x_t_place0 x_t_length0 x_t_fault x_t_number0 x_t_open x_t_codeMany x_t_waiting x_t_saidMany x_t_clauses A_t_said A_t_waitsAt A_t_saidLetter A_t_saidFrom A_t_saidHalf A_t_saidTo A_t_codes A_t_clauseOf A_t_codeFrom A_t_codeHalf A_t_codeTo A_t_stack A_t_facts x_t_lines A_t_newWords A_t_roundFrom A_t_roundAt A_t_roundTimes x_t_newMany x_t_rounds x_t_itFrom x_t_itTimes x_t_writtenNow x_t_picturesNow x_t_usedNow x_t_chosen x_t_fearOfChosen A_t_leastFrom A_t_rowNow x_t_changesNow x_t_left0 A_t_bornOf A_t_trainsTo A_t_trainAt x_t_trainMany x_t_leastTries x_t_firstTrained x_t_isKept, iA cI 7 A_t_trainAt v_t_trainAt] → va_S A s.heap H locs → f_X12_isInRow_b2 v_t_trainAt a1 a2 n_2 l3 = some o_r → W p l e { frames := 0, cells := 0, slots := 0, locals := 0 } s m ([.ref A_t, .int a1, .int a2] : List Value).toArray below meth c H locs 0 0 (MQ below (PoI D A [oX12 A_t A_t_now A_t_aside A_t_kept A_t_rhymeOf A_t_wasRhyme A_t_wordAt x_t_wordMany A_t_tape x_t_taped x_t_place0 x_t_length0 x_t_fault x_t_number0 x_t_open x_t_codeMany x_t_waiting x_t_saidMany x_t_clauses A_t_said A_t_waitsAt A_t_saidLetter A_t_saidFrom A_t_saidHalf A_t_saidTo A_t_codes A_t_clauseOf A_t_codeFrom A_t_codeHalf A_t_codeTo A_t_stack A_t_facts x_t_lines A_t_newWords A_t_roundFrom A_t_roundAt A_t_roundTimes x_t_newMany x_t_rounds x_t_itFrom x_t_itTimes x_t_writtenNow x_t_picturesNow x_t_usedNow x_t_chosen x_t_fearOfChosen A_t_leastFrom A_t_rowNow x_t_changesNow x_t_left0 A_t_bornOf A_t_trainsTo A_t_trainAt x_t_trainMany x_t_leastTries x_t_firstTrained x_t_isKept, iA cI 7 A_t_trainAt v_t_trainAt] o_r) ([.ref A_t, .int a1, .int a2] : List Value).toArray s 0 0 A) (F0 m 2 ls []) := by
    intro n_2
    induction n_2 with
    | zero =>
      intro l3 H locs ls hl hP hD hS hf
      exact absurd hf (fun h => by rw [f_X12_isInRow_b2] at h; cases h)
    | succ n_2 ih_2 =>
      intro l3 H locs ls hl hP hD hS hf
      rw [f_X12_isInRow_b2] at hf
      refine lv_iload_n hx hb dX12_isInRow_2 rfl (lv_at hl 3 rfl) ?_
      refine lv_iload_n hx hb dX12_isInRow_3 rfl (lv_at hl 1 rfl) ?_
      refine lv_icmp_ge (tgt := 25) hx hb dX12_isInRow_4 (by decide) (fun q => ?_) (fun q => ?_)
      · have hf := if_t q hf
        refine lv_iconst (v := 0) hx hb dX12_isInRow_25 (by decide) ?_
        obtain rfl := ev1 hf
        exact x_zret C hr hlk (Or.inl rfl) hP hD hS dX12_isInRow_26
      · have hf := if_f q hf
        refine lv_aload_n hx hb dX12_isInRow_7 rfl (lv_at hl 0 rfl) ?_
        refine x_get C hK hP fd_X12_95 0 rfl rfl dX12_isInRow_8 ?_
        refine lv_iload_n hx hb dX12_isInRow_11 rfl (lv_at hl 3 rfl) ?_
        obtain ⟨hi, hf⟩ := gI_e hf
        refine x_iald C hK hP 1 rfl hi dX12_isInRow_12 ?_
        refine lv_iload_n hx hb dX12_isInRow_13 rfl (lv_at hl 2 rfl) ?_
        refine lv_icmp_ne (tgt := 19) hx hb dX12_isInRow_14 (by decide) (fun q => ?_) (fun q => ?_)
        · have hf := if_f q hf
          refine lv_iinc (v := (l3 + (1 : Int32))) (lv' := [(3, .int (l3 + (1 : Int32))), (0, .ref A_t), (1, .int a1), (2, .int a2)]) hx hb dX12_isInRow_19 hl (k := 3) rfl rfl (by decide) rfl (fun ls hl => ?_)
          refine lv_goto (tgt := 2) hx hb dX12_isInRow_22 (by decide) ?_
          exact ih_2 (l3 + (1 : Int32)) _ _ ls (lv_sub hl [1, 2, 3, 0] rfl) hP hD hS hf
        · have hf := if_t q hf
          refine lv_iconst (v := 1) hx hb dX12_isInRow_17 (by decide) ?_
          obtain rfl := ev1 hf
          exact x_zret C hr hlk (Or.inr rfl) hP hD hS dX12_isInRow_18
  refine lv_iconst (v := 0) hx hb dX12_isInRow_0 (by decide) ?_
  refine lv_istore_n (lv' := [(3, .int (0 : Int32)), (0, .ref A_t), (1, .int a1), (2, .int a2)]) hx hb dX12_isInRow_1 rfl hl (by decide) rfl (fun ls hl => ?_)
  exact hb_2 FU (0 : Int32) _ _ ls (lv_sub hl [1, 2, 3, 0] rfl) hP hD hS hf
def f_X12_trains_b139 (x_t_trainMany : Int32) (a1 : Int32) (k36 : (Nat → Int32) → (Nat → Int32) → (Nat → Int32) → Int32 → Int32 → Int32 → Option ((Nat → Int32) × (Nat → Int32) × (Nat → Int32) × Int32 × Int32)) (v_t_aside : (Nat → Int32)) (v_t_now : (Nat → Int32)) (v_t_trainAt : (Nat → Int32)) (x_t_firstTrained : Int32) (x_t_leastTries : Int32) (l2 : Int32) : Option ((Nat → Int32) × (Nat → Int32) × (Nat → Int32) × Int32 × Int32) :=
  if l2 = x_t_trainMany then
    k36 v_t_aside v_t_now v_t_trainAt x_t_firstTrained x_t_leastTries l2
  else
    sI 7 v_t_trainAt l2 (-1 : Int32) (fun w1 =>
    k36 v_t_aside v_t_now w1 x_t_firstTrained x_t_leastTries (l2 + (1 : Int32)))
def f_X12_trains_b77 (v_t_rhymeOf : (Nat → Int32)) (v_t_trainsTo : (Nat → Int32)) (x_t_trainMany : Int32) (a1 : Int32) (k36 : (Nat → Int32) → (Nat → Int32) → (Nat → Int32) → Int32 → Int32 → Int32 → Option ((Nat → Int32) × (Nat → Int32) × (Nat → Int32) × Int32 × Int32)) (v_t_aside : (Nat → Int32)) (v_t_now : (Nat → Int32)) (v_t_trainAt : (Nat → Int32)) (x_t_firstTrained : Int32) (x_t_leastTries : Int32) (l2 : Int32) (l3 : Int32) : Option ((Nat → Int32) × (Nat → Int32) × (Nat → Int32) × Int32 × Int32) :=
  if l3 < x_t_trainMany then
    sI 7 v_t_trainAt (l2 - (1 : Int32)) l3 (fun w1 =>
    bd2 (f_X12_triesOf v_t_aside v_t_now v_t_rhymeOf w1 v_t_trainsTo x_t_trainMany a1 l2) (fun r2 w3 =>
    if x_t_leastTries ≤ r2 then
      f_X12_trains_b139 x_t_trainMany a1 k36 v_t_aside w3 w1 x_t_firstTrained x_t_leastTries l2
    else
      gI 7 w1 (0 : Int32) (fun g4 =>
      gI 6 v_t_trainsTo g4 (fun g5 =>
      f_X12_trains_b139 x_t_trainMany a1 k36 v_t_aside w3 w1 g5 r2 l2))))
  else
    k36 v_t_aside v_t_now v_t_trainAt x_t_firstTrained x_t_leastTries (l2 - (1 : Int32))
def f_X12_trains_b51 (v_t_rhymeOf : (Nat → Int32)) (v_t_trainsTo : (Nat → Int32)) (x_t_trainMany : Int32) (a1 : Int32) (k36 : (Nat → Int32) → (Nat → Int32) → (Nat → Int32) → Int32 → Int32 → Int32 → Option ((Nat → Int32) × (Nat → Int32) × (Nat → Int32) × Int32 × Int32)) : Nat → (Nat → Int32) → (Nat → Int32) → (Nat → Int32) → Int32 → Int32 → Int32 → Int32 → Option ((Nat → Int32) × (Nat → Int32) × (Nat → Int32) × Int32 × Int32)
  | 0, _, _, _, _, _, _, _ => none
  | n + 1, v_t_aside, v_t_now, v_t_trainAt, x_t_firstTrained, x_t_leastTries, l2, l3 =>
    if x_t_trainMany ≤ l3 then
      f_X12_trains_b77 v_t_rhymeOf v_t_trainsTo x_t_trainMany a1 k36 v_t_aside v_t_now v_t_trainAt x_t_firstTrained x_t_leastTries l2 l3
    else
      bd1 (f_X12_isInRow v_t_trainAt (l2 - (1 : Int32)) l3) (fun r1 =>
      if r1 = 0 then
        f_X12_trains_b77 v_t_rhymeOf v_t_trainsTo x_t_trainMany a1 k36 v_t_aside v_t_now v_t_trainAt x_t_firstTrained x_t_leastTries l2 l3
      else
        f_X12_trains_b51 v_t_rhymeOf v_t_trainsTo x_t_trainMany a1 k36 n v_t_aside v_t_now v_t_trainAt x_t_firstTrained x_t_leastTries l2 (l3 + (1 : Int32)))
def f_X12_trains_b36 (v_t_rhymeOf : (Nat → Int32)) (v_t_trainsTo : (Nat → Int32)) (x_t_trainMany : Int32) (a1 : Int32) : Nat → (Nat → Int32) → (Nat → Int32) → (Nat → Int32) → Int32 → Int32 → Int32 → Option ((Nat → Int32) × (Nat → Int32) × (Nat → Int32) × Int32 × Int32)
  | 0, _, _, _, _, _, _ => none
  | n + 1, v_t_aside, v_t_now, v_t_trainAt, x_t_firstTrained, x_t_leastTries, l2 =>
    if l2 ≤ 0 then
      some (v_t_aside, v_t_now, v_t_trainAt, x_t_firstTrained, x_t_leastTries)
    else
      gI 7 v_t_trainAt (l2 - (1 : Int32)) (fun g1 =>
      f_X12_trains_b51 v_t_rhymeOf v_t_trainsTo x_t_trainMany a1 (f_X12_trains_b36 v_t_rhymeOf v_t_trainsTo x_t_trainMany a1 n) FU v_t_aside v_t_now v_t_trainAt x_t_firstTrained x_t_leastTries l2 (g1 + (1 : Int32)))
def f_X12_trains (v_t_aside : (Nat → Int32)) (v_t_now : (Nat → Int32)) (v_t_rhymeOf : (Nat → Int32)) (v_t_trainAt : (Nat → Int32)) (v_t_trainsTo : (Nat → Int32)) (x_t_firstTrained : Int32) (x_t_leastTries : Int32) (x_t_trainMany : Int32) (a1 : Int32) : Option ((Nat → Int32) × (Nat → Int32) × (Nat → Int32) × Int32 × Int32) :=
  bd1 (f_X12_copies v_t_now v_t_aside) (fun w2 =>
  bd2 (f_X12_triesOf w2 v_t_now v_t_rhymeOf v_t_trainAt v_t_trainsTo x_t_trainMany a1 (0 : Int32)) (fun r3 w4 =>
  sI 7 v_t_trainAt (0 : Int32) (-1 : Int32) (fun w5 =>
  f_X12_trains_b36 v_t_rhymeOf v_t_trainsTo x_t_trainMany a1 FU w2 w4 w5 (-2 : Int32) r3 (1 : Int32))))
set_option maxHeartbeats 4000000 in
set_option maxRecDepth 100000 in
theorem c_X12_trains {l : Launch} {D : va_G} {cI cB : ClassId} {A_t A_t_now A_t_aside A_t_kept A_t_rhymeOf A_t_wasRhyme A_t_wordAt A_t_tape A_t_said A_t_waitsAt A_t_saidLetter A_t_saidFrom A_t_saidHalf A_t_saidTo A_t_codes A_t_clauseOf A_t_codeFrom A_t_codeHalf A_t_codeTo A_t_stack A_t_facts A_t_newWords A_t_roundFrom A_t_roundAt A_t_roundTimes A_t_leastFrom A_t_rowNow A_t_bornOf A_t_trainsTo A_t_trainAt : Nat} {x_t_wordMany x_t_taped x_t_place0 x_t_length0 x_t_fault x_t_number0 x_t_open x_t_codeMany x_t_waiting x_t_saidMany x_t_clauses x_t_lines x_t_newMany x_t_rounds x_t_itFrom x_t_itTimes x_t_writtenNow x_t_picturesNow x_t_usedNow x_t_chosen x_t_fearOfChosen x_t_changesNow x_t_left0 x_t_trainMany x_t_leastTries x_t_firstTrained x_t_isKept a1 : Int32} {v_t_aside v_t_now v_t_rhymeOf v_t_trainAt v_t_trainsTo : Nat → Int32} {o_x_t_firstTrained o_x_t_leastTries : Int32} {o_v_t_aside o_v_t_now o_v_t_trainAt : Nat → Int32} (hf : f_X12_trains v_t_aside v_t_now v_t_rhymeOf v_t_trainAt v_t_trainsTo x_t_firstTrained x_t_leastTries x_t_trainMany a1 = some (o_v_t_aside, o_v_t_now, o_v_t_trainAt, o_x_t_firstTrained, o_x_t_leastTries)) : CtV l D cI cB yX12_trains cX12_trains 5 6 134 [.ref A_t, .int a1] [oX12 A_t A_t_now A_t_aside A_t_kept A_t_rhymeOf A_t_wasRhyme A_t_wordAt x_t_wordMany A_t_tape x_t_taped x_t_place0 x_t_length0 x_t_fault x_t_number0 x_t_open x_t_codeMany x_t_waiting x_t_saidMany x_t_clauses A_t_said A_t_waitsAt A_t_saidLetter A_t_saidFrom A_t_saidHalf A_t_saidTo A_t_codes A_t_clauseOf A_t_codeFrom A_t_codeHalf A_t_codeTo A_t_stack A_t_facts x_t_lines A_t_newWords A_t_roundFrom A_t_roundAt A_t_roundTimes x_t_newMany x_t_rounds x_t_itFrom x_t_itTimes x_t_writtenNow x_t_picturesNow x_t_usedNow x_t_chosen x_t_fearOfChosen A_t_leastFrom A_t_rowNow x_t_changesNow x_t_left0 A_t_bornOf A_t_trainsTo A_t_trainAt x_t_trainMany x_t_leastTries x_t_firstTrained x_t_isKept, iA cI 293 A_t_aside v_t_aside, iA cI 293 A_t_now v_t_now, iA cI 16 A_t_rhymeOf v_t_rhymeOf, iA cI 7 A_t_trainAt v_t_trainAt, iA cI 6 A_t_trainsTo v_t_trainsTo] [oX12 A_t A_t_now A_t_aside A_t_kept A_t_rhymeOf A_t_wasRhyme A_t_wordAt x_t_wordMany A_t_tape x_t_taped x_t_place0 x_t_length0 x_t_fault x_t_number0 x_t_open x_t_codeMany x_t_waiting x_t_saidMany x_t_clauses A_t_said A_t_waitsAt A_t_saidLetter A_t_saidFrom A_t_saidHalf A_t_saidTo A_t_codes A_t_clauseOf A_t_codeFrom A_t_codeHalf A_t_codeTo A_t_stack A_t_facts x_t_lines A_t_newWords A_t_roundFrom A_t_roundAt A_t_roundTimes x_t_newMany x_t_rounds x_t_itFrom x_t_itTimes x_t_writtenNow x_t_picturesNow x_t_usedNow x_t_chosen x_t_fearOfChosen A_t_leastFrom A_t_rowNow x_t_changesNow x_t_left0 A_t_bornOf A_t_trainsTo A_t_trainAt x_t_trainMany o_x_t_leastTries o_x_t_firstTrained x_t_isKept, iA cI 293 A_t_aside o_v_t_aside, iA cI 293 A_t_now o_v_t_now, iA cI 16 A_t_rhymeOf v_t_rhymeOf, iA cI 7 A_t_trainAt o_v_t_trainAt, iA cI 6 A_t_trainsTo v_t_trainsTo] := by
  refine x_startV (by decide) (Nat.le_of_ble_eq_true rfl) ?_
  intro p e s m below meth c A C hr hlk hA hK hP hD hS ls hl
  have hl : lv_has ls 5 [(0, .ref A_t), (1, .int a1)] := hl
  have hx := C.1
  have hb := C.2.1
  unfold f_X12_trains at hf
  have hb_36 : ∀ (n_36 : Nat) (v_t_aside : (Nat → Int32)) (v_t_now : (Nat → Int32)) (v_t_trainAt : (Nat → Int32)) (x_t_firstTrained : Int32) (x_t_leastTries : Int32) (l2 : Int32) (H : Heap) (locs : List Loc) (ls : Array Slot), lv_has ls 5 [(0, .ref A_t), (1, .int a1), (2, .int l2)] → va_P D vwCl [oX12 A_t A_t_now A_t_aside A_t_kept A_t_rhymeOf A_t_wasRhyme A_t_wordAt x_t_wordMany A_t_tape x_t_taped x_t_place0 x_t_length0 x_t_fault x_t_number0 x_t_open x_t_codeMany x_t_waiting x_t_saidMany x_t_clauses A_t_said A_t_waitsAt A_t_saidLetter A_t_saidFrom A_t_saidHalf A_t_saidTo A_t_codes A_t_clauseOf A_t_codeFrom A_t_codeHalf A_t_codeTo A_t_stack A_t_facts x_t_lines A_t_newWords A_t_roundFrom A_t_roundAt A_t_roundTimes x_t_newMany x_t_rounds x_t_itFrom x_t_itTimes x_t_writtenNow x_t_picturesNow x_t_usedNow x_t_chosen x_t_fearOfChosen A_t_leastFrom A_t_rowNow x_t_changesNow x_t_left0 A_t_bornOf A_t_trainsTo A_t_trainAt x_t_trainMany x_t_leastTries x_t_firstTrained x_t_isKept, iA cI 293 A_t_aside v_t_aside, iA cI 293 A_t_now v_t_now, iA cI 16 A_t_rhymeOf v_t_rhymeOf, iA cI 7 A_t_trainAt v_t_trainAt, iA cI 6 A_t_trainsTo v_t_trainsTo] H → va_D A [oX12 A_t A_t_now A_t_aside A_t_kept A_t_rhymeOf A_t_wasRhyme A_t_wordAt x_t_wordMany A_t_tape x_t_taped x_t_place0 x_t_length0 x_t_fault x_t_number0 x_t_open x_t_codeMany x_t_waiting x_t_saidMany x_t_clauses A_t_said A_t_waitsAt A_t_saidLetter A_t_saidFrom A_t_saidHalf A_t_saidTo A_t_codes A_t_clauseOf A_t_codeFrom A_t_codeHalf A_t_codeTo A_t_stack A_t_facts x_t_lines A_t_newWords A_t_roundFrom A_t_roundAt A_t_roundTimes x_t_newMany x_t_rounds x_t_itFrom x_t_itTimes x_t_writtenNow x_t_picturesNow x_t_usedNow x_t_chosen x_t_fearOfChosen A_t_leastFrom A_t_rowNow x_t_changesNow x_t_left0 A_t_bornOf A_t_trainsTo A_t_trainAt x_t_trainMany x_t_leastTries x_t_firstTrained x_t_isKept, iA cI 293 A_t_aside v_t_aside, iA cI 293 A_t_now v_t_now, iA cI 16 A_t_rhymeOf v_t_rhymeOf, iA cI 7 A_t_trainAt v_t_trainAt, iA cI 6 A_t_trainsTo v_t_trainsTo] → va_S A s.heap H locs → f_X12_trains_b36 v_t_rhymeOf v_t_trainsTo x_t_trainMany a1 n_36 v_t_aside v_t_now v_t_trainAt x_t_firstTrained x_t_leastTries l2 = some (o_v_t_aside, o_v_t_now, o_v_t_trainAt, o_x_t_firstTrained, o_x_t_leastTries) → W p l e { frames := 6, cells := 0, slots := 0, locals := 134 } s m ([.ref A_t, .int a1] : List Value).toArray below meth c H locs 0 0 (MQ below (PoV D A [oX12 A_t A_t_now A_t_aside A_t_kept A_t_rhymeOf A_t_wasRhyme A_t_wordAt x_t_wordMany A_t_tape x_t_taped x_t_place0 x_t_length0 x_t_fault x_t_number0 x_t_open x_t_codeMany x_t_waiting x_t_saidMany x_t_clauses A_t_said A_t_waitsAt A_t_saidLetter A_t_saidFrom A_t_saidHalf A_t_saidTo A_t_codes A_t_clauseOf A_t_codeFrom A_t_codeHalf A_t_codeTo A_t_stack A_t_facts x_t_lines A_t_newWords A_t_roundFrom A_t_roundAt A_t_roundTimes x_t_newMany x_t_rounds x_t_itFrom x_t_itTimes x_t_writtenNow x_t_picturesNow x_t_usedNow x_t_chosen x_t_fearOfChosen A_t_leastFrom A_t_rowNow x_t_changesNow x_t_left0 A_t_bornOf A_t_trainsTo A_t_trainAt x_t_trainMany o_x_t_leastTries o_x_t_firstTrained x_t_isKept, iA cI 293 A_t_aside o_v_t_aside, iA cI 293 A_t_now o_v_t_now, iA cI 16 A_t_rhymeOf v_t_rhymeOf, iA cI 7 A_t_trainAt o_v_t_trainAt, iA cI 6 A_t_trainsTo v_t_trainsTo]) ([.ref A_t, .int a1] : List Value).toArray s 0 0 A) (F0 m 36 ls []) := by
    intro n_36
    induction n_36 with
    | zero =>
      intro v_t_aside v_t_now v_t_trainAt x_t_firstTrained x_t_leastTries l2 H locs ls hl hP hD hS hf
      exact absurd hf (fun h => by rw [f_X12_trains_b36] at h; cases h)
    | succ n_36 ih_36 =>
      have hb_139 : ∀ (v_t_aside : (Nat → Int32)) (v_t_now : (Nat → Int32)) (v_t_trainAt : (Nat → Int32)) (x_t_firstTrained : Int32) (x_t_leastTries : Int32) (l2 : Int32) (H : Heap) (locs : List Loc) (ls : Array Slot), lv_has ls 5 [(0, .ref A_t), (1, .int a1), (2, .int l2)] → va_P D vwCl [oX12 A_t A_t_now A_t_aside A_t_kept A_t_rhymeOf A_t_wasRhyme A_t_wordAt x_t_wordMany A_t_tape x_t_taped x_t_place0 x_t_length0 x_t_fault x_t_number0 x_t_open x_t_codeMany x_t_waiting x_t_saidMany x_t_clauses A_t_said A_t_waitsAt A_t_saidLetter A_t_saidFrom A_t_saidHalf A_t_saidTo A_t_codes A_t_clauseOf A_t_codeFrom A_t_codeHalf A_t_codeTo A_t_stack A_t_facts x_t_lines A_t_newWords A_t_roundFrom A_t_roundAt A_t_roundTimes x_t_newMany x_t_rounds x_t_itFrom x_t_itTimes x_t_writtenNow x_t_picturesNow x_t_usedNow x_t_chosen x_t_fearOfChosen A_t_leastFrom A_t_rowNow x_t_changesNow x_t_left0 A_t_bornOf A_t_trainsTo A_t_trainAt x_t_trainMany x_t_leastTries x_t_firstTrained x_t_isKept, iA cI 293 A_t_aside v_t_aside, iA cI 293 A_t_now v_t_now, iA cI 16 A_t_rhymeOf v_t_rhymeOf, iA cI 7 A_t_trainAt v_t_trainAt, iA cI 6 A_t_trainsTo v_t_trainsTo] H → va_D A [oX12 A_t A_t_now A_t_aside A_t_kept A_t_rhymeOf A_t_wasRhyme A_t_wordAt x_t_wordMany A_t_tape x_t_taped x_t_place0 x_t_length0 x_t_fault x_t_number0 x_t_open x_t_codeMany x_t_waiting x_t_saidMany x_t_clauses A_t_said A_t_waitsAt A_t_saidLetter A_t_saidFrom A_t_saidHalf A_t_saidTo A_t_codes A_t_clauseOf A_t_codeFrom A_t_codeHalf A_t_codeTo A_t_stack A_t_facts x_t_lines A_t_newWords A_t_roundFrom A_t_roundAt A_t_roundTimes x_t_newMany x_t_rounds x_t_itFrom x_t_itTimes x_t_writtenNow x_t_picturesNow x_t_usedNow x_t_chosen x_t_fearOfChosen A_t_leastFrom A_t_rowNow x_t_changesNow x_t_left0 A_t_bornOf A_t_trainsTo A_t_trainAt x_t_trainMany x_t_leastTries x_t_firstTrained x_t_isKept, iA cI 293 A_t_aside v_t_aside, iA cI 293 A_t_now v_t_now, iA cI 16 A_t_rhymeOf v_t_rhymeOf, iA cI 7 A_t_trainAt v_t_trainAt, iA cI 6 A_t_trainsTo v_t_trainsTo] → va_S A s.heap H locs → f_X12_trains_b139 x_t_trainMany a1 (f_X12_trains_b36 v_t_rhymeOf v_t_trainsTo x_t_trainMany a1 n_36) v_t_aside v_t_now v_t_trainAt x_t_firstTrained x_t_leastTries l2 = some (o_v_t_aside, o_v_t_now, o_v_t_trainAt, o_x_t_firstTrained, o_x_t_leastTries) → W p l e { frames := 6, cells := 0, slots := 0, locals := 134 } s m ([.ref A_t, .int a1] : List Value).toArray below meth c H locs 0 0 (MQ below (PoV D A [oX12 A_t A_t_now A_t_aside A_t_kept A_t_rhymeOf A_t_wasRhyme A_t_wordAt x_t_wordMany A_t_tape x_t_taped x_t_place0 x_t_length0 x_t_fault x_t_number0 x_t_open x_t_codeMany x_t_waiting x_t_saidMany x_t_clauses A_t_said A_t_waitsAt A_t_saidLetter A_t_saidFrom A_t_saidHalf A_t_saidTo A_t_codes A_t_clauseOf A_t_codeFrom A_t_codeHalf A_t_codeTo A_t_stack A_t_facts x_t_lines A_t_newWords A_t_roundFrom A_t_roundAt A_t_roundTimes x_t_newMany x_t_rounds x_t_itFrom x_t_itTimes x_t_writtenNow x_t_picturesNow x_t_usedNow x_t_chosen x_t_fearOfChosen A_t_leastFrom A_t_rowNow x_t_changesNow x_t_left0 A_t_bornOf A_t_trainsTo A_t_trainAt x_t_trainMany o_x_t_leastTries o_x_t_firstTrained x_t_isKept, iA cI 293 A_t_aside o_v_t_aside, iA cI 293 A_t_now o_v_t_now, iA cI 16 A_t_rhymeOf v_t_rhymeOf, iA cI 7 A_t_trainAt o_v_t_trainAt, iA cI 6 A_t_trainsTo v_t_trainsTo]) ([.ref A_t, .int a1] : List Value).toArray s 0 0 A) (F0 m 139 ls []) := by
        intro v_t_aside v_t_now v_t_trainAt x_t_firstTrained x_t_leastTries l2 H locs ls hl hP hD hS hf
        unfold f_X12_trains_b139 at hf
        refine lv_iload_n hx hb dX12_trains_139 rfl (lv_at hl 2 rfl) ?_
        refine lv_aload_n hx hb dX12_trains_140 rfl (lv_at hl 0 rfl) ?_
        refine x_get C hK hP fd_X12_397 0 rfl rfl dX12_trains_141 ?_
        refine lv_icmp_ne (tgt := 150) hx hb dX12_trains_144 (by decide) (fun q => ?_) (fun q => ?_)
        · have hf := if_f q hf
          refine lv_aload_n hx hb dX12_trains_150 rfl (lv_at hl 0 rfl) ?_
          refine x_get C hK hP fd_X12_95 0 rfl rfl dX12_trains_151 ?_
          refine lv_iload_n hx hb dX12_trains_154 rfl (lv_at hl 2 rfl) ?_
          refine lv_iconst (v := -1) hx hb dX12_trains_155 (by decide) ?_
          obtain ⟨hi, hf⟩ := sI_e hf
          refine x_iast (ws' := [oX12 A_t A_t_now A_t_aside A_t_kept A_t_rhymeOf A_t_wasRhyme A_t_wordAt x_t_wordMany A_t_tape x_t_taped x_t_place0 x_t_length0 x_t_fault x_t_number0 x_t_open x_t_codeMany x_t_waiting x_t_saidMany x_t_clauses A_t_said A_t_waitsAt A_t_saidLetter A_t_saidFrom A_t_saidHalf A_t_saidTo A_t_codes A_t_clauseOf A_t_codeFrom A_t_codeHalf A_t_codeTo A_t_stack A_t_facts x_t_lines A_t_newWords A_t_roundFrom A_t_roundAt A_t_roundTimes x_t_newMany x_t_rounds x_t_itFrom x_t_itTimes x_t_writtenNow x_t_picturesNow x_t_usedNow x_t_chosen x_t_fearOfChosen A_t_leastFrom A_t_rowNow x_t_changesNow x_t_left0 A_t_bornOf A_t_trainsTo A_t_trainAt x_t_trainMany x_t_leastTries x_t_firstTrained x_t_isKept, iA cI 293 A_t_aside v_t_aside, iA cI 293 A_t_now v_t_now, iA cI 16 A_t_rhymeOf v_t_rhymeOf, iA cI 7 A_t_trainAt (upd v_t_trainAt l2.toNatClampNeg (-1 : Int32)), iA cI 6 A_t_trainsTo v_t_trainsTo]) C hK hP hD hS 4 rfl hi rfl dX12_trains_156 ?_
          intro H locs hP hD hS
          refine lv_iload_n hx hb dX12_trains_157 rfl (lv_at hl 2 rfl) ?_
          refine lv_iconst (v := 1) hx hb dX12_trains_158 (by decide) ?_
          refine lv_iadd hx hb dX12_trains_159 ?_
          refine lv_istore_n (lv' := [(2, .int (l2 + (1 : Int32))), (0, .ref A_t), (1, .int a1)]) hx hb dX12_trains_160 rfl hl (by decide) rfl (fun ls hl => ?_)
          refine lv_goto (tgt := 36) hx hb dX12_trains_161 (by decide) ?_
          exact ih_36 v_t_aside v_t_now (upd v_t_trainAt l2.toNatClampNeg (-1 : Int32)) x_t_firstTrained x_t_leastTries (l2 + (1 : Int32)) _ _ ls (lv_sub hl [1, 2, 0] rfl) hP hD hS hf
        · have hf := if_t q hf
          refine lv_goto (tgt := 36) hx hb dX12_trains_147 (by decide) ?_
          exact ih_36 v_t_aside v_t_now v_t_trainAt x_t_firstTrained x_t_leastTries l2 _ _ ls (lv_sub hl [0, 1, 2] rfl) hP hD hS hf
      have hb_77 : ∀ (v_t_aside : (Nat → Int32)) (v_t_now : (Nat → Int32)) (v_t_trainAt : (Nat → Int32)) (x_t_firstTrained : Int32) (x_t_leastTries : Int32) (l2 : Int32) (l3 : Int32) (H : Heap) (locs : List Loc) (ls : Array Slot), lv_has ls 5 [(0, .ref A_t), (1, .int a1), (2, .int l2), (3, .int l3)] → va_P D vwCl [oX12 A_t A_t_now A_t_aside A_t_kept A_t_rhymeOf A_t_wasRhyme A_t_wordAt x_t_wordMany A_t_tape x_t_taped x_t_place0 x_t_length0 x_t_fault x_t_number0 x_t_open x_t_codeMany x_t_waiting x_t_saidMany x_t_clauses A_t_said A_t_waitsAt A_t_saidLetter A_t_saidFrom A_t_saidHalf A_t_saidTo A_t_codes A_t_clauseOf A_t_codeFrom A_t_codeHalf A_t_codeTo A_t_stack A_t_facts x_t_lines A_t_newWords A_t_roundFrom A_t_roundAt A_t_roundTimes x_t_newMany x_t_rounds x_t_itFrom x_t_itTimes x_t_writtenNow x_t_picturesNow x_t_usedNow x_t_chosen x_t_fearOfChosen A_t_leastFrom A_t_rowNow x_t_changesNow x_t_left0 A_t_bornOf A_t_trainsTo A_t_trainAt x_t_trainMany x_t_leastTries x_t_firstTrained x_t_isKept, iA cI 293 A_t_aside v_t_aside, iA cI 293 A_t_now v_t_now, iA cI 16 A_t_rhymeOf v_t_rhymeOf, iA cI 7 A_t_trainAt v_t_trainAt, iA cI 6 A_t_trainsTo v_t_trainsTo] H → va_D A [oX12 A_t A_t_now A_t_aside A_t_kept A_t_rhymeOf A_t_wasRhyme A_t_wordAt x_t_wordMany A_t_tape x_t_taped x_t_place0 x_t_length0 x_t_fault x_t_number0 x_t_open x_t_codeMany x_t_waiting x_t_saidMany x_t_clauses A_t_said A_t_waitsAt A_t_saidLetter A_t_saidFrom A_t_saidHalf A_t_saidTo A_t_codes A_t_clauseOf A_t_codeFrom A_t_codeHalf A_t_codeTo A_t_stack A_t_facts x_t_lines A_t_newWords A_t_roundFrom A_t_roundAt A_t_roundTimes x_t_newMany x_t_rounds x_t_itFrom x_t_itTimes x_t_writtenNow x_t_picturesNow x_t_usedNow x_t_chosen x_t_fearOfChosen A_t_leastFrom A_t_rowNow x_t_changesNow x_t_left0 A_t_bornOf A_t_trainsTo A_t_trainAt x_t_trainMany x_t_leastTries x_t_firstTrained x_t_isKept, iA cI 293 A_t_aside v_t_aside, iA cI 293 A_t_now v_t_now, iA cI 16 A_t_rhymeOf v_t_rhymeOf, iA cI 7 A_t_trainAt v_t_trainAt, iA cI 6 A_t_trainsTo v_t_trainsTo] → va_S A s.heap H locs → f_X12_trains_b77 v_t_rhymeOf v_t_trainsTo x_t_trainMany a1 (f_X12_trains_b36 v_t_rhymeOf v_t_trainsTo x_t_trainMany a1 n_36) v_t_aside v_t_now v_t_trainAt x_t_firstTrained x_t_leastTries l2 l3 = some (o_v_t_aside, o_v_t_now, o_v_t_trainAt, o_x_t_firstTrained, o_x_t_leastTries) → W p l e { frames := 6, cells := 0, slots := 0, locals := 134 } s m ([.ref A_t, .int a1] : List Value).toArray below meth c H locs 0 0 (MQ below (PoV D A [oX12 A_t A_t_now A_t_aside A_t_kept A_t_rhymeOf A_t_wasRhyme A_t_wordAt x_t_wordMany A_t_tape x_t_taped x_t_place0 x_t_length0 x_t_fault x_t_number0 x_t_open x_t_codeMany x_t_waiting x_t_saidMany x_t_clauses A_t_said A_t_waitsAt A_t_saidLetter A_t_saidFrom A_t_saidHalf A_t_saidTo A_t_codes A_t_clauseOf A_t_codeFrom A_t_codeHalf A_t_codeTo A_t_stack A_t_facts x_t_lines A_t_newWords A_t_roundFrom A_t_roundAt A_t_roundTimes x_t_newMany x_t_rounds x_t_itFrom x_t_itTimes x_t_writtenNow x_t_picturesNow x_t_usedNow x_t_chosen x_t_fearOfChosen A_t_leastFrom A_t_rowNow x_t_changesNow x_t_left0 A_t_bornOf A_t_trainsTo A_t_trainAt x_t_trainMany o_x_t_leastTries o_x_t_firstTrained x_t_isKept, iA cI 293 A_t_aside o_v_t_aside, iA cI 293 A_t_now o_v_t_now, iA cI 16 A_t_rhymeOf v_t_rhymeOf, iA cI 7 A_t_trainAt o_v_t_trainAt, iA cI 6 A_t_trainsTo v_t_trainsTo]) ([.ref A_t, .int a1] : List Value).toArray s 0 0 A) (F0 m 77 ls []) := by
        intro v_t_aside v_t_now v_t_trainAt x_t_firstTrained x_t_leastTries l2 l3 H locs ls hl hP hD hS hf
        unfold f_X12_trains_b77 at hf
        refine lv_iload_n hx hb dX12_trains_77 rfl (lv_at hl 3 rfl) ?_
        refine lv_aload_n hx hb dX12_trains_78 rfl (lv_at hl 0 rfl) ?_
        refine x_get C hK hP fd_X12_397 0 rfl rfl dX12_trains_79 ?_
        refine lv_icmp_lt (tgt := 92) hx hb dX12_trains_82 (by decide) (fun q => ?_) (fun q => ?_)
        · have hf := if_t q hf
          refine lv_aload_n hx hb dX12_trains_92 rfl (lv_at hl 0 rfl) ?_
          refine x_get C hK hP fd_X12_95 0 rfl rfl dX12_trains_93 ?_
          refine lv_iload_n hx hb dX12_trains_96 rfl (lv_at hl 2 rfl) ?_
          refine lv_iconst (v := 1) hx hb dX12_trains_97 (by decide) ?_
          refine lv_isub hx hb dX12_trains_98 ?_
          refine lv_iload_n hx hb dX12_trains_99 rfl (lv_at hl 3 rfl) ?_
          obtain ⟨hi, hf⟩ := sI_e hf
          refine x_iast (ws' := [oX12 A_t A_t_now A_t_aside A_t_kept A_t_rhymeOf A_t_wasRhyme A_t_wordAt x_t_wordMany A_t_tape x_t_taped x_t_place0 x_t_length0 x_t_fault x_t_number0 x_t_open x_t_codeMany x_t_waiting x_t_saidMany x_t_clauses A_t_said A_t_waitsAt A_t_saidLetter A_t_saidFrom A_t_saidHalf A_t_saidTo A_t_codes A_t_clauseOf A_t_codeFrom A_t_codeHalf A_t_codeTo A_t_stack A_t_facts x_t_lines A_t_newWords A_t_roundFrom A_t_roundAt A_t_roundTimes x_t_newMany x_t_rounds x_t_itFrom x_t_itTimes x_t_writtenNow x_t_picturesNow x_t_usedNow x_t_chosen x_t_fearOfChosen A_t_leastFrom A_t_rowNow x_t_changesNow x_t_left0 A_t_bornOf A_t_trainsTo A_t_trainAt x_t_trainMany x_t_leastTries x_t_firstTrained x_t_isKept, iA cI 293 A_t_aside v_t_aside, iA cI 293 A_t_now v_t_now, iA cI 16 A_t_rhymeOf v_t_rhymeOf, iA cI 7 A_t_trainAt (upd v_t_trainAt (l2 - (1 : Int32)).toNatClampNeg l3), iA cI 6 A_t_trainsTo v_t_trainsTo]) C hK hP hD hS 4 rfl hi rfl dX12_trains_100 ?_
          intro H locs hP hD hS
          refine lv_aload_n hx hb dX12_trains_101 rfl (lv_at hl 0 rfl) ?_
          refine lv_iload_n hx hb dX12_trains_102 rfl (lv_at hl 1 rfl) ?_
          refine lv_iload_n hx hb dX12_trains_103 rfl (lv_at hl 2 rfl) ?_
          obtain ⟨r1, w2, hc3, hf⟩ := bd2_e hf
          refine x_callVI (ws' := [oX12 A_t A_t_now A_t_aside A_t_kept A_t_rhymeOf A_t_wasRhyme A_t_wordAt x_t_wordMany A_t_tape x_t_taped x_t_place0 x_t_length0 x_t_fault x_t_number0 x_t_open x_t_codeMany x_t_waiting x_t_saidMany x_t_clauses A_t_said A_t_waitsAt A_t_saidLetter A_t_saidFrom A_t_saidHalf A_t_saidTo A_t_codes A_t_clauseOf A_t_codeFrom A_t_codeHalf A_t_codeTo A_t_stack A_t_facts x_t_lines A_t_newWords A_t_roundFrom A_t_roundAt A_t_roundTimes x_t_newMany x_t_rounds x_t_itFrom x_t_itTimes x_t_writtenNow x_t_picturesNow x_t_usedNow x_t_chosen x_t_fearOfChosen A_t_leastFrom A_t_rowNow x_t_changesNow x_t_left0 A_t_bornOf A_t_trainsTo A_t_trainAt x_t_trainMany x_t_leastTries x_t_firstTrained x_t_isKept, iA cI 293 A_t_aside v_t_aside, iA cI 293 A_t_now w2, iA cI 16 A_t_rhymeOf v_t_rhymeOf, iA cI 7 A_t_trainAt (upd v_t_trainAt (l2 - (1 : Int32)).toNatClampNeg l3), iA cI 6 A_t_trainsTo v_t_trainsTo]) (rest := []) C hK hP hD hS hA hl mf_X12_400 (c_X12_triesOf hc3) [0, 1, 2, 3, 4, 5] 0 12 rfl rfl rfl rfl rfl rfl rfl rfl rfl rfl (Nat.le_of_ble_eq_true rfl) ⟨Nat.le_of_ble_eq_true rfl, Nat.le_of_ble_eq_true rfl⟩ ⟨Nat.le_refl _, Nat.le_refl _⟩ dX12_trains_104 ?_
          intro H locs hP hD hS
          refine lv_istore (lv' := [(4, .int r1), (0, .ref A_t), (1, .int a1), (2, .int l2), (3, .int l3)]) hx hb dX12_trains_107 hl (by decide) rfl (fun ls hl => ?_)
          refine lv_iload hx hb dX12_trains_109 (lv_at hl 0 rfl) ?_
          refine lv_aload_n hx hb dX12_trains_111 rfl (lv_at hl 1 rfl) ?_
          refine x_get C hK hP fd_X12_403 0 rfl rfl dX12_trains_112 ?_
          refine lv_icmp_ge (tgt := 139) hx hb dX12_trains_115 (by decide) (fun q => ?_) (fun q => ?_)
          · have hf := if_t q hf
            exact hb_139 v_t_aside w2 (upd v_t_trainAt (l2 - (1 : Int32)).toNatClampNeg l3) x_t_firstTrained x_t_leastTries l2 _ _ ls (lv_sub hl [1, 2, 3] rfl) hP hD hS hf
          · have hf := if_f q hf
            refine lv_aload_n hx hb dX12_trains_118 rfl (lv_at hl 1 rfl) ?_
            refine lv_iload hx hb dX12_trains_119 (lv_at hl 0 rfl) ?_
            refine x_put (ws' := [oX12 A_t A_t_now A_t_aside A_t_kept A_t_rhymeOf A_t_wasRhyme A_t_wordAt x_t_wordMany A_t_tape x_t_taped x_t_place0 x_t_length0 x_t_fault x_t_number0 x_t_open x_t_codeMany x_t_waiting x_t_saidMany x_t_clauses A_t_said A_t_waitsAt A_t_saidLetter A_t_saidFrom A_t_saidHalf A_t_saidTo A_t_codes A_t_clauseOf A_t_codeFrom A_t_codeHalf A_t_codeTo A_t_stack A_t_facts x_t_lines A_t_newWords A_t_roundFrom A_t_roundAt A_t_roundTimes x_t_newMany x_t_rounds x_t_itFrom x_t_itTimes x_t_writtenNow x_t_picturesNow x_t_usedNow x_t_chosen x_t_fearOfChosen A_t_leastFrom A_t_rowNow x_t_changesNow x_t_left0 A_t_bornOf A_t_trainsTo A_t_trainAt x_t_trainMany r1 x_t_firstTrained x_t_isKept, iA cI 293 A_t_aside v_t_aside, iA cI 293 A_t_now w2, iA cI 16 A_t_rhymeOf v_t_rhymeOf, iA cI 7 A_t_trainAt (upd v_t_trainAt (l2 - (1 : Int32)).toNatClampNeg l3), iA cI 6 A_t_trainsTo v_t_trainsTo]) C hK hP hD hS fp_X12_403 0 rfl rfl rfl (Nat.le_of_ble_eq_true rfl) rfl dX12_trains_121 ?_
            intro H locs hP hD hS
            refine lv_aload_n hx hb dX12_trains_124 rfl (lv_at hl 1 rfl) ?_
            refine lv_aload_n hx hb dX12_trains_125 rfl (lv_at hl 1 rfl) ?_
            refine x_get C hK hP fd_X12_92 0 rfl rfl dX12_trains_126 ?_
            refine lv_aload_n hx hb dX12_trains_129 rfl (lv_at hl 1 rfl) ?_
            refine x_get C hK hP fd_X12_95 0 rfl rfl dX12_trains_130 ?_
            refine lv_iconst (v := 0) hx hb dX12_trains_133 (by decide) ?_
            obtain ⟨hi, hf⟩ := gI_e hf
            refine x_iald C hK hP 4 rfl hi dX12_trains_134 ?_
            obtain ⟨hi, hf⟩ := gI_e hf
            refine x_iald C hK hP 5 rfl hi dX12_trains_135 ?_
            refine x_put (ws' := [oX12 A_t A_t_now A_t_aside A_t_kept A_t_rhymeOf A_t_wasRhyme A_t_wordAt x_t_wordMany A_t_tape x_t_taped x_t_place0 x_t_length0 x_t_fault x_t_number0 x_t_open x_t_codeMany x_t_waiting x_t_saidMany x_t_clauses A_t_said A_t_waitsAt A_t_saidLetter A_t_saidFrom A_t_saidHalf A_t_saidTo A_t_codes A_t_clauseOf A_t_codeFrom A_t_codeHalf A_t_codeTo A_t_stack A_t_facts x_t_lines A_t_newWords A_t_roundFrom A_t_roundAt A_t_roundTimes x_t_newMany x_t_rounds x_t_itFrom x_t_itTimes x_t_writtenNow x_t_picturesNow x_t_usedNow x_t_chosen x_t_fearOfChosen A_t_leastFrom A_t_rowNow x_t_changesNow x_t_left0 A_t_bornOf A_t_trainsTo A_t_trainAt x_t_trainMany r1 (v_t_trainsTo ((upd v_t_trainAt (l2 - (1 : Int32)).toNatClampNeg l3) (0 : Int32).toNatClampNeg).toNatClampNeg) x_t_isKept, iA cI 293 A_t_aside v_t_aside, iA cI 293 A_t_now w2, iA cI 16 A_t_rhymeOf v_t_rhymeOf, iA cI 7 A_t_trainAt (upd v_t_trainAt (l2 - (1 : Int32)).toNatClampNeg l3), iA cI 6 A_t_trainsTo v_t_trainsTo]) C hK hP hD hS fp_X12_406 0 rfl rfl rfl (Nat.le_of_ble_eq_true rfl) rfl dX12_trains_136 ?_
            intro H locs hP hD hS
            exact hb_139 v_t_aside w2 (upd v_t_trainAt (l2 - (1 : Int32)).toNatClampNeg l3) (v_t_trainsTo ((upd v_t_trainAt (l2 - (1 : Int32)).toNatClampNeg l3) (0 : Int32).toNatClampNeg).toNatClampNeg) r1 l2 _ _ ls (lv_sub hl [1, 2, 3] rfl) hP hD hS hf
        · have hf := if_f q hf
          refine lv_iload_n hx hb dX12_trains_85 rfl (lv_at hl 2 rfl) ?_
          refine lv_iconst (v := 1) hx hb dX12_trains_86 (by decide) ?_
          refine lv_isub hx hb dX12_trains_87 ?_
          refine lv_istore_n (lv' := [(2, .int (l2 - (1 : Int32))), (0, .ref A_t), (1, .int a1), (3, .int l3)]) hx hb dX12_trains_88 rfl hl (by decide) rfl (fun ls hl => ?_)
          refine lv_goto (tgt := 36) hx hb dX12_trains_89 (by decide) ?_
          exact ih_36 v_t_aside v_t_now v_t_trainAt x_t_firstTrained x_t_leastTries (l2 - (1 : Int32)) _ _ ls (lv_sub hl [1, 2, 0] rfl) hP hD hS hf
      have hb_51 : ∀ (n_51 : Nat) (v_t_aside : (Nat → Int32)) (v_t_now : (Nat → Int32)) (v_t_trainAt : (Nat → Int32)) (x_t_firstTrained : Int32) (x_t_leastTries : Int32) (l2 : Int32) (l3 : Int32) (H : Heap) (locs : List Loc) (ls : Array Slot), lv_has ls 5 [(0, .ref A_t), (1, .int a1), (2, .int l2), (3, .int l3)] → va_P D vwCl [oX12 A_t A_t_now A_t_aside A_t_kept A_t_rhymeOf A_t_wasRhyme A_t_wordAt x_t_wordMany A_t_tape x_t_taped x_t_place0 x_t_length0 x_t_fault x_t_number0 x_t_open x_t_codeMany x_t_waiting x_t_saidMany x_t_clauses A_t_said A_t_waitsAt A_t_saidLetter A_t_saidFrom A_t_saidHalf A_t_saidTo A_t_codes A_t_clauseOf A_t_codeFrom A_t_codeHalf A_t_codeTo A_t_stack A_t_facts x_t_lines A_t_newWords A_t_roundFrom A_t_roundAt A_t_roundTimes x_t_newMany x_t_rounds x_t_itFrom x_t_itTimes x_t_writtenNow x_t_picturesNow x_t_usedNow x_t_chosen x_t_fearOfChosen A_t_leastFrom A_t_rowNow x_t_changesNow x_t_left0 A_t_bornOf A_t_trainsTo A_t_trainAt x_t_trainMany x_t_leastTries x_t_firstTrained x_t_isKept, iA cI 293 A_t_aside v_t_aside, iA cI 293 A_t_now v_t_now, iA cI 16 A_t_rhymeOf v_t_rhymeOf, iA cI 7 A_t_trainAt v_t_trainAt, iA cI 6 A_t_trainsTo v_t_trainsTo] H → va_D A [oX12 A_t A_t_now A_t_aside A_t_kept A_t_rhymeOf A_t_wasRhyme A_t_wordAt x_t_wordMany A_t_tape x_t_taped x_t_place0 x_t_length0 x_t_fault x_t_number0 x_t_open x_t_codeMany x_t_waiting x_t_saidMany x_t_clauses A_t_said A_t_waitsAt A_t_saidLetter A_t_saidFrom A_t_saidHalf A_t_saidTo A_t_codes A_t_clauseOf A_t_codeFrom A_t_codeHalf A_t_codeTo A_t_stack A_t_facts x_t_lines A_t_newWords A_t_roundFrom A_t_roundAt A_t_roundTimes x_t_newMany x_t_rounds x_t_itFrom x_t_itTimes x_t_writtenNow x_t_picturesNow x_t_usedNow x_t_chosen x_t_fearOfChosen A_t_leastFrom A_t_rowNow x_t_changesNow x_t_left0 A_t_bornOf A_t_trainsTo A_t_trainAt x_t_trainMany x_t_leastTries x_t_firstTrained x_t_isKept, iA cI 293 A_t_aside v_t_aside, iA cI 293 A_t_now v_t_now, iA cI 16 A_t_rhymeOf v_t_rhymeOf, iA cI 7 A_t_trainAt v_t_trainAt, iA cI 6 A_t_trainsTo v_t_trainsTo] → va_S A s.heap H locs → f_X12_trains_b51 v_t_rhymeOf v_t_trainsTo x_t_trainMany a1 (f_X12_trains_b36 v_t_rhymeOf v_t_trainsTo x_t_trainMany a1 n_36) n_51 v_t_aside v_t_now v_t_trainAt x_t_firstTrained x_t_leastTries l2 l3 = some (o_v_t_aside, o_v_t_now, o_v_t_trainAt, o_x_t_firstTrained, o_x_t_leastTries) → W p l e { frames := 6, cells := 0, slots := 0, locals := 134 } s m ([.ref A_t, .int a1] : List Value).toArray below meth c H locs 0 0 (MQ below (PoV D A [oX12 A_t A_t_now A_t_aside A_t_kept A_t_rhymeOf A_t_wasRhyme A_t_wordAt x_t_wordMany A_t_tape x_t_taped x_t_place0 x_t_length0 x_t_fault x_t_number0 x_t_open x_t_codeMany x_t_waiting x_t_saidMany x_t_clauses A_t_said A_t_waitsAt A_t_saidLetter A_t_saidFrom A_t_saidHalf A_t_saidTo A_t_codes A_t_clauseOf A_t_codeFrom A_t_codeHalf A_t_codeTo A_t_stack A_t_facts x_t_lines A_t_newWords A_t_roundFrom A_t_roundAt A_t_roundTimes x_t_newMany x_t_rounds x_t_itFrom x_t_itTimes x_t_writtenNow x_t_picturesNow x_t_usedNow x_t_chosen x_t_fearOfChosen A_t_leastFrom A_t_rowNow x_t_changesNow x_t_left0 A_t_bornOf A_t_trainsTo A_t_trainAt x_t_trainMany o_x_t_leastTries o_x_t_firstTrained x_t_isKept, iA cI 293 A_t_aside o_v_t_aside, iA cI 293 A_t_now o_v_t_now, iA cI 16 A_t_rhymeOf v_t_rhymeOf, iA cI 7 A_t_trainAt o_v_t_trainAt, iA cI 6 A_t_trainsTo v_t_trainsTo]) ([.ref A_t, .int a1] : List Value).toArray s 0 0 A) (F0 m 51 ls []) := by
        intro n_51
        induction n_51 with
        | zero =>
          intro v_t_aside v_t_now v_t_trainAt x_t_firstTrained x_t_leastTries l2 l3 H locs ls hl hP hD hS hf
          exact absurd hf (fun h => by rw [f_X12_trains_b51] at h; cases h)
        | succ n_51 ih_51 =>
          intro v_t_aside v_t_now v_t_trainAt x_t_firstTrained x_t_leastTries l2 l3 H locs ls hl hP hD hS hf
          rw [f_X12_trains_b51] at hf
          refine lv_iload_n hx hb dX12_trains_51 rfl (lv_at hl 3 rfl) ?_
          refine lv_aload_n hx hb dX12_trains_52 rfl (lv_at hl 0 rfl) ?_
          refine x_get C hK hP fd_X12_397 0 rfl rfl dX12_trains_53 ?_
          refine lv_icmp_ge (tgt := 77) hx hb dX12_trains_56 (by decide) (fun q => ?_) (fun q => ?_)
          · have hf := if_t q hf
            exact hb_77 v_t_aside v_t_now v_t_trainAt x_t_firstTrained x_t_leastTries l2 l3 _ _ ls (lv_sub hl [0, 1, 2, 3] rfl) hP hD hS hf
          · have hf := if_f q hf
            refine lv_aload_n hx hb dX12_trains_59 rfl (lv_at hl 0 rfl) ?_
            refine lv_iload_n hx hb dX12_trains_60 rfl (lv_at hl 2 rfl) ?_
            refine lv_iconst (v := 1) hx hb dX12_trains_61 (by decide) ?_
            refine lv_isub hx hb dX12_trains_62 ?_
            refine lv_iload_n hx hb dX12_trains_63 rfl (lv_at hl 3 rfl) ?_
            obtain ⟨r4, hc5, hf⟩ := bd1_e hf
            refine x_callVI (ws' := [oX12 A_t A_t_now A_t_aside A_t_kept A_t_rhymeOf A_t_wasRhyme A_t_wordAt x_t_wordMany A_t_tape x_t_taped x_t_place0 x_t_length0 x_t_fault x_t_number0 x_t_open x_t_codeMany x_t_waiting x_t_saidMany x_t_clauses A_t_said A_t_waitsAt A_t_saidLetter A_t_saidFrom A_t_saidHalf A_t_saidTo A_t_codes A_t_clauseOf A_t_codeFrom A_t_codeHalf A_t_codeTo A_t_stack A_t_facts x_t_lines A_t_newWords A_t_roundFrom A_t_roundAt A_t_roundTimes x_t_newMany x_t_rounds x_t_itFrom x_t_itTimes x_t_writtenNow x_t_picturesNow x_t_usedNow x_t_chosen x_t_fearOfChosen A_t_leastFrom A_t_rowNow x_t_changesNow x_t_left0 A_t_bornOf A_t_trainsTo A_t_trainAt x_t_trainMany x_t_leastTries x_t_firstTrained x_t_isKept, iA cI 293 A_t_aside v_t_aside, iA cI 293 A_t_now v_t_now, iA cI 16 A_t_rhymeOf v_t_rhymeOf, iA cI 7 A_t_trainAt v_t_trainAt, iA cI 6 A_t_trainsTo v_t_trainsTo]) (rest := []) C hK hP hD hS hA hl mf_X12_409 (c_X12_isInRow hc5) [0, 4] 0 12 rfl rfl rfl rfl rfl rfl rfl rfl rfl rfl (Nat.le_of_ble_eq_true rfl) ⟨Nat.le_of_ble_eq_true rfl, Nat.le_of_ble_eq_true rfl⟩ ⟨Nat.le_refl _, Nat.le_refl _⟩ dX12_trains_64 ?_
            intro H locs hP hD hS
            refine lv_if_eq (tgt := 77) hx hb dX12_trains_67 (by decide) (fun q => ?_) (fun q => ?_)
            · have hf := if_t q hf
              exact hb_77 v_t_aside v_t_now v_t_trainAt x_t_firstTrained x_t_leastTries l2 l3 _ _ ls (lv_sub hl [0, 1, 2, 3] rfl) hP hD hS hf
            · have hf := if_f q hf
              refine lv_iload_n hx hb dX12_trains_70 rfl (lv_at hl 3 rfl) ?_
              refine lv_iconst (v := 1) hx hb dX12_trains_71 (by decide) ?_
              refine lv_iadd hx hb dX12_trains_72 ?_
              refine lv_istore_n (lv' := [(3, .int (l3 + (1 : Int32))), (0, .ref A_t), (1, .int a1), (2, .int l2)]) hx hb dX12_trains_73 rfl hl (by decide) rfl (fun ls hl => ?_)
              refine lv_goto (tgt := 51) hx hb dX12_trains_74 (by decide) ?_
              exact ih_51 v_t_aside v_t_now v_t_trainAt x_t_firstTrained x_t_leastTries l2 (l3 + (1 : Int32)) _ _ ls (lv_sub hl [1, 2, 3, 0] rfl) hP hD hS hf
      intro v_t_aside v_t_now v_t_trainAt x_t_firstTrained x_t_leastTries l2 H locs ls hl hP hD hS hf
      rw [f_X12_trains_b36] at hf
      refine lv_iload_n hx hb dX12_trains_36 rfl (lv_at hl 2 rfl) ?_
      refine lv_if_le (tgt := 164) hx hb dX12_trains_37 (by decide) (fun q => ?_) (fun q => ?_)
      · have hf := if_t q hf
        obtain ⟨rfl, rfl, rfl, rfl, rfl⟩ := ev5 hf
        exact x_vret C hr hlk hP hD hS dX12_trains_164
      · have hf := if_f q hf
        refine lv_aload_n hx hb dX12_trains_40 rfl (lv_at hl 0 rfl) ?_
        refine x_get C hK hP fd_X12_95 0 rfl rfl dX12_trains_41 ?_
        refine lv_iload_n hx hb dX12_trains_44 rfl (lv_at hl 2 rfl) ?_
        refine lv_iconst (v := 1) hx hb dX12_trains_45 (by decide) ?_
        refine lv_isub hx hb dX12_trains_46 ?_
        obtain ⟨hi, hf⟩ := gI_e hf
        refine x_iald C hK hP 4 rfl hi dX12_trains_47 ?_
        refine lv_iconst (v := 1) hx hb dX12_trains_48 (by decide) ?_
        refine lv_iadd hx hb dX12_trains_49 ?_
        refine lv_istore_n (lv' := [(3, .int ((v_t_trainAt (l2 - (1 : Int32)).toNatClampNeg) + (1 : Int32))), (0, .ref A_t), (1, .int a1), (2, .int l2)]) hx hb dX12_trains_50 rfl hl (by decide) rfl (fun ls hl => ?_)
        exact hb_51 FU v_t_aside v_t_now v_t_trainAt x_t_firstTrained x_t_leastTries l2 ((v_t_trainAt (l2 - (1 : Int32)).toNatClampNeg) + (1 : Int32)) _ _ ls (lv_sub hl [1, 2, 3, 0] rfl) hP hD hS hf
  refine lv_aload_n hx hb dX12_trains_0 rfl (lv_at hl 0 rfl) ?_
  refine x_get C hK hP fd_X12_7 0 rfl rfl dX12_trains_1 ?_
  refine lv_aload_n hx hb dX12_trains_4 rfl (lv_at hl 0 rfl) ?_
  refine x_get C hK hP fd_X12_13 0 rfl rfl dX12_trains_5 ?_
  obtain ⟨w6, hc7, hf⟩ := bd1_e hf
  refine x_callSV (ws' := [oX12 A_t A_t_now A_t_aside A_t_kept A_t_rhymeOf A_t_wasRhyme A_t_wordAt x_t_wordMany A_t_tape x_t_taped x_t_place0 x_t_length0 x_t_fault x_t_number0 x_t_open x_t_codeMany x_t_waiting x_t_saidMany x_t_clauses A_t_said A_t_waitsAt A_t_saidLetter A_t_saidFrom A_t_saidHalf A_t_saidTo A_t_codes A_t_clauseOf A_t_codeFrom A_t_codeHalf A_t_codeTo A_t_stack A_t_facts x_t_lines A_t_newWords A_t_roundFrom A_t_roundAt A_t_roundTimes x_t_newMany x_t_rounds x_t_itFrom x_t_itTimes x_t_writtenNow x_t_picturesNow x_t_usedNow x_t_chosen x_t_fearOfChosen A_t_leastFrom A_t_rowNow x_t_changesNow x_t_left0 A_t_bornOf A_t_trainsTo A_t_trainAt x_t_trainMany x_t_leastTries x_t_firstTrained x_t_isKept, iA cI 293 A_t_aside w6, iA cI 293 A_t_now v_t_now, iA cI 16 A_t_rhymeOf v_t_rhymeOf, iA cI 7 A_t_trainAt v_t_trainAt, iA cI 6 A_t_trainsTo v_t_trainsTo]) (rest := []) C hK hP hD hS hA hl mf_X12_272 (c_X12_copies hc7) [2, 1] rfl rfl rfl rfl rfl rfl rfl rfl (Nat.le_of_ble_eq_true rfl) ⟨Nat.le_of_ble_eq_true rfl, Nat.le_of_ble_eq_true rfl⟩ ⟨Nat.le_refl _, Nat.le_refl _⟩ dX12_trains_8 ?_
  intro H locs hP hD hS
  refine lv_aload_n hx hb dX12_trains_11 rfl (lv_at hl 0 rfl) ?_
  refine lv_aload_n hx hb dX12_trains_12 rfl (lv_at hl 0 rfl) ?_
  refine lv_iload_n hx hb dX12_trains_13 rfl (lv_at hl 1 rfl) ?_
  refine lv_iconst (v := 0) hx hb dX12_trains_14 (by decide) ?_
  obtain ⟨r8, w9, hc10, hf⟩ := bd2_e hf
  refine x_callVI (ws' := [oX12 A_t A_t_now A_t_aside A_t_kept A_t_rhymeOf A_t_wasRhyme A_t_wordAt x_t_wordMany A_t_tape x_t_taped x_t_place0 x_t_length0 x_t_fault x_t_number0 x_t_open x_t_codeMany x_t_waiting x_t_saidMany x_t_clauses A_t_said A_t_waitsAt A_t_saidLetter A_t_saidFrom A_t_saidHalf A_t_saidTo A_t_codes A_t_clauseOf A_t_codeFrom A_t_codeHalf A_t_codeTo A_t_stack A_t_facts x_t_lines A_t_newWords A_t_roundFrom A_t_roundAt A_t_roundTimes x_t_newMany x_t_rounds x_t_itFrom x_t_itTimes x_t_writtenNow x_t_picturesNow x_t_usedNow x_t_chosen x_t_fearOfChosen A_t_leastFrom A_t_rowNow x_t_changesNow x_t_left0 A_t_bornOf A_t_trainsTo A_t_trainAt x_t_trainMany x_t_leastTries x_t_firstTrained x_t_isKept, iA cI 293 A_t_aside w6, iA cI 293 A_t_now w9, iA cI 16 A_t_rhymeOf v_t_rhymeOf, iA cI 7 A_t_trainAt v_t_trainAt, iA cI 6 A_t_trainsTo v_t_trainsTo]) (rest := [.ref A_t]) C hK hP hD hS hA hl mf_X12_400 (c_X12_triesOf hc10) [0, 1, 2, 3, 4, 5] 0 12 rfl rfl rfl rfl rfl rfl rfl rfl rfl rfl (Nat.le_of_ble_eq_true rfl) ⟨Nat.le_of_ble_eq_true rfl, Nat.le_of_ble_eq_true rfl⟩ ⟨Nat.le_refl _, Nat.le_refl _⟩ dX12_trains_15 ?_
  intro H locs hP hD hS
  refine x_put (ws' := [oX12 A_t A_t_now A_t_aside A_t_kept A_t_rhymeOf A_t_wasRhyme A_t_wordAt x_t_wordMany A_t_tape x_t_taped x_t_place0 x_t_length0 x_t_fault x_t_number0 x_t_open x_t_codeMany x_t_waiting x_t_saidMany x_t_clauses A_t_said A_t_waitsAt A_t_saidLetter A_t_saidFrom A_t_saidHalf A_t_saidTo A_t_codes A_t_clauseOf A_t_codeFrom A_t_codeHalf A_t_codeTo A_t_stack A_t_facts x_t_lines A_t_newWords A_t_roundFrom A_t_roundAt A_t_roundTimes x_t_newMany x_t_rounds x_t_itFrom x_t_itTimes x_t_writtenNow x_t_picturesNow x_t_usedNow x_t_chosen x_t_fearOfChosen A_t_leastFrom A_t_rowNow x_t_changesNow x_t_left0 A_t_bornOf A_t_trainsTo A_t_trainAt x_t_trainMany r8 x_t_firstTrained x_t_isKept, iA cI 293 A_t_aside w6, iA cI 293 A_t_now w9, iA cI 16 A_t_rhymeOf v_t_rhymeOf, iA cI 7 A_t_trainAt v_t_trainAt, iA cI 6 A_t_trainsTo v_t_trainsTo]) C hK hP hD hS fp_X12_403 0 rfl rfl rfl (Nat.le_of_ble_eq_true rfl) rfl dX12_trains_18 ?_
  intro H locs hP hD hS
  refine lv_aload_n hx hb dX12_trains_21 rfl (lv_at hl 0 rfl) ?_
  refine lv_bipush (v := -2) hx hb dX12_trains_22 (by decide) ?_
  refine x_put (ws' := [oX12 A_t A_t_now A_t_aside A_t_kept A_t_rhymeOf A_t_wasRhyme A_t_wordAt x_t_wordMany A_t_tape x_t_taped x_t_place0 x_t_length0 x_t_fault x_t_number0 x_t_open x_t_codeMany x_t_waiting x_t_saidMany x_t_clauses A_t_said A_t_waitsAt A_t_saidLetter A_t_saidFrom A_t_saidHalf A_t_saidTo A_t_codes A_t_clauseOf A_t_codeFrom A_t_codeHalf A_t_codeTo A_t_stack A_t_facts x_t_lines A_t_newWords A_t_roundFrom A_t_roundAt A_t_roundTimes x_t_newMany x_t_rounds x_t_itFrom x_t_itTimes x_t_writtenNow x_t_picturesNow x_t_usedNow x_t_chosen x_t_fearOfChosen A_t_leastFrom A_t_rowNow x_t_changesNow x_t_left0 A_t_bornOf A_t_trainsTo A_t_trainAt x_t_trainMany r8 (-2 : Int32) x_t_isKept, iA cI 293 A_t_aside w6, iA cI 293 A_t_now w9, iA cI 16 A_t_rhymeOf v_t_rhymeOf, iA cI 7 A_t_trainAt v_t_trainAt, iA cI 6 A_t_trainsTo v_t_trainsTo]) C hK hP hD hS fp_X12_406 0 rfl rfl rfl (Nat.le_of_ble_eq_true rfl) rfl dX12_trains_24 ?_
  intro H locs hP hD hS
  refine lv_iconst (v := 1) hx hb dX12_trains_27 (by decide) ?_
  refine lv_istore_n (lv' := [(2, .int (1 : Int32)), (0, .ref A_t), (1, .int a1)]) hx hb dX12_trains_28 rfl hl (by decide) rfl (fun ls hl => ?_)
  refine lv_aload_n hx hb dX12_trains_29 rfl (lv_at hl 1 rfl) ?_
  refine x_get C hK hP fd_X12_95 0 rfl rfl dX12_trains_30 ?_
  refine lv_iconst (v := 0) hx hb dX12_trains_33 (by decide) ?_
  refine lv_iconst (v := -1) hx hb dX12_trains_34 (by decide) ?_
  obtain ⟨hi, hf⟩ := sI_e hf
  refine x_iast (ws' := [oX12 A_t A_t_now A_t_aside A_t_kept A_t_rhymeOf A_t_wasRhyme A_t_wordAt x_t_wordMany A_t_tape x_t_taped x_t_place0 x_t_length0 x_t_fault x_t_number0 x_t_open x_t_codeMany x_t_waiting x_t_saidMany x_t_clauses A_t_said A_t_waitsAt A_t_saidLetter A_t_saidFrom A_t_saidHalf A_t_saidTo A_t_codes A_t_clauseOf A_t_codeFrom A_t_codeHalf A_t_codeTo A_t_stack A_t_facts x_t_lines A_t_newWords A_t_roundFrom A_t_roundAt A_t_roundTimes x_t_newMany x_t_rounds x_t_itFrom x_t_itTimes x_t_writtenNow x_t_picturesNow x_t_usedNow x_t_chosen x_t_fearOfChosen A_t_leastFrom A_t_rowNow x_t_changesNow x_t_left0 A_t_bornOf A_t_trainsTo A_t_trainAt x_t_trainMany r8 (-2 : Int32) x_t_isKept, iA cI 293 A_t_aside w6, iA cI 293 A_t_now w9, iA cI 16 A_t_rhymeOf v_t_rhymeOf, iA cI 7 A_t_trainAt (upd v_t_trainAt (0 : Int32).toNatClampNeg (-1 : Int32)), iA cI 6 A_t_trainsTo v_t_trainsTo]) C hK hP hD hS 4 rfl hi rfl dX12_trains_35 ?_
  intro H locs hP hD hS
  exact hb_36 FU w6 w9 (upd v_t_trainAt (0 : Int32).toNatClampNeg (-1 : Int32)) (-2 : Int32) r8 (1 : Int32) _ _ ls (lv_sub hl [1, 2, 0] rfl) hP hD hS hf
def f_X12_training_b35 (v_t_aside : (Nat → Int32)) (v_t_now : (Nat → Int32)) (v_t_trainAt : (Nat → Int32)) (v_t_trainsTo : (Nat → Int32)) (x_t_firstTrained : Int32) (x_t_leastTries : Int32) (x_t_taped : Int32) (x_t_trainMany : Int32) : Option (Int32 × (Nat → Int32) × (Nat → Int32) × (Nat → Int32) × (Nat → Int32) × Int32 × Int32 × Int32 × Int32) :=
  some ((-1 : Int32), v_t_aside, v_t_now, v_t_trainAt, v_t_trainsTo, x_t_firstTrained, x_t_leastTries, x_t_taped, x_t_trainMany)
def f_X12_training_b91 (v_t_aside : (Nat → Int32)) (v_t_now : (Nat → Int32)) (v_t_trainAt : (Nat → Int32)) (v_t_trainsTo : (Nat → Int32)) (x_t_firstTrained : Int32) (x_t_leastTries : Int32) (x_t_taped : Int32) (x_t_trainMany : Int32) (s0 : Int32) : Option (Int32 × (Nat → Int32) × (Nat → Int32) × (Nat → Int32) × (Nat → Int32) × Int32 × Int32 × Int32 × Int32) :=
  some (s0, v_t_aside, v_t_now, v_t_trainAt, v_t_trainsTo, x_t_firstTrained, x_t_leastTries, x_t_taped, x_t_trainMany)
def f_X12_training (v_t_aside : (Nat → Int32)) (v_t_now : (Nat → Int32)) (v_t_rhymeOf : (Nat → Int32)) (v_t_tape : (Nat → Int32)) (v_t_trainAt : (Nat → Int32)) (v_t_trainsTo : (Nat → Int32)) (x_t_firstTrained : Int32) (x_t_leastTries : Int32) (x_t_taped : Int32) (x_t_trainMany : Int32) (a1 : Int32) (a2 : Int32) (a3 : Int32) : Option (Int32 × (Nat → Int32) × (Nat → Int32) × (Nat → Int32) × (Nat → Int32) × Int32 × Int32 × Int32 × Int32) :=
  bd1 (f_X12_isTold v_t_now a1) (fun r1 =>
  if r1 = 0 then
    f_X12_training_b35 v_t_aside v_t_now v_t_trainAt v_t_trainsTo x_t_firstTrained x_t_leastTries x_t_taped x_t_trainMany
  else
    bd1 (f_X12_in a2 (1 : Int32) (6 : Int32)) (fun r2 =>
    if r2 = 0 then
      f_X12_training_b35 v_t_aside v_t_now v_t_trainAt v_t_trainsTo x_t_firstTrained x_t_leastTries x_t_taped x_t_trainMany
    else
      bd1 (f_X12_in a3 (0 : Int32) (1 : Int32)) (fun r3 =>
      if r3 = 0 then
        f_X12_training_b35 v_t_aside v_t_now v_t_trainAt v_t_trainsTo x_t_firstTrained x_t_leastTries x_t_taped x_t_trainMany
      else
        if a2 ≤ x_t_taped then
          bd1 (f_X12_areWords v_t_tape a2) (fun r4 =>
          if r4 = 0 then
            some ((-3 : Int32), v_t_aside, v_t_now, v_t_trainAt, v_t_trainsTo, x_t_firstTrained, x_t_leastTries, (0 : Int32), x_t_trainMany)
          else
            bd2 (f_X12_sortsWords v_t_tape v_t_trainsTo x_t_trainMany a2) (fun w5 w6 =>
            bd5 (f_X12_trains v_t_aside v_t_now v_t_rhymeOf v_t_trainAt w5 x_t_firstTrained x_t_leastTries w6 a1) (fun w7 w8 w9 w10 w11 =>
            if w11 = (1000000 : Int32) then
              some ((-4 : Int32), w7, w8, w9, w5, w10, w11, (0 : Int32), w6)
            else
              if a3 = 0 then
                f_X12_training_b91 w7 w8 w9 w5 w10 w11 (0 : Int32) w6 w11
              else
                f_X12_training_b91 w7 w8 w9 w5 w10 w11 (0 : Int32) w6 w10)))
        else
          f_X12_training_b35 v_t_aside v_t_now v_t_trainAt v_t_trainsTo x_t_firstTrained x_t_leastTries x_t_taped x_t_trainMany)))
set_option maxHeartbeats 4000000 in
set_option maxRecDepth 100000 in
theorem c_X12_training {l : Launch} {D : va_G} {cI cB : ClassId} {A_t A_t_now A_t_aside A_t_kept A_t_rhymeOf A_t_wasRhyme A_t_wordAt A_t_tape A_t_said A_t_waitsAt A_t_saidLetter A_t_saidFrom A_t_saidHalf A_t_saidTo A_t_codes A_t_clauseOf A_t_codeFrom A_t_codeHalf A_t_codeTo A_t_stack A_t_facts A_t_newWords A_t_roundFrom A_t_roundAt A_t_roundTimes A_t_leastFrom A_t_rowNow A_t_bornOf A_t_trainsTo A_t_trainAt : Nat} {x_t_wordMany x_t_taped x_t_place0 x_t_length0 x_t_fault x_t_number0 x_t_open x_t_codeMany x_t_waiting x_t_saidMany x_t_clauses x_t_lines x_t_newMany x_t_rounds x_t_itFrom x_t_itTimes x_t_writtenNow x_t_picturesNow x_t_usedNow x_t_chosen x_t_fearOfChosen x_t_changesNow x_t_left0 x_t_trainMany x_t_leastTries x_t_firstTrained x_t_isKept a1 a2 a3 : Int32} {v_t_aside v_t_now v_t_rhymeOf v_t_tape v_t_trainAt v_t_trainsTo : Nat → Int32} {o_r o_x_t_firstTrained o_x_t_leastTries o_x_t_taped o_x_t_trainMany : Int32} {o_v_t_aside o_v_t_now o_v_t_trainAt o_v_t_trainsTo : Nat → Int32} (hf : f_X12_training v_t_aside v_t_now v_t_rhymeOf v_t_tape v_t_trainAt v_t_trainsTo x_t_firstTrained x_t_leastTries x_t_taped x_t_trainMany a1 a2 a3 = some (o_r, o_v_t_aside, o_v_t_now, o_v_t_trainAt, o_v_t_trainsTo, o_x_t_firstTrained, o_x_t_leastTries, o_x_t_taped, o_x_t_trainMany)) : CtI l D cI cB yX12_training cX12_training 4 (some .int) 7 158 [.ref A_t, .int a1, .int a2, .int a3] [oX12 A_t A_t_now A_t_aside A_t_kept A_t_rhymeOf A_t_wasRhyme A_t_wordAt x_t_wordMany A_t_tape x_t_taped x_t_place0 x_t_length0 x_t_fault x_t_number0 x_t_open x_t_codeMany x_t_waiting x_t_saidMany x_t_clauses A_t_said A_t_waitsAt A_t_saidLetter A_t_saidFrom A_t_saidHalf A_t_saidTo A_t_codes A_t_clauseOf A_t_codeFrom A_t_codeHalf A_t_codeTo A_t_stack A_t_facts x_t_lines A_t_newWords A_t_roundFrom A_t_roundAt A_t_roundTimes x_t_newMany x_t_rounds x_t_itFrom x_t_itTimes x_t_writtenNow x_t_picturesNow x_t_usedNow x_t_chosen x_t_fearOfChosen A_t_leastFrom A_t_rowNow x_t_changesNow x_t_left0 A_t_bornOf A_t_trainsTo A_t_trainAt x_t_trainMany x_t_leastTries x_t_firstTrained x_t_isKept, iA cI 293 A_t_aside v_t_aside, iA cI 293 A_t_now v_t_now, iA cI 16 A_t_rhymeOf v_t_rhymeOf, iA cB 260 A_t_tape v_t_tape, iA cI 7 A_t_trainAt v_t_trainAt, iA cI 6 A_t_trainsTo v_t_trainsTo] [oX12 A_t A_t_now A_t_aside A_t_kept A_t_rhymeOf A_t_wasRhyme A_t_wordAt x_t_wordMany A_t_tape o_x_t_taped x_t_place0 x_t_length0 x_t_fault x_t_number0 x_t_open x_t_codeMany x_t_waiting x_t_saidMany x_t_clauses A_t_said A_t_waitsAt A_t_saidLetter A_t_saidFrom A_t_saidHalf A_t_saidTo A_t_codes A_t_clauseOf A_t_codeFrom A_t_codeHalf A_t_codeTo A_t_stack A_t_facts x_t_lines A_t_newWords A_t_roundFrom A_t_roundAt A_t_roundTimes x_t_newMany x_t_rounds x_t_itFrom x_t_itTimes x_t_writtenNow x_t_picturesNow x_t_usedNow x_t_chosen x_t_fearOfChosen A_t_leastFrom A_t_rowNow x_t_changesNow x_t_left0 A_t_bornOf A_t_trainsTo A_t_trainAt o_x_t_trainMany o_x_t_leastTries o_x_t_firstTrained x_t_isKept, iA cI 293 A_t_aside o_v_t_aside, iA cI 293 A_t_now o_v_t_now, iA cI 16 A_t_rhymeOf v_t_rhymeOf, iA cB 260 A_t_tape v_t_tape, iA cI 7 A_t_trainAt o_v_t_trainAt, iA cI 6 A_t_trainsTo o_v_t_trainsTo] o_r := by
  refine x_startI (by decide) (Nat.le_of_ble_eq_true rfl) ?_
  intro p e s m below meth c A C hr hlk hA hK hP hD hS ls hl
  have hl : lv_has ls 4 [(0, .ref A_t), (1, .int a1), (2, .int a2), (3, .int a3)] := hl
  have hx := C.1
  have hb := C.2.1
  unfold f_X12_training at hf
  have hb_35 : ∀ (v_t_aside : (Nat → Int32)) (v_t_now : (Nat → Int32)) (v_t_trainAt : (Nat → Int32)) (v_t_trainsTo : (Nat → Int32)) (x_t_firstTrained : Int32) (x_t_leastTries : Int32) (x_t_taped : Int32) (x_t_trainMany : Int32) (H : Heap) (locs : List Loc) (ls : Array Slot), lv_has ls 4 [] → va_P D vwCl [oX12 A_t A_t_now A_t_aside A_t_kept A_t_rhymeOf A_t_wasRhyme A_t_wordAt x_t_wordMany A_t_tape x_t_taped x_t_place0 x_t_length0 x_t_fault x_t_number0 x_t_open x_t_codeMany x_t_waiting x_t_saidMany x_t_clauses A_t_said A_t_waitsAt A_t_saidLetter A_t_saidFrom A_t_saidHalf A_t_saidTo A_t_codes A_t_clauseOf A_t_codeFrom A_t_codeHalf A_t_codeTo A_t_stack A_t_facts x_t_lines A_t_newWords A_t_roundFrom A_t_roundAt A_t_roundTimes x_t_newMany x_t_rounds x_t_itFrom x_t_itTimes x_t_writtenNow x_t_picturesNow x_t_usedNow x_t_chosen x_t_fearOfChosen A_t_leastFrom A_t_rowNow x_t_changesNow x_t_left0 A_t_bornOf A_t_trainsTo A_t_trainAt x_t_trainMany x_t_leastTries x_t_firstTrained x_t_isKept, iA cI 293 A_t_aside v_t_aside, iA cI 293 A_t_now v_t_now, iA cI 16 A_t_rhymeOf v_t_rhymeOf, iA cB 260 A_t_tape v_t_tape, iA cI 7 A_t_trainAt v_t_trainAt, iA cI 6 A_t_trainsTo v_t_trainsTo] H → va_D A [oX12 A_t A_t_now A_t_aside A_t_kept A_t_rhymeOf A_t_wasRhyme A_t_wordAt x_t_wordMany A_t_tape x_t_taped x_t_place0 x_t_length0 x_t_fault x_t_number0 x_t_open x_t_codeMany x_t_waiting x_t_saidMany x_t_clauses A_t_said A_t_waitsAt A_t_saidLetter A_t_saidFrom A_t_saidHalf A_t_saidTo A_t_codes A_t_clauseOf A_t_codeFrom A_t_codeHalf A_t_codeTo A_t_stack A_t_facts x_t_lines A_t_newWords A_t_roundFrom A_t_roundAt A_t_roundTimes x_t_newMany x_t_rounds x_t_itFrom x_t_itTimes x_t_writtenNow x_t_picturesNow x_t_usedNow x_t_chosen x_t_fearOfChosen A_t_leastFrom A_t_rowNow x_t_changesNow x_t_left0 A_t_bornOf A_t_trainsTo A_t_trainAt x_t_trainMany x_t_leastTries x_t_firstTrained x_t_isKept, iA cI 293 A_t_aside v_t_aside, iA cI 293 A_t_now v_t_now, iA cI 16 A_t_rhymeOf v_t_rhymeOf, iA cB 260 A_t_tape v_t_tape, iA cI 7 A_t_trainAt v_t_trainAt, iA cI 6 A_t_trainsTo v_t_trainsTo] → va_S A s.heap H locs → f_X12_training_b35 v_t_aside v_t_now v_t_trainAt v_t_trainsTo x_t_firstTrained x_t_leastTries x_t_taped x_t_trainMany = some (o_r, o_v_t_aside, o_v_t_now, o_v_t_trainAt, o_v_t_trainsTo, o_x_t_firstTrained, o_x_t_leastTries, o_x_t_taped, o_x_t_trainMany) → W p l e { frames := 7, cells := 0, slots := 0, locals := 158 } s m ([.ref A_t, .int a1, .int a2, .int a3] : List Value).toArray below meth c H locs 0 0 (MQ below (PoI D A [oX12 A_t A_t_now A_t_aside A_t_kept A_t_rhymeOf A_t_wasRhyme A_t_wordAt x_t_wordMany A_t_tape o_x_t_taped x_t_place0 x_t_length0 x_t_fault x_t_number0 x_t_open x_t_codeMany x_t_waiting x_t_saidMany x_t_clauses A_t_said A_t_waitsAt A_t_saidLetter A_t_saidFrom A_t_saidHalf A_t_saidTo A_t_codes A_t_clauseOf A_t_codeFrom A_t_codeHalf A_t_codeTo A_t_stack A_t_facts x_t_lines A_t_newWords A_t_roundFrom A_t_roundAt A_t_roundTimes x_t_newMany x_t_rounds x_t_itFrom x_t_itTimes x_t_writtenNow x_t_picturesNow x_t_usedNow x_t_chosen x_t_fearOfChosen A_t_leastFrom A_t_rowNow x_t_changesNow x_t_left0 A_t_bornOf A_t_trainsTo A_t_trainAt o_x_t_trainMany o_x_t_leastTries o_x_t_firstTrained x_t_isKept, iA cI 293 A_t_aside o_v_t_aside, iA cI 293 A_t_now o_v_t_now, iA cI 16 A_t_rhymeOf v_t_rhymeOf, iA cB 260 A_t_tape v_t_tape, iA cI 7 A_t_trainAt o_v_t_trainAt, iA cI 6 A_t_trainsTo o_v_t_trainsTo] o_r) ([.ref A_t, .int a1, .int a2, .int a3] : List Value).toArray s 0 0 A) (F0 m 35 ls []) := by
    intro v_t_aside v_t_now v_t_trainAt v_t_trainsTo x_t_firstTrained x_t_leastTries x_t_taped x_t_trainMany H locs ls hl hP hD hS hf
    unfold f_X12_training_b35 at hf
    refine lv_iconst (v := -1) hx hb dX12_training_35 (by decide) ?_
    obtain ⟨rfl, rfl, rfl, rfl, rfl, rfl, rfl, rfl, rfl⟩ := ev9 hf
    exact x_iret C hr hlk hP hD hS dX12_training_36
  have hb_91 : ∀ (v_t_aside : (Nat → Int32)) (v_t_now : (Nat → Int32)) (v_t_trainAt : (Nat → Int32)) (v_t_trainsTo : (Nat → Int32)) (x_t_firstTrained : Int32) (x_t_leastTries : Int32) (x_t_taped : Int32) (x_t_trainMany : Int32) (s0 : Int32) (H : Heap) (locs : List Loc) (ls : Array Slot), lv_has ls 4 [] → va_P D vwCl [oX12 A_t A_t_now A_t_aside A_t_kept A_t_rhymeOf A_t_wasRhyme A_t_wordAt x_t_wordMany A_t_tape x_t_taped x_t_place0 x_t_length0 x_t_fault x_t_number0 x_t_open x_t_codeMany x_t_waiting x_t_saidMany x_t_clauses A_t_said A_t_waitsAt A_t_saidLetter A_t_saidFrom A_t_saidHalf A_t_saidTo A_t_codes A_t_clauseOf A_t_codeFrom A_t_codeHalf A_t_codeTo A_t_stack A_t_facts x_t_lines A_t_newWords A_t_roundFrom A_t_roundAt A_t_roundTimes x_t_newMany x_t_rounds x_t_itFrom x_t_itTimes x_t_writtenNow x_t_picturesNow x_t_usedNow x_t_chosen x_t_fearOfChosen A_t_leastFrom A_t_rowNow x_t_changesNow x_t_left0 A_t_bornOf A_t_trainsTo A_t_trainAt x_t_trainMany x_t_leastTries x_t_firstTrained x_t_isKept, iA cI 293 A_t_aside v_t_aside, iA cI 293 A_t_now v_t_now, iA cI 16 A_t_rhymeOf v_t_rhymeOf, iA cB 260 A_t_tape v_t_tape, iA cI 7 A_t_trainAt v_t_trainAt, iA cI 6 A_t_trainsTo v_t_trainsTo] H → va_D A [oX12 A_t A_t_now A_t_aside A_t_kept A_t_rhymeOf A_t_wasRhyme A_t_wordAt x_t_wordMany A_t_tape x_t_taped x_t_place0 x_t_length0 x_t_fault x_t_number0 x_t_open x_t_codeMany x_t_waiting x_t_saidMany x_t_clauses A_t_said A_t_waitsAt A_t_saidLetter A_t_saidFrom A_t_saidHalf A_t_saidTo A_t_codes A_t_clauseOf A_t_codeFrom A_t_codeHalf A_t_codeTo A_t_stack A_t_facts x_t_lines A_t_newWords A_t_roundFrom A_t_roundAt A_t_roundTimes x_t_newMany x_t_rounds x_t_itFrom x_t_itTimes x_t_writtenNow x_t_picturesNow x_t_usedNow x_t_chosen x_t_fearOfChosen A_t_leastFrom A_t_rowNow x_t_changesNow x_t_left0 A_t_bornOf A_t_trainsTo A_t_trainAt x_t_trainMany x_t_leastTries x_t_firstTrained x_t_isKept, iA cI 293 A_t_aside v_t_aside, iA cI 293 A_t_now v_t_now, iA cI 16 A_t_rhymeOf v_t_rhymeOf, iA cB 260 A_t_tape v_t_tape, iA cI 7 A_t_trainAt v_t_trainAt, iA cI 6 A_t_trainsTo v_t_trainsTo] → va_S A s.heap H locs → f_X12_training_b91 v_t_aside v_t_now v_t_trainAt v_t_trainsTo x_t_firstTrained x_t_leastTries x_t_taped x_t_trainMany s0 = some (o_r, o_v_t_aside, o_v_t_now, o_v_t_trainAt, o_v_t_trainsTo, o_x_t_firstTrained, o_x_t_leastTries, o_x_t_taped, o_x_t_trainMany) → W p l e { frames := 7, cells := 0, slots := 0, locals := 158 } s m ([.ref A_t, .int a1, .int a2, .int a3] : List Value).toArray below meth c H locs 0 0 (MQ below (PoI D A [oX12 A_t A_t_now A_t_aside A_t_kept A_t_rhymeOf A_t_wasRhyme A_t_wordAt x_t_wordMany A_t_tape o_x_t_taped x_t_place0 x_t_length0 x_t_fault x_t_number0 x_t_open x_t_codeMany x_t_waiting x_t_saidMany x_t_clauses A_t_said A_t_waitsAt A_t_saidLetter A_t_saidFrom A_t_saidHalf A_t_saidTo A_t_codes A_t_clauseOf A_t_codeFrom A_t_codeHalf A_t_codeTo A_t_stack A_t_facts x_t_lines A_t_newWords A_t_roundFrom A_t_roundAt A_t_roundTimes x_t_newMany x_t_rounds x_t_itFrom x_t_itTimes x_t_writtenNow x_t_picturesNow x_t_usedNow x_t_chosen x_t_fearOfChosen A_t_leastFrom A_t_rowNow x_t_changesNow x_t_left0 A_t_bornOf A_t_trainsTo A_t_trainAt o_x_t_trainMany o_x_t_leastTries o_x_t_firstTrained x_t_isKept, iA cI 293 A_t_aside o_v_t_aside, iA cI 293 A_t_now o_v_t_now, iA cI 16 A_t_rhymeOf v_t_rhymeOf, iA cB 260 A_t_tape v_t_tape, iA cI 7 A_t_trainAt o_v_t_trainAt, iA cI 6 A_t_trainsTo o_v_t_trainsTo] o_r) ([.ref A_t, .int a1, .int a2, .int a3] : List Value).toArray s 0 0 A) (F0 m 91 ls [.int s0]) := by
    intro v_t_aside v_t_now v_t_trainAt v_t_trainsTo x_t_firstTrained x_t_leastTries x_t_taped x_t_trainMany s0 H locs ls hl hP hD hS hf
    unfold f_X12_training_b91 at hf
    obtain ⟨rfl, rfl, rfl, rfl, rfl, rfl, rfl, rfl, rfl⟩ := ev9 hf
    exact x_iret C hr hlk hP hD hS dX12_training_91
  refine lv_aload_n hx hb dX12_training_0 rfl (lv_at hl 0 rfl) ?_
  refine lv_iload_n hx hb dX12_training_1 rfl (lv_at hl 1 rfl) ?_
  obtain ⟨r1, hc2, hf⟩ := bd1_e hf
  refine x_callVI (ws' := [oX12 A_t A_t_now A_t_aside A_t_kept A_t_rhymeOf A_t_wasRhyme A_t_wordAt x_t_wordMany A_t_tape x_t_taped x_t_place0 x_t_length0 x_t_fault x_t_number0 x_t_open x_t_codeMany x_t_waiting x_t_saidMany x_t_clauses A_t_said A_t_waitsAt A_t_saidLetter A_t_saidFrom A_t_saidHalf A_t_saidTo A_t_codes A_t_clauseOf A_t_codeFrom A_t_codeHalf A_t_codeTo A_t_stack A_t_facts x_t_lines A_t_newWords A_t_roundFrom A_t_roundAt A_t_roundTimes x_t_newMany x_t_rounds x_t_itFrom x_t_itTimes x_t_writtenNow x_t_picturesNow x_t_usedNow x_t_chosen x_t_fearOfChosen A_t_leastFrom A_t_rowNow x_t_changesNow x_t_left0 A_t_bornOf A_t_trainsTo A_t_trainAt x_t_trainMany x_t_leastTries x_t_firstTrained x_t_isKept, iA cI 293 A_t_aside v_t_aside, iA cI 293 A_t_now v_t_now, iA cI 16 A_t_rhymeOf v_t_rhymeOf, iA cB 260 A_t_tape v_t_tape, iA cI 7 A_t_trainAt v_t_trainAt, iA cI 6 A_t_trainsTo v_t_trainsTo]) (rest := []) C hK hP hD hS hA hl mf_X12_109 (c_X12_isTold hc2) [0, 2] 0 12 rfl rfl rfl rfl rfl rfl rfl rfl rfl rfl (Nat.le_of_ble_eq_true rfl) ⟨Nat.le_of_ble_eq_true rfl, Nat.le_of_ble_eq_true rfl⟩ ⟨Nat.le_refl _, Nat.le_refl _⟩ dX12_training_2 ?_
  intro H locs hP hD hS
  refine lv_if_eq (tgt := 35) hx hb dX12_training_5 (by decide) (fun q => ?_) (fun q => ?_)
  · have hf := if_t q hf
    exact hb_35 v_t_aside v_t_now v_t_trainAt v_t_trainsTo x_t_firstTrained x_t_leastTries x_t_taped x_t_trainMany _ _ ls (lv_sub hl [] rfl) hP hD hS hf
  · have hf := if_f q hf
    refine lv_iload_n hx hb dX12_training_8 rfl (lv_at hl 2 rfl) ?_
    refine lv_iconst (v := 1) hx hb dX12_training_9 (by decide) ?_
    refine lv_bipush (v := 6) hx hb dX12_training_10 (by decide) ?_
    obtain ⟨r3, hc4, hf⟩ := bd1_e hf
    refine x_callSI (ws' := [oX12 A_t A_t_now A_t_aside A_t_kept A_t_rhymeOf A_t_wasRhyme A_t_wordAt x_t_wordMany A_t_tape x_t_taped x_t_place0 x_t_length0 x_t_fault x_t_number0 x_t_open x_t_codeMany x_t_waiting x_t_saidMany x_t_clauses A_t_said A_t_waitsAt A_t_saidLetter A_t_saidFrom A_t_saidHalf A_t_saidTo A_t_codes A_t_clauseOf A_t_codeFrom A_t_codeHalf A_t_codeTo A_t_stack A_t_facts x_t_lines A_t_newWords A_t_roundFrom A_t_roundAt A_t_roundTimes x_t_newMany x_t_rounds x_t_itFrom x_t_itTimes x_t_writtenNow x_t_picturesNow x_t_usedNow x_t_chosen x_t_fearOfChosen A_t_leastFrom A_t_rowNow x_t_changesNow x_t_left0 A_t_bornOf A_t_trainsTo A_t_trainAt x_t_trainMany x_t_leastTries x_t_firstTrained x_t_isKept, iA cI 293 A_t_aside v_t_aside, iA cI 293 A_t_now v_t_now, iA cI 16 A_t_rhymeOf v_t_rhymeOf, iA cB 260 A_t_tape v_t_tape, iA cI 7 A_t_trainAt v_t_trainAt, iA cI 6 A_t_trainsTo v_t_trainsTo]) (rest := []) C hK hP hD hS hA hl mf_X12_105 (c_X12_in hc4) [] rfl rfl rfl rfl rfl rfl rfl rfl (Nat.le_of_ble_eq_true rfl) ⟨Nat.le_of_ble_eq_true rfl, Nat.le_of_ble_eq_true rfl⟩ ⟨Nat.le_refl _, Nat.le_refl _⟩ dX12_training_12 ?_
    intro H locs hP hD hS
    refine lv_if_eq (tgt := 35) hx hb dX12_training_15 (by decide) (fun q => ?_) (fun q => ?_)
    · have hf := if_t q hf
      exact hb_35 v_t_aside v_t_now v_t_trainAt v_t_trainsTo x_t_firstTrained x_t_leastTries x_t_taped x_t_trainMany _ _ ls (lv_sub hl [] rfl) hP hD hS hf
    · have hf := if_f q hf
      refine lv_iload_n hx hb dX12_training_18 rfl (lv_at hl 3 rfl) ?_
      refine lv_iconst (v := 0) hx hb dX12_training_19 (by decide) ?_
      refine lv_iconst (v := 1) hx hb dX12_training_20 (by decide) ?_
      obtain ⟨r5, hc6, hf⟩ := bd1_e hf
      refine x_callSI (ws' := [oX12 A_t A_t_now A_t_aside A_t_kept A_t_rhymeOf A_t_wasRhyme A_t_wordAt x_t_wordMany A_t_tape x_t_taped x_t_place0 x_t_length0 x_t_fault x_t_number0 x_t_open x_t_codeMany x_t_waiting x_t_saidMany x_t_clauses A_t_said A_t_waitsAt A_t_saidLetter A_t_saidFrom A_t_saidHalf A_t_saidTo A_t_codes A_t_clauseOf A_t_codeFrom A_t_codeHalf A_t_codeTo A_t_stack A_t_facts x_t_lines A_t_newWords A_t_roundFrom A_t_roundAt A_t_roundTimes x_t_newMany x_t_rounds x_t_itFrom x_t_itTimes x_t_writtenNow x_t_picturesNow x_t_usedNow x_t_chosen x_t_fearOfChosen A_t_leastFrom A_t_rowNow x_t_changesNow x_t_left0 A_t_bornOf A_t_trainsTo A_t_trainAt x_t_trainMany x_t_leastTries x_t_firstTrained x_t_isKept, iA cI 293 A_t_aside v_t_aside, iA cI 293 A_t_now v_t_now, iA cI 16 A_t_rhymeOf v_t_rhymeOf, iA cB 260 A_t_tape v_t_tape, iA cI 7 A_t_trainAt v_t_trainAt, iA cI 6 A_t_trainsTo v_t_trainsTo]) (rest := []) C hK hP hD hS hA hl mf_X12_105 (c_X12_in hc6) [] rfl rfl rfl rfl rfl rfl rfl rfl (Nat.le_of_ble_eq_true rfl) ⟨Nat.le_of_ble_eq_true rfl, Nat.le_of_ble_eq_true rfl⟩ ⟨Nat.le_refl _, Nat.le_refl _⟩ dX12_training_21 ?_
      intro H locs hP hD hS
      refine lv_if_eq (tgt := 35) hx hb dX12_training_24 (by decide) (fun q => ?_) (fun q => ?_)
      · have hf := if_t q hf
        exact hb_35 v_t_aside v_t_now v_t_trainAt v_t_trainsTo x_t_firstTrained x_t_leastTries x_t_taped x_t_trainMany _ _ ls (lv_sub hl [] rfl) hP hD hS hf
      · have hf := if_f q hf
        refine lv_iload_n hx hb dX12_training_27 rfl (lv_at hl 2 rfl) ?_
        refine lv_aload_n hx hb dX12_training_28 rfl (lv_at hl 0 rfl) ?_
        refine x_get C hK hP fd_X12_143 0 rfl rfl dX12_training_29 ?_
        refine lv_icmp_le (tgt := 37) hx hb dX12_training_32 (by decide) (fun q => ?_) (fun q => ?_)
        · have hf := if_t q hf
          refine lv_aload_n hx hb dX12_training_37 rfl (lv_at hl 0 rfl) ?_
          refine lv_iconst (v := 0) hx hb dX12_training_38 (by decide) ?_
          refine x_put (ws' := [oX12 A_t A_t_now A_t_aside A_t_kept A_t_rhymeOf A_t_wasRhyme A_t_wordAt x_t_wordMany A_t_tape (0 : Int32) x_t_place0 x_t_length0 x_t_fault x_t_number0 x_t_open x_t_codeMany x_t_waiting x_t_saidMany x_t_clauses A_t_said A_t_waitsAt A_t_saidLetter A_t_saidFrom A_t_saidHalf A_t_saidTo A_t_codes A_t_clauseOf A_t_codeFrom A_t_codeHalf A_t_codeTo A_t_stack A_t_facts x_t_lines A_t_newWords A_t_roundFrom A_t_roundAt A_t_roundTimes x_t_newMany x_t_rounds x_t_itFrom x_t_itTimes x_t_writtenNow x_t_picturesNow x_t_usedNow x_t_chosen x_t_fearOfChosen A_t_leastFrom A_t_rowNow x_t_changesNow x_t_left0 A_t_bornOf A_t_trainsTo A_t_trainAt x_t_trainMany x_t_leastTries x_t_firstTrained x_t_isKept, iA cI 293 A_t_aside v_t_aside, iA cI 293 A_t_now v_t_now, iA cI 16 A_t_rhymeOf v_t_rhymeOf, iA cB 260 A_t_tape v_t_tape, iA cI 7 A_t_trainAt v_t_trainAt, iA cI 6 A_t_trainsTo v_t_trainsTo]) C hK hP hD hS fp_X12_143 0 rfl rfl rfl (Nat.le_of_ble_eq_true rfl) rfl dX12_training_39 ?_
          intro H locs hP hD hS
          refine lv_aload_n hx hb dX12_training_42 rfl (lv_at hl 0 rfl) ?_
          refine lv_iload_n hx hb dX12_training_43 rfl (lv_at hl 2 rfl) ?_
          obtain ⟨r7, hc8, hf⟩ := bd1_e hf
          refine x_callVI (ws' := [oX12 A_t A_t_now A_t_aside A_t_kept A_t_rhymeOf A_t_wasRhyme A_t_wordAt x_t_wordMany A_t_tape (0 : Int32) x_t_place0 x_t_length0 x_t_fault x_t_number0 x_t_open x_t_codeMany x_t_waiting x_t_saidMany x_t_clauses A_t_said A_t_waitsAt A_t_saidLetter A_t_saidFrom A_t_saidHalf A_t_saidTo A_t_codes A_t_clauseOf A_t_codeFrom A_t_codeHalf A_t_codeTo A_t_stack A_t_facts x_t_lines A_t_newWords A_t_roundFrom A_t_roundAt A_t_roundTimes x_t_newMany x_t_rounds x_t_itFrom x_t_itTimes x_t_writtenNow x_t_picturesNow x_t_usedNow x_t_chosen x_t_fearOfChosen A_t_leastFrom A_t_rowNow x_t_changesNow x_t_left0 A_t_bornOf A_t_trainsTo A_t_trainAt x_t_trainMany x_t_leastTries x_t_firstTrained x_t_isKept, iA cI 293 A_t_aside v_t_aside, iA cI 293 A_t_now v_t_now, iA cI 16 A_t_rhymeOf v_t_rhymeOf, iA cB 260 A_t_tape v_t_tape, iA cI 7 A_t_trainAt v_t_trainAt, iA cI 6 A_t_trainsTo v_t_trainsTo]) (rest := []) C hK hP hD hS hA hl mf_X12_412 (c_X12_areWords hc8) [0, 4] 0 12 rfl rfl rfl rfl rfl rfl rfl rfl rfl rfl (Nat.le_of_ble_eq_true rfl) ⟨Nat.le_of_ble_eq_true rfl, Nat.le_of_ble_eq_true rfl⟩ ⟨Nat.le_refl _, Nat.le_refl _⟩ dX12_training_44 ?_
          intro H locs hP hD hS
          refine lv_if_ne (tgt := 53) hx hb dX12_training_47 (by decide) (fun q => ?_) (fun q => ?_)
          · have hf := if_f q hf
            refine lv_aload_n hx hb dX12_training_53 rfl (lv_at hl 0 rfl) ?_
            refine lv_iload_n hx hb dX12_training_54 rfl (lv_at hl 2 rfl) ?_
            obtain ⟨w9, w10, hc11, hf⟩ := bd2_e hf
            refine x_callVV (ws' := [oX12 A_t A_t_now A_t_aside A_t_kept A_t_rhymeOf A_t_wasRhyme A_t_wordAt x_t_wordMany A_t_tape (0 : Int32) x_t_place0 x_t_length0 x_t_fault x_t_number0 x_t_open x_t_codeMany x_t_waiting x_t_saidMany x_t_clauses A_t_said A_t_waitsAt A_t_saidLetter A_t_saidFrom A_t_saidHalf A_t_saidTo A_t_codes A_t_clauseOf A_t_codeFrom A_t_codeHalf A_t_codeTo A_t_stack A_t_facts x_t_lines A_t_newWords A_t_roundFrom A_t_roundAt A_t_roundTimes x_t_newMany x_t_rounds x_t_itFrom x_t_itTimes x_t_writtenNow x_t_picturesNow x_t_usedNow x_t_chosen x_t_fearOfChosen A_t_leastFrom A_t_rowNow x_t_changesNow x_t_left0 A_t_bornOf A_t_trainsTo A_t_trainAt w10 x_t_leastTries x_t_firstTrained x_t_isKept, iA cI 293 A_t_aside v_t_aside, iA cI 293 A_t_now v_t_now, iA cI 16 A_t_rhymeOf v_t_rhymeOf, iA cB 260 A_t_tape v_t_tape, iA cI 7 A_t_trainAt v_t_trainAt, iA cI 6 A_t_trainsTo w9]) (rest := []) C hK hP hD hS hA hl mf_X12_415 (c_X12_sortsWords hc11) [0, 4, 6] 0 12 rfl rfl rfl rfl rfl rfl rfl rfl rfl rfl (Nat.le_of_ble_eq_true rfl) ⟨Nat.le_of_ble_eq_true rfl, Nat.le_of_ble_eq_true rfl⟩ ⟨Nat.le_refl _, Nat.le_refl _⟩ dX12_training_55 ?_
            intro H locs hP hD hS
            refine lv_aload_n hx hb dX12_training_58 rfl (lv_at hl 0 rfl) ?_
            refine lv_iload_n hx hb dX12_training_59 rfl (lv_at hl 1 rfl) ?_
            obtain ⟨w12, w13, w14, w15, w16, hc17, hf⟩ := bd5_e hf
            refine x_callVV (ws' := [oX12 A_t A_t_now A_t_aside A_t_kept A_t_rhymeOf A_t_wasRhyme A_t_wordAt x_t_wordMany A_t_tape (0 : Int32) x_t_place0 x_t_length0 x_t_fault x_t_number0 x_t_open x_t_codeMany x_t_waiting x_t_saidMany x_t_clauses A_t_said A_t_waitsAt A_t_saidLetter A_t_saidFrom A_t_saidHalf A_t_saidTo A_t_codes A_t_clauseOf A_t_codeFrom A_t_codeHalf A_t_codeTo A_t_stack A_t_facts x_t_lines A_t_newWords A_t_roundFrom A_t_roundAt A_t_roundTimes x_t_newMany x_t_rounds x_t_itFrom x_t_itTimes x_t_writtenNow x_t_picturesNow x_t_usedNow x_t_chosen x_t_fearOfChosen A_t_leastFrom A_t_rowNow x_t_changesNow x_t_left0 A_t_bornOf A_t_trainsTo A_t_trainAt w10 w16 w15 x_t_isKept, iA cI 293 A_t_aside w12, iA cI 293 A_t_now w13, iA cI 16 A_t_rhymeOf v_t_rhymeOf, iA cB 260 A_t_tape v_t_tape, iA cI 7 A_t_trainAt w14, iA cI 6 A_t_trainsTo w9]) (rest := []) C hK hP hD hS hA hl mf_X12_418 (c_X12_trains hc17) [0, 1, 2, 3, 5, 6] 0 12 rfl rfl rfl rfl rfl rfl rfl rfl rfl rfl (Nat.le_of_ble_eq_true rfl) ⟨Nat.le_of_ble_eq_true rfl, Nat.le_of_ble_eq_true rfl⟩ ⟨Nat.le_refl _, Nat.le_refl _⟩ dX12_training_60 ?_
            intro H locs hP hD hS
            refine lv_aload_n hx hb dX12_training_63 rfl (lv_at hl 0 rfl) ?_
            refine x_get C hK hP fd_X12_403 0 rfl rfl dX12_training_64 ?_
            refine x_ldcw C kc_X12_306 dX12_training_67 ?_
            refine lv_icmp_ne (tgt := 76) hx hb dX12_training_70 (by decide) (fun q => ?_) (fun q => ?_)
            · have hf := if_f q hf
              refine lv_iload_n hx hb dX12_training_76 rfl (lv_at hl 3 rfl) ?_
              refine lv_if_ne (tgt := 87) hx hb dX12_training_77 (by decide) (fun q => ?_) (fun q => ?_)
              · have hf := if_f q hf
                refine lv_aload_n hx hb dX12_training_87 rfl (lv_at hl 0 rfl) ?_
                refine x_get C hK hP fd_X12_406 0 rfl rfl dX12_training_88 ?_
                exact hb_91 w12 w13 w14 w9 w15 w16 (0 : Int32) w10 w15 _ _ ls (lv_sub hl [] rfl) hP hD hS hf
              · have hf := if_t q hf
                refine lv_aload_n hx hb dX12_training_80 rfl (lv_at hl 0 rfl) ?_
                refine x_get C hK hP fd_X12_403 0 rfl rfl dX12_training_81 ?_
                refine lv_goto (tgt := 91) hx hb dX12_training_84 (by decide) ?_
                exact hb_91 w12 w13 w14 w9 w15 w16 (0 : Int32) w10 w16 _ _ ls (lv_sub hl [] rfl) hP hD hS hf
            · have hf := if_t q hf
              refine lv_bipush (v := -4) hx hb dX12_training_73 (by decide) ?_
              obtain ⟨rfl, rfl, rfl, rfl, rfl, rfl, rfl, rfl, rfl⟩ := ev9 hf
              exact x_iret C hr hlk hP hD hS dX12_training_75
          · have hf := if_t q hf
            refine lv_bipush (v := -3) hx hb dX12_training_50 (by decide) ?_
            obtain ⟨rfl, rfl, rfl, rfl, rfl, rfl, rfl, rfl, rfl⟩ := ev9 hf
            exact x_iret C hr hlk hP hD hS dX12_training_52
        · have hf := if_f q hf
          exact hb_35 v_t_aside v_t_now v_t_trainAt v_t_trainsTo x_t_firstTrained x_t_leastTries x_t_taped x_t_trainMany _ _ ls (lv_sub hl [] rfl) hP hD hS hf
def f_X12_borne_b62 (a1 : Int32) (k23 : Int32 → Int32 → Int32 → Int32 → Option (Int32)) (l2 : Int32) (l3 : Int32) (l4 : Int32) (l5 : Int32) : Option (Int32) :=
  k23 l2 l3 l4 (l5 + (1 : Int32))
def f_X12_borne_b96 (a1 : Int32) (k71 : Int32 → Int32 → Int32 → Int32 → Option (Int32)) (l2 : Int32) (l3 : Int32) (l4 : Int32) (l5 : Int32) : Option (Int32) :=
  k71 l2 l3 l4 (l5 + (1 : Int32))
def f_X12_borne_b121 (s0 : Int32) : Option (Int32) :=
  some s0
def f_X12_borne_b71 (v_t_rhymeOf : (Nat → Int32)) (a1 : Int32) : Nat → Int32 → Int32 → Int32 → Int32 → Option (Int32)
  | 0, _, _, _, _ => none
  | n + 1, l2, l3, l4, l5 =>
    if (16 : Int32) ≤ l5 then
      if a1 = 0 then
        f_X12_borne_b121 l2
      else
        if a1 = (1 : Int32) then
          f_X12_borne_b121 l3
        else
          f_X12_borne_b121 l4
    else
      gI 16 v_t_rhymeOf l5 (fun g1 =>
      if g1 ≤ l5 then
        f_X12_borne_b96 a1 (f_X12_borne_b71 v_t_rhymeOf a1 n) l2 l3 l4 l5
      else
        f_X12_borne_b96 a1 (f_X12_borne_b71 v_t_rhymeOf a1 n) l2 l3 (l4 + (1 : Int32)) l5)
def f_X12_borne_b23 (v_t_now : (Nat → Int32)) (v_t_rhymeOf : (Nat → Int32)) (a1 : Int32) : Nat → Int32 → Int32 → Int32 → Int32 → Option (Int32)
  | 0, _, _, _, _ => none
  | n + 1, l2, l3, l4, l5 =>
    if (8 : Int32) ≤ l5 then
      f_X12_borne_b71 v_t_rhymeOf a1 FU l2 l3 l4 (0 : Int32)
    else
      bd1 (f_X12_isTold v_t_now l5) (fun r1 =>
      if r1 = 0 then
        f_X12_borne_b62 a1 (f_X12_borne_b23 v_t_now v_t_rhymeOf a1 n) l2 l3 l4 l5
      else
        bd1 (f_X12_bornBy v_t_now v_t_rhymeOf l5) (fun r2 =>
        bd1 (f_X12_bornBy v_t_now v_t_rhymeOf l5) (fun r3 =>
        f_X12_borne_b62 a1 (f_X12_borne_b23 v_t_now v_t_rhymeOf a1 n) (l2 &&& r2) (l3 &&& (r3 ^^^ (-1 : Int32))) l4 l5)))
def f_X12_borne (v_t_now : (Nat → Int32)) (v_t_rhymeOf : (Nat → Int32)) (a1 : Int32) : Option (Int32) :=
  bd1 (f_X12_in a1 (0 : Int32) (2 : Int32)) (fun r4 =>
  if r4 = 0 then
    some (-1 : Int32)
  else
    f_X12_borne_b23 v_t_now v_t_rhymeOf a1 FU (65535 : Int32) (65535 : Int32) (0 : Int32) (0 : Int32))
set_option maxHeartbeats 4000000 in
set_option maxRecDepth 100000 in
theorem c_X12_borne {l : Launch} {D : va_G} {cI cB : ClassId} {A_t A_t_now A_t_aside A_t_kept A_t_rhymeOf A_t_wasRhyme A_t_wordAt A_t_tape A_t_said A_t_waitsAt A_t_saidLetter A_t_saidFrom A_t_saidHalf A_t_saidTo A_t_codes A_t_clauseOf A_t_codeFrom A_t_codeHalf A_t_codeTo A_t_stack A_t_facts A_t_newWords A_t_roundFrom A_t_roundAt A_t_roundTimes A_t_leastFrom A_t_rowNow A_t_bornOf A_t_trainsTo A_t_trainAt : Nat} {x_t_wordMany x_t_taped x_t_place0 x_t_length0 x_t_fault x_t_number0 x_t_open x_t_codeMany x_t_waiting x_t_saidMany x_t_clauses x_t_lines x_t_newMany x_t_rounds x_t_itFrom x_t_itTimes x_t_writtenNow x_t_picturesNow x_t_usedNow x_t_chosen x_t_fearOfChosen x_t_changesNow x_t_left0 x_t_trainMany x_t_leastTries x_t_firstTrained x_t_isKept a1 : Int32} {v_t_now v_t_rhymeOf : Nat → Int32} {o_r : Int32} (hf : f_X12_borne v_t_now v_t_rhymeOf a1 = some o_r) : CtI l D cI cB yX12_borne cX12_borne 6 (some .int) 6 132 [.ref A_t, .int a1] [oX12 A_t A_t_now A_t_aside A_t_kept A_t_rhymeOf A_t_wasRhyme A_t_wordAt x_t_wordMany A_t_tape x_t_taped x_t_place0 x_t_length0 x_t_fault x_t_number0 x_t_open x_t_codeMany x_t_waiting x_t_saidMany x_t_clauses A_t_said A_t_waitsAt A_t_saidLetter A_t_saidFrom A_t_saidHalf A_t_saidTo A_t_codes A_t_clauseOf A_t_codeFrom A_t_codeHalf A_t_codeTo A_t_stack A_t_facts x_t_lines A_t_newWords A_t_roundFrom A_t_roundAt A_t_roundTimes x_t_newMany x_t_rounds x_t_itFrom x_t_itTimes x_t_writtenNow x_t_picturesNow x_t_usedNow x_t_chosen x_t_fearOfChosen A_t_leastFrom A_t_rowNow x_t_changesNow x_t_left0 A_t_bornOf A_t_trainsTo A_t_trainAt x_t_trainMany x_t_leastTries x_t_firstTrained x_t_isKept, iA cI 293 A_t_now v_t_now, iA cI 16 A_t_rhymeOf v_t_rhymeOf] [oX12 A_t A_t_now A_t_aside A_t_kept A_t_rhymeOf A_t_wasRhyme A_t_wordAt x_t_wordMany A_t_tape x_t_taped x_t_place0 x_t_length0 x_t_fault x_t_number0 x_t_open x_t_codeMany x_t_waiting x_t_saidMany x_t_clauses A_t_said A_t_waitsAt A_t_saidLetter A_t_saidFrom A_t_saidHalf A_t_saidTo A_t_codes A_t_clauseOf A_t_codeFrom A_t_codeHalf A_t_codeTo A_t_stack A_t_facts x_t_lines A_t_newWords A_t_roundFrom A_t_roundAt A_t_roundTimes x_t_newMany x_t_rounds x_t_itFrom x_t_itTimes x_t_writtenNow x_t_picturesNow x_t_usedNow x_t_chosen x_t_fearOfChosen A_t_leastFrom A_t_rowNow x_t_changesNow x_t_left0 A_t_bornOf A_t_trainsTo A_t_trainAt x_t_trainMany x_t_leastTries x_t_firstTrained x_t_isKept, iA cI 293 A_t_now v_t_now, iA cI 16 A_t_rhymeOf v_t_rhymeOf] o_r := by
  refine x_startI (by decide) (Nat.le_of_ble_eq_true rfl) ?_
  intro p e s m below meth c A C hr hlk hA hK hP hD hS ls hl
  have hl : lv_has ls 6 [(0, .ref A_t), (1, .int a1)] := hl
  have hx := C.1
  have hb := C.2.1
  unfold f_X12_borne at hf
  have hb_121 : ∀ (s0 : Int32) (H : Heap) (locs : List Loc) (ls : Array Slot), lv_has ls 6 [] → va_P D vwCl [oX12 A_t A_t_now A_t_aside A_t_kept A_t_rhymeOf A_t_wasRhyme A_t_wordAt x_t_wordMany A_t_tape x_t_taped x_t_place0 x_t_length0 x_t_fault x_t_number0 x_t_open x_t_codeMany x_t_waiting x_t_saidMany x_t_clauses A_t_said A_t_waitsAt A_t_saidLetter A_t_saidFrom A_t_saidHalf A_t_saidTo A_t_codes A_t_clauseOf A_t_codeFrom A_t_codeHalf A_t_codeTo A_t_stack A_t_facts x_t_lines A_t_newWords A_t_roundFrom A_t_roundAt A_t_roundTimes x_t_newMany x_t_rounds x_t_itFrom x_t_itTimes x_t_writtenNow x_t_picturesNow x_t_usedNow x_t_chosen x_t_fearOfChosen A_t_leastFrom A_t_rowNow x_t_changesNow x_t_left0 A_t_bornOf A_t_trainsTo A_t_trainAt x_t_trainMany x_t_leastTries x_t_firstTrained x_t_isKept, iA cI 293 A_t_now v_t_now, iA cI 16 A_t_rhymeOf v_t_rhymeOf] H → va_D A [oX12 A_t A_t_now A_t_aside A_t_kept A_t_rhymeOf A_t_wasRhyme A_t_wordAt x_t_wordMany A_t_tape x_t_taped x_t_place0 x_t_length0 x_t_fault x_t_number0 x_t_open x_t_codeMany x_t_waiting x_t_saidMany x_t_clauses A_t_said A_t_waitsAt A_t_saidLetter A_t_saidFrom A_t_saidHalf A_t_saidTo A_t_codes A_t_clauseOf A_t_codeFrom A_t_codeHalf A_t_codeTo A_t_stack A_t_facts x_t_lines A_t_newWords A_t_roundFrom A_t_roundAt A_t_roundTimes x_t_newMany x_t_rounds x_t_itFrom x_t_itTimes x_t_writtenNow x_t_picturesNow x_t_usedNow x_t_chosen x_t_fearOfChosen A_t_leastFrom A_t_rowNow x_t_changesNow x_t_left0 A_t_bornOf A_t_trainsTo A_t_trainAt x_t_trainMany x_t_leastTries x_t_firstTrained x_t_isKept, iA cI 293 A_t_now v_t_now, iA cI 16 A_t_rhymeOf v_t_rhymeOf] → va_S A s.heap H locs → f_X12_borne_b121 s0 = some o_r → W p l e { frames := 6, cells := 0, slots := 0, locals := 132 } s m ([.ref A_t, .int a1] : List Value).toArray below meth c H locs 0 0 (MQ below (PoI D A [oX12 A_t A_t_now A_t_aside A_t_kept A_t_rhymeOf A_t_wasRhyme A_t_wordAt x_t_wordMany A_t_tape x_t_taped x_t_place0 x_t_length0 x_t_fault x_t_number0 x_t_open x_t_codeMany x_t_waiting x_t_saidMany x_t_clauses A_t_said A_t_waitsAt A_t_saidLetter A_t_saidFrom A_t_saidHalf A_t_saidTo A_t_codes A_t_clauseOf A_t_codeFrom A_t_codeHalf A_t_codeTo A_t_stack A_t_facts x_t_lines A_t_newWords A_t_roundFrom A_t_roundAt A_t_roundTimes x_t_newMany x_t_rounds x_t_itFrom x_t_itTimes x_t_writtenNow x_t_picturesNow x_t_usedNow x_t_chosen x_t_fearOfChosen A_t_leastFrom A_t_rowNow x_t_changesNow x_t_left0 A_t_bornOf A_t_trainsTo A_t_trainAt x_t_trainMany x_t_leastTries x_t_firstTrained x_t_isKept, iA cI 293 A_t_now v_t_now, iA cI 16 A_t_rhymeOf v_t_rhymeOf] o_r) ([.ref A_t, .int a1] : List Value).toArray s 0 0 A) (F0 m 121 ls [.int s0]) := by
    intro s0 H locs ls hl hP hD hS hf
    unfold f_X12_borne_b121 at hf
    obtain rfl := ev1 hf
    exact x_iret C hr hlk hP hD hS dX12_borne_121
  have hb_71 : ∀ (n_71 : Nat) (l2 : Int32) (l3 : Int32) (l4 : Int32) (l5 : Int32) (H : Heap) (locs : List Loc) (ls : Array Slot), lv_has ls 6 [(0, .ref A_t), (1, .int a1), (2, .int l2), (3, .int l3), (4, .int l4), (5, .int l5)] → va_P D vwCl [oX12 A_t A_t_now A_t_aside A_t_kept A_t_rhymeOf A_t_wasRhyme A_t_wordAt x_t_wordMany A_t_tape x_t_taped x_t_place0 x_t_length0 x_t_fault x_t_number0 x_t_open x_t_codeMany x_t_waiting x_t_saidMany x_t_clauses A_t_said A_t_waitsAt A_t_saidLetter A_t_saidFrom A_t_saidHalf A_t_saidTo A_t_codes A_t_clauseOf A_t_codeFrom A_t_codeHalf A_t_codeTo A_t_stack A_t_facts x_t_lines A_t_newWords A_t_roundFrom A_t_roundAt A_t_roundTimes x_t_newMany x_t_rounds x_t_itFrom x_t_itTimes x_t_writtenNow x_t_picturesNow x_t_usedNow x_t_chosen x_t_fearOfChosen A_t_leastFrom A_t_rowNow x_t_changesNow x_t_left0 A_t_bornOf A_t_trainsTo A_t_trainAt x_t_trainMany x_t_leastTries x_t_firstTrained x_t_isKept, iA cI 293 A_t_now v_t_now, iA cI 16 A_t_rhymeOf v_t_rhymeOf] H → va_D A [oX12 A_t A_t_now A_t_aside A_t_kept A_t_rhymeOf A_t_wasRhyme A_t_wordAt x_t_wordMany A_t_tape x_t_taped x_t_place0 x_t_length0 x_t_fault x_t_number0 x_t_open x_t_codeMany x_t_waiting x_t_saidMany x_t_clauses A_t_said A_t_waitsAt A_t_saidLetter A_t_saidFrom A_t_saidHalf A_t_saidTo A_t_codes A_t_clauseOf A_t_codeFrom A_t_codeHalf A_t_codeTo A_t_stack A_t_facts x_t_lines A_t_newWords A_t_roundFrom A_t_roundAt A_t_roundTimes x_t_newMany x_t_rounds x_t_itFrom x_t_itTimes x_t_writtenNow x_t_picturesNow x_t_usedNow x_t_chosen x_t_fearOfChosen A_t_leastFrom A_t_rowNow x_t_changesNow x_t_left0 A_t_bornOf A_t_trainsTo A_t_trainAt x_t_trainMany x_t_leastTries x_t_firstTrained x_t_isKept, iA cI 293 A_t_now v_t_now, iA cI 16 A_t_rhymeOf v_t_rhymeOf] → va_S A s.heap H locs → f_X12_borne_b71 v_t_rhymeOf a1 n_71 l2 l3 l4 l5 = some o_r → W p l e { frames := 6, cells := 0, slots := 0, locals := 132 } s m ([.ref A_t, .int a1] : List Value).toArray below meth c H locs 0 0 (MQ below (PoI D A [oX12 A_t A_t_now A_t_aside A_t_kept A_t_rhymeOf A_t_wasRhyme A_t_wordAt x_t_wordMany A_t_tape x_t_taped x_t_place0 x_t_length0 x_t_fault x_t_number0 x_t_open x_t_codeMany x_t_waiting x_t_saidMany x_t_clauses A_t_said A_t_waitsAt A_t_saidLetter A_t_saidFrom A_t_saidHalf A_t_saidTo A_t_codes A_t_clauseOf A_t_codeFrom A_t_codeHalf A_t_codeTo A_t_stack A_t_facts x_t_lines A_t_newWords A_t_roundFrom A_t_roundAt A_t_roundTimes x_t_newMany x_t_rounds x_t_itFrom x_t_itTimes x_t_writtenNow x_t_picturesNow x_t_usedNow x_t_chosen x_t_fearOfChosen A_t_leastFrom A_t_rowNow x_t_changesNow x_t_left0 A_t_bornOf A_t_trainsTo A_t_trainAt x_t_trainMany x_t_leastTries x_t_firstTrained x_t_isKept, iA cI 293 A_t_now v_t_now, iA cI 16 A_t_rhymeOf v_t_rhymeOf] o_r) ([.ref A_t, .int a1] : List Value).toArray s 0 0 A) (F0 m 71 ls []) := by
    intro n_71
    induction n_71 with
    | zero =>
      intro l2 l3 l4 l5 H locs ls hl hP hD hS hf
      exact absurd hf (fun h => by rw [f_X12_borne_b71] at h; cases h)
    | succ n_71 ih_71 =>
      have hb_96 : ∀ (l2 : Int32) (l3 : Int32) (l4 : Int32) (l5 : Int32) (H : Heap) (locs : List Loc) (ls : Array Slot), lv_has ls 6 [(0, .ref A_t), (1, .int a1), (2, .int l2), (3, .int l3), (4, .int l4), (5, .int l5)] → va_P D vwCl [oX12 A_t A_t_now A_t_aside A_t_kept A_t_rhymeOf A_t_wasRhyme A_t_wordAt x_t_wordMany A_t_tape x_t_taped x_t_place0 x_t_length0 x_t_fault x_t_number0 x_t_open x_t_codeMany x_t_waiting x_t_saidMany x_t_clauses A_t_said A_t_waitsAt A_t_saidLetter A_t_saidFrom A_t_saidHalf A_t_saidTo A_t_codes A_t_clauseOf A_t_codeFrom A_t_codeHalf A_t_codeTo A_t_stack A_t_facts x_t_lines A_t_newWords A_t_roundFrom A_t_roundAt A_t_roundTimes x_t_newMany x_t_rounds x_t_itFrom x_t_itTimes x_t_writtenNow x_t_picturesNow x_t_usedNow x_t_chosen x_t_fearOfChosen A_t_leastFrom A_t_rowNow x_t_changesNow x_t_left0 A_t_bornOf A_t_trainsTo A_t_trainAt x_t_trainMany x_t_leastTries x_t_firstTrained x_t_isKept, iA cI 293 A_t_now v_t_now, iA cI 16 A_t_rhymeOf v_t_rhymeOf] H → va_D A [oX12 A_t A_t_now A_t_aside A_t_kept A_t_rhymeOf A_t_wasRhyme A_t_wordAt x_t_wordMany A_t_tape x_t_taped x_t_place0 x_t_length0 x_t_fault x_t_number0 x_t_open x_t_codeMany x_t_waiting x_t_saidMany x_t_clauses A_t_said A_t_waitsAt A_t_saidLetter A_t_saidFrom A_t_saidHalf A_t_saidTo A_t_codes A_t_clauseOf A_t_codeFrom A_t_codeHalf A_t_codeTo A_t_stack A_t_facts x_t_lines A_t_newWords A_t_roundFrom A_t_roundAt A_t_roundTimes x_t_newMany x_t_rounds x_t_itFrom x_t_itTimes x_t_writtenNow x_t_picturesNow x_t_usedNow x_t_chosen x_t_fearOfChosen A_t_leastFrom A_t_rowNow x_t_changesNow x_t_left0 A_t_bornOf A_t_trainsTo A_t_trainAt x_t_trainMany x_t_leastTries x_t_firstTrained x_t_isKept, iA cI 293 A_t_now v_t_now, iA cI 16 A_t_rhymeOf v_t_rhymeOf] → va_S A s.heap H locs → f_X12_borne_b96 a1 (f_X12_borne_b71 v_t_rhymeOf a1 n_71) l2 l3 l4 l5 = some o_r → W p l e { frames := 6, cells := 0, slots := 0, locals := 132 } s m ([.ref A_t, .int a1] : List Value).toArray below meth c H locs 0 0 (MQ below (PoI D A [oX12 A_t A_t_now A_t_aside A_t_kept A_t_rhymeOf A_t_wasRhyme A_t_wordAt x_t_wordMany A_t_tape x_t_taped x_t_place0 x_t_length0 x_t_fault x_t_number0 x_t_open x_t_codeMany x_t_waiting x_t_saidMany x_t_clauses A_t_said A_t_waitsAt A_t_saidLetter A_t_saidFrom A_t_saidHalf A_t_saidTo A_t_codes A_t_clauseOf A_t_codeFrom A_t_codeHalf A_t_codeTo A_t_stack A_t_facts x_t_lines A_t_newWords A_t_roundFrom A_t_roundAt A_t_roundTimes x_t_newMany x_t_rounds x_t_itFrom x_t_itTimes x_t_writtenNow x_t_picturesNow x_t_usedNow x_t_chosen x_t_fearOfChosen A_t_leastFrom A_t_rowNow x_t_changesNow x_t_left0 A_t_bornOf A_t_trainsTo A_t_trainAt x_t_trainMany x_t_leastTries x_t_firstTrained x_t_isKept, iA cI 293 A_t_now v_t_now, iA cI 16 A_t_rhymeOf v_t_rhymeOf] o_r) ([.ref A_t, .int a1] : List Value).toArray s 0 0 A) (F0 m 96 ls []) := by
        intro l2 l3 l4 l5 H locs ls hl hP hD hS hf
        unfold f_X12_borne_b96 at hf
        refine lv_iinc (v := (l5 + (1 : Int32))) (lv' := [(5, .int (l5 + (1 : Int32))), (0, .ref A_t), (1, .int a1), (2, .int l2), (3, .int l3), (4, .int l4)]) hx hb dX12_borne_96 hl (k := 5) rfl rfl (by decide) rfl (fun ls hl => ?_)
        refine lv_goto (tgt := 71) hx hb dX12_borne_99 (by decide) ?_
        exact ih_71 l2 l3 l4 (l5 + (1 : Int32)) _ _ ls (lv_sub hl [1, 2, 3, 4, 5, 0] rfl) hP hD hS hf
      intro l2 l3 l4 l5 H locs ls hl hP hD hS hf
      rw [f_X12_borne_b71] at hf
      refine lv_iload hx hb dX12_borne_71 (lv_at hl 5 rfl) ?_
      refine lv_bipush (v := 16) hx hb dX12_borne_73 (by decide) ?_
      refine lv_icmp_ge (tgt := 102) hx hb dX12_borne_75 (by decide) (fun q => ?_) (fun q => ?_)
      · have hf := if_t q hf
        refine lv_iload_n hx hb dX12_borne_102 rfl (lv_at hl 1 rfl) ?_
        refine lv_if_ne (tgt := 110) hx hb dX12_borne_103 (by decide) (fun q => ?_) (fun q => ?_)
        · have hf := if_f q hf
          refine lv_iload_n hx hb dX12_borne_110 rfl (lv_at hl 1 rfl) ?_
          refine lv_iconst (v := 1) hx hb dX12_borne_111 (by decide) ?_
          refine lv_icmp_ne (tgt := 119) hx hb dX12_borne_112 (by decide) (fun q => ?_) (fun q => ?_)
          · have hf := if_f q hf
            refine lv_iload hx hb dX12_borne_119 (lv_at hl 4 rfl) ?_
            exact hb_121 l4 _ _ ls (lv_sub hl [] rfl) hP hD hS hf
          · have hf := if_t q hf
            refine lv_iload_n hx hb dX12_borne_115 rfl (lv_at hl 3 rfl) ?_
            refine lv_goto (tgt := 121) hx hb dX12_borne_116 (by decide) ?_
            exact hb_121 l3 _ _ ls (lv_sub hl [] rfl) hP hD hS hf
        · have hf := if_t q hf
          refine lv_iload_n hx hb dX12_borne_106 rfl (lv_at hl 2 rfl) ?_
          refine lv_goto (tgt := 121) hx hb dX12_borne_107 (by decide) ?_
          exact hb_121 l2 _ _ ls (lv_sub hl [] rfl) hP hD hS hf
      · have hf := if_f q hf
        refine lv_aload_n hx hb dX12_borne_78 rfl (lv_at hl 0 rfl) ?_
        refine x_get C hK hP fd_X12_19 0 rfl rfl dX12_borne_79 ?_
        refine lv_iload hx hb dX12_borne_82 (lv_at hl 5 rfl) ?_
        obtain ⟨hi, hf⟩ := gI_e hf
        refine x_iald C hK hP 2 rfl hi dX12_borne_84 ?_
        refine lv_iload hx hb dX12_borne_85 (lv_at hl 5 rfl) ?_
        refine lv_icmp_le (tgt := 96) hx hb dX12_borne_87 (by decide) (fun q => ?_) (fun q => ?_)
        · have hf := if_t q hf
          exact hb_96 l2 l3 l4 l5 _ _ ls (lv_sub hl [0, 1, 2, 3, 4, 5] rfl) hP hD hS hf
        · have hf := if_f q hf
          refine lv_iload hx hb dX12_borne_90 (lv_at hl 4 rfl) ?_
          refine lv_iconst (v := 1) hx hb dX12_borne_92 (by decide) ?_
          refine lv_iadd hx hb dX12_borne_93 ?_
          refine lv_istore (lv' := [(4, .int (l4 + (1 : Int32))), (0, .ref A_t), (1, .int a1), (2, .int l2), (3, .int l3), (5, .int l5)]) hx hb dX12_borne_94 hl (by decide) rfl (fun ls hl => ?_)
          exact hb_96 l2 l3 (l4 + (1 : Int32)) l5 _ _ ls (lv_sub hl [1, 2, 3, 4, 0, 5] rfl) hP hD hS hf
  have hb_23 : ∀ (n_23 : Nat) (l2 : Int32) (l3 : Int32) (l4 : Int32) (l5 : Int32) (H : Heap) (locs : List Loc) (ls : Array Slot), lv_has ls 6 [(0, .ref A_t), (1, .int a1), (2, .int l2), (3, .int l3), (4, .int l4), (5, .int l5)] → va_P D vwCl [oX12 A_t A_t_now A_t_aside A_t_kept A_t_rhymeOf A_t_wasRhyme A_t_wordAt x_t_wordMany A_t_tape x_t_taped x_t_place0 x_t_length0 x_t_fault x_t_number0 x_t_open x_t_codeMany x_t_waiting x_t_saidMany x_t_clauses A_t_said A_t_waitsAt A_t_saidLetter A_t_saidFrom A_t_saidHalf A_t_saidTo A_t_codes A_t_clauseOf A_t_codeFrom A_t_codeHalf A_t_codeTo A_t_stack A_t_facts x_t_lines A_t_newWords A_t_roundFrom A_t_roundAt A_t_roundTimes x_t_newMany x_t_rounds x_t_itFrom x_t_itTimes x_t_writtenNow x_t_picturesNow x_t_usedNow x_t_chosen x_t_fearOfChosen A_t_leastFrom A_t_rowNow x_t_changesNow x_t_left0 A_t_bornOf A_t_trainsTo A_t_trainAt x_t_trainMany x_t_leastTries x_t_firstTrained x_t_isKept, iA cI 293 A_t_now v_t_now, iA cI 16 A_t_rhymeOf v_t_rhymeOf] H → va_D A [oX12 A_t A_t_now A_t_aside A_t_kept A_t_rhymeOf A_t_wasRhyme A_t_wordAt x_t_wordMany A_t_tape x_t_taped x_t_place0 x_t_length0 x_t_fault x_t_number0 x_t_open x_t_codeMany x_t_waiting x_t_saidMany x_t_clauses A_t_said A_t_waitsAt A_t_saidLetter A_t_saidFrom A_t_saidHalf A_t_saidTo A_t_codes A_t_clauseOf A_t_codeFrom A_t_codeHalf A_t_codeTo A_t_stack A_t_facts x_t_lines A_t_newWords A_t_roundFrom A_t_roundAt A_t_roundTimes x_t_newMany x_t_rounds x_t_itFrom x_t_itTimes x_t_writtenNow x_t_picturesNow x_t_usedNow x_t_chosen x_t_fearOfChosen A_t_leastFrom A_t_rowNow x_t_changesNow x_t_left0 A_t_bornOf A_t_trainsTo A_t_trainAt x_t_trainMany x_t_leastTries x_t_firstTrained x_t_isKept, iA cI 293 A_t_now v_t_now, iA cI 16 A_t_rhymeOf v_t_rhymeOf] → va_S A s.heap H locs → f_X12_borne_b23 v_t_now v_t_rhymeOf a1 n_23 l2 l3 l4 l5 = some o_r → W p l e { frames := 6, cells := 0, slots := 0, locals := 132 } s m ([.ref A_t, .int a1] : List Value).toArray below meth c H locs 0 0 (MQ below (PoI D A [oX12 A_t A_t_now A_t_aside A_t_kept A_t_rhymeOf A_t_wasRhyme A_t_wordAt x_t_wordMany A_t_tape x_t_taped x_t_place0 x_t_length0 x_t_fault x_t_number0 x_t_open x_t_codeMany x_t_waiting x_t_saidMany x_t_clauses A_t_said A_t_waitsAt A_t_saidLetter A_t_saidFrom A_t_saidHalf A_t_saidTo A_t_codes A_t_clauseOf A_t_codeFrom A_t_codeHalf A_t_codeTo A_t_stack A_t_facts x_t_lines A_t_newWords A_t_roundFrom A_t_roundAt A_t_roundTimes x_t_newMany x_t_rounds x_t_itFrom x_t_itTimes x_t_writtenNow x_t_picturesNow x_t_usedNow x_t_chosen x_t_fearOfChosen A_t_leastFrom A_t_rowNow x_t_changesNow x_t_left0 A_t_bornOf A_t_trainsTo A_t_trainAt x_t_trainMany x_t_leastTries x_t_firstTrained x_t_isKept, iA cI 293 A_t_now v_t_now, iA cI 16 A_t_rhymeOf v_t_rhymeOf] o_r) ([.ref A_t, .int a1] : List Value).toArray s 0 0 A) (F0 m 23 ls []) := by
    intro n_23
    induction n_23 with
    | zero =>
      intro l2 l3 l4 l5 H locs ls hl hP hD hS hf
      exact absurd hf (fun h => by rw [f_X12_borne_b23] at h; cases h)
    | succ n_23 ih_23 =>
      have hb_62 : ∀ (l2 : Int32) (l3 : Int32) (l4 : Int32) (l5 : Int32) (H : Heap) (locs : List Loc) (ls : Array Slot), lv_has ls 6 [(0, .ref A_t), (1, .int a1), (2, .int l2), (3, .int l3), (4, .int l4), (5, .int l5)] → va_P D vwCl [oX12 A_t A_t_now A_t_aside A_t_kept A_t_rhymeOf A_t_wasRhyme A_t_wordAt x_t_wordMany A_t_tape x_t_taped x_t_place0 x_t_length0 x_t_fault x_t_number0 x_t_open x_t_codeMany x_t_waiting x_t_saidMany x_t_clauses A_t_said A_t_waitsAt A_t_saidLetter A_t_saidFrom A_t_saidHalf A_t_saidTo A_t_codes A_t_clauseOf A_t_codeFrom A_t_codeHalf A_t_codeTo A_t_stack A_t_facts x_t_lines A_t_newWords A_t_roundFrom A_t_roundAt A_t_roundTimes x_t_newMany x_t_rounds x_t_itFrom x_t_itTimes x_t_writtenNow x_t_picturesNow x_t_usedNow x_t_chosen x_t_fearOfChosen A_t_leastFrom A_t_rowNow x_t_changesNow x_t_left0 A_t_bornOf A_t_trainsTo A_t_trainAt x_t_trainMany x_t_leastTries x_t_firstTrained x_t_isKept, iA cI 293 A_t_now v_t_now, iA cI 16 A_t_rhymeOf v_t_rhymeOf] H → va_D A [oX12 A_t A_t_now A_t_aside A_t_kept A_t_rhymeOf A_t_wasRhyme A_t_wordAt x_t_wordMany A_t_tape x_t_taped x_t_place0 x_t_length0 x_t_fault x_t_number0 x_t_open x_t_codeMany x_t_waiting x_t_saidMany x_t_clauses A_t_said A_t_waitsAt A_t_saidLetter A_t_saidFrom A_t_saidHalf A_t_saidTo A_t_codes A_t_clauseOf A_t_codeFrom A_t_codeHalf A_t_codeTo A_t_stack A_t_facts x_t_lines A_t_newWords A_t_roundFrom A_t_roundAt A_t_roundTimes x_t_newMany x_t_rounds x_t_itFrom x_t_itTimes x_t_writtenNow x_t_picturesNow x_t_usedNow x_t_chosen x_t_fearOfChosen A_t_leastFrom A_t_rowNow x_t_changesNow x_t_left0 A_t_bornOf A_t_trainsTo A_t_trainAt x_t_trainMany x_t_leastTries x_t_firstTrained x_t_isKept, iA cI 293 A_t_now v_t_now, iA cI 16 A_t_rhymeOf v_t_rhymeOf] → va_S A s.heap H locs → f_X12_borne_b62 a1 (f_X12_borne_b23 v_t_now v_t_rhymeOf a1 n_23) l2 l3 l4 l5 = some o_r → W p l e { frames := 6, cells := 0, slots := 0, locals := 132 } s m ([.ref A_t, .int a1] : List Value).toArray below meth c H locs 0 0 (MQ below (PoI D A [oX12 A_t A_t_now A_t_aside A_t_kept A_t_rhymeOf A_t_wasRhyme A_t_wordAt x_t_wordMany A_t_tape x_t_taped x_t_place0 x_t_length0 x_t_fault x_t_number0 x_t_open x_t_codeMany x_t_waiting x_t_saidMany x_t_clauses A_t_said A_t_waitsAt A_t_saidLetter A_t_saidFrom A_t_saidHalf A_t_saidTo A_t_codes A_t_clauseOf A_t_codeFrom A_t_codeHalf A_t_codeTo A_t_stack A_t_facts x_t_lines A_t_newWords A_t_roundFrom A_t_roundAt A_t_roundTimes x_t_newMany x_t_rounds x_t_itFrom x_t_itTimes x_t_writtenNow x_t_picturesNow x_t_usedNow x_t_chosen x_t_fearOfChosen A_t_leastFrom A_t_rowNow x_t_changesNow x_t_left0 A_t_bornOf A_t_trainsTo A_t_trainAt x_t_trainMany x_t_leastTries x_t_firstTrained x_t_isKept, iA cI 293 A_t_now v_t_now, iA cI 16 A_t_rhymeOf v_t_rhymeOf] o_r) ([.ref A_t, .int a1] : List Value).toArray s 0 0 A) (F0 m 62 ls []) := by
        intro l2 l3 l4 l5 H locs ls hl hP hD hS hf
        unfold f_X12_borne_b62 at hf
        refine lv_iinc (v := (l5 + (1 : Int32))) (lv' := [(5, .int (l5 + (1 : Int32))), (0, .ref A_t), (1, .int a1), (2, .int l2), (3, .int l3), (4, .int l4)]) hx hb dX12_borne_62 hl (k := 5) rfl rfl (by decide) rfl (fun ls hl => ?_)
        refine lv_goto (tgt := 23) hx hb dX12_borne_65 (by decide) ?_
        exact ih_23 l2 l3 l4 (l5 + (1 : Int32)) _ _ ls (lv_sub hl [1, 2, 3, 4, 5, 0] rfl) hP hD hS hf
      intro l2 l3 l4 l5 H locs ls hl hP hD hS hf
      rw [f_X12_borne_b23] at hf
      refine lv_iload hx hb dX12_borne_23 (lv_at hl 5 rfl) ?_
      refine lv_bipush (v := 8) hx hb dX12_borne_25 (by decide) ?_
      refine lv_icmp_ge (tgt := 68) hx hb dX12_borne_27 (by decide) (fun q => ?_) (fun q => ?_)
      · have hf := if_t q hf
        refine lv_iconst (v := 0) hx hb dX12_borne_68 (by decide) ?_
        refine lv_istore (lv' := [(5, .int (0 : Int32)), (0, .ref A_t), (1, .int a1), (2, .int l2), (3, .int l3), (4, .int l4)]) hx hb dX12_borne_69 hl (by decide) rfl (fun ls hl => ?_)
        exact hb_71 FU l2 l3 l4 (0 : Int32) _ _ ls (lv_sub hl [1, 2, 3, 4, 5, 0] rfl) hP hD hS hf
      · have hf := if_f q hf
        refine lv_aload_n hx hb dX12_borne_30 rfl (lv_at hl 0 rfl) ?_
        refine lv_iload hx hb dX12_borne_31 (lv_at hl 5 rfl) ?_
        obtain ⟨r1, hc2, hf⟩ := bd1_e hf
        refine x_callVI (ws' := [oX12 A_t A_t_now A_t_aside A_t_kept A_t_rhymeOf A_t_wasRhyme A_t_wordAt x_t_wordMany A_t_tape x_t_taped x_t_place0 x_t_length0 x_t_fault x_t_number0 x_t_open x_t_codeMany x_t_waiting x_t_saidMany x_t_clauses A_t_said A_t_waitsAt A_t_saidLetter A_t_saidFrom A_t_saidHalf A_t_saidTo A_t_codes A_t_clauseOf A_t_codeFrom A_t_codeHalf A_t_codeTo A_t_stack A_t_facts x_t_lines A_t_newWords A_t_roundFrom A_t_roundAt A_t_roundTimes x_t_newMany x_t_rounds x_t_itFrom x_t_itTimes x_t_writtenNow x_t_picturesNow x_t_usedNow x_t_chosen x_t_fearOfChosen A_t_leastFrom A_t_rowNow x_t_changesNow x_t_left0 A_t_bornOf A_t_trainsTo A_t_trainAt x_t_trainMany x_t_leastTries x_t_firstTrained x_t_isKept, iA cI 293 A_t_now v_t_now, iA cI 16 A_t_rhymeOf v_t_rhymeOf]) (rest := []) C hK hP hD hS hA hl mf_X12_109 (c_X12_isTold hc2) [0, 1] 0 12 rfl rfl rfl rfl rfl rfl rfl rfl rfl rfl (Nat.le_of_ble_eq_true rfl) ⟨Nat.le_of_ble_eq_true rfl, Nat.le_of_ble_eq_true rfl⟩ ⟨Nat.le_refl _, Nat.le_refl _⟩ dX12_borne_33 ?_
        intro H locs hP hD hS
        refine lv_if_ne (tgt := 42) hx hb dX12_borne_36 (by decide) (fun q => ?_) (fun q => ?_)
        · have hf := if_f q hf
          refine lv_iload_n hx hb dX12_borne_42 rfl (lv_at hl 2 rfl) ?_
          refine lv_aload_n hx hb dX12_borne_43 rfl (lv_at hl 0 rfl) ?_
          refine lv_iload hx hb dX12_borne_44 (lv_at hl 5 rfl) ?_
          obtain ⟨r3, hc4, hf⟩ := bd1_e hf
          refine x_callVI (ws' := [oX12 A_t A_t_now A_t_aside A_t_kept A_t_rhymeOf A_t_wasRhyme A_t_wordAt x_t_wordMany A_t_tape x_t_taped x_t_place0 x_t_length0 x_t_fault x_t_number0 x_t_open x_t_codeMany x_t_waiting x_t_saidMany x_t_clauses A_t_said A_t_waitsAt A_t_saidLetter A_t_saidFrom A_t_saidHalf A_t_saidTo A_t_codes A_t_clauseOf A_t_codeFrom A_t_codeHalf A_t_codeTo A_t_stack A_t_facts x_t_lines A_t_newWords A_t_roundFrom A_t_roundAt A_t_roundTimes x_t_newMany x_t_rounds x_t_itFrom x_t_itTimes x_t_writtenNow x_t_picturesNow x_t_usedNow x_t_chosen x_t_fearOfChosen A_t_leastFrom A_t_rowNow x_t_changesNow x_t_left0 A_t_bornOf A_t_trainsTo A_t_trainAt x_t_trainMany x_t_leastTries x_t_firstTrained x_t_isKept, iA cI 293 A_t_now v_t_now, iA cI 16 A_t_rhymeOf v_t_rhymeOf]) (rest := [.int l2]) C hK hP hD hS hA hl mf_X12_348 (c_X12_bornBy hc4) [0, 1, 2] 0 12 rfl rfl rfl rfl rfl rfl rfl rfl rfl rfl (Nat.le_of_ble_eq_true rfl) ⟨Nat.le_of_ble_eq_true rfl, Nat.le_of_ble_eq_true rfl⟩ ⟨Nat.le_refl _, Nat.le_refl _⟩ dX12_borne_46 ?_
          intro H locs hP hD hS
          refine lv_iand hx hb dX12_borne_49 ?_
          refine lv_istore_n (lv' := [(2, .int (l2 &&& r3)), (0, .ref A_t), (1, .int a1), (3, .int l3), (4, .int l4), (5, .int l5)]) hx hb dX12_borne_50 rfl hl (by decide) rfl (fun ls hl => ?_)
          refine lv_iload_n hx hb dX12_borne_51 rfl (lv_at hl 3 rfl) ?_
          refine lv_aload_n hx hb dX12_borne_52 rfl (lv_at hl 1 rfl) ?_
          refine lv_iload hx hb dX12_borne_53 (lv_at hl 5 rfl) ?_
          obtain ⟨r5, hc6, hf⟩ := bd1_e hf
          refine x_callVI (ws' := [oX12 A_t A_t_now A_t_aside A_t_kept A_t_rhymeOf A_t_wasRhyme A_t_wordAt x_t_wordMany A_t_tape x_t_taped x_t_place0 x_t_length0 x_t_fault x_t_number0 x_t_open x_t_codeMany x_t_waiting x_t_saidMany x_t_clauses A_t_said A_t_waitsAt A_t_saidLetter A_t_saidFrom A_t_saidHalf A_t_saidTo A_t_codes A_t_clauseOf A_t_codeFrom A_t_codeHalf A_t_codeTo A_t_stack A_t_facts x_t_lines A_t_newWords A_t_roundFrom A_t_roundAt A_t_roundTimes x_t_newMany x_t_rounds x_t_itFrom x_t_itTimes x_t_writtenNow x_t_picturesNow x_t_usedNow x_t_chosen x_t_fearOfChosen A_t_leastFrom A_t_rowNow x_t_changesNow x_t_left0 A_t_bornOf A_t_trainsTo A_t_trainAt x_t_trainMany x_t_leastTries x_t_firstTrained x_t_isKept, iA cI 293 A_t_now v_t_now, iA cI 16 A_t_rhymeOf v_t_rhymeOf]) (rest := [.int l3]) C hK hP hD hS hA hl mf_X12_348 (c_X12_bornBy hc6) [0, 1, 2] 0 12 rfl rfl rfl rfl rfl rfl rfl rfl rfl rfl (Nat.le_of_ble_eq_true rfl) ⟨Nat.le_of_ble_eq_true rfl, Nat.le_of_ble_eq_true rfl⟩ ⟨Nat.le_refl _, Nat.le_refl _⟩ dX12_borne_55 ?_
          intro H locs hP hD hS
          refine lv_iconst (v := -1) hx hb dX12_borne_58 (by decide) ?_
          refine lv_ixor hx hb dX12_borne_59 ?_
          refine lv_iand hx hb dX12_borne_60 ?_
          refine lv_istore_n (lv' := [(3, .int (l3 &&& (r5 ^^^ (-1 : Int32)))), (2, .int (l2 &&& r3)), (0, .ref A_t), (1, .int a1), (4, .int l4), (5, .int l5)]) hx hb dX12_borne_61 rfl hl (by decide) rfl (fun ls hl => ?_)
          exact hb_62 (l2 &&& r3) (l3 &&& (r5 ^^^ (-1 : Int32))) l4 l5 _ _ ls (lv_sub hl [2, 3, 1, 0, 4, 5] rfl) hP hD hS hf
        · have hf := if_t q hf
          refine lv_goto (tgt := 62) hx hb dX12_borne_39 (by decide) ?_
          exact hb_62 l2 l3 l4 l5 _ _ ls (lv_sub hl [0, 1, 2, 3, 4, 5] rfl) hP hD hS hf
  refine lv_iload_n hx hb dX12_borne_0 rfl (lv_at hl 1 rfl) ?_
  refine lv_iconst (v := 0) hx hb dX12_borne_1 (by decide) ?_
  refine lv_iconst (v := 2) hx hb dX12_borne_2 (by decide) ?_
  obtain ⟨r7, hc8, hf⟩ := bd1_e hf
  refine x_callSI (ws' := [oX12 A_t A_t_now A_t_aside A_t_kept A_t_rhymeOf A_t_wasRhyme A_t_wordAt x_t_wordMany A_t_tape x_t_taped x_t_place0 x_t_length0 x_t_fault x_t_number0 x_t_open x_t_codeMany x_t_waiting x_t_saidMany x_t_clauses A_t_said A_t_waitsAt A_t_saidLetter A_t_saidFrom A_t_saidHalf A_t_saidTo A_t_codes A_t_clauseOf A_t_codeFrom A_t_codeHalf A_t_codeTo A_t_stack A_t_facts x_t_lines A_t_newWords A_t_roundFrom A_t_roundAt A_t_roundTimes x_t_newMany x_t_rounds x_t_itFrom x_t_itTimes x_t_writtenNow x_t_picturesNow x_t_usedNow x_t_chosen x_t_fearOfChosen A_t_leastFrom A_t_rowNow x_t_changesNow x_t_left0 A_t_bornOf A_t_trainsTo A_t_trainAt x_t_trainMany x_t_leastTries x_t_firstTrained x_t_isKept, iA cI 293 A_t_now v_t_now, iA cI 16 A_t_rhymeOf v_t_rhymeOf]) (rest := []) C hK hP hD hS hA hl mf_X12_105 (c_X12_in hc8) [] rfl rfl rfl rfl rfl rfl rfl rfl (Nat.le_of_ble_eq_true rfl) ⟨Nat.le_of_ble_eq_true rfl, Nat.le_of_ble_eq_true rfl⟩ ⟨Nat.le_refl _, Nat.le_refl _⟩ dX12_borne_3 ?_
  intro H locs hP hD hS
  refine lv_if_ne (tgt := 11) hx hb dX12_borne_6 (by decide) (fun q => ?_) (fun q => ?_)
  · have hf := if_f q hf
    refine x_ldc C kc_X12_136 dX12_borne_11 ?_
    refine lv_istore_n (lv' := [(2, .int (65535 : Int32)), (0, .ref A_t), (1, .int a1)]) hx hb dX12_borne_13 rfl hl (by decide) rfl (fun ls hl => ?_)
    refine x_ldc C kc_X12_136 dX12_borne_14 ?_
    refine lv_istore_n (lv' := [(3, .int (65535 : Int32)), (2, .int (65535 : Int32)), (0, .ref A_t), (1, .int a1)]) hx hb dX12_borne_16 rfl hl (by decide) rfl (fun ls hl => ?_)
    refine lv_iconst (v := 0) hx hb dX12_borne_17 (by decide) ?_
    refine lv_istore (lv' := [(4, .int (0 : Int32)), (3, .int (65535 : Int32)), (2, .int (65535 : Int32)), (0, .ref A_t), (1, .int a1)]) hx hb dX12_borne_18 hl (by decide) rfl (fun ls hl => ?_)
    refine lv_iconst (v := 0) hx hb dX12_borne_20 (by decide) ?_
    refine lv_istore (lv' := [(5, .int (0 : Int32)), (4, .int (0 : Int32)), (3, .int (65535 : Int32)), (2, .int (65535 : Int32)), (0, .ref A_t), (1, .int a1)]) hx hb dX12_borne_21 hl (by decide) rfl (fun ls hl => ?_)
    exact hb_23 FU (65535 : Int32) (65535 : Int32) (0 : Int32) (0 : Int32) _ _ ls (lv_sub hl [4, 5, 3, 2, 1, 0] rfl) hP hD hS hf
  · have hf := if_t q hf
    refine lv_iconst (v := -1) hx hb dX12_borne_9 (by decide) ?_
    obtain rfl := ev1 hf
    exact x_iret C hr hlk hP hD hS dX12_borne_10
def f_X12_one (v_t_tape : (Nat → Int32)) (a1 : Int32) (a2 : Int32) (a3 : Int32) : Option (Int32) :=
  bd1 (f_X12_octet v_t_tape ((2 : Int32) * ((a1 * a2) + a3))) (fun r1 =>
  some r1)
set_option maxHeartbeats 4000000 in
set_option maxRecDepth 100000 in
theorem c_X12_one {l : Launch} {D : va_G} {cI cB : ClassId} {A_t A_t_now A_t_aside A_t_kept A_t_rhymeOf A_t_wasRhyme A_t_wordAt A_t_tape A_t_said A_t_waitsAt A_t_saidLetter A_t_saidFrom A_t_saidHalf A_t_saidTo A_t_codes A_t_clauseOf A_t_codeFrom A_t_codeHalf A_t_codeTo A_t_stack A_t_facts A_t_newWords A_t_roundFrom A_t_roundAt A_t_roundTimes A_t_leastFrom A_t_rowNow A_t_bornOf A_t_trainsTo A_t_trainAt : Nat} {x_t_wordMany x_t_taped x_t_place0 x_t_length0 x_t_fault x_t_number0 x_t_open x_t_codeMany x_t_waiting x_t_saidMany x_t_clauses x_t_lines x_t_newMany x_t_rounds x_t_itFrom x_t_itTimes x_t_writtenNow x_t_picturesNow x_t_usedNow x_t_chosen x_t_fearOfChosen x_t_changesNow x_t_left0 x_t_trainMany x_t_leastTries x_t_firstTrained x_t_isKept a1 a2 a3 : Int32} {v_t_tape : Nat → Int32} {o_r : Int32} (hf : f_X12_one v_t_tape a1 a2 a3 = some o_r) : CtI l D cI cB yX12_one cX12_one 4 (some .int) 1 21 [.ref A_t, .int a1, .int a2, .int a3] [oX12 A_t A_t_now A_t_aside A_t_kept A_t_rhymeOf A_t_wasRhyme A_t_wordAt x_t_wordMany A_t_tape x_t_taped x_t_place0 x_t_length0 x_t_fault x_t_number0 x_t_open x_t_codeMany x_t_waiting x_t_saidMany x_t_clauses A_t_said A_t_waitsAt A_t_saidLetter A_t_saidFrom A_t_saidHalf A_t_saidTo A_t_codes A_t_clauseOf A_t_codeFrom A_t_codeHalf A_t_codeTo A_t_stack A_t_facts x_t_lines A_t_newWords A_t_roundFrom A_t_roundAt A_t_roundTimes x_t_newMany x_t_rounds x_t_itFrom x_t_itTimes x_t_writtenNow x_t_picturesNow x_t_usedNow x_t_chosen x_t_fearOfChosen A_t_leastFrom A_t_rowNow x_t_changesNow x_t_left0 A_t_bornOf A_t_trainsTo A_t_trainAt x_t_trainMany x_t_leastTries x_t_firstTrained x_t_isKept, iA cB 260 A_t_tape v_t_tape] [oX12 A_t A_t_now A_t_aside A_t_kept A_t_rhymeOf A_t_wasRhyme A_t_wordAt x_t_wordMany A_t_tape x_t_taped x_t_place0 x_t_length0 x_t_fault x_t_number0 x_t_open x_t_codeMany x_t_waiting x_t_saidMany x_t_clauses A_t_said A_t_waitsAt A_t_saidLetter A_t_saidFrom A_t_saidHalf A_t_saidTo A_t_codes A_t_clauseOf A_t_codeFrom A_t_codeHalf A_t_codeTo A_t_stack A_t_facts x_t_lines A_t_newWords A_t_roundFrom A_t_roundAt A_t_roundTimes x_t_newMany x_t_rounds x_t_itFrom x_t_itTimes x_t_writtenNow x_t_picturesNow x_t_usedNow x_t_chosen x_t_fearOfChosen A_t_leastFrom A_t_rowNow x_t_changesNow x_t_left0 A_t_bornOf A_t_trainsTo A_t_trainAt x_t_trainMany x_t_leastTries x_t_firstTrained x_t_isKept, iA cB 260 A_t_tape v_t_tape] o_r := by
  refine x_startI (by decide) (Nat.le_of_ble_eq_true rfl) ?_
  intro p e s m below meth c A C hr hlk hA hK hP hD hS ls hl
  have hl : lv_has ls 4 [(0, .ref A_t), (1, .int a1), (2, .int a2), (3, .int a3)] := hl
  have hx := C.1
  have hb := C.2.1
  unfold f_X12_one at hf
  refine lv_aload_n hx hb dX12_one_0 rfl (lv_at hl 0 rfl) ?_
  refine lv_iconst (v := 2) hx hb dX12_one_1 (by decide) ?_
  refine lv_iload_n hx hb dX12_one_2 rfl (lv_at hl 1 rfl) ?_
  refine lv_iload_n hx hb dX12_one_3 rfl (lv_at hl 2 rfl) ?_
  refine lv_imul hx hb dX12_one_4 ?_
  refine lv_iload_n hx hb dX12_one_5 rfl (lv_at hl 3 rfl) ?_
  refine lv_iadd hx hb dX12_one_6 ?_
  refine lv_imul hx hb dX12_one_7 ?_
  obtain ⟨r1, hc2, hf⟩ := bd1_e hf
  refine x_callVI (ws' := [oX12 A_t A_t_now A_t_aside A_t_kept A_t_rhymeOf A_t_wasRhyme A_t_wordAt x_t_wordMany A_t_tape x_t_taped x_t_place0 x_t_length0 x_t_fault x_t_number0 x_t_open x_t_codeMany x_t_waiting x_t_saidMany x_t_clauses A_t_said A_t_waitsAt A_t_saidLetter A_t_saidFrom A_t_saidHalf A_t_saidTo A_t_codes A_t_clauseOf A_t_codeFrom A_t_codeHalf A_t_codeTo A_t_stack A_t_facts x_t_lines A_t_newWords A_t_roundFrom A_t_roundAt A_t_roundTimes x_t_newMany x_t_rounds x_t_itFrom x_t_itTimes x_t_writtenNow x_t_picturesNow x_t_usedNow x_t_chosen x_t_fearOfChosen A_t_leastFrom A_t_rowNow x_t_changesNow x_t_left0 A_t_bornOf A_t_trainsTo A_t_trainAt x_t_trainMany x_t_leastTries x_t_firstTrained x_t_isKept, iA cB 260 A_t_tape v_t_tape]) (rest := []) C hK hP hD hS hA hl mf_X12_378 (c_X12_octet hc2) [0, 1] 0 12 rfl rfl rfl rfl rfl rfl rfl rfl rfl rfl (Nat.le_of_ble_eq_true rfl) ⟨Nat.le_of_ble_eq_true rfl, Nat.le_of_ble_eq_true rfl⟩ ⟨Nat.le_refl _, Nat.le_refl _⟩ dX12_one_8 ?_
  intro H locs hP hD hS
  obtain rfl := ev1 hf
  exact x_iret C hr hlk hP hD hS dX12_one_11
def f_X12_other (v_t_tape : (Nat → Int32)) (a1 : Int32) (a2 : Int32) (a3 : Int32) : Option (Int32) :=
  bd1 (f_X12_octet v_t_tape (((2 : Int32) * ((a1 * a2) + a3)) + (1 : Int32))) (fun r1 =>
  some r1)
set_option maxHeartbeats 4000000 in
set_option maxRecDepth 100000 in
theorem c_X12_other {l : Launch} {D : va_G} {cI cB : ClassId} {A_t A_t_now A_t_aside A_t_kept A_t_rhymeOf A_t_wasRhyme A_t_wordAt A_t_tape A_t_said A_t_waitsAt A_t_saidLetter A_t_saidFrom A_t_saidHalf A_t_saidTo A_t_codes A_t_clauseOf A_t_codeFrom A_t_codeHalf A_t_codeTo A_t_stack A_t_facts A_t_newWords A_t_roundFrom A_t_roundAt A_t_roundTimes A_t_leastFrom A_t_rowNow A_t_bornOf A_t_trainsTo A_t_trainAt : Nat} {x_t_wordMany x_t_taped x_t_place0 x_t_length0 x_t_fault x_t_number0 x_t_open x_t_codeMany x_t_waiting x_t_saidMany x_t_clauses x_t_lines x_t_newMany x_t_rounds x_t_itFrom x_t_itTimes x_t_writtenNow x_t_picturesNow x_t_usedNow x_t_chosen x_t_fearOfChosen x_t_changesNow x_t_left0 x_t_trainMany x_t_leastTries x_t_firstTrained x_t_isKept a1 a2 a3 : Int32} {v_t_tape : Nat → Int32} {o_r : Int32} (hf : f_X12_other v_t_tape a1 a2 a3 = some o_r) : CtI l D cI cB yX12_other cX12_other 4 (some .int) 1 21 [.ref A_t, .int a1, .int a2, .int a3] [oX12 A_t A_t_now A_t_aside A_t_kept A_t_rhymeOf A_t_wasRhyme A_t_wordAt x_t_wordMany A_t_tape x_t_taped x_t_place0 x_t_length0 x_t_fault x_t_number0 x_t_open x_t_codeMany x_t_waiting x_t_saidMany x_t_clauses A_t_said A_t_waitsAt A_t_saidLetter A_t_saidFrom A_t_saidHalf A_t_saidTo A_t_codes A_t_clauseOf A_t_codeFrom A_t_codeHalf A_t_codeTo A_t_stack A_t_facts x_t_lines A_t_newWords A_t_roundFrom A_t_roundAt A_t_roundTimes x_t_newMany x_t_rounds x_t_itFrom x_t_itTimes x_t_writtenNow x_t_picturesNow x_t_usedNow x_t_chosen x_t_fearOfChosen A_t_leastFrom A_t_rowNow x_t_changesNow x_t_left0 A_t_bornOf A_t_trainsTo A_t_trainAt x_t_trainMany x_t_leastTries x_t_firstTrained x_t_isKept, iA cB 260 A_t_tape v_t_tape] [oX12 A_t A_t_now A_t_aside A_t_kept A_t_rhymeOf A_t_wasRhyme A_t_wordAt x_t_wordMany A_t_tape x_t_taped x_t_place0 x_t_length0 x_t_fault x_t_number0 x_t_open x_t_codeMany x_t_waiting x_t_saidMany x_t_clauses A_t_said A_t_waitsAt A_t_saidLetter A_t_saidFrom A_t_saidHalf A_t_saidTo A_t_codes A_t_clauseOf A_t_codeFrom A_t_codeHalf A_t_codeTo A_t_stack A_t_facts x_t_lines A_t_newWords A_t_roundFrom A_t_roundAt A_t_roundTimes x_t_newMany x_t_rounds x_t_itFrom x_t_itTimes x_t_writtenNow x_t_picturesNow x_t_usedNow x_t_chosen x_t_fearOfChosen A_t_leastFrom A_t_rowNow x_t_changesNow x_t_left0 A_t_bornOf A_t_trainsTo A_t_trainAt x_t_trainMany x_t_leastTries x_t_firstTrained x_t_isKept, iA cB 260 A_t_tape v_t_tape] o_r := by
  refine x_startI (by decide) (Nat.le_of_ble_eq_true rfl) ?_
  intro p e s m below meth c A C hr hlk hA hK hP hD hS ls hl
  have hl : lv_has ls 4 [(0, .ref A_t), (1, .int a1), (2, .int a2), (3, .int a3)] := hl
  have hx := C.1
  have hb := C.2.1
  unfold f_X12_other at hf
  refine lv_aload_n hx hb dX12_other_0 rfl (lv_at hl 0 rfl) ?_
  refine lv_iconst (v := 2) hx hb dX12_other_1 (by decide) ?_
  refine lv_iload_n hx hb dX12_other_2 rfl (lv_at hl 1 rfl) ?_
  refine lv_iload_n hx hb dX12_other_3 rfl (lv_at hl 2 rfl) ?_
  refine lv_imul hx hb dX12_other_4 ?_
  refine lv_iload_n hx hb dX12_other_5 rfl (lv_at hl 3 rfl) ?_
  refine lv_iadd hx hb dX12_other_6 ?_
  refine lv_imul hx hb dX12_other_7 ?_
  refine lv_iconst (v := 1) hx hb dX12_other_8 (by decide) ?_
  refine lv_iadd hx hb dX12_other_9 ?_
  obtain ⟨r1, hc2, hf⟩ := bd1_e hf
  refine x_callVI (ws' := [oX12 A_t A_t_now A_t_aside A_t_kept A_t_rhymeOf A_t_wasRhyme A_t_wordAt x_t_wordMany A_t_tape x_t_taped x_t_place0 x_t_length0 x_t_fault x_t_number0 x_t_open x_t_codeMany x_t_waiting x_t_saidMany x_t_clauses A_t_said A_t_waitsAt A_t_saidLetter A_t_saidFrom A_t_saidHalf A_t_saidTo A_t_codes A_t_clauseOf A_t_codeFrom A_t_codeHalf A_t_codeTo A_t_stack A_t_facts x_t_lines A_t_newWords A_t_roundFrom A_t_roundAt A_t_roundTimes x_t_newMany x_t_rounds x_t_itFrom x_t_itTimes x_t_writtenNow x_t_picturesNow x_t_usedNow x_t_chosen x_t_fearOfChosen A_t_leastFrom A_t_rowNow x_t_changesNow x_t_left0 A_t_bornOf A_t_trainsTo A_t_trainAt x_t_trainMany x_t_leastTries x_t_firstTrained x_t_isKept, iA cB 260 A_t_tape v_t_tape]) (rest := []) C hK hP hD hS hA hl mf_X12_378 (c_X12_octet hc2) [0, 1] 0 12 rfl rfl rfl rfl rfl rfl rfl rfl rfl rfl (Nat.le_of_ble_eq_true rfl) ⟨Nat.le_of_ble_eq_true rfl, Nat.le_of_ble_eq_true rfl⟩ ⟨Nat.le_refl _, Nat.le_refl _⟩ dX12_other_10 ?_
  intro H locs hP hD hS
  obtain rfl := ev1 hf
  exact x_iret C hr hlk hP hD hS dX12_other_13
def f_X12_rests_b40 (v_t_tape : (Nat → Int32)) (a2 : Int32) (a3 : Int32) (a4 : Int32) : Nat → Int32 → Option (Int32)
  | 0, _ => none
  | n + 1, l5 =>
    if a2 ≤ l5 then
      some (1 : Int32)
    else
      bd1 (f_X12_other v_t_tape a2 a3 l5) (fun r1 =>
      bd1 (f_X12_other v_t_tape a2 a3 a4) (fun r2 =>
      if r1 ≤ r2 then
        f_X12_rests_b40 v_t_tape a2 a3 a4 n (l5 + (1 : Int32))
      else
        some (0 : Int32)))
def f_X12_rests_b3 (v_t_tape : (Nat → Int32)) (a1 : Int32) (a2 : Int32) (a3 : Int32) (a4 : Int32) : Nat → Int32 → Option (Int32)
  | 0, _ => none
  | n + 1, l5 =>
    if a1 ≤ l5 then
      f_X12_rests_b40 v_t_tape a2 a3 a4 FU (0 : Int32)
    else
      bd1 (f_X12_one v_t_tape a2 l5 a4) (fun r1 =>
      bd1 (f_X12_one v_t_tape a2 a3 a4) (fun r2 =>
      if r1 ≤ r2 then
        f_X12_rests_b3 v_t_tape a1 a2 a3 a4 n (l5 + (1 : Int32))
      else
        some (0 : Int32)))
def f_X12_rests (v_t_tape : (Nat → Int32)) (a1 : Int32) (a2 : Int32) (a3 : Int32) (a4 : Int32) : Option (Int32) :=
  f_X12_rests_b3 v_t_tape a1 a2 a3 a4 FU (0 : Int32)
set_option maxHeartbeats 4000000 in
set_option maxRecDepth 100000 in
theorem c_X12_rests {l : Launch} {D : va_G} {cI cB : ClassId} {A_t A_t_now A_t_aside A_t_kept A_t_rhymeOf A_t_wasRhyme A_t_wordAt A_t_tape A_t_said A_t_waitsAt A_t_saidLetter A_t_saidFrom A_t_saidHalf A_t_saidTo A_t_codes A_t_clauseOf A_t_codeFrom A_t_codeHalf A_t_codeTo A_t_stack A_t_facts A_t_newWords A_t_roundFrom A_t_roundAt A_t_roundTimes A_t_leastFrom A_t_rowNow A_t_bornOf A_t_trainsTo A_t_trainAt : Nat} {x_t_wordMany x_t_taped x_t_place0 x_t_length0 x_t_fault x_t_number0 x_t_open x_t_codeMany x_t_waiting x_t_saidMany x_t_clauses x_t_lines x_t_newMany x_t_rounds x_t_itFrom x_t_itTimes x_t_writtenNow x_t_picturesNow x_t_usedNow x_t_chosen x_t_fearOfChosen x_t_changesNow x_t_left0 x_t_trainMany x_t_leastTries x_t_firstTrained x_t_isKept a1 a2 a3 a4 : Int32} {v_t_tape : Nat → Int32} {o_r : Int32} (hf : f_X12_rests v_t_tape a1 a2 a3 a4 = some o_r) : CtI l D cI cB yX12_rests cX12_rests 6 (some .boolean) 2 44 [.ref A_t, .int a1, .int a2, .int a3, .int a4] [oX12 A_t A_t_now A_t_aside A_t_kept A_t_rhymeOf A_t_wasRhyme A_t_wordAt x_t_wordMany A_t_tape x_t_taped x_t_place0 x_t_length0 x_t_fault x_t_number0 x_t_open x_t_codeMany x_t_waiting x_t_saidMany x_t_clauses A_t_said A_t_waitsAt A_t_saidLetter A_t_saidFrom A_t_saidHalf A_t_saidTo A_t_codes A_t_clauseOf A_t_codeFrom A_t_codeHalf A_t_codeTo A_t_stack A_t_facts x_t_lines A_t_newWords A_t_roundFrom A_t_roundAt A_t_roundTimes x_t_newMany x_t_rounds x_t_itFrom x_t_itTimes x_t_writtenNow x_t_picturesNow x_t_usedNow x_t_chosen x_t_fearOfChosen A_t_leastFrom A_t_rowNow x_t_changesNow x_t_left0 A_t_bornOf A_t_trainsTo A_t_trainAt x_t_trainMany x_t_leastTries x_t_firstTrained x_t_isKept, iA cB 260 A_t_tape v_t_tape] [oX12 A_t A_t_now A_t_aside A_t_kept A_t_rhymeOf A_t_wasRhyme A_t_wordAt x_t_wordMany A_t_tape x_t_taped x_t_place0 x_t_length0 x_t_fault x_t_number0 x_t_open x_t_codeMany x_t_waiting x_t_saidMany x_t_clauses A_t_said A_t_waitsAt A_t_saidLetter A_t_saidFrom A_t_saidHalf A_t_saidTo A_t_codes A_t_clauseOf A_t_codeFrom A_t_codeHalf A_t_codeTo A_t_stack A_t_facts x_t_lines A_t_newWords A_t_roundFrom A_t_roundAt A_t_roundTimes x_t_newMany x_t_rounds x_t_itFrom x_t_itTimes x_t_writtenNow x_t_picturesNow x_t_usedNow x_t_chosen x_t_fearOfChosen A_t_leastFrom A_t_rowNow x_t_changesNow x_t_left0 A_t_bornOf A_t_trainsTo A_t_trainAt x_t_trainMany x_t_leastTries x_t_firstTrained x_t_isKept, iA cB 260 A_t_tape v_t_tape] o_r := by
  refine x_startI (by decide) (Nat.le_of_ble_eq_true rfl) ?_
  intro p e s m below meth c A C hr hlk hA hK hP hD hS ls hl
  have hl : lv_has ls 6 [(0, .ref A_t), (1, .int a1), (2, .int a2), (3, .int a3), (4, .int a4)] := hl
  have hx := C.1
  have hb := C.2.1
  unfold f_X12_rests at hf
  have hb_40 : ∀ (n_40 : Nat) (l5 : Int32) (H : Heap) (locs : List Loc) (ls : Array Slot), lv_has ls 6 [(0, .ref A_t), (2, .int a2), (3, .int a3), (4, .int a4), (5, .int l5)] → va_P D vwCl [oX12 A_t A_t_now A_t_aside A_t_kept A_t_rhymeOf A_t_wasRhyme A_t_wordAt x_t_wordMany A_t_tape x_t_taped x_t_place0 x_t_length0 x_t_fault x_t_number0 x_t_open x_t_codeMany x_t_waiting x_t_saidMany x_t_clauses A_t_said A_t_waitsAt A_t_saidLetter A_t_saidFrom A_t_saidHalf A_t_saidTo A_t_codes A_t_clauseOf A_t_codeFrom A_t_codeHalf A_t_codeTo A_t_stack A_t_facts x_t_lines A_t_newWords A_t_roundFrom A_t_roundAt A_t_roundTimes x_t_newMany x_t_rounds x_t_itFrom x_t_itTimes x_t_writtenNow x_t_picturesNow x_t_usedNow x_t_chosen x_t_fearOfChosen A_t_leastFrom A_t_rowNow x_t_changesNow x_t_left0 A_t_bornOf A_t_trainsTo A_t_trainAt x_t_trainMany x_t_leastTries x_t_firstTrained x_t_isKept, iA cB 260 A_t_tape v_t_tape] H → va_D A [oX12 A_t A_t_now A_t_aside A_t_kept A_t_rhymeOf A_t_wasRhyme A_t_wordAt x_t_wordMany A_t_tape x_t_taped x_t_place0 x_t_length0 x_t_fault x_t_number0 x_t_open x_t_codeMany x_t_waiting x_t_saidMany x_t_clauses A_t_said A_t_waitsAt A_t_saidLetter A_t_saidFrom A_t_saidHalf A_t_saidTo A_t_codes A_t_clauseOf A_t_codeFrom A_t_codeHalf A_t_codeTo A_t_stack A_t_facts x_t_lines A_t_newWords A_t_roundFrom A_t_roundAt A_t_roundTimes x_t_newMany x_t_rounds x_t_itFrom x_t_itTimes x_t_writtenNow x_t_picturesNow x_t_usedNow x_t_chosen x_t_fearOfChosen A_t_leastFrom A_t_rowNow x_t_changesNow x_t_left0 A_t_bornOf A_t_trainsTo A_t_trainAt x_t_trainMany x_t_leastTries x_t_firstTrained x_t_isKept, iA cB 260 A_t_tape v_t_tape] → va_S A s.heap H locs → f_X12_rests_b40 v_t_tape a2 a3 a4 n_40 l5 = some o_r → W p l e { frames := 2, cells := 0, slots := 0, locals := 44 } s m ([.ref A_t, .int a1, .int a2, .int a3, .int a4] : List Value).toArray below meth c H locs 0 0 (MQ below (PoI D A [oX12 A_t A_t_now A_t_aside A_t_kept A_t_rhymeOf A_t_wasRhyme A_t_wordAt x_t_wordMany A_t_tape x_t_taped x_t_place0 x_t_length0 x_t_fault x_t_number0 x_t_open x_t_codeMany x_t_waiting x_t_saidMany x_t_clauses A_t_said A_t_waitsAt A_t_saidLetter A_t_saidFrom A_t_saidHalf A_t_saidTo A_t_codes A_t_clauseOf A_t_codeFrom A_t_codeHalf A_t_codeTo A_t_stack A_t_facts x_t_lines A_t_newWords A_t_roundFrom A_t_roundAt A_t_roundTimes x_t_newMany x_t_rounds x_t_itFrom x_t_itTimes x_t_writtenNow x_t_picturesNow x_t_usedNow x_t_chosen x_t_fearOfChosen A_t_leastFrom A_t_rowNow x_t_changesNow x_t_left0 A_t_bornOf A_t_trainsTo A_t_trainAt x_t_trainMany x_t_leastTries x_t_firstTrained x_t_isKept, iA cB 260 A_t_tape v_t_tape] o_r) ([.ref A_t, .int a1, .int a2, .int a3, .int a4] : List Value).toArray s 0 0 A) (F0 m 40 ls []) := by
    intro n_40
    induction n_40 with
    | zero =>
      intro l5 H locs ls hl hP hD hS hf
      exact absurd hf (fun h => by rw [f_X12_rests_b40] at h; cases h)
    | succ n_40 ih_40 =>
      intro l5 H locs ls hl hP hD hS hf
      rw [f_X12_rests_b40] at hf
      refine lv_iload hx hb dX12_rests_40 (lv_at hl 4 rfl) ?_
      refine lv_iload_n hx hb dX12_rests_42 rfl (lv_at hl 1 rfl) ?_
      refine lv_icmp_ge (tgt := 73) hx hb dX12_rests_43 (by decide) (fun q => ?_) (fun q => ?_)
      · have hf := if_t q hf
        refine lv_iconst (v := 1) hx hb dX12_rests_73 (by decide) ?_
        obtain rfl := ev1 hf
        exact x_zret C hr hlk (Or.inr rfl) hP hD hS dX12_rests_74
      · have hf := if_f q hf
        refine lv_aload_n hx hb dX12_rests_46 rfl (lv_at hl 0 rfl) ?_
        refine lv_iload_n hx hb dX12_rests_47 rfl (lv_at hl 1 rfl) ?_
        refine lv_iload_n hx hb dX12_rests_48 rfl (lv_at hl 2 rfl) ?_
        refine lv_iload hx hb dX12_rests_49 (lv_at hl 4 rfl) ?_
        obtain ⟨r1, hc2, hf⟩ := bd1_e hf
        refine x_callVI (ws' := [oX12 A_t A_t_now A_t_aside A_t_kept A_t_rhymeOf A_t_wasRhyme A_t_wordAt x_t_wordMany A_t_tape x_t_taped x_t_place0 x_t_length0 x_t_fault x_t_number0 x_t_open x_t_codeMany x_t_waiting x_t_saidMany x_t_clauses A_t_said A_t_waitsAt A_t_saidLetter A_t_saidFrom A_t_saidHalf A_t_saidTo A_t_codes A_t_clauseOf A_t_codeFrom A_t_codeHalf A_t_codeTo A_t_stack A_t_facts x_t_lines A_t_newWords A_t_roundFrom A_t_roundAt A_t_roundTimes x_t_newMany x_t_rounds x_t_itFrom x_t_itTimes x_t_writtenNow x_t_picturesNow x_t_usedNow x_t_chosen x_t_fearOfChosen A_t_leastFrom A_t_rowNow x_t_changesNow x_t_left0 A_t_bornOf A_t_trainsTo A_t_trainAt x_t_trainMany x_t_leastTries x_t_firstTrained x_t_isKept, iA cB 260 A_t_tape v_t_tape]) (rest := []) C hK hP hD hS hA hl mf_X12_424 (c_X12_other hc2) [0, 1] 0 12 rfl rfl rfl rfl rfl rfl rfl rfl rfl rfl (Nat.le_of_ble_eq_true rfl) ⟨Nat.le_of_ble_eq_true rfl, Nat.le_of_ble_eq_true rfl⟩ ⟨Nat.le_refl _, Nat.le_refl _⟩ dX12_rests_51 ?_
        intro H locs hP hD hS
        refine lv_aload_n hx hb dX12_rests_54 rfl (lv_at hl 0 rfl) ?_
        refine lv_iload_n hx hb dX12_rests_55 rfl (lv_at hl 1 rfl) ?_
        refine lv_iload_n hx hb dX12_rests_56 rfl (lv_at hl 2 rfl) ?_
        refine lv_iload hx hb dX12_rests_57 (lv_at hl 3 rfl) ?_
        obtain ⟨r3, hc4, hf⟩ := bd1_e hf
        refine x_callVI (ws' := [oX12 A_t A_t_now A_t_aside A_t_kept A_t_rhymeOf A_t_wasRhyme A_t_wordAt x_t_wordMany A_t_tape x_t_taped x_t_place0 x_t_length0 x_t_fault x_t_number0 x_t_open x_t_codeMany x_t_waiting x_t_saidMany x_t_clauses A_t_said A_t_waitsAt A_t_saidLetter A_t_saidFrom A_t_saidHalf A_t_saidTo A_t_codes A_t_clauseOf A_t_codeFrom A_t_codeHalf A_t_codeTo A_t_stack A_t_facts x_t_lines A_t_newWords A_t_roundFrom A_t_roundAt A_t_roundTimes x_t_newMany x_t_rounds x_t_itFrom x_t_itTimes x_t_writtenNow x_t_picturesNow x_t_usedNow x_t_chosen x_t_fearOfChosen A_t_leastFrom A_t_rowNow x_t_changesNow x_t_left0 A_t_bornOf A_t_trainsTo A_t_trainAt x_t_trainMany x_t_leastTries x_t_firstTrained x_t_isKept, iA cB 260 A_t_tape v_t_tape]) (rest := [.int r1]) C hK hP hD hS hA hl mf_X12_424 (c_X12_other hc4) [0, 1] 0 12 rfl rfl rfl rfl rfl rfl rfl rfl rfl rfl (Nat.le_of_ble_eq_true rfl) ⟨Nat.le_of_ble_eq_true rfl, Nat.le_of_ble_eq_true rfl⟩ ⟨Nat.le_refl _, Nat.le_refl _⟩ dX12_rests_59 ?_
        intro H locs hP hD hS
        refine lv_icmp_le (tgt := 67) hx hb dX12_rests_62 (by decide) (fun q => ?_) (fun q => ?_)
        · have hf := if_t q hf
          refine lv_iinc (v := (l5 + (1 : Int32))) (lv' := [(5, .int (l5 + (1 : Int32))), (0, .ref A_t), (2, .int a2), (3, .int a3), (4, .int a4)]) hx hb dX12_rests_67 hl (k := 4) rfl rfl (by decide) rfl (fun ls hl => ?_)
          refine lv_goto (tgt := 40) hx hb dX12_rests_70 (by decide) ?_
          exact ih_40 (l5 + (1 : Int32)) _ _ ls (lv_sub hl [1, 2, 3, 4, 0] rfl) hP hD hS hf
        · have hf := if_f q hf
          refine lv_iconst (v := 0) hx hb dX12_rests_65 (by decide) ?_
          obtain rfl := ev1 hf
          exact x_zret C hr hlk (Or.inl rfl) hP hD hS dX12_rests_66
  have hb_3 : ∀ (n_3 : Nat) (l5 : Int32) (H : Heap) (locs : List Loc) (ls : Array Slot), lv_has ls 6 [(0, .ref A_t), (1, .int a1), (2, .int a2), (3, .int a3), (4, .int a4), (5, .int l5)] → va_P D vwCl [oX12 A_t A_t_now A_t_aside A_t_kept A_t_rhymeOf A_t_wasRhyme A_t_wordAt x_t_wordMany A_t_tape x_t_taped x_t_place0 x_t_length0 x_t_fault x_t_number0 x_t_open x_t_codeMany x_t_waiting x_t_saidMany x_t_clauses A_t_said A_t_waitsAt A_t_saidLetter A_t_saidFrom A_t_saidHalf A_t_saidTo A_t_codes A_t_clauseOf A_t_codeFrom A_t_codeHalf A_t_codeTo A_t_stack A_t_facts x_t_lines A_t_newWords A_t_roundFrom A_t_roundAt A_t_roundTimes x_t_newMany x_t_rounds x_t_itFrom x_t_itTimes x_t_writtenNow x_t_picturesNow x_t_usedNow x_t_chosen x_t_fearOfChosen A_t_leastFrom A_t_rowNow x_t_changesNow x_t_left0 A_t_bornOf A_t_trainsTo A_t_trainAt x_t_trainMany x_t_leastTries x_t_firstTrained x_t_isKept, iA cB 260 A_t_tape v_t_tape] H → va_D A [oX12 A_t A_t_now A_t_aside A_t_kept A_t_rhymeOf A_t_wasRhyme A_t_wordAt x_t_wordMany A_t_tape x_t_taped x_t_place0 x_t_length0 x_t_fault x_t_number0 x_t_open x_t_codeMany x_t_waiting x_t_saidMany x_t_clauses A_t_said A_t_waitsAt A_t_saidLetter A_t_saidFrom A_t_saidHalf A_t_saidTo A_t_codes A_t_clauseOf A_t_codeFrom A_t_codeHalf A_t_codeTo A_t_stack A_t_facts x_t_lines A_t_newWords A_t_roundFrom A_t_roundAt A_t_roundTimes x_t_newMany x_t_rounds x_t_itFrom x_t_itTimes x_t_writtenNow x_t_picturesNow x_t_usedNow x_t_chosen x_t_fearOfChosen A_t_leastFrom A_t_rowNow x_t_changesNow x_t_left0 A_t_bornOf A_t_trainsTo A_t_trainAt x_t_trainMany x_t_leastTries x_t_firstTrained x_t_isKept, iA cB 260 A_t_tape v_t_tape] → va_S A s.heap H locs → f_X12_rests_b3 v_t_tape a1 a2 a3 a4 n_3 l5 = some o_r → W p l e { frames := 2, cells := 0, slots := 0, locals := 44 } s m ([.ref A_t, .int a1, .int a2, .int a3, .int a4] : List Value).toArray below meth c H locs 0 0 (MQ below (PoI D A [oX12 A_t A_t_now A_t_aside A_t_kept A_t_rhymeOf A_t_wasRhyme A_t_wordAt x_t_wordMany A_t_tape x_t_taped x_t_place0 x_t_length0 x_t_fault x_t_number0 x_t_open x_t_codeMany x_t_waiting x_t_saidMany x_t_clauses A_t_said A_t_waitsAt A_t_saidLetter A_t_saidFrom A_t_saidHalf A_t_saidTo A_t_codes A_t_clauseOf A_t_codeFrom A_t_codeHalf A_t_codeTo A_t_stack A_t_facts x_t_lines A_t_newWords A_t_roundFrom A_t_roundAt A_t_roundTimes x_t_newMany x_t_rounds x_t_itFrom x_t_itTimes x_t_writtenNow x_t_picturesNow x_t_usedNow x_t_chosen x_t_fearOfChosen A_t_leastFrom A_t_rowNow x_t_changesNow x_t_left0 A_t_bornOf A_t_trainsTo A_t_trainAt x_t_trainMany x_t_leastTries x_t_firstTrained x_t_isKept, iA cB 260 A_t_tape v_t_tape] o_r) ([.ref A_t, .int a1, .int a2, .int a3, .int a4] : List Value).toArray s 0 0 A) (F0 m 3 ls []) := by
    intro n_3
    induction n_3 with
    | zero =>
      intro l5 H locs ls hl hP hD hS hf
      exact absurd hf (fun h => by rw [f_X12_rests_b3] at h; cases h)
    | succ n_3 ih_3 =>
      intro l5 H locs ls hl hP hD hS hf
      rw [f_X12_rests_b3] at hf
      refine lv_iload hx hb dX12_rests_3 (lv_at hl 5 rfl) ?_
      refine lv_iload_n hx hb dX12_rests_5 rfl (lv_at hl 1 rfl) ?_
      refine lv_icmp_ge (tgt := 37) hx hb dX12_rests_6 (by decide) (fun q => ?_) (fun q => ?_)
      · have hf := if_t q hf
        refine lv_iconst (v := 0) hx hb dX12_rests_37 (by decide) ?_
        refine lv_istore (lv' := [(5, .int (0 : Int32)), (0, .ref A_t), (1, .int a1), (2, .int a2), (3, .int a3), (4, .int a4)]) hx hb dX12_rests_38 hl (by decide) rfl (fun ls hl => ?_)
        exact hb_40 FU (0 : Int32) _ _ ls (lv_sub hl [1, 3, 4, 5, 0] rfl) hP hD hS hf
      · have hf := if_f q hf
        refine lv_aload_n hx hb dX12_rests_9 rfl (lv_at hl 0 rfl) ?_
        refine lv_iload_n hx hb dX12_rests_10 rfl (lv_at hl 2 rfl) ?_
        refine lv_iload hx hb dX12_rests_11 (lv_at hl 5 rfl) ?_
        refine lv_iload hx hb dX12_rests_13 (lv_at hl 4 rfl) ?_
        obtain ⟨r5, hc6, hf⟩ := bd1_e hf
        refine x_callVI (ws' := [oX12 A_t A_t_now A_t_aside A_t_kept A_t_rhymeOf A_t_wasRhyme A_t_wordAt x_t_wordMany A_t_tape x_t_taped x_t_place0 x_t_length0 x_t_fault x_t_number0 x_t_open x_t_codeMany x_t_waiting x_t_saidMany x_t_clauses A_t_said A_t_waitsAt A_t_saidLetter A_t_saidFrom A_t_saidHalf A_t_saidTo A_t_codes A_t_clauseOf A_t_codeFrom A_t_codeHalf A_t_codeTo A_t_stack A_t_facts x_t_lines A_t_newWords A_t_roundFrom A_t_roundAt A_t_roundTimes x_t_newMany x_t_rounds x_t_itFrom x_t_itTimes x_t_writtenNow x_t_picturesNow x_t_usedNow x_t_chosen x_t_fearOfChosen A_t_leastFrom A_t_rowNow x_t_changesNow x_t_left0 A_t_bornOf A_t_trainsTo A_t_trainAt x_t_trainMany x_t_leastTries x_t_firstTrained x_t_isKept, iA cB 260 A_t_tape v_t_tape]) (rest := []) C hK hP hD hS hA hl mf_X12_421 (c_X12_one hc6) [0, 1] 0 12 rfl rfl rfl rfl rfl rfl rfl rfl rfl rfl (Nat.le_of_ble_eq_true rfl) ⟨Nat.le_of_ble_eq_true rfl, Nat.le_of_ble_eq_true rfl⟩ ⟨Nat.le_refl _, Nat.le_refl _⟩ dX12_rests_15 ?_
        intro H locs hP hD hS
        refine lv_aload_n hx hb dX12_rests_18 rfl (lv_at hl 0 rfl) ?_
        refine lv_iload_n hx hb dX12_rests_19 rfl (lv_at hl 2 rfl) ?_
        refine lv_iload_n hx hb dX12_rests_20 rfl (lv_at hl 3 rfl) ?_
        refine lv_iload hx hb dX12_rests_21 (lv_at hl 4 rfl) ?_
        obtain ⟨r7, hc8, hf⟩ := bd1_e hf
        refine x_callVI (ws' := [oX12 A_t A_t_now A_t_aside A_t_kept A_t_rhymeOf A_t_wasRhyme A_t_wordAt x_t_wordMany A_t_tape x_t_taped x_t_place0 x_t_length0 x_t_fault x_t_number0 x_t_open x_t_codeMany x_t_waiting x_t_saidMany x_t_clauses A_t_said A_t_waitsAt A_t_saidLetter A_t_saidFrom A_t_saidHalf A_t_saidTo A_t_codes A_t_clauseOf A_t_codeFrom A_t_codeHalf A_t_codeTo A_t_stack A_t_facts x_t_lines A_t_newWords A_t_roundFrom A_t_roundAt A_t_roundTimes x_t_newMany x_t_rounds x_t_itFrom x_t_itTimes x_t_writtenNow x_t_picturesNow x_t_usedNow x_t_chosen x_t_fearOfChosen A_t_leastFrom A_t_rowNow x_t_changesNow x_t_left0 A_t_bornOf A_t_trainsTo A_t_trainAt x_t_trainMany x_t_leastTries x_t_firstTrained x_t_isKept, iA cB 260 A_t_tape v_t_tape]) (rest := [.int r5]) C hK hP hD hS hA hl mf_X12_421 (c_X12_one hc8) [0, 1] 0 12 rfl rfl rfl rfl rfl rfl rfl rfl rfl rfl (Nat.le_of_ble_eq_true rfl) ⟨Nat.le_of_ble_eq_true rfl, Nat.le_of_ble_eq_true rfl⟩ ⟨Nat.le_refl _, Nat.le_refl _⟩ dX12_rests_23 ?_
        intro H locs hP hD hS
        refine lv_icmp_le (tgt := 31) hx hb dX12_rests_26 (by decide) (fun q => ?_) (fun q => ?_)
        · have hf := if_t q hf
          refine lv_iinc (v := (l5 + (1 : Int32))) (lv' := [(5, .int (l5 + (1 : Int32))), (0, .ref A_t), (1, .int a1), (2, .int a2), (3, .int a3), (4, .int a4)]) hx hb dX12_rests_31 hl (k := 5) rfl rfl (by decide) rfl (fun ls hl => ?_)
          refine lv_goto (tgt := 3) hx hb dX12_rests_34 (by decide) ?_
          exact ih_3 (l5 + (1 : Int32)) _ _ ls (lv_sub hl [1, 2, 3, 4, 5, 0] rfl) hP hD hS hf
        · have hf := if_f q hf
          refine lv_iconst (v := 0) hx hb dX12_rests_29 (by decide) ?_
          obtain rfl := ev1 hf
          exact x_zret C hr hlk (Or.inl rfl) hP hD hS dX12_rests_30
  refine lv_iconst (v := 0) hx hb dX12_rests_0 (by decide) ?_
  refine lv_istore (lv' := [(5, .int (0 : Int32)), (0, .ref A_t), (1, .int a1), (2, .int a2), (3, .int a3), (4, .int a4)]) hx hb dX12_rests_1 hl (by decide) rfl (fun ls hl => ?_)
  exact hb_3 FU (0 : Int32) _ _ ls (lv_sub hl [1, 2, 3, 4, 5, 0] rfl) hP hD hS hf
def f_X12_isBargain_b79 (a1 : Int32) (a2 : Int32) (a3 : Int32) (a4 : Int32) (k3 : Int32 → Option (Int32)) (l5 : Int32) : Option (Int32) :=
  k3 (l5 + (1 : Int32))
def f_X12_isBargain_b3 (v_t_tape : (Nat → Int32)) (a1 : Int32) (a2 : Int32) (a3 : Int32) (a4 : Int32) : Nat → Int32 → Option (Int32)
  | 0, _ => none
  | n + 1, l5 =>
    if (a1 * a2) ≤ l5 then
      some (1 : Int32)
    else
      dI l5 a2 (fun g1 =>
      rI l5 a2 (fun g2 =>
      bd1 (f_X12_one v_t_tape a2 g1 g2) (fun r3 =>
      bd1 (f_X12_one v_t_tape a2 a3 a4) (fun r4 =>
      dI l5 a2 (fun g5 =>
      rI l5 a2 (fun g6 =>
      bd1 (f_X12_other v_t_tape a2 g5 g6) (fun r7 =>
      bd1 (f_X12_other v_t_tape a2 a3 a4) (fun r8 =>
      if (r3 - r4) < 0 then
        f_X12_isBargain_b79 a1 a2 a3 a4 (f_X12_isBargain_b3 v_t_tape a1 a2 a3 a4 n) l5
      else
        if (r7 - r8) < 0 then
          f_X12_isBargain_b79 a1 a2 a3 a4 (f_X12_isBargain_b3 v_t_tape a1 a2 a3 a4 n) l5
        else
          if ((r3 - r4) + (r7 - r8)) ≤ 0 then
            f_X12_isBargain_b79 a1 a2 a3 a4 (f_X12_isBargain_b3 v_t_tape a1 a2 a3 a4 n) l5
          else
            some (0 : Int32)))))))))
def f_X12_isBargain (v_t_tape : (Nat → Int32)) (a1 : Int32) (a2 : Int32) (a3 : Int32) (a4 : Int32) : Option (Int32) :=
  f_X12_isBargain_b3 v_t_tape a1 a2 a3 a4 FU (0 : Int32)
set_option maxHeartbeats 4000000 in
set_option maxRecDepth 100000 in
theorem c_X12_isBargain {l : Launch} {D : va_G} {cI cB : ClassId} {A_t A_t_now A_t_aside A_t_kept A_t_rhymeOf A_t_wasRhyme A_t_wordAt A_t_tape A_t_said A_t_waitsAt A_t_saidLetter A_t_saidFrom A_t_saidHalf A_t_saidTo A_t_codes A_t_clauseOf A_t_codeFrom A_t_codeHalf A_t_codeTo A_t_stack A_t_facts A_t_newWords A_t_roundFrom A_t_roundAt A_t_roundTimes A_t_leastFrom A_t_rowNow A_t_bornOf A_t_trainsTo A_t_trainAt : Nat} {x_t_wordMany x_t_taped x_t_place0 x_t_length0 x_t_fault x_t_number0 x_t_open x_t_codeMany x_t_waiting x_t_saidMany x_t_clauses x_t_lines x_t_newMany x_t_rounds x_t_itFrom x_t_itTimes x_t_writtenNow x_t_picturesNow x_t_usedNow x_t_chosen x_t_fearOfChosen x_t_changesNow x_t_left0 x_t_trainMany x_t_leastTries x_t_firstTrained x_t_isKept a1 a2 a3 a4 : Int32} {v_t_tape : Nat → Int32} {o_r : Int32} (hf : f_X12_isBargain v_t_tape a1 a2 a3 a4 = some o_r) : CtI l D cI cB yX12_isBargain cX12_isBargain 8 (some .boolean) 2 44 [.ref A_t, .int a1, .int a2, .int a3, .int a4] [oX12 A_t A_t_now A_t_aside A_t_kept A_t_rhymeOf A_t_wasRhyme A_t_wordAt x_t_wordMany A_t_tape x_t_taped x_t_place0 x_t_length0 x_t_fault x_t_number0 x_t_open x_t_codeMany x_t_waiting x_t_saidMany x_t_clauses A_t_said A_t_waitsAt A_t_saidLetter A_t_saidFrom A_t_saidHalf A_t_saidTo A_t_codes A_t_clauseOf A_t_codeFrom A_t_codeHalf A_t_codeTo A_t_stack A_t_facts x_t_lines A_t_newWords A_t_roundFrom A_t_roundAt A_t_roundTimes x_t_newMany x_t_rounds x_t_itFrom x_t_itTimes x_t_writtenNow x_t_picturesNow x_t_usedNow x_t_chosen x_t_fearOfChosen A_t_leastFrom A_t_rowNow x_t_changesNow x_t_left0 A_t_bornOf A_t_trainsTo A_t_trainAt x_t_trainMany x_t_leastTries x_t_firstTrained x_t_isKept, iA cB 260 A_t_tape v_t_tape] [oX12 A_t A_t_now A_t_aside A_t_kept A_t_rhymeOf A_t_wasRhyme A_t_wordAt x_t_wordMany A_t_tape x_t_taped x_t_place0 x_t_length0 x_t_fault x_t_number0 x_t_open x_t_codeMany x_t_waiting x_t_saidMany x_t_clauses A_t_said A_t_waitsAt A_t_saidLetter A_t_saidFrom A_t_saidHalf A_t_saidTo A_t_codes A_t_clauseOf A_t_codeFrom A_t_codeHalf A_t_codeTo A_t_stack A_t_facts x_t_lines A_t_newWords A_t_roundFrom A_t_roundAt A_t_roundTimes x_t_newMany x_t_rounds x_t_itFrom x_t_itTimes x_t_writtenNow x_t_picturesNow x_t_usedNow x_t_chosen x_t_fearOfChosen A_t_leastFrom A_t_rowNow x_t_changesNow x_t_left0 A_t_bornOf A_t_trainsTo A_t_trainAt x_t_trainMany x_t_leastTries x_t_firstTrained x_t_isKept, iA cB 260 A_t_tape v_t_tape] o_r := by
  refine x_startI (by decide) (Nat.le_of_ble_eq_true rfl) ?_
  intro p e s m below meth c A C hr hlk hA hK hP hD hS ls hl
  have hl : lv_has ls 8 [(0, .ref A_t), (1, .int a1), (2, .int a2), (3, .int a3), (4, .int a4)] := hl
  have hx := C.1
  have hb := C.2.1
  unfold f_X12_isBargain at hf
  have hb_3 : ∀ (n_3 : Nat) (l5 : Int32) (H : Heap) (locs : List Loc) (ls : Array Slot), lv_has ls 8 [(0, .ref A_t), (1, .int a1), (2, .int a2), (3, .int a3), (4, .int a4), (5, .int l5)] → va_P D vwCl [oX12 A_t A_t_now A_t_aside A_t_kept A_t_rhymeOf A_t_wasRhyme A_t_wordAt x_t_wordMany A_t_tape x_t_taped x_t_place0 x_t_length0 x_t_fault x_t_number0 x_t_open x_t_codeMany x_t_waiting x_t_saidMany x_t_clauses A_t_said A_t_waitsAt A_t_saidLetter A_t_saidFrom A_t_saidHalf A_t_saidTo A_t_codes A_t_clauseOf A_t_codeFrom A_t_codeHalf A_t_codeTo A_t_stack A_t_facts x_t_lines A_t_newWords A_t_roundFrom A_t_roundAt A_t_roundTimes x_t_newMany x_t_rounds x_t_itFrom x_t_itTimes x_t_writtenNow x_t_picturesNow x_t_usedNow x_t_chosen x_t_fearOfChosen A_t_leastFrom A_t_rowNow x_t_changesNow x_t_left0 A_t_bornOf A_t_trainsTo A_t_trainAt x_t_trainMany x_t_leastTries x_t_firstTrained x_t_isKept, iA cB 260 A_t_tape v_t_tape] H → va_D A [oX12 A_t A_t_now A_t_aside A_t_kept A_t_rhymeOf A_t_wasRhyme A_t_wordAt x_t_wordMany A_t_tape x_t_taped x_t_place0 x_t_length0 x_t_fault x_t_number0 x_t_open x_t_codeMany x_t_waiting x_t_saidMany x_t_clauses A_t_said A_t_waitsAt A_t_saidLetter A_t_saidFrom A_t_saidHalf A_t_saidTo A_t_codes A_t_clauseOf A_t_codeFrom A_t_codeHalf A_t_codeTo A_t_stack A_t_facts x_t_lines A_t_newWords A_t_roundFrom A_t_roundAt A_t_roundTimes x_t_newMany x_t_rounds x_t_itFrom x_t_itTimes x_t_writtenNow x_t_picturesNow x_t_usedNow x_t_chosen x_t_fearOfChosen A_t_leastFrom A_t_rowNow x_t_changesNow x_t_left0 A_t_bornOf A_t_trainsTo A_t_trainAt x_t_trainMany x_t_leastTries x_t_firstTrained x_t_isKept, iA cB 260 A_t_tape v_t_tape] → va_S A s.heap H locs → f_X12_isBargain_b3 v_t_tape a1 a2 a3 a4 n_3 l5 = some o_r → W p l e { frames := 2, cells := 0, slots := 0, locals := 44 } s m ([.ref A_t, .int a1, .int a2, .int a3, .int a4] : List Value).toArray below meth c H locs 0 0 (MQ below (PoI D A [oX12 A_t A_t_now A_t_aside A_t_kept A_t_rhymeOf A_t_wasRhyme A_t_wordAt x_t_wordMany A_t_tape x_t_taped x_t_place0 x_t_length0 x_t_fault x_t_number0 x_t_open x_t_codeMany x_t_waiting x_t_saidMany x_t_clauses A_t_said A_t_waitsAt A_t_saidLetter A_t_saidFrom A_t_saidHalf A_t_saidTo A_t_codes A_t_clauseOf A_t_codeFrom A_t_codeHalf A_t_codeTo A_t_stack A_t_facts x_t_lines A_t_newWords A_t_roundFrom A_t_roundAt A_t_roundTimes x_t_newMany x_t_rounds x_t_itFrom x_t_itTimes x_t_writtenNow x_t_picturesNow x_t_usedNow x_t_chosen x_t_fearOfChosen A_t_leastFrom A_t_rowNow x_t_changesNow x_t_left0 A_t_bornOf A_t_trainsTo A_t_trainAt x_t_trainMany x_t_leastTries x_t_firstTrained x_t_isKept, iA cB 260 A_t_tape v_t_tape] o_r) ([.ref A_t, .int a1, .int a2, .int a3, .int a4] : List Value).toArray s 0 0 A) (F0 m 3 ls []) := by
    intro n_3
    induction n_3 with
    | zero =>
      intro l5 H locs ls hl hP hD hS hf
      exact absurd hf (fun h => by rw [f_X12_isBargain_b3] at h; cases h)
    | succ n_3 ih_3 =>
      have hb_79 : ∀ (l5 : Int32) (H : Heap) (locs : List Loc) (ls : Array Slot), lv_has ls 8 [(0, .ref A_t), (1, .int a1), (2, .int a2), (3, .int a3), (4, .int a4), (5, .int l5)] → va_P D vwCl [oX12 A_t A_t_now A_t_aside A_t_kept A_t_rhymeOf A_t_wasRhyme A_t_wordAt x_t_wordMany A_t_tape x_t_taped x_t_place0 x_t_length0 x_t_fault x_t_number0 x_t_open x_t_codeMany x_t_waiting x_t_saidMany x_t_clauses A_t_said A_t_waitsAt A_t_saidLetter A_t_saidFrom A_t_saidHalf A_t_saidTo A_t_codes A_t_clauseOf A_t_codeFrom A_t_codeHalf A_t_codeTo A_t_stack A_t_facts x_t_lines A_t_newWords A_t_roundFrom A_t_roundAt A_t_roundTimes x_t_newMany x_t_rounds x_t_itFrom x_t_itTimes x_t_writtenNow x_t_picturesNow x_t_usedNow x_t_chosen x_t_fearOfChosen A_t_leastFrom A_t_rowNow x_t_changesNow x_t_left0 A_t_bornOf A_t_trainsTo A_t_trainAt x_t_trainMany x_t_leastTries x_t_firstTrained x_t_isKept, iA cB 260 A_t_tape v_t_tape] H → va_D A [oX12 A_t A_t_now A_t_aside A_t_kept A_t_rhymeOf A_t_wasRhyme A_t_wordAt x_t_wordMany A_t_tape x_t_taped x_t_place0 x_t_length0 x_t_fault x_t_number0 x_t_open x_t_codeMany x_t_waiting x_t_saidMany x_t_clauses A_t_said A_t_waitsAt A_t_saidLetter A_t_saidFrom A_t_saidHalf A_t_saidTo A_t_codes A_t_clauseOf A_t_codeFrom A_t_codeHalf A_t_codeTo A_t_stack A_t_facts x_t_lines A_t_newWords A_t_roundFrom A_t_roundAt A_t_roundTimes x_t_newMany x_t_rounds x_t_itFrom x_t_itTimes x_t_writtenNow x_t_picturesNow x_t_usedNow x_t_chosen x_t_fearOfChosen A_t_leastFrom A_t_rowNow x_t_changesNow x_t_left0 A_t_bornOf A_t_trainsTo A_t_trainAt x_t_trainMany x_t_leastTries x_t_firstTrained x_t_isKept, iA cB 260 A_t_tape v_t_tape] → va_S A s.heap H locs → f_X12_isBargain_b79 a1 a2 a3 a4 (f_X12_isBargain_b3 v_t_tape a1 a2 a3 a4 n_3) l5 = some o_r → W p l e { frames := 2, cells := 0, slots := 0, locals := 44 } s m ([.ref A_t, .int a1, .int a2, .int a3, .int a4] : List Value).toArray below meth c H locs 0 0 (MQ below (PoI D A [oX12 A_t A_t_now A_t_aside A_t_kept A_t_rhymeOf A_t_wasRhyme A_t_wordAt x_t_wordMany A_t_tape x_t_taped x_t_place0 x_t_length0 x_t_fault x_t_number0 x_t_open x_t_codeMany x_t_waiting x_t_saidMany x_t_clauses A_t_said A_t_waitsAt A_t_saidLetter A_t_saidFrom A_t_saidHalf A_t_saidTo A_t_codes A_t_clauseOf A_t_codeFrom A_t_codeHalf A_t_codeTo A_t_stack A_t_facts x_t_lines A_t_newWords A_t_roundFrom A_t_roundAt A_t_roundTimes x_t_newMany x_t_rounds x_t_itFrom x_t_itTimes x_t_writtenNow x_t_picturesNow x_t_usedNow x_t_chosen x_t_fearOfChosen A_t_leastFrom A_t_rowNow x_t_changesNow x_t_left0 A_t_bornOf A_t_trainsTo A_t_trainAt x_t_trainMany x_t_leastTries x_t_firstTrained x_t_isKept, iA cB 260 A_t_tape v_t_tape] o_r) ([.ref A_t, .int a1, .int a2, .int a3, .int a4] : List Value).toArray s 0 0 A) (F0 m 79 ls []) := by
        intro l5 H locs ls hl hP hD hS hf
        unfold f_X12_isBargain_b79 at hf
        refine lv_iinc (v := (l5 + (1 : Int32))) (lv' := [(5, .int (l5 + (1 : Int32))), (0, .ref A_t), (1, .int a1), (2, .int a2), (3, .int a3), (4, .int a4)]) hx hb dX12_isBargain_79 hl (k := 5) rfl rfl (by decide) rfl (fun ls hl => ?_)
        refine lv_goto (tgt := 3) hx hb dX12_isBargain_82 (by decide) ?_
        exact ih_3 (l5 + (1 : Int32)) _ _ ls (lv_sub hl [1, 2, 3, 4, 5, 0] rfl) hP hD hS hf
      intro l5 H locs ls hl hP hD hS hf
      rw [f_X12_isBargain_b3] at hf
      refine lv_iload hx hb dX12_isBargain_3 (lv_at hl 5 rfl) ?_
      refine lv_iload_n hx hb dX12_isBargain_5 rfl (lv_at hl 1 rfl) ?_
      refine lv_iload_n hx hb dX12_isBargain_6 rfl (lv_at hl 2 rfl) ?_
      refine lv_imul hx hb dX12_isBargain_7 ?_
      refine lv_icmp_ge (tgt := 85) hx hb dX12_isBargain_8 (by decide) (fun q => ?_) (fun q => ?_)
      · have hf := if_t q hf
        refine lv_iconst (v := 1) hx hb dX12_isBargain_85 (by decide) ?_
        obtain rfl := ev1 hf
        exact x_zret C hr hlk (Or.inr rfl) hP hD hS dX12_isBargain_86
      · have hf := if_f q hf
        refine lv_aload_n hx hb dX12_isBargain_11 rfl (lv_at hl 0 rfl) ?_
        refine lv_iload_n hx hb dX12_isBargain_12 rfl (lv_at hl 2 rfl) ?_
        refine lv_iload hx hb dX12_isBargain_13 (lv_at hl 5 rfl) ?_
        refine lv_iload_n hx hb dX12_isBargain_15 rfl (lv_at hl 2 rfl) ?_
        obtain ⟨hz, hf⟩ := dI_e hf
        refine lv_idiv hx hb dX12_isBargain_16 hz ?_
        refine lv_iload hx hb dX12_isBargain_17 (lv_at hl 5 rfl) ?_
        refine lv_iload_n hx hb dX12_isBargain_19 rfl (lv_at hl 2 rfl) ?_
        obtain ⟨hz, hf⟩ := rI_e hf
        refine lv_irem hx hb dX12_isBargain_20 hz ?_
        obtain ⟨r1, hc2, hf⟩ := bd1_e hf
        refine x_callVI (ws' := [oX12 A_t A_t_now A_t_aside A_t_kept A_t_rhymeOf A_t_wasRhyme A_t_wordAt x_t_wordMany A_t_tape x_t_taped x_t_place0 x_t_length0 x_t_fault x_t_number0 x_t_open x_t_codeMany x_t_waiting x_t_saidMany x_t_clauses A_t_said A_t_waitsAt A_t_saidLetter A_t_saidFrom A_t_saidHalf A_t_saidTo A_t_codes A_t_clauseOf A_t_codeFrom A_t_codeHalf A_t_codeTo A_t_stack A_t_facts x_t_lines A_t_newWords A_t_roundFrom A_t_roundAt A_t_roundTimes x_t_newMany x_t_rounds x_t_itFrom x_t_itTimes x_t_writtenNow x_t_picturesNow x_t_usedNow x_t_chosen x_t_fearOfChosen A_t_leastFrom A_t_rowNow x_t_changesNow x_t_left0 A_t_bornOf A_t_trainsTo A_t_trainAt x_t_trainMany x_t_leastTries x_t_firstTrained x_t_isKept, iA cB 260 A_t_tape v_t_tape]) (rest := []) C hK hP hD hS hA hl mf_X12_421 (c_X12_one hc2) [0, 1] 0 12 rfl rfl rfl rfl rfl rfl rfl rfl rfl rfl (Nat.le_of_ble_eq_true rfl) ⟨Nat.le_of_ble_eq_true rfl, Nat.le_of_ble_eq_true rfl⟩ ⟨Nat.le_refl _, Nat.le_refl _⟩ dX12_isBargain_21 ?_
        intro H locs hP hD hS
        refine lv_aload_n hx hb dX12_isBargain_24 rfl (lv_at hl 0 rfl) ?_
        refine lv_iload_n hx hb dX12_isBargain_25 rfl (lv_at hl 2 rfl) ?_
        refine lv_iload_n hx hb dX12_isBargain_26 rfl (lv_at hl 3 rfl) ?_
        refine lv_iload hx hb dX12_isBargain_27 (lv_at hl 4 rfl) ?_
        obtain ⟨r3, hc4, hf⟩ := bd1_e hf
        refine x_callVI (ws' := [oX12 A_t A_t_now A_t_aside A_t_kept A_t_rhymeOf A_t_wasRhyme A_t_wordAt x_t_wordMany A_t_tape x_t_taped x_t_place0 x_t_length0 x_t_fault x_t_number0 x_t_open x_t_codeMany x_t_waiting x_t_saidMany x_t_clauses A_t_said A_t_waitsAt A_t_saidLetter A_t_saidFrom A_t_saidHalf A_t_saidTo A_t_codes A_t_clauseOf A_t_codeFrom A_t_codeHalf A_t_codeTo A_t_stack A_t_facts x_t_lines A_t_newWords A_t_roundFrom A_t_roundAt A_t_roundTimes x_t_newMany x_t_rounds x_t_itFrom x_t_itTimes x_t_writtenNow x_t_picturesNow x_t_usedNow x_t_chosen x_t_fearOfChosen A_t_leastFrom A_t_rowNow x_t_changesNow x_t_left0 A_t_bornOf A_t_trainsTo A_t_trainAt x_t_trainMany x_t_leastTries x_t_firstTrained x_t_isKept, iA cB 260 A_t_tape v_t_tape]) (rest := [.int r1]) C hK hP hD hS hA hl mf_X12_421 (c_X12_one hc4) [0, 1] 0 12 rfl rfl rfl rfl rfl rfl rfl rfl rfl rfl (Nat.le_of_ble_eq_true rfl) ⟨Nat.le_of_ble_eq_true rfl, Nat.le_of_ble_eq_true rfl⟩ ⟨Nat.le_refl _, Nat.le_refl _⟩ dX12_isBargain_29 ?_
        intro H locs hP hD hS
        refine lv_isub hx hb dX12_isBargain_32 ?_
        refine lv_istore (lv' := [(6, .int (r1 - r3)), (0, .ref A_t), (1, .int a1), (2, .int a2), (3, .int a3), (4, .int a4), (5, .int l5)]) hx hb dX12_isBargain_33 hl (by decide) rfl (fun ls hl => ?_)
        refine lv_aload_n hx hb dX12_isBargain_35 rfl (lv_at hl 1 rfl) ?_
        refine lv_iload_n hx hb dX12_isBargain_36 rfl (lv_at hl 3 rfl) ?_
        refine lv_iload hx hb dX12_isBargain_37 (lv_at hl 6 rfl) ?_
        refine lv_iload_n hx hb dX12_isBargain_39 rfl (lv_at hl 3 rfl) ?_
        obtain ⟨hz, hf⟩ := dI_e hf
        refine lv_idiv hx hb dX12_isBargain_40 hz ?_
        refine lv_iload hx hb dX12_isBargain_41 (lv_at hl 6 rfl) ?_
        refine lv_iload_n hx hb dX12_isBargain_43 rfl (lv_at hl 3 rfl) ?_
        obtain ⟨hz, hf⟩ := rI_e hf
        refine lv_irem hx hb dX12_isBargain_44 hz ?_
        obtain ⟨r5, hc6, hf⟩ := bd1_e hf
        refine x_callVI (ws' := [oX12 A_t A_t_now A_t_aside A_t_kept A_t_rhymeOf A_t_wasRhyme A_t_wordAt x_t_wordMany A_t_tape x_t_taped x_t_place0 x_t_length0 x_t_fault x_t_number0 x_t_open x_t_codeMany x_t_waiting x_t_saidMany x_t_clauses A_t_said A_t_waitsAt A_t_saidLetter A_t_saidFrom A_t_saidHalf A_t_saidTo A_t_codes A_t_clauseOf A_t_codeFrom A_t_codeHalf A_t_codeTo A_t_stack A_t_facts x_t_lines A_t_newWords A_t_roundFrom A_t_roundAt A_t_roundTimes x_t_newMany x_t_rounds x_t_itFrom x_t_itTimes x_t_writtenNow x_t_picturesNow x_t_usedNow x_t_chosen x_t_fearOfChosen A_t_leastFrom A_t_rowNow x_t_changesNow x_t_left0 A_t_bornOf A_t_trainsTo A_t_trainAt x_t_trainMany x_t_leastTries x_t_firstTrained x_t_isKept, iA cB 260 A_t_tape v_t_tape]) (rest := []) C hK hP hD hS hA hl mf_X12_424 (c_X12_other hc6) [0, 1] 0 12 rfl rfl rfl rfl rfl rfl rfl rfl rfl rfl (Nat.le_of_ble_eq_true rfl) ⟨Nat.le_of_ble_eq_true rfl, Nat.le_of_ble_eq_true rfl⟩ ⟨Nat.le_refl _, Nat.le_refl _⟩ dX12_isBargain_45 ?_
        intro H locs hP hD hS
        refine lv_aload_n hx hb dX12_isBargain_48 rfl (lv_at hl 1 rfl) ?_
        refine lv_iload_n hx hb dX12_isBargain_49 rfl (lv_at hl 3 rfl) ?_
        refine lv_iload_n hx hb dX12_isBargain_50 rfl (lv_at hl 4 rfl) ?_
        refine lv_iload hx hb dX12_isBargain_51 (lv_at hl 5 rfl) ?_
        obtain ⟨r7, hc8, hf⟩ := bd1_e hf
        refine x_callVI (ws' := [oX12 A_t A_t_now A_t_aside A_t_kept A_t_rhymeOf A_t_wasRhyme A_t_wordAt x_t_wordMany A_t_tape x_t_taped x_t_place0 x_t_length0 x_t_fault x_t_number0 x_t_open x_t_codeMany x_t_waiting x_t_saidMany x_t_clauses A_t_said A_t_waitsAt A_t_saidLetter A_t_saidFrom A_t_saidHalf A_t_saidTo A_t_codes A_t_clauseOf A_t_codeFrom A_t_codeHalf A_t_codeTo A_t_stack A_t_facts x_t_lines A_t_newWords A_t_roundFrom A_t_roundAt A_t_roundTimes x_t_newMany x_t_rounds x_t_itFrom x_t_itTimes x_t_writtenNow x_t_picturesNow x_t_usedNow x_t_chosen x_t_fearOfChosen A_t_leastFrom A_t_rowNow x_t_changesNow x_t_left0 A_t_bornOf A_t_trainsTo A_t_trainAt x_t_trainMany x_t_leastTries x_t_firstTrained x_t_isKept, iA cB 260 A_t_tape v_t_tape]) (rest := [.int r5]) C hK hP hD hS hA hl mf_X12_424 (c_X12_other hc8) [0, 1] 0 12 rfl rfl rfl rfl rfl rfl rfl rfl rfl rfl (Nat.le_of_ble_eq_true rfl) ⟨Nat.le_of_ble_eq_true rfl, Nat.le_of_ble_eq_true rfl⟩ ⟨Nat.le_refl _, Nat.le_refl _⟩ dX12_isBargain_53 ?_
        intro H locs hP hD hS
        refine lv_isub hx hb dX12_isBargain_56 ?_
        refine lv_istore (lv' := [(7, .int (r5 - r7)), (6, .int (r1 - r3)), (0, .ref A_t), (1, .int a1), (2, .int a2), (3, .int a3), (4, .int a4), (5, .int l5)]) hx hb dX12_isBargain_57 hl (by decide) rfl (fun ls hl => ?_)
        refine lv_iload hx hb dX12_isBargain_59 (lv_at hl 1 rfl) ?_
        refine lv_if_lt (tgt := 79) hx hb dX12_isBargain_61 (by decide) (fun q => ?_) (fun q => ?_)
        · have hf := if_t q hf
          exact hb_79 l5 _ _ ls (lv_sub hl [2, 3, 4, 5, 6, 7] rfl) hP hD hS hf
        · have hf := if_f q hf
          refine lv_iload hx hb dX12_isBargain_64 (lv_at hl 0 rfl) ?_
          refine lv_if_lt (tgt := 79) hx hb dX12_isBargain_66 (by decide) (fun q => ?_) (fun q => ?_)
          · have hf := if_t q hf
            exact hb_79 l5 _ _ ls (lv_sub hl [2, 3, 4, 5, 6, 7] rfl) hP hD hS hf
          · have hf := if_f q hf
            refine lv_iload hx hb dX12_isBargain_69 (lv_at hl 1 rfl) ?_
            refine lv_iload hx hb dX12_isBargain_71 (lv_at hl 0 rfl) ?_
            refine lv_iadd hx hb dX12_isBargain_73 ?_
            refine lv_if_le (tgt := 79) hx hb dX12_isBargain_74 (by decide) (fun q => ?_) (fun q => ?_)
            · have hf := if_t q hf
              exact hb_79 l5 _ _ ls (lv_sub hl [2, 3, 4, 5, 6, 7] rfl) hP hD hS hf
            · have hf := if_f q hf
              refine lv_iconst (v := 0) hx hb dX12_isBargain_77 (by decide) ?_
              obtain rfl := ev1 hf
              exact x_zret C hr hlk (Or.inl rfl) hP hD hS dX12_isBargain_78
  refine lv_iconst (v := 0) hx hb dX12_isBargain_0 (by decide) ?_
  refine lv_istore (lv' := [(5, .int (0 : Int32)), (0, .ref A_t), (1, .int a1), (2, .int a2), (3, .int a3), (4, .int a4)]) hx hb dX12_isBargain_1 hl (by decide) rfl (fun ls hl => ?_)
  exact hb_3 FU (0 : Int32) _ _ ls (lv_sub hl [1, 2, 3, 4, 5, 0] rfl) hP hD hS hf
def f_X12_treaty_b41 (x_t_taped : Int32) : Option (Int32 × Int32) :=
  some ((-1 : Int32), x_t_taped)
def f_X12_treaty_b133 (a1 : Int32) (a2 : Int32) (a3 : Int32) (k65 : Int32 → Int32 → Int32 → Int32 → Int32 → Option (Int32 × Int32)) (x_t_taped : Int32) (l4 : Int32) (l5 : Int32) (l6 : Int32) (l7 : Int32) : Option (Int32 × Int32) :=
  k65 x_t_taped l4 l5 l6 (l7 + (-1 : Int32))
def f_X12_treaty_b93 (v_t_tape : (Nat → Int32)) (a1 : Int32) (a2 : Int32) (a3 : Int32) (k65 : Int32 → Int32 → Int32 → Int32 → Int32 → Option (Int32 × Int32)) (x_t_taped : Int32) (l4 : Int32) (l5 : Int32) (l6 : Int32) (l7 : Int32) : Option (Int32 × Int32) :=
  dI l7 a2 (fun g1 =>
  rI l7 a2 (fun g2 =>
  bd1 (f_X12_rests v_t_tape a1 a2 g1 g2) (fun r3 =>
  if r3 = 0 then
    f_X12_treaty_b133 a1 a2 a3 k65 x_t_taped l4 l5 l6 l7
  else
    dI l7 a2 (fun g4 =>
    rI l7 a2 (fun g5 =>
    f_X12_treaty_b133 a1 a2 a3 k65 x_t_taped (l4 + (1 : Int32)) ((g4 * (6 : Int32)) + g5) l6 l7)))))
def f_X12_treaty_b160 (x_t_taped : Int32) (s0 : Int32) : Option (Int32 × Int32) :=
  some (s0, x_t_taped)
def f_X12_treaty_b65 (v_t_tape : (Nat → Int32)) (a1 : Int32) (a2 : Int32) (a3 : Int32) : Nat → Int32 → Int32 → Int32 → Int32 → Int32 → Option (Int32 × Int32)
  | 0, _, _, _, _, _ => none
  | n + 1, x_t_taped, l4, l5, l6, l7 =>
    if l7 < 0 then
      if a3 = 0 then
        f_X12_treaty_b160 x_t_taped l4
      else
        if a3 = (1 : Int32) then
          f_X12_treaty_b160 x_t_taped l5
        else
          f_X12_treaty_b160 x_t_taped l6
    else
      dI l7 a2 (fun g1 =>
      rI l7 a2 (fun g2 =>
      bd1 (f_X12_isBargain v_t_tape a1 a2 g1 g2) (fun r3 =>
      if r3 = 0 then
        f_X12_treaty_b93 v_t_tape a1 a2 a3 (f_X12_treaty_b65 v_t_tape a1 a2 a3 n) x_t_taped l4 l5 l6 l7
      else
        f_X12_treaty_b93 v_t_tape a1 a2 a3 (f_X12_treaty_b65 v_t_tape a1 a2 a3 n) x_t_taped l4 l5 (l6 + (1 : Int32)) l7)))
def f_X12_treaty (v_t_tape : (Nat → Int32)) (x_t_taped : Int32) (a1 : Int32) (a2 : Int32) (a3 : Int32) : Option (Int32 × Int32) :=
  bd1 (f_X12_in a1 (1 : Int32) (6 : Int32)) (fun r4 =>
  if r4 = 0 then
    f_X12_treaty_b41 x_t_taped
  else
    bd1 (f_X12_in a2 (1 : Int32) (6 : Int32)) (fun r5 =>
    if r5 = 0 then
      f_X12_treaty_b41 x_t_taped
    else
      bd1 (f_X12_in a3 (0 : Int32) (2 : Int32)) (fun r6 =>
      if r6 = 0 then
        f_X12_treaty_b41 x_t_taped
      else
        if (((2 : Int32) * a1) * a2) ≤ x_t_taped then
          f_X12_treaty_b65 v_t_tape a1 a2 a3 FU (0 : Int32) (0 : Int32) (-2 : Int32) (0 : Int32) ((a1 * a2) - (1 : Int32))
        else
          f_X12_treaty_b41 x_t_taped)))
set_option maxHeartbeats 4000000 in
set_option maxRecDepth 100000 in
theorem c_X12_treaty {l : Launch} {D : va_G} {cI cB : ClassId} {A_t A_t_now A_t_aside A_t_kept A_t_rhymeOf A_t_wasRhyme A_t_wordAt A_t_tape A_t_said A_t_waitsAt A_t_saidLetter A_t_saidFrom A_t_saidHalf A_t_saidTo A_t_codes A_t_clauseOf A_t_codeFrom A_t_codeHalf A_t_codeTo A_t_stack A_t_facts A_t_newWords A_t_roundFrom A_t_roundAt A_t_roundTimes A_t_leastFrom A_t_rowNow A_t_bornOf A_t_trainsTo A_t_trainAt : Nat} {x_t_wordMany x_t_taped x_t_place0 x_t_length0 x_t_fault x_t_number0 x_t_open x_t_codeMany x_t_waiting x_t_saidMany x_t_clauses x_t_lines x_t_newMany x_t_rounds x_t_itFrom x_t_itTimes x_t_writtenNow x_t_picturesNow x_t_usedNow x_t_chosen x_t_fearOfChosen x_t_changesNow x_t_left0 x_t_trainMany x_t_leastTries x_t_firstTrained x_t_isKept a1 a2 a3 : Int32} {v_t_tape : Nat → Int32} {o_r o_x_t_taped : Int32} (hf : f_X12_treaty v_t_tape x_t_taped a1 a2 a3 = some (o_r, o_x_t_taped)) : CtI l D cI cB yX12_treaty cX12_treaty 8 (some .int) 3 71 [.ref A_t, .int a1, .int a2, .int a3] [oX12 A_t A_t_now A_t_aside A_t_kept A_t_rhymeOf A_t_wasRhyme A_t_wordAt x_t_wordMany A_t_tape x_t_taped x_t_place0 x_t_length0 x_t_fault x_t_number0 x_t_open x_t_codeMany x_t_waiting x_t_saidMany x_t_clauses A_t_said A_t_waitsAt A_t_saidLetter A_t_saidFrom A_t_saidHalf A_t_saidTo A_t_codes A_t_clauseOf A_t_codeFrom A_t_codeHalf A_t_codeTo A_t_stack A_t_facts x_t_lines A_t_newWords A_t_roundFrom A_t_roundAt A_t_roundTimes x_t_newMany x_t_rounds x_t_itFrom x_t_itTimes x_t_writtenNow x_t_picturesNow x_t_usedNow x_t_chosen x_t_fearOfChosen A_t_leastFrom A_t_rowNow x_t_changesNow x_t_left0 A_t_bornOf A_t_trainsTo A_t_trainAt x_t_trainMany x_t_leastTries x_t_firstTrained x_t_isKept, iA cB 260 A_t_tape v_t_tape] [oX12 A_t A_t_now A_t_aside A_t_kept A_t_rhymeOf A_t_wasRhyme A_t_wordAt x_t_wordMany A_t_tape o_x_t_taped x_t_place0 x_t_length0 x_t_fault x_t_number0 x_t_open x_t_codeMany x_t_waiting x_t_saidMany x_t_clauses A_t_said A_t_waitsAt A_t_saidLetter A_t_saidFrom A_t_saidHalf A_t_saidTo A_t_codes A_t_clauseOf A_t_codeFrom A_t_codeHalf A_t_codeTo A_t_stack A_t_facts x_t_lines A_t_newWords A_t_roundFrom A_t_roundAt A_t_roundTimes x_t_newMany x_t_rounds x_t_itFrom x_t_itTimes x_t_writtenNow x_t_picturesNow x_t_usedNow x_t_chosen x_t_fearOfChosen A_t_leastFrom A_t_rowNow x_t_changesNow x_t_left0 A_t_bornOf A_t_trainsTo A_t_trainAt x_t_trainMany x_t_leastTries x_t_firstTrained x_t_isKept, iA cB 260 A_t_tape v_t_tape] o_r := by
  refine x_startI (by decide) (Nat.le_of_ble_eq_true rfl) ?_
  intro p e s m below meth c A C hr hlk hA hK hP hD hS ls hl
  have hl : lv_has ls 8 [(0, .ref A_t), (1, .int a1), (2, .int a2), (3, .int a3)] := hl
  have hx := C.1
  have hb := C.2.1
  unfold f_X12_treaty at hf
  have hb_41 : ∀ (x_t_taped : Int32) (H : Heap) (locs : List Loc) (ls : Array Slot), lv_has ls 8 [] → va_P D vwCl [oX12 A_t A_t_now A_t_aside A_t_kept A_t_rhymeOf A_t_wasRhyme A_t_wordAt x_t_wordMany A_t_tape x_t_taped x_t_place0 x_t_length0 x_t_fault x_t_number0 x_t_open x_t_codeMany x_t_waiting x_t_saidMany x_t_clauses A_t_said A_t_waitsAt A_t_saidLetter A_t_saidFrom A_t_saidHalf A_t_saidTo A_t_codes A_t_clauseOf A_t_codeFrom A_t_codeHalf A_t_codeTo A_t_stack A_t_facts x_t_lines A_t_newWords A_t_roundFrom A_t_roundAt A_t_roundTimes x_t_newMany x_t_rounds x_t_itFrom x_t_itTimes x_t_writtenNow x_t_picturesNow x_t_usedNow x_t_chosen x_t_fearOfChosen A_t_leastFrom A_t_rowNow x_t_changesNow x_t_left0 A_t_bornOf A_t_trainsTo A_t_trainAt x_t_trainMany x_t_leastTries x_t_firstTrained x_t_isKept, iA cB 260 A_t_tape v_t_tape] H → va_D A [oX12 A_t A_t_now A_t_aside A_t_kept A_t_rhymeOf A_t_wasRhyme A_t_wordAt x_t_wordMany A_t_tape x_t_taped x_t_place0 x_t_length0 x_t_fault x_t_number0 x_t_open x_t_codeMany x_t_waiting x_t_saidMany x_t_clauses A_t_said A_t_waitsAt A_t_saidLetter A_t_saidFrom A_t_saidHalf A_t_saidTo A_t_codes A_t_clauseOf A_t_codeFrom A_t_codeHalf A_t_codeTo A_t_stack A_t_facts x_t_lines A_t_newWords A_t_roundFrom A_t_roundAt A_t_roundTimes x_t_newMany x_t_rounds x_t_itFrom x_t_itTimes x_t_writtenNow x_t_picturesNow x_t_usedNow x_t_chosen x_t_fearOfChosen A_t_leastFrom A_t_rowNow x_t_changesNow x_t_left0 A_t_bornOf A_t_trainsTo A_t_trainAt x_t_trainMany x_t_leastTries x_t_firstTrained x_t_isKept, iA cB 260 A_t_tape v_t_tape] → va_S A s.heap H locs → f_X12_treaty_b41 x_t_taped = some (o_r, o_x_t_taped) → W p l e { frames := 3, cells := 0, slots := 0, locals := 71 } s m ([.ref A_t, .int a1, .int a2, .int a3] : List Value).toArray below meth c H locs 0 0 (MQ below (PoI D A [oX12 A_t A_t_now A_t_aside A_t_kept A_t_rhymeOf A_t_wasRhyme A_t_wordAt x_t_wordMany A_t_tape o_x_t_taped x_t_place0 x_t_length0 x_t_fault x_t_number0 x_t_open x_t_codeMany x_t_waiting x_t_saidMany x_t_clauses A_t_said A_t_waitsAt A_t_saidLetter A_t_saidFrom A_t_saidHalf A_t_saidTo A_t_codes A_t_clauseOf A_t_codeFrom A_t_codeHalf A_t_codeTo A_t_stack A_t_facts x_t_lines A_t_newWords A_t_roundFrom A_t_roundAt A_t_roundTimes x_t_newMany x_t_rounds x_t_itFrom x_t_itTimes x_t_writtenNow x_t_picturesNow x_t_usedNow x_t_chosen x_t_fearOfChosen A_t_leastFrom A_t_rowNow x_t_changesNow x_t_left0 A_t_bornOf A_t_trainsTo A_t_trainAt x_t_trainMany x_t_leastTries x_t_firstTrained x_t_isKept, iA cB 260 A_t_tape v_t_tape] o_r) ([.ref A_t, .int a1, .int a2, .int a3] : List Value).toArray s 0 0 A) (F0 m 41 ls []) := by
    intro x_t_taped H locs ls hl hP hD hS hf
    unfold f_X12_treaty_b41 at hf
    refine lv_iconst (v := -1) hx hb dX12_treaty_41 (by decide) ?_
    obtain ⟨rfl, rfl⟩ := ev2 hf
    exact x_iret C hr hlk hP hD hS dX12_treaty_42
  have hb_160 : ∀ (x_t_taped : Int32) (s0 : Int32) (H : Heap) (locs : List Loc) (ls : Array Slot), lv_has ls 8 [] → va_P D vwCl [oX12 A_t A_t_now A_t_aside A_t_kept A_t_rhymeOf A_t_wasRhyme A_t_wordAt x_t_wordMany A_t_tape x_t_taped x_t_place0 x_t_length0 x_t_fault x_t_number0 x_t_open x_t_codeMany x_t_waiting x_t_saidMany x_t_clauses A_t_said A_t_waitsAt A_t_saidLetter A_t_saidFrom A_t_saidHalf A_t_saidTo A_t_codes A_t_clauseOf A_t_codeFrom A_t_codeHalf A_t_codeTo A_t_stack A_t_facts x_t_lines A_t_newWords A_t_roundFrom A_t_roundAt A_t_roundTimes x_t_newMany x_t_rounds x_t_itFrom x_t_itTimes x_t_writtenNow x_t_picturesNow x_t_usedNow x_t_chosen x_t_fearOfChosen A_t_leastFrom A_t_rowNow x_t_changesNow x_t_left0 A_t_bornOf A_t_trainsTo A_t_trainAt x_t_trainMany x_t_leastTries x_t_firstTrained x_t_isKept, iA cB 260 A_t_tape v_t_tape] H → va_D A [oX12 A_t A_t_now A_t_aside A_t_kept A_t_rhymeOf A_t_wasRhyme A_t_wordAt x_t_wordMany A_t_tape x_t_taped x_t_place0 x_t_length0 x_t_fault x_t_number0 x_t_open x_t_codeMany x_t_waiting x_t_saidMany x_t_clauses A_t_said A_t_waitsAt A_t_saidLetter A_t_saidFrom A_t_saidHalf A_t_saidTo A_t_codes A_t_clauseOf A_t_codeFrom A_t_codeHalf A_t_codeTo A_t_stack A_t_facts x_t_lines A_t_newWords A_t_roundFrom A_t_roundAt A_t_roundTimes x_t_newMany x_t_rounds x_t_itFrom x_t_itTimes x_t_writtenNow x_t_picturesNow x_t_usedNow x_t_chosen x_t_fearOfChosen A_t_leastFrom A_t_rowNow x_t_changesNow x_t_left0 A_t_bornOf A_t_trainsTo A_t_trainAt x_t_trainMany x_t_leastTries x_t_firstTrained x_t_isKept, iA cB 260 A_t_tape v_t_tape] → va_S A s.heap H locs → f_X12_treaty_b160 x_t_taped s0 = some (o_r, o_x_t_taped) → W p l e { frames := 3, cells := 0, slots := 0, locals := 71 } s m ([.ref A_t, .int a1, .int a2, .int a3] : List Value).toArray below meth c H locs 0 0 (MQ below (PoI D A [oX12 A_t A_t_now A_t_aside A_t_kept A_t_rhymeOf A_t_wasRhyme A_t_wordAt x_t_wordMany A_t_tape o_x_t_taped x_t_place0 x_t_length0 x_t_fault x_t_number0 x_t_open x_t_codeMany x_t_waiting x_t_saidMany x_t_clauses A_t_said A_t_waitsAt A_t_saidLetter A_t_saidFrom A_t_saidHalf A_t_saidTo A_t_codes A_t_clauseOf A_t_codeFrom A_t_codeHalf A_t_codeTo A_t_stack A_t_facts x_t_lines A_t_newWords A_t_roundFrom A_t_roundAt A_t_roundTimes x_t_newMany x_t_rounds x_t_itFrom x_t_itTimes x_t_writtenNow x_t_picturesNow x_t_usedNow x_t_chosen x_t_fearOfChosen A_t_leastFrom A_t_rowNow x_t_changesNow x_t_left0 A_t_bornOf A_t_trainsTo A_t_trainAt x_t_trainMany x_t_leastTries x_t_firstTrained x_t_isKept, iA cB 260 A_t_tape v_t_tape] o_r) ([.ref A_t, .int a1, .int a2, .int a3] : List Value).toArray s 0 0 A) (F0 m 160 ls [.int s0]) := by
    intro x_t_taped s0 H locs ls hl hP hD hS hf
    unfold f_X12_treaty_b160 at hf
    obtain ⟨rfl, rfl⟩ := ev2 hf
    exact x_iret C hr hlk hP hD hS dX12_treaty_160
  have hb_65 : ∀ (n_65 : Nat) (x_t_taped : Int32) (l4 : Int32) (l5 : Int32) (l6 : Int32) (l7 : Int32) (H : Heap) (locs : List Loc) (ls : Array Slot), lv_has ls 8 [(0, .ref A_t), (1, .int a1), (2, .int a2), (3, .int a3), (4, .int l4), (5, .int l5), (6, .int l6), (7, .int l7)] → va_P D vwCl [oX12 A_t A_t_now A_t_aside A_t_kept A_t_rhymeOf A_t_wasRhyme A_t_wordAt x_t_wordMany A_t_tape x_t_taped x_t_place0 x_t_length0 x_t_fault x_t_number0 x_t_open x_t_codeMany x_t_waiting x_t_saidMany x_t_clauses A_t_said A_t_waitsAt A_t_saidLetter A_t_saidFrom A_t_saidHalf A_t_saidTo A_t_codes A_t_clauseOf A_t_codeFrom A_t_codeHalf A_t_codeTo A_t_stack A_t_facts x_t_lines A_t_newWords A_t_roundFrom A_t_roundAt A_t_roundTimes x_t_newMany x_t_rounds x_t_itFrom x_t_itTimes x_t_writtenNow x_t_picturesNow x_t_usedNow x_t_chosen x_t_fearOfChosen A_t_leastFrom A_t_rowNow x_t_changesNow x_t_left0 A_t_bornOf A_t_trainsTo A_t_trainAt x_t_trainMany x_t_leastTries x_t_firstTrained x_t_isKept, iA cB 260 A_t_tape v_t_tape] H → va_D A [oX12 A_t A_t_now A_t_aside A_t_kept A_t_rhymeOf A_t_wasRhyme A_t_wordAt x_t_wordMany A_t_tape x_t_taped x_t_place0 x_t_length0 x_t_fault x_t_number0 x_t_open x_t_codeMany x_t_waiting x_t_saidMany x_t_clauses A_t_said A_t_waitsAt A_t_saidLetter A_t_saidFrom A_t_saidHalf A_t_saidTo A_t_codes A_t_clauseOf A_t_codeFrom A_t_codeHalf A_t_codeTo A_t_stack A_t_facts x_t_lines A_t_newWords A_t_roundFrom A_t_roundAt A_t_roundTimes x_t_newMany x_t_rounds x_t_itFrom x_t_itTimes x_t_writtenNow x_t_picturesNow x_t_usedNow x_t_chosen x_t_fearOfChosen A_t_leastFrom A_t_rowNow x_t_changesNow x_t_left0 A_t_bornOf A_t_trainsTo A_t_trainAt x_t_trainMany x_t_leastTries x_t_firstTrained x_t_isKept, iA cB 260 A_t_tape v_t_tape] → va_S A s.heap H locs → f_X12_treaty_b65 v_t_tape a1 a2 a3 n_65 x_t_taped l4 l5 l6 l7 = some (o_r, o_x_t_taped) → W p l e { frames := 3, cells := 0, slots := 0, locals := 71 } s m ([.ref A_t, .int a1, .int a2, .int a3] : List Value).toArray below meth c H locs 0 0 (MQ below (PoI D A [oX12 A_t A_t_now A_t_aside A_t_kept A_t_rhymeOf A_t_wasRhyme A_t_wordAt x_t_wordMany A_t_tape o_x_t_taped x_t_place0 x_t_length0 x_t_fault x_t_number0 x_t_open x_t_codeMany x_t_waiting x_t_saidMany x_t_clauses A_t_said A_t_waitsAt A_t_saidLetter A_t_saidFrom A_t_saidHalf A_t_saidTo A_t_codes A_t_clauseOf A_t_codeFrom A_t_codeHalf A_t_codeTo A_t_stack A_t_facts x_t_lines A_t_newWords A_t_roundFrom A_t_roundAt A_t_roundTimes x_t_newMany x_t_rounds x_t_itFrom x_t_itTimes x_t_writtenNow x_t_picturesNow x_t_usedNow x_t_chosen x_t_fearOfChosen A_t_leastFrom A_t_rowNow x_t_changesNow x_t_left0 A_t_bornOf A_t_trainsTo A_t_trainAt x_t_trainMany x_t_leastTries x_t_firstTrained x_t_isKept, iA cB 260 A_t_tape v_t_tape] o_r) ([.ref A_t, .int a1, .int a2, .int a3] : List Value).toArray s 0 0 A) (F0 m 65 ls []) := by
    intro n_65
    induction n_65 with
    | zero =>
      intro x_t_taped l4 l5 l6 l7 H locs ls hl hP hD hS hf
      exact absurd hf (fun h => by rw [f_X12_treaty_b65] at h; cases h)
    | succ n_65 ih_65 =>
      have hb_133 : ∀ (x_t_taped : Int32) (l4 : Int32) (l5 : Int32) (l6 : Int32) (l7 : Int32) (H : Heap) (locs : List Loc) (ls : Array Slot), lv_has ls 8 [(0, .ref A_t), (1, .int a1), (2, .int a2), (3, .int a3), (4, .int l4), (5, .int l5), (6, .int l6), (7, .int l7)] → va_P D vwCl [oX12 A_t A_t_now A_t_aside A_t_kept A_t_rhymeOf A_t_wasRhyme A_t_wordAt x_t_wordMany A_t_tape x_t_taped x_t_place0 x_t_length0 x_t_fault x_t_number0 x_t_open x_t_codeMany x_t_waiting x_t_saidMany x_t_clauses A_t_said A_t_waitsAt A_t_saidLetter A_t_saidFrom A_t_saidHalf A_t_saidTo A_t_codes A_t_clauseOf A_t_codeFrom A_t_codeHalf A_t_codeTo A_t_stack A_t_facts x_t_lines A_t_newWords A_t_roundFrom A_t_roundAt A_t_roundTimes x_t_newMany x_t_rounds x_t_itFrom x_t_itTimes x_t_writtenNow x_t_picturesNow x_t_usedNow x_t_chosen x_t_fearOfChosen A_t_leastFrom A_t_rowNow x_t_changesNow x_t_left0 A_t_bornOf A_t_trainsTo A_t_trainAt x_t_trainMany x_t_leastTries x_t_firstTrained x_t_isKept, iA cB 260 A_t_tape v_t_tape] H → va_D A [oX12 A_t A_t_now A_t_aside A_t_kept A_t_rhymeOf A_t_wasRhyme A_t_wordAt x_t_wordMany A_t_tape x_t_taped x_t_place0 x_t_length0 x_t_fault x_t_number0 x_t_open x_t_codeMany x_t_waiting x_t_saidMany x_t_clauses A_t_said A_t_waitsAt A_t_saidLetter A_t_saidFrom A_t_saidHalf A_t_saidTo A_t_codes A_t_clauseOf A_t_codeFrom A_t_codeHalf A_t_codeTo A_t_stack A_t_facts x_t_lines A_t_newWords A_t_roundFrom A_t_roundAt A_t_roundTimes x_t_newMany x_t_rounds x_t_itFrom x_t_itTimes x_t_writtenNow x_t_picturesNow x_t_usedNow x_t_chosen x_t_fearOfChosen A_t_leastFrom A_t_rowNow x_t_changesNow x_t_left0 A_t_bornOf A_t_trainsTo A_t_trainAt x_t_trainMany x_t_leastTries x_t_firstTrained x_t_isKept, iA cB 260 A_t_tape v_t_tape] → va_S A s.heap H locs → f_X12_treaty_b133 a1 a2 a3 (f_X12_treaty_b65 v_t_tape a1 a2 a3 n_65) x_t_taped l4 l5 l6 l7 = some (o_r, o_x_t_taped) → W p l e { frames := 3, cells := 0, slots := 0, locals := 71 } s m ([.ref A_t, .int a1, .int a2, .int a3] : List Value).toArray below meth c H locs 0 0 (MQ below (PoI D A [oX12 A_t A_t_now A_t_aside A_t_kept A_t_rhymeOf A_t_wasRhyme A_t_wordAt x_t_wordMany A_t_tape o_x_t_taped x_t_place0 x_t_length0 x_t_fault x_t_number0 x_t_open x_t_codeMany x_t_waiting x_t_saidMany x_t_clauses A_t_said A_t_waitsAt A_t_saidLetter A_t_saidFrom A_t_saidHalf A_t_saidTo A_t_codes A_t_clauseOf A_t_codeFrom A_t_codeHalf A_t_codeTo A_t_stack A_t_facts x_t_lines A_t_newWords A_t_roundFrom A_t_roundAt A_t_roundTimes x_t_newMany x_t_rounds x_t_itFrom x_t_itTimes x_t_writtenNow x_t_picturesNow x_t_usedNow x_t_chosen x_t_fearOfChosen A_t_leastFrom A_t_rowNow x_t_changesNow x_t_left0 A_t_bornOf A_t_trainsTo A_t_trainAt x_t_trainMany x_t_leastTries x_t_firstTrained x_t_isKept, iA cB 260 A_t_tape v_t_tape] o_r) ([.ref A_t, .int a1, .int a2, .int a3] : List Value).toArray s 0 0 A) (F0 m 133 ls []) := by
        intro x_t_taped l4 l5 l6 l7 H locs ls hl hP hD hS hf
        unfold f_X12_treaty_b133 at hf
        refine lv_iinc (v := (l7 + (-1 : Int32))) (lv' := [(7, .int (l7 + (-1 : Int32))), (0, .ref A_t), (1, .int a1), (2, .int a2), (3, .int a3), (4, .int l4), (5, .int l5), (6, .int l6)]) hx hb dX12_treaty_133 hl (k := 7) rfl rfl (by decide) rfl (fun ls hl => ?_)
        refine lv_goto (tgt := 65) hx hb dX12_treaty_136 (by decide) ?_
        exact ih_65 x_t_taped l4 l5 l6 (l7 + (-1 : Int32)) _ _ ls (lv_sub hl [1, 2, 3, 4, 5, 6, 7, 0] rfl) hP hD hS hf
      have hb_93 : ∀ (x_t_taped : Int32) (l4 : Int32) (l5 : Int32) (l6 : Int32) (l7 : Int32) (H : Heap) (locs : List Loc) (ls : Array Slot), lv_has ls 8 [(0, .ref A_t), (1, .int a1), (2, .int a2), (3, .int a3), (4, .int l4), (5, .int l5), (6, .int l6), (7, .int l7)] → va_P D vwCl [oX12 A_t A_t_now A_t_aside A_t_kept A_t_rhymeOf A_t_wasRhyme A_t_wordAt x_t_wordMany A_t_tape x_t_taped x_t_place0 x_t_length0 x_t_fault x_t_number0 x_t_open x_t_codeMany x_t_waiting x_t_saidMany x_t_clauses A_t_said A_t_waitsAt A_t_saidLetter A_t_saidFrom A_t_saidHalf A_t_saidTo A_t_codes A_t_clauseOf A_t_codeFrom A_t_codeHalf A_t_codeTo A_t_stack A_t_facts x_t_lines A_t_newWords A_t_roundFrom A_t_roundAt A_t_roundTimes x_t_newMany x_t_rounds x_t_itFrom x_t_itTimes x_t_writtenNow x_t_picturesNow x_t_usedNow x_t_chosen x_t_fearOfChosen A_t_leastFrom A_t_rowNow x_t_changesNow x_t_left0 A_t_bornOf A_t_trainsTo A_t_trainAt x_t_trainMany x_t_leastTries x_t_firstTrained x_t_isKept, iA cB 260 A_t_tape v_t_tape] H → va_D A [oX12 A_t A_t_now A_t_aside A_t_kept A_t_rhymeOf A_t_wasRhyme A_t_wordAt x_t_wordMany A_t_tape x_t_taped x_t_place0 x_t_length0 x_t_fault x_t_number0 x_t_open x_t_codeMany x_t_waiting x_t_saidMany x_t_clauses A_t_said A_t_waitsAt A_t_saidLetter A_t_saidFrom A_t_saidHalf A_t_saidTo A_t_codes A_t_clauseOf A_t_codeFrom A_t_codeHalf A_t_codeTo A_t_stack A_t_facts x_t_lines A_t_newWords A_t_roundFrom A_t_roundAt A_t_roundTimes x_t_newMany x_t_rounds x_t_itFrom x_t_itTimes x_t_writtenNow x_t_picturesNow x_t_usedNow x_t_chosen x_t_fearOfChosen A_t_leastFrom A_t_rowNow x_t_changesNow x_t_left0 A_t_bornOf A_t_trainsTo A_t_trainAt x_t_trainMany x_t_leastTries x_t_firstTrained x_t_isKept, iA cB 260 A_t_tape v_t_tape] → va_S A s.heap H locs → f_X12_treaty_b93 v_t_tape a1 a2 a3 (f_X12_treaty_b65 v_t_tape a1 a2 a3 n_65) x_t_taped l4 l5 l6 l7 = some (o_r, o_x_t_taped) → W p l e { frames := 3, cells := 0, slots := 0, locals := 71 } s m ([.ref A_t, .int a1, .int a2, .int a3] : List Value).toArray below meth c H locs 0 0 (MQ below (PoI D A [oX12 A_t A_t_now A_t_aside A_t_kept A_t_rhymeOf A_t_wasRhyme A_t_wordAt x_t_wordMany A_t_tape o_x_t_taped x_t_place0 x_t_length0 x_t_fault x_t_number0 x_t_open x_t_codeMany x_t_waiting x_t_saidMany x_t_clauses A_t_said A_t_waitsAt A_t_saidLetter A_t_saidFrom A_t_saidHalf A_t_saidTo A_t_codes A_t_clauseOf A_t_codeFrom A_t_codeHalf A_t_codeTo A_t_stack A_t_facts x_t_lines A_t_newWords A_t_roundFrom A_t_roundAt A_t_roundTimes x_t_newMany x_t_rounds x_t_itFrom x_t_itTimes x_t_writtenNow x_t_picturesNow x_t_usedNow x_t_chosen x_t_fearOfChosen A_t_leastFrom A_t_rowNow x_t_changesNow x_t_left0 A_t_bornOf A_t_trainsTo A_t_trainAt x_t_trainMany x_t_leastTries x_t_firstTrained x_t_isKept, iA cB 260 A_t_tape v_t_tape] o_r) ([.ref A_t, .int a1, .int a2, .int a3] : List Value).toArray s 0 0 A) (F0 m 93 ls []) := by
        intro x_t_taped l4 l5 l6 l7 H locs ls hl hP hD hS hf
        unfold f_X12_treaty_b93 at hf
        refine lv_aload_n hx hb dX12_treaty_93 rfl (lv_at hl 0 rfl) ?_
        refine lv_iload_n hx hb dX12_treaty_94 rfl (lv_at hl 1 rfl) ?_
        refine lv_iload_n hx hb dX12_treaty_95 rfl (lv_at hl 2 rfl) ?_
        refine lv_iload hx hb dX12_treaty_96 (lv_at hl 7 rfl) ?_
        refine lv_iload_n hx hb dX12_treaty_98 rfl (lv_at hl 2 rfl) ?_
        obtain ⟨hz, hf⟩ := dI_e hf
        refine lv_idiv hx hb dX12_treaty_99 hz ?_
        refine lv_iload hx hb dX12_treaty_100 (lv_at hl 7 rfl) ?_
        refine lv_iload_n hx hb dX12_treaty_102 rfl (lv_at hl 2 rfl) ?_
        obtain ⟨hz, hf⟩ := rI_e hf
        refine lv_irem hx hb dX12_treaty_103 hz ?_
        obtain ⟨r1, hc2, hf⟩ := bd1_e hf
        refine x_callVI (ws' := [oX12 A_t A_t_now A_t_aside A_t_kept A_t_rhymeOf A_t_wasRhyme A_t_wordAt x_t_wordMany A_t_tape x_t_taped x_t_place0 x_t_length0 x_t_fault x_t_number0 x_t_open x_t_codeMany x_t_waiting x_t_saidMany x_t_clauses A_t_said A_t_waitsAt A_t_saidLetter A_t_saidFrom A_t_saidHalf A_t_saidTo A_t_codes A_t_clauseOf A_t_codeFrom A_t_codeHalf A_t_codeTo A_t_stack A_t_facts x_t_lines A_t_newWords A_t_roundFrom A_t_roundAt A_t_roundTimes x_t_newMany x_t_rounds x_t_itFrom x_t_itTimes x_t_writtenNow x_t_picturesNow x_t_usedNow x_t_chosen x_t_fearOfChosen A_t_leastFrom A_t_rowNow x_t_changesNow x_t_left0 A_t_bornOf A_t_trainsTo A_t_trainAt x_t_trainMany x_t_leastTries x_t_firstTrained x_t_isKept, iA cB 260 A_t_tape v_t_tape]) (rest := []) C hK hP hD hS hA hl mf_X12_431 (c_X12_rests hc2) [0, 1] 0 12 rfl rfl rfl rfl rfl rfl rfl rfl rfl rfl (Nat.le_of_ble_eq_true rfl) ⟨Nat.le_of_ble_eq_true rfl, Nat.le_of_ble_eq_true rfl⟩ ⟨Nat.le_refl _, Nat.le_refl _⟩ dX12_treaty_104 ?_
        intro H locs hP hD hS
        refine lv_if_ne (tgt := 113) hx hb dX12_treaty_107 (by decide) (fun q => ?_) (fun q => ?_)
        · have hf := if_f q hf
          refine lv_iload hx hb dX12_treaty_113 (lv_at hl 4 rfl) ?_
          refine lv_iconst (v := 1) hx hb dX12_treaty_115 (by decide) ?_
          refine lv_iadd hx hb dX12_treaty_116 ?_
          refine lv_istore (lv' := [(4, .int (l4 + (1 : Int32))), (0, .ref A_t), (1, .int a1), (2, .int a2), (3, .int a3), (5, .int l5), (6, .int l6), (7, .int l7)]) hx hb dX12_treaty_117 hl (by decide) rfl (fun ls hl => ?_)
          refine lv_iload hx hb dX12_treaty_119 (lv_at hl 7 rfl) ?_
          refine lv_iload_n hx hb dX12_treaty_121 rfl (lv_at hl 3 rfl) ?_
          obtain ⟨hz, hf⟩ := dI_e hf
          refine lv_idiv hx hb dX12_treaty_122 hz ?_
          refine lv_bipush (v := 6) hx hb dX12_treaty_123 (by decide) ?_
          refine lv_imul hx hb dX12_treaty_125 ?_
          refine lv_iload hx hb dX12_treaty_126 (lv_at hl 7 rfl) ?_
          refine lv_iload_n hx hb dX12_treaty_128 rfl (lv_at hl 3 rfl) ?_
          obtain ⟨hz, hf⟩ := rI_e hf
          refine lv_irem hx hb dX12_treaty_129 hz ?_
          refine lv_iadd hx hb dX12_treaty_130 ?_
          refine lv_istore (lv' := [(5, .int (((l7 / a2) * (6 : Int32)) + (l7 - l7 / a2 * a2))), (4, .int (l4 + (1 : Int32))), (0, .ref A_t), (1, .int a1), (2, .int a2), (3, .int a3), (6, .int l6), (7, .int l7)]) hx hb dX12_treaty_131 hl (by decide) rfl (fun ls hl => ?_)
          exact hb_133 x_t_taped (l4 + (1 : Int32)) (((l7 / a2) * (6 : Int32)) + (l7 - l7 / a2 * a2)) l6 l7 _ _ ls (lv_sub hl [2, 3, 4, 5, 1, 0, 6, 7] rfl) hP hD hS hf
        · have hf := if_t q hf
          refine lv_goto (tgt := 133) hx hb dX12_treaty_110 (by decide) ?_
          exact hb_133 x_t_taped l4 l5 l6 l7 _ _ ls (lv_sub hl [0, 1, 2, 3, 4, 5, 6, 7] rfl) hP hD hS hf
      intro x_t_taped l4 l5 l6 l7 H locs ls hl hP hD hS hf
      rw [f_X12_treaty_b65] at hf
      refine lv_iload hx hb dX12_treaty_65 (lv_at hl 7 rfl) ?_
      refine lv_if_lt (tgt := 139) hx hb dX12_treaty_67 (by decide) (fun q => ?_) (fun q => ?_)
      · have hf := if_t q hf
        refine lv_iload_n hx hb dX12_treaty_139 rfl (lv_at hl 3 rfl) ?_
        refine lv_if_ne (tgt := 148) hx hb dX12_treaty_140 (by decide) (fun q => ?_) (fun q => ?_)
        · have hf := if_f q hf
          refine lv_iload_n hx hb dX12_treaty_148 rfl (lv_at hl 3 rfl) ?_
          refine lv_iconst (v := 1) hx hb dX12_treaty_149 (by decide) ?_
          refine lv_icmp_ne (tgt := 158) hx hb dX12_treaty_150 (by decide) (fun q => ?_) (fun q => ?_)
          · have hf := if_f q hf
            refine lv_iload hx hb dX12_treaty_158 (lv_at hl 6 rfl) ?_
            exact hb_160 x_t_taped l6 _ _ ls (lv_sub hl [] rfl) hP hD hS hf
          · have hf := if_t q hf
            refine lv_iload hx hb dX12_treaty_153 (lv_at hl 5 rfl) ?_
            refine lv_goto (tgt := 160) hx hb dX12_treaty_155 (by decide) ?_
            exact hb_160 x_t_taped l5 _ _ ls (lv_sub hl [] rfl) hP hD hS hf
        · have hf := if_t q hf
          refine lv_iload hx hb dX12_treaty_143 (lv_at hl 4 rfl) ?_
          refine lv_goto (tgt := 160) hx hb dX12_treaty_145 (by decide) ?_
          exact hb_160 x_t_taped l4 _ _ ls (lv_sub hl [] rfl) hP hD hS hf
      · have hf := if_f q hf
        refine lv_aload_n hx hb dX12_treaty_70 rfl (lv_at hl 0 rfl) ?_
        refine lv_iload_n hx hb dX12_treaty_71 rfl (lv_at hl 1 rfl) ?_
        refine lv_iload_n hx hb dX12_treaty_72 rfl (lv_at hl 2 rfl) ?_
        refine lv_iload hx hb dX12_treaty_73 (lv_at hl 7 rfl) ?_
        refine lv_iload_n hx hb dX12_treaty_75 rfl (lv_at hl 2 rfl) ?_
        obtain ⟨hz, hf⟩ := dI_e hf
        refine lv_idiv hx hb dX12_treaty_76 hz ?_
        refine lv_iload hx hb dX12_treaty_77 (lv_at hl 7 rfl) ?_
        refine lv_iload_n hx hb dX12_treaty_79 rfl (lv_at hl 2 rfl) ?_
        obtain ⟨hz, hf⟩ := rI_e hf
        refine lv_irem hx hb dX12_treaty_80 hz ?_
        obtain ⟨r3, hc4, hf⟩ := bd1_e hf
        refine x_callVI (ws' := [oX12 A_t A_t_now A_t_aside A_t_kept A_t_rhymeOf A_t_wasRhyme A_t_wordAt x_t_wordMany A_t_tape x_t_taped x_t_place0 x_t_length0 x_t_fault x_t_number0 x_t_open x_t_codeMany x_t_waiting x_t_saidMany x_t_clauses A_t_said A_t_waitsAt A_t_saidLetter A_t_saidFrom A_t_saidHalf A_t_saidTo A_t_codes A_t_clauseOf A_t_codeFrom A_t_codeHalf A_t_codeTo A_t_stack A_t_facts x_t_lines A_t_newWords A_t_roundFrom A_t_roundAt A_t_roundTimes x_t_newMany x_t_rounds x_t_itFrom x_t_itTimes x_t_writtenNow x_t_picturesNow x_t_usedNow x_t_chosen x_t_fearOfChosen A_t_leastFrom A_t_rowNow x_t_changesNow x_t_left0 A_t_bornOf A_t_trainsTo A_t_trainAt x_t_trainMany x_t_leastTries x_t_firstTrained x_t_isKept, iA cB 260 A_t_tape v_t_tape]) (rest := []) C hK hP hD hS hA hl mf_X12_427 (c_X12_isBargain hc4) [0, 1] 0 12 rfl rfl rfl rfl rfl rfl rfl rfl rfl rfl (Nat.le_of_ble_eq_true rfl) ⟨Nat.le_of_ble_eq_true rfl, Nat.le_of_ble_eq_true rfl⟩ ⟨Nat.le_refl _, Nat.le_refl _⟩ dX12_treaty_81 ?_
        intro H locs hP hD hS
        refine lv_if_eq (tgt := 93) hx hb dX12_treaty_84 (by decide) (fun q => ?_) (fun q => ?_)
        · have hf := if_t q hf
          exact hb_93 x_t_taped l4 l5 l6 l7 _ _ ls (lv_sub hl [0, 1, 2, 3, 4, 5, 6, 7] rfl) hP hD hS hf
        · have hf := if_f q hf
          refine lv_iload hx hb dX12_treaty_87 (lv_at hl 6 rfl) ?_
          refine lv_iconst (v := 1) hx hb dX12_treaty_89 (by decide) ?_
          refine lv_iadd hx hb dX12_treaty_90 ?_
          refine lv_istore (lv' := [(6, .int (l6 + (1 : Int32))), (0, .ref A_t), (1, .int a1), (2, .int a2), (3, .int a3), (4, .int l4), (5, .int l5), (7, .int l7)]) hx hb dX12_treaty_91 hl (by decide) rfl (fun ls hl => ?_)
          exact hb_93 x_t_taped l4 l5 (l6 + (1 : Int32)) l7 _ _ ls (lv_sub hl [1, 2, 3, 4, 5, 6, 0, 7] rfl) hP hD hS hf
  refine lv_iload_n hx hb dX12_treaty_0 rfl (lv_at hl 1 rfl) ?_
  refine lv_iconst (v := 1) hx hb dX12_treaty_1 (by decide) ?_
  refine lv_bipush (v := 6) hx hb dX12_treaty_2 (by decide) ?_
  obtain ⟨r5, hc6, hf⟩ := bd1_e hf
  refine x_callSI (ws' := [oX12 A_t A_t_now A_t_aside A_t_kept A_t_rhymeOf A_t_wasRhyme A_t_wordAt x_t_wordMany A_t_tape x_t_taped x_t_place0 x_t_length0 x_t_fault x_t_number0 x_t_open x_t_codeMany x_t_waiting x_t_saidMany x_t_clauses A_t_said A_t_waitsAt A_t_saidLetter A_t_saidFrom A_t_saidHalf A_t_saidTo A_t_codes A_t_clauseOf A_t_codeFrom A_t_codeHalf A_t_codeTo A_t_stack A_t_facts x_t_lines A_t_newWords A_t_roundFrom A_t_roundAt A_t_roundTimes x_t_newMany x_t_rounds x_t_itFrom x_t_itTimes x_t_writtenNow x_t_picturesNow x_t_usedNow x_t_chosen x_t_fearOfChosen A_t_leastFrom A_t_rowNow x_t_changesNow x_t_left0 A_t_bornOf A_t_trainsTo A_t_trainAt x_t_trainMany x_t_leastTries x_t_firstTrained x_t_isKept, iA cB 260 A_t_tape v_t_tape]) (rest := []) C hK hP hD hS hA hl mf_X12_105 (c_X12_in hc6) [] rfl rfl rfl rfl rfl rfl rfl rfl (Nat.le_of_ble_eq_true rfl) ⟨Nat.le_of_ble_eq_true rfl, Nat.le_of_ble_eq_true rfl⟩ ⟨Nat.le_refl _, Nat.le_refl _⟩ dX12_treaty_4 ?_
  intro H locs hP hD hS
  refine lv_if_eq (tgt := 41) hx hb dX12_treaty_7 (by decide) (fun q => ?_) (fun q => ?_)
  · have hf := if_t q hf
    exact hb_41 x_t_taped _ _ ls (lv_sub hl [] rfl) hP hD hS hf
  · have hf := if_f q hf
    refine lv_iload_n hx hb dX12_treaty_10 rfl (lv_at hl 2 rfl) ?_
    refine lv_iconst (v := 1) hx hb dX12_treaty_11 (by decide) ?_
    refine lv_bipush (v := 6) hx hb dX12_treaty_12 (by decide) ?_
    obtain ⟨r7, hc8, hf⟩ := bd1_e hf
    refine x_callSI (ws' := [oX12 A_t A_t_now A_t_aside A_t_kept A_t_rhymeOf A_t_wasRhyme A_t_wordAt x_t_wordMany A_t_tape x_t_taped x_t_place0 x_t_length0 x_t_fault x_t_number0 x_t_open x_t_codeMany x_t_waiting x_t_saidMany x_t_clauses A_t_said A_t_waitsAt A_t_saidLetter A_t_saidFrom A_t_saidHalf A_t_saidTo A_t_codes A_t_clauseOf A_t_codeFrom A_t_codeHalf A_t_codeTo A_t_stack A_t_facts x_t_lines A_t_newWords A_t_roundFrom A_t_roundAt A_t_roundTimes x_t_newMany x_t_rounds x_t_itFrom x_t_itTimes x_t_writtenNow x_t_picturesNow x_t_usedNow x_t_chosen x_t_fearOfChosen A_t_leastFrom A_t_rowNow x_t_changesNow x_t_left0 A_t_bornOf A_t_trainsTo A_t_trainAt x_t_trainMany x_t_leastTries x_t_firstTrained x_t_isKept, iA cB 260 A_t_tape v_t_tape]) (rest := []) C hK hP hD hS hA hl mf_X12_105 (c_X12_in hc8) [] rfl rfl rfl rfl rfl rfl rfl rfl (Nat.le_of_ble_eq_true rfl) ⟨Nat.le_of_ble_eq_true rfl, Nat.le_of_ble_eq_true rfl⟩ ⟨Nat.le_refl _, Nat.le_refl _⟩ dX12_treaty_14 ?_
    intro H locs hP hD hS
    refine lv_if_eq (tgt := 41) hx hb dX12_treaty_17 (by decide) (fun q => ?_) (fun q => ?_)
    · have hf := if_t q hf
      exact hb_41 x_t_taped _ _ ls (lv_sub hl [] rfl) hP hD hS hf
    · have hf := if_f q hf
      refine lv_iload_n hx hb dX12_treaty_20 rfl (lv_at hl 3 rfl) ?_
      refine lv_iconst (v := 0) hx hb dX12_treaty_21 (by decide) ?_
      refine lv_iconst (v := 2) hx hb dX12_treaty_22 (by decide) ?_
      obtain ⟨r9, hc10, hf⟩ := bd1_e hf
      refine x_callSI (ws' := [oX12 A_t A_t_now A_t_aside A_t_kept A_t_rhymeOf A_t_wasRhyme A_t_wordAt x_t_wordMany A_t_tape x_t_taped x_t_place0 x_t_length0 x_t_fault x_t_number0 x_t_open x_t_codeMany x_t_waiting x_t_saidMany x_t_clauses A_t_said A_t_waitsAt A_t_saidLetter A_t_saidFrom A_t_saidHalf A_t_saidTo A_t_codes A_t_clauseOf A_t_codeFrom A_t_codeHalf A_t_codeTo A_t_stack A_t_facts x_t_lines A_t_newWords A_t_roundFrom A_t_roundAt A_t_roundTimes x_t_newMany x_t_rounds x_t_itFrom x_t_itTimes x_t_writtenNow x_t_picturesNow x_t_usedNow x_t_chosen x_t_fearOfChosen A_t_leastFrom A_t_rowNow x_t_changesNow x_t_left0 A_t_bornOf A_t_trainsTo A_t_trainAt x_t_trainMany x_t_leastTries x_t_firstTrained x_t_isKept, iA cB 260 A_t_tape v_t_tape]) (rest := []) C hK hP hD hS hA hl mf_X12_105 (c_X12_in hc10) [] rfl rfl rfl rfl rfl rfl rfl rfl (Nat.le_of_ble_eq_true rfl) ⟨Nat.le_of_ble_eq_true rfl, Nat.le_of_ble_eq_true rfl⟩ ⟨Nat.le_refl _, Nat.le_refl _⟩ dX12_treaty_23 ?_
      intro H locs hP hD hS
      refine lv_if_eq (tgt := 41) hx hb dX12_treaty_26 (by decide) (fun q => ?_) (fun q => ?_)
      · have hf := if_t q hf
        exact hb_41 x_t_taped _ _ ls (lv_sub hl [] rfl) hP hD hS hf
      · have hf := if_f q hf
        refine lv_iconst (v := 2) hx hb dX12_treaty_29 (by decide) ?_
        refine lv_iload_n hx hb dX12_treaty_30 rfl (lv_at hl 1 rfl) ?_
        refine lv_imul hx hb dX12_treaty_31 ?_
        refine lv_iload_n hx hb dX12_treaty_32 rfl (lv_at hl 2 rfl) ?_
        refine lv_imul hx hb dX12_treaty_33 ?_
        refine lv_aload_n hx hb dX12_treaty_34 rfl (lv_at hl 0 rfl) ?_
        refine x_get C hK hP fd_X12_143 0 rfl rfl dX12_treaty_35 ?_
        refine lv_icmp_le (tgt := 43) hx hb dX12_treaty_38 (by decide) (fun q => ?_) (fun q => ?_)
        · have hf := if_t q hf
          refine lv_aload_n hx hb dX12_treaty_43 rfl (lv_at hl 0 rfl) ?_
          refine lv_iconst (v := 0) hx hb dX12_treaty_44 (by decide) ?_
          refine x_put (ws' := [oX12 A_t A_t_now A_t_aside A_t_kept A_t_rhymeOf A_t_wasRhyme A_t_wordAt x_t_wordMany A_t_tape (0 : Int32) x_t_place0 x_t_length0 x_t_fault x_t_number0 x_t_open x_t_codeMany x_t_waiting x_t_saidMany x_t_clauses A_t_said A_t_waitsAt A_t_saidLetter A_t_saidFrom A_t_saidHalf A_t_saidTo A_t_codes A_t_clauseOf A_t_codeFrom A_t_codeHalf A_t_codeTo A_t_stack A_t_facts x_t_lines A_t_newWords A_t_roundFrom A_t_roundAt A_t_roundTimes x_t_newMany x_t_rounds x_t_itFrom x_t_itTimes x_t_writtenNow x_t_picturesNow x_t_usedNow x_t_chosen x_t_fearOfChosen A_t_leastFrom A_t_rowNow x_t_changesNow x_t_left0 A_t_bornOf A_t_trainsTo A_t_trainAt x_t_trainMany x_t_leastTries x_t_firstTrained x_t_isKept, iA cB 260 A_t_tape v_t_tape]) C hK hP hD hS fp_X12_143 0 rfl rfl rfl (Nat.le_of_ble_eq_true rfl) rfl dX12_treaty_45 ?_
          intro H locs hP hD hS
          refine lv_iconst (v := 0) hx hb dX12_treaty_48 (by decide) ?_
          refine lv_istore (lv' := [(4, .int (0 : Int32)), (0, .ref A_t), (1, .int a1), (2, .int a2), (3, .int a3)]) hx hb dX12_treaty_49 hl (by decide) rfl (fun ls hl => ?_)
          refine lv_bipush (v := -2) hx hb dX12_treaty_51 (by decide) ?_
          refine lv_istore (lv' := [(5, .int (-2 : Int32)), (4, .int (0 : Int32)), (0, .ref A_t), (1, .int a1), (2, .int a2), (3, .int a3)]) hx hb dX12_treaty_53 hl (by decide) rfl (fun ls hl => ?_)
          refine lv_iconst (v := 0) hx hb dX12_treaty_55 (by decide) ?_
          refine lv_istore (lv' := [(6, .int (0 : Int32)), (5, .int (-2 : Int32)), (4, .int (0 : Int32)), (0, .ref A_t), (1, .int a1), (2, .int a2), (3, .int a3)]) hx hb dX12_treaty_56 hl (by decide) rfl (fun ls hl => ?_)
          refine lv_iload_n hx hb dX12_treaty_58 rfl (lv_at hl 4 rfl) ?_
          refine lv_iload_n hx hb dX12_treaty_59 rfl (lv_at hl 5 rfl) ?_
          refine lv_imul hx hb dX12_treaty_60 ?_
          refine lv_iconst (v := 1) hx hb dX12_treaty_61 (by decide) ?_
          refine lv_isub hx hb dX12_treaty_62 ?_
          refine lv_istore (lv' := [(7, .int ((a1 * a2) - (1 : Int32))), (6, .int (0 : Int32)), (5, .int (-2 : Int32)), (4, .int (0 : Int32)), (0, .ref A_t), (1, .int a1), (2, .int a2), (3, .int a3)]) hx hb dX12_treaty_63 hl (by decide) rfl (fun ls hl => ?_)
          exact hb_65 FU (0 : Int32) (0 : Int32) (-2 : Int32) (0 : Int32) ((a1 * a2) - (1 : Int32)) _ _ ls (lv_sub hl [4, 5, 6, 7, 3, 2, 1, 0] rfl) hP hD hS hf
        · have hf := if_f q hf
          exact hb_41 x_t_taped _ _ ls (lv_sub hl [] rfl) hP hD hS hf
def f_X12_gcd_b4 : Nat → Int32 → Int32 → Option (Int32)
  | 0, _, _ => none
  | n + 1, l2, l3 =>
    if l3 = 0 then
      some l2
    else
      rI l2 l3 (fun g1 =>
      f_X12_gcd_b4 n l3 g1)
def f_X12_gcd (a0 : Int32) (a1 : Int32) : Option (Int32) :=
  f_X12_gcd_b4 FU a0 a1
set_option maxHeartbeats 4000000 in
set_option maxRecDepth 100000 in
theorem c_X12_gcd {l : Launch} {D : va_G} {cI cB : ClassId} {a0 a1 : Int32} {o_r : Int32} (hf : f_X12_gcd a0 a1 = some o_r) : CtI l D cI cB yX12_gcd cX12_gcd 5 (some .int) 0 0 [.int a0, .int a1] [] [] o_r := by
  refine x_startI (by decide) (Nat.le_of_ble_eq_true rfl) ?_
  intro p e s m below meth c A C hr hlk hA hK hP hD hS ls hl
  have hl : lv_has ls 5 [(0, .int a0), (1, .int a1)] := hl
  have hx := C.1
  have hb := C.2.1
  unfold f_X12_gcd at hf
  have hb_4 : ∀ (n_4 : Nat) (l2 : Int32) (l3 : Int32) (H : Heap) (locs : List Loc) (ls : Array Slot), lv_has ls 5 [(2, .int l2), (3, .int l3)] → va_P D vwCl [] H → va_D A [] → va_S A s.heap H locs → f_X12_gcd_b4 n_4 l2 l3 = some o_r → W p l e { frames := 0, cells := 0, slots := 0, locals := 0 } s m ([.int a0, .int a1] : List Value).toArray below meth c H locs 0 0 (MQ below (PoI D A [] o_r) ([.int a0, .int a1] : List Value).toArray s 0 0 A) (F0 m 4 ls []) := by
    intro n_4
    induction n_4 with
    | zero =>
      intro l2 l3 H locs ls hl hP hD hS hf
      exact absurd hf (fun h => by rw [f_X12_gcd_b4] at h; cases h)
    | succ n_4 ih_4 =>
      intro l2 l3 H locs ls hl hP hD hS hf
      rw [f_X12_gcd_b4] at hf
      refine lv_iload_n hx hb dX12_gcd_4 rfl (lv_at hl 1 rfl) ?_
      refine lv_if_eq (tgt := 21) hx hb dX12_gcd_5 (by decide) (fun q => ?_) (fun q => ?_)
      · have hf := if_t q hf
        refine lv_iload_n hx hb dX12_gcd_21 rfl (lv_at hl 0 rfl) ?_
        obtain rfl := ev1 hf
        exact x_iret C hr hlk hP hD hS dX12_gcd_22
      · have hf := if_f q hf
        refine lv_iload_n hx hb dX12_gcd_8 rfl (lv_at hl 0 rfl) ?_
        refine lv_iload_n hx hb dX12_gcd_9 rfl (lv_at hl 1 rfl) ?_
        obtain ⟨hz, hf⟩ := rI_e hf
        refine lv_irem hx hb dX12_gcd_10 hz ?_
        refine lv_istore (lv' := [(4, .int (l2 - l2 / l3 * l3)), (2, .int l2), (3, .int l3)]) hx hb dX12_gcd_11 hl (by decide) rfl (fun ls hl => ?_)
        refine lv_iload_n hx hb dX12_gcd_13 rfl (lv_at hl 2 rfl) ?_
        refine lv_istore_n (lv' := [(2, .int l3), (4, .int (l2 - l2 / l3 * l3)), (3, .int l3)]) hx hb dX12_gcd_14 rfl hl (by decide) rfl (fun ls hl => ?_)
        refine lv_iload hx hb dX12_gcd_15 (lv_at hl 1 rfl) ?_
        refine lv_istore_n (lv' := [(3, .int (l2 - l2 / l3 * l3)), (2, .int l3), (4, .int (l2 - l2 / l3 * l3))]) hx hb dX12_gcd_17 rfl hl (by decide) rfl (fun ls hl => ?_)
        refine lv_goto (tgt := 4) hx hb dX12_gcd_18 (by decide) ?_
        exact ih_4 l3 (l2 - l2 / l3 * l3) _ _ ls (lv_sub hl [1, 0] rfl) hP hD hS hf
  refine lv_iload_n hx hb dX12_gcd_0 rfl (lv_at hl 0 rfl) ?_
  refine lv_istore_n (lv' := [(2, .int a0), (0, .int a0), (1, .int a1)]) hx hb dX12_gcd_1 rfl hl (by decide) rfl (fun ls hl => ?_)
  refine lv_iload_n hx hb dX12_gcd_2 rfl (lv_at hl 2 rfl) ?_
  refine lv_istore_n (lv' := [(3, .int a1), (2, .int a0), (0, .int a0), (1, .int a1)]) hx hb dX12_gcd_3 rfl hl (by decide) rfl (fun ls hl => ?_)
  exact hb_4 FU a0 a1 _ _ ls (lv_sub hl [1, 0] rfl) hP hD hS hf
def f_X12_forgery_b27 (x_t_taped : Int32) : Option (Int32 × Int32) :=
  some ((-1 : Int32), x_t_taped)
def f_X12_forgery_b143 (x_t_taped : Int32) (s0 : Int32) : Option (Int32 × Int32) :=
  some (s0, x_t_taped)
def f_X12_forgery_b115 (a2 : Int32) (x_t_taped : Int32) (s0 : Int32) (l3 : Int32) : Option (Int32 × Int32) :=
  bd1 (f_X12_gcd l3 s0) (fun r1 =>
  rI a2 (2 : Int32) (fun g2 =>
  if g2 = 0 then
    dI s0 r1 (fun g4 =>
    f_X12_forgery_b143 x_t_taped g4)
  else
    dI l3 r1 (fun g3 =>
    f_X12_forgery_b143 x_t_taped g3)))
def f_X12_forgery_b45 (v_t_tape : (Nat → Int32)) (a1 : Int32) (a2 : Int32) : Nat → Int32 → Int32 → Int32 → Int32 → Int32 → Option (Int32 × Int32)
  | 0, _, _, _, _, _ => none
  | n + 1, x_t_taped, l3, l4, l5, l6 =>
    if a1 ≤ l6 then
      if (2 : Int32) ≤ a2 then
        f_X12_forgery_b115 a2 x_t_taped (l3 - l5) l3
      else
        f_X12_forgery_b115 a2 x_t_taped l4 l3
    else
      bd1 (f_X12_octet v_t_tape l6) (fun r1 =>
      if r1 ≤ (10 : Int32) then
        bd1 (f_X12_octet v_t_tape l6) (fun r2 =>
        bd1 (f_X12_octet v_t_tape l6) (fun r3 =>
        f_X12_forgery_b45 v_t_tape a1 a2 n x_t_taped (l3 * (10 : Int32)) (l4 * r2) (l5 * ((10 : Int32) - r3)) (l6 + (1 : Int32))))
      else
        some ((-3 : Int32), x_t_taped))
def f_X12_forgery (v_t_tape : (Nat → Int32)) (x_t_taped : Int32) (a1 : Int32) (a2 : Int32) : Option (Int32 × Int32) :=
  bd1 (f_X12_in a1 (1 : Int32) (9 : Int32)) (fun r4 =>
  if r4 = 0 then
    f_X12_forgery_b27 x_t_taped
  else
    bd1 (f_X12_in a2 (0 : Int32) (3 : Int32)) (fun r5 =>
    if r5 = 0 then
      f_X12_forgery_b27 x_t_taped
    else
      if a1 ≤ x_t_taped then
        f_X12_forgery_b45 v_t_tape a1 a2 FU (0 : Int32) (1 : Int32) (1 : Int32) (1 : Int32) (0 : Int32)
      else
        f_X12_forgery_b27 x_t_taped))
set_option maxHeartbeats 4000000 in
set_option maxRecDepth 100000 in
theorem c_X12_forgery {l : Launch} {D : va_G} {cI cB : ClassId} {A_t A_t_now A_t_aside A_t_kept A_t_rhymeOf A_t_wasRhyme A_t_wordAt A_t_tape A_t_said A_t_waitsAt A_t_saidLetter A_t_saidFrom A_t_saidHalf A_t_saidTo A_t_codes A_t_clauseOf A_t_codeFrom A_t_codeHalf A_t_codeTo A_t_stack A_t_facts A_t_newWords A_t_roundFrom A_t_roundAt A_t_roundTimes A_t_leastFrom A_t_rowNow A_t_bornOf A_t_trainsTo A_t_trainAt : Nat} {x_t_wordMany x_t_taped x_t_place0 x_t_length0 x_t_fault x_t_number0 x_t_open x_t_codeMany x_t_waiting x_t_saidMany x_t_clauses x_t_lines x_t_newMany x_t_rounds x_t_itFrom x_t_itTimes x_t_writtenNow x_t_picturesNow x_t_usedNow x_t_chosen x_t_fearOfChosen x_t_changesNow x_t_left0 x_t_trainMany x_t_leastTries x_t_firstTrained x_t_isKept a1 a2 : Int32} {v_t_tape : Nat → Int32} {o_r o_x_t_taped : Int32} (hf : f_X12_forgery v_t_tape x_t_taped a1 a2 = some (o_r, o_x_t_taped)) : CtI l D cI cB yX12_forgery cX12_forgery 8 (some .int) 1 24 [.ref A_t, .int a1, .int a2] [oX12 A_t A_t_now A_t_aside A_t_kept A_t_rhymeOf A_t_wasRhyme A_t_wordAt x_t_wordMany A_t_tape x_t_taped x_t_place0 x_t_length0 x_t_fault x_t_number0 x_t_open x_t_codeMany x_t_waiting x_t_saidMany x_t_clauses A_t_said A_t_waitsAt A_t_saidLetter A_t_saidFrom A_t_saidHalf A_t_saidTo A_t_codes A_t_clauseOf A_t_codeFrom A_t_codeHalf A_t_codeTo A_t_stack A_t_facts x_t_lines A_t_newWords A_t_roundFrom A_t_roundAt A_t_roundTimes x_t_newMany x_t_rounds x_t_itFrom x_t_itTimes x_t_writtenNow x_t_picturesNow x_t_usedNow x_t_chosen x_t_fearOfChosen A_t_leastFrom A_t_rowNow x_t_changesNow x_t_left0 A_t_bornOf A_t_trainsTo A_t_trainAt x_t_trainMany x_t_leastTries x_t_firstTrained x_t_isKept, iA cB 260 A_t_tape v_t_tape] [oX12 A_t A_t_now A_t_aside A_t_kept A_t_rhymeOf A_t_wasRhyme A_t_wordAt x_t_wordMany A_t_tape o_x_t_taped x_t_place0 x_t_length0 x_t_fault x_t_number0 x_t_open x_t_codeMany x_t_waiting x_t_saidMany x_t_clauses A_t_said A_t_waitsAt A_t_saidLetter A_t_saidFrom A_t_saidHalf A_t_saidTo A_t_codes A_t_clauseOf A_t_codeFrom A_t_codeHalf A_t_codeTo A_t_stack A_t_facts x_t_lines A_t_newWords A_t_roundFrom A_t_roundAt A_t_roundTimes x_t_newMany x_t_rounds x_t_itFrom x_t_itTimes x_t_writtenNow x_t_picturesNow x_t_usedNow x_t_chosen x_t_fearOfChosen A_t_leastFrom A_t_rowNow x_t_changesNow x_t_left0 A_t_bornOf A_t_trainsTo A_t_trainAt x_t_trainMany x_t_leastTries x_t_firstTrained x_t_isKept, iA cB 260 A_t_tape v_t_tape] o_r := by
  refine x_startI (by decide) (Nat.le_of_ble_eq_true rfl) ?_
  intro p e s m below meth c A C hr hlk hA hK hP hD hS ls hl
  have hl : lv_has ls 8 [(0, .ref A_t), (1, .int a1), (2, .int a2)] := hl
  have hx := C.1
  have hb := C.2.1
  unfold f_X12_forgery at hf
  have hb_27 : ∀ (x_t_taped : Int32) (H : Heap) (locs : List Loc) (ls : Array Slot), lv_has ls 8 [] → va_P D vwCl [oX12 A_t A_t_now A_t_aside A_t_kept A_t_rhymeOf A_t_wasRhyme A_t_wordAt x_t_wordMany A_t_tape x_t_taped x_t_place0 x_t_length0 x_t_fault x_t_number0 x_t_open x_t_codeMany x_t_waiting x_t_saidMany x_t_clauses A_t_said A_t_waitsAt A_t_saidLetter A_t_saidFrom A_t_saidHalf A_t_saidTo A_t_codes A_t_clauseOf A_t_codeFrom A_t_codeHalf A_t_codeTo A_t_stack A_t_facts x_t_lines A_t_newWords A_t_roundFrom A_t_roundAt A_t_roundTimes x_t_newMany x_t_rounds x_t_itFrom x_t_itTimes x_t_writtenNow x_t_picturesNow x_t_usedNow x_t_chosen x_t_fearOfChosen A_t_leastFrom A_t_rowNow x_t_changesNow x_t_left0 A_t_bornOf A_t_trainsTo A_t_trainAt x_t_trainMany x_t_leastTries x_t_firstTrained x_t_isKept, iA cB 260 A_t_tape v_t_tape] H → va_D A [oX12 A_t A_t_now A_t_aside A_t_kept A_t_rhymeOf A_t_wasRhyme A_t_wordAt x_t_wordMany A_t_tape x_t_taped x_t_place0 x_t_length0 x_t_fault x_t_number0 x_t_open x_t_codeMany x_t_waiting x_t_saidMany x_t_clauses A_t_said A_t_waitsAt A_t_saidLetter A_t_saidFrom A_t_saidHalf A_t_saidTo A_t_codes A_t_clauseOf A_t_codeFrom A_t_codeHalf A_t_codeTo A_t_stack A_t_facts x_t_lines A_t_newWords A_t_roundFrom A_t_roundAt A_t_roundTimes x_t_newMany x_t_rounds x_t_itFrom x_t_itTimes x_t_writtenNow x_t_picturesNow x_t_usedNow x_t_chosen x_t_fearOfChosen A_t_leastFrom A_t_rowNow x_t_changesNow x_t_left0 A_t_bornOf A_t_trainsTo A_t_trainAt x_t_trainMany x_t_leastTries x_t_firstTrained x_t_isKept, iA cB 260 A_t_tape v_t_tape] → va_S A s.heap H locs → f_X12_forgery_b27 x_t_taped = some (o_r, o_x_t_taped) → W p l e { frames := 1, cells := 0, slots := 0, locals := 24 } s m ([.ref A_t, .int a1, .int a2] : List Value).toArray below meth c H locs 0 0 (MQ below (PoI D A [oX12 A_t A_t_now A_t_aside A_t_kept A_t_rhymeOf A_t_wasRhyme A_t_wordAt x_t_wordMany A_t_tape o_x_t_taped x_t_place0 x_t_length0 x_t_fault x_t_number0 x_t_open x_t_codeMany x_t_waiting x_t_saidMany x_t_clauses A_t_said A_t_waitsAt A_t_saidLetter A_t_saidFrom A_t_saidHalf A_t_saidTo A_t_codes A_t_clauseOf A_t_codeFrom A_t_codeHalf A_t_codeTo A_t_stack A_t_facts x_t_lines A_t_newWords A_t_roundFrom A_t_roundAt A_t_roundTimes x_t_newMany x_t_rounds x_t_itFrom x_t_itTimes x_t_writtenNow x_t_picturesNow x_t_usedNow x_t_chosen x_t_fearOfChosen A_t_leastFrom A_t_rowNow x_t_changesNow x_t_left0 A_t_bornOf A_t_trainsTo A_t_trainAt x_t_trainMany x_t_leastTries x_t_firstTrained x_t_isKept, iA cB 260 A_t_tape v_t_tape] o_r) ([.ref A_t, .int a1, .int a2] : List Value).toArray s 0 0 A) (F0 m 27 ls []) := by
    intro x_t_taped H locs ls hl hP hD hS hf
    unfold f_X12_forgery_b27 at hf
    refine lv_iconst (v := -1) hx hb dX12_forgery_27 (by decide) ?_
    obtain ⟨rfl, rfl⟩ := ev2 hf
    exact x_iret C hr hlk hP hD hS dX12_forgery_28
  have hb_143 : ∀ (x_t_taped : Int32) (s0 : Int32) (H : Heap) (locs : List Loc) (ls : Array Slot), lv_has ls 8 [] → va_P D vwCl [oX12 A_t A_t_now A_t_aside A_t_kept A_t_rhymeOf A_t_wasRhyme A_t_wordAt x_t_wordMany A_t_tape x_t_taped x_t_place0 x_t_length0 x_t_fault x_t_number0 x_t_open x_t_codeMany x_t_waiting x_t_saidMany x_t_clauses A_t_said A_t_waitsAt A_t_saidLetter A_t_saidFrom A_t_saidHalf A_t_saidTo A_t_codes A_t_clauseOf A_t_codeFrom A_t_codeHalf A_t_codeTo A_t_stack A_t_facts x_t_lines A_t_newWords A_t_roundFrom A_t_roundAt A_t_roundTimes x_t_newMany x_t_rounds x_t_itFrom x_t_itTimes x_t_writtenNow x_t_picturesNow x_t_usedNow x_t_chosen x_t_fearOfChosen A_t_leastFrom A_t_rowNow x_t_changesNow x_t_left0 A_t_bornOf A_t_trainsTo A_t_trainAt x_t_trainMany x_t_leastTries x_t_firstTrained x_t_isKept, iA cB 260 A_t_tape v_t_tape] H → va_D A [oX12 A_t A_t_now A_t_aside A_t_kept A_t_rhymeOf A_t_wasRhyme A_t_wordAt x_t_wordMany A_t_tape x_t_taped x_t_place0 x_t_length0 x_t_fault x_t_number0 x_t_open x_t_codeMany x_t_waiting x_t_saidMany x_t_clauses A_t_said A_t_waitsAt A_t_saidLetter A_t_saidFrom A_t_saidHalf A_t_saidTo A_t_codes A_t_clauseOf A_t_codeFrom A_t_codeHalf A_t_codeTo A_t_stack A_t_facts x_t_lines A_t_newWords A_t_roundFrom A_t_roundAt A_t_roundTimes x_t_newMany x_t_rounds x_t_itFrom x_t_itTimes x_t_writtenNow x_t_picturesNow x_t_usedNow x_t_chosen x_t_fearOfChosen A_t_leastFrom A_t_rowNow x_t_changesNow x_t_left0 A_t_bornOf A_t_trainsTo A_t_trainAt x_t_trainMany x_t_leastTries x_t_firstTrained x_t_isKept, iA cB 260 A_t_tape v_t_tape] → va_S A s.heap H locs → f_X12_forgery_b143 x_t_taped s0 = some (o_r, o_x_t_taped) → W p l e { frames := 1, cells := 0, slots := 0, locals := 24 } s m ([.ref A_t, .int a1, .int a2] : List Value).toArray below meth c H locs 0 0 (MQ below (PoI D A [oX12 A_t A_t_now A_t_aside A_t_kept A_t_rhymeOf A_t_wasRhyme A_t_wordAt x_t_wordMany A_t_tape o_x_t_taped x_t_place0 x_t_length0 x_t_fault x_t_number0 x_t_open x_t_codeMany x_t_waiting x_t_saidMany x_t_clauses A_t_said A_t_waitsAt A_t_saidLetter A_t_saidFrom A_t_saidHalf A_t_saidTo A_t_codes A_t_clauseOf A_t_codeFrom A_t_codeHalf A_t_codeTo A_t_stack A_t_facts x_t_lines A_t_newWords A_t_roundFrom A_t_roundAt A_t_roundTimes x_t_newMany x_t_rounds x_t_itFrom x_t_itTimes x_t_writtenNow x_t_picturesNow x_t_usedNow x_t_chosen x_t_fearOfChosen A_t_leastFrom A_t_rowNow x_t_changesNow x_t_left0 A_t_bornOf A_t_trainsTo A_t_trainAt x_t_trainMany x_t_leastTries x_t_firstTrained x_t_isKept, iA cB 260 A_t_tape v_t_tape] o_r) ([.ref A_t, .int a1, .int a2] : List Value).toArray s 0 0 A) (F0 m 143 ls [.int s0]) := by
    intro x_t_taped s0 H locs ls hl hP hD hS hf
    unfold f_X12_forgery_b143 at hf
    obtain ⟨rfl, rfl⟩ := ev2 hf
    exact x_iret C hr hlk hP hD hS dX12_forgery_143
  have hb_115 : ∀ (x_t_taped : Int32) (s0 : Int32) (l3 : Int32) (H : Heap) (locs : List Loc) (ls : Array Slot), lv_has ls 8 [(2, .int a2), (3, .int l3)] → va_P D vwCl [oX12 A_t A_t_now A_t_aside A_t_kept A_t_rhymeOf A_t_wasRhyme A_t_wordAt x_t_wordMany A_t_tape x_t_taped x_t_place0 x_t_length0 x_t_fault x_t_number0 x_t_open x_t_codeMany x_t_waiting x_t_saidMany x_t_clauses A_t_said A_t_waitsAt A_t_saidLetter A_t_saidFrom A_t_saidHalf A_t_saidTo A_t_codes A_t_clauseOf A_t_codeFrom A_t_codeHalf A_t_codeTo A_t_stack A_t_facts x_t_lines A_t_newWords A_t_roundFrom A_t_roundAt A_t_roundTimes x_t_newMany x_t_rounds x_t_itFrom x_t_itTimes x_t_writtenNow x_t_picturesNow x_t_usedNow x_t_chosen x_t_fearOfChosen A_t_leastFrom A_t_rowNow x_t_changesNow x_t_left0 A_t_bornOf A_t_trainsTo A_t_trainAt x_t_trainMany x_t_leastTries x_t_firstTrained x_t_isKept, iA cB 260 A_t_tape v_t_tape] H → va_D A [oX12 A_t A_t_now A_t_aside A_t_kept A_t_rhymeOf A_t_wasRhyme A_t_wordAt x_t_wordMany A_t_tape x_t_taped x_t_place0 x_t_length0 x_t_fault x_t_number0 x_t_open x_t_codeMany x_t_waiting x_t_saidMany x_t_clauses A_t_said A_t_waitsAt A_t_saidLetter A_t_saidFrom A_t_saidHalf A_t_saidTo A_t_codes A_t_clauseOf A_t_codeFrom A_t_codeHalf A_t_codeTo A_t_stack A_t_facts x_t_lines A_t_newWords A_t_roundFrom A_t_roundAt A_t_roundTimes x_t_newMany x_t_rounds x_t_itFrom x_t_itTimes x_t_writtenNow x_t_picturesNow x_t_usedNow x_t_chosen x_t_fearOfChosen A_t_leastFrom A_t_rowNow x_t_changesNow x_t_left0 A_t_bornOf A_t_trainsTo A_t_trainAt x_t_trainMany x_t_leastTries x_t_firstTrained x_t_isKept, iA cB 260 A_t_tape v_t_tape] → va_S A s.heap H locs → f_X12_forgery_b115 a2 x_t_taped s0 l3 = some (o_r, o_x_t_taped) → W p l e { frames := 1, cells := 0, slots := 0, locals := 24 } s m ([.ref A_t, .int a1, .int a2] : List Value).toArray below meth c H locs 0 0 (MQ below (PoI D A [oX12 A_t A_t_now A_t_aside A_t_kept A_t_rhymeOf A_t_wasRhyme A_t_wordAt x_t_wordMany A_t_tape o_x_t_taped x_t_place0 x_t_length0 x_t_fault x_t_number0 x_t_open x_t_codeMany x_t_waiting x_t_saidMany x_t_clauses A_t_said A_t_waitsAt A_t_saidLetter A_t_saidFrom A_t_saidHalf A_t_saidTo A_t_codes A_t_clauseOf A_t_codeFrom A_t_codeHalf A_t_codeTo A_t_stack A_t_facts x_t_lines A_t_newWords A_t_roundFrom A_t_roundAt A_t_roundTimes x_t_newMany x_t_rounds x_t_itFrom x_t_itTimes x_t_writtenNow x_t_picturesNow x_t_usedNow x_t_chosen x_t_fearOfChosen A_t_leastFrom A_t_rowNow x_t_changesNow x_t_left0 A_t_bornOf A_t_trainsTo A_t_trainAt x_t_trainMany x_t_leastTries x_t_firstTrained x_t_isKept, iA cB 260 A_t_tape v_t_tape] o_r) ([.ref A_t, .int a1, .int a2] : List Value).toArray s 0 0 A) (F0 m 115 ls [.int s0]) := by
    intro x_t_taped s0 l3 H locs ls hl hP hD hS hf
    unfold f_X12_forgery_b115 at hf
    refine lv_istore (lv' := [(6, .int s0), (2, .int a2), (3, .int l3)]) hx hb dX12_forgery_115 hl (by decide) rfl (fun ls hl => ?_)
    refine lv_iload_n hx hb dX12_forgery_117 rfl (lv_at hl 2 rfl) ?_
    refine lv_iload hx hb dX12_forgery_118 (lv_at hl 0 rfl) ?_
    obtain ⟨r1, hc2, hf⟩ := bd1_e hf
    refine x_callSI (ws' := [oX12 A_t A_t_now A_t_aside A_t_kept A_t_rhymeOf A_t_wasRhyme A_t_wordAt x_t_wordMany A_t_tape x_t_taped x_t_place0 x_t_length0 x_t_fault x_t_number0 x_t_open x_t_codeMany x_t_waiting x_t_saidMany x_t_clauses A_t_said A_t_waitsAt A_t_saidLetter A_t_saidFrom A_t_saidHalf A_t_saidTo A_t_codes A_t_clauseOf A_t_codeFrom A_t_codeHalf A_t_codeTo A_t_stack A_t_facts x_t_lines A_t_newWords A_t_roundFrom A_t_roundAt A_t_roundTimes x_t_newMany x_t_rounds x_t_itFrom x_t_itTimes x_t_writtenNow x_t_picturesNow x_t_usedNow x_t_chosen x_t_fearOfChosen A_t_leastFrom A_t_rowNow x_t_changesNow x_t_left0 A_t_bornOf A_t_trainsTo A_t_trainAt x_t_trainMany x_t_leastTries x_t_firstTrained x_t_isKept, iA cB 260 A_t_tape v_t_tape]) (rest := []) C hK hP hD hS hA hl mf_X12_434 (c_X12_gcd hc2) [] rfl rfl rfl rfl rfl rfl rfl rfl (Nat.le_of_ble_eq_true rfl) ⟨Nat.le_of_ble_eq_true rfl, Nat.le_of_ble_eq_true rfl⟩ ⟨Nat.le_refl _, Nat.le_refl _⟩ dX12_forgery_120 ?_
    intro H locs hP hD hS
    refine lv_istore (lv' := [(7, .int r1), (6, .int s0), (2, .int a2), (3, .int l3)]) hx hb dX12_forgery_123 hl (by decide) rfl (fun ls hl => ?_)
    refine lv_iload_n hx hb dX12_forgery_125 rfl (lv_at hl 2 rfl) ?_
    refine lv_iconst (v := 2) hx hb dX12_forgery_126 (by decide) ?_
    obtain ⟨hz, hf⟩ := rI_e hf
    refine lv_irem hx hb dX12_forgery_127 hz ?_
    refine lv_if_ne (tgt := 139) hx hb dX12_forgery_128 (by decide) (fun q => ?_) (fun q => ?_)
    · have hf := if_f q hf
      refine lv_iload_n hx hb dX12_forgery_139 rfl (lv_at hl 3 rfl) ?_
      refine lv_iload hx hb dX12_forgery_140 (lv_at hl 0 rfl) ?_
      obtain ⟨hz, hf⟩ := dI_e hf
      refine lv_idiv hx hb dX12_forgery_142 hz ?_
      exact hb_143 x_t_taped (l3 / r1) _ _ ls (lv_sub hl [] rfl) hP hD hS hf
    · have hf := if_t q hf
      refine lv_iload hx hb dX12_forgery_131 (lv_at hl 1 rfl) ?_
      refine lv_iload hx hb dX12_forgery_133 (lv_at hl 0 rfl) ?_
      obtain ⟨hz, hf⟩ := dI_e hf
      refine lv_idiv hx hb dX12_forgery_135 hz ?_
      refine lv_goto (tgt := 143) hx hb dX12_forgery_136 (by decide) ?_
      exact hb_143 x_t_taped (s0 / r1) _ _ ls (lv_sub hl [] rfl) hP hD hS hf
  have hb_45 : ∀ (n_45 : Nat) (x_t_taped : Int32) (l3 : Int32) (l4 : Int32) (l5 : Int32) (l6 : Int32) (H : Heap) (locs : List Loc) (ls : Array Slot), lv_has ls 8 [(0, .ref A_t), (1, .int a1), (2, .int a2), (3, .int l3), (4, .int l4), (5, .int l5), (6, .int l6)] → va_P D vwCl [oX12 A_t A_t_now A_t_aside A_t_kept A_t_rhymeOf A_t_wasRhyme A_t_wordAt x_t_wordMany A_t_tape x_t_taped x_t_place0 x_t_length0 x_t_fault x_t_number0 x_t_open x_t_codeMany x_t_waiting x_t_saidMany x_t_clauses A_t_said A_t_waitsAt A_t_saidLetter A_t_saidFrom A_t_saidHalf A_t_saidTo A_t_codes A_t_clauseOf A_t_codeFrom A_t_codeHalf A_t_codeTo A_t_stack A_t_facts x_t_lines A_t_newWords A_t_roundFrom A_t_roundAt A_t_roundTimes x_t_newMany x_t_rounds x_t_itFrom x_t_itTimes x_t_writtenNow x_t_picturesNow x_t_usedNow x_t_chosen x_t_fearOfChosen A_t_leastFrom A_t_rowNow x_t_changesNow x_t_left0 A_t_bornOf A_t_trainsTo A_t_trainAt x_t_trainMany x_t_leastTries x_t_firstTrained x_t_isKept, iA cB 260 A_t_tape v_t_tape] H → va_D A [oX12 A_t A_t_now A_t_aside A_t_kept A_t_rhymeOf A_t_wasRhyme A_t_wordAt x_t_wordMany A_t_tape x_t_taped x_t_place0 x_t_length0 x_t_fault x_t_number0 x_t_open x_t_codeMany x_t_waiting x_t_saidMany x_t_clauses A_t_said A_t_waitsAt A_t_saidLetter A_t_saidFrom A_t_saidHalf A_t_saidTo A_t_codes A_t_clauseOf A_t_codeFrom A_t_codeHalf A_t_codeTo A_t_stack A_t_facts x_t_lines A_t_newWords A_t_roundFrom A_t_roundAt A_t_roundTimes x_t_newMany x_t_rounds x_t_itFrom x_t_itTimes x_t_writtenNow x_t_picturesNow x_t_usedNow x_t_chosen x_t_fearOfChosen A_t_leastFrom A_t_rowNow x_t_changesNow x_t_left0 A_t_bornOf A_t_trainsTo A_t_trainAt x_t_trainMany x_t_leastTries x_t_firstTrained x_t_isKept, iA cB 260 A_t_tape v_t_tape] → va_S A s.heap H locs → f_X12_forgery_b45 v_t_tape a1 a2 n_45 x_t_taped l3 l4 l5 l6 = some (o_r, o_x_t_taped) → W p l e { frames := 1, cells := 0, slots := 0, locals := 24 } s m ([.ref A_t, .int a1, .int a2] : List Value).toArray below meth c H locs 0 0 (MQ below (PoI D A [oX12 A_t A_t_now A_t_aside A_t_kept A_t_rhymeOf A_t_wasRhyme A_t_wordAt x_t_wordMany A_t_tape o_x_t_taped x_t_place0 x_t_length0 x_t_fault x_t_number0 x_t_open x_t_codeMany x_t_waiting x_t_saidMany x_t_clauses A_t_said A_t_waitsAt A_t_saidLetter A_t_saidFrom A_t_saidHalf A_t_saidTo A_t_codes A_t_clauseOf A_t_codeFrom A_t_codeHalf A_t_codeTo A_t_stack A_t_facts x_t_lines A_t_newWords A_t_roundFrom A_t_roundAt A_t_roundTimes x_t_newMany x_t_rounds x_t_itFrom x_t_itTimes x_t_writtenNow x_t_picturesNow x_t_usedNow x_t_chosen x_t_fearOfChosen A_t_leastFrom A_t_rowNow x_t_changesNow x_t_left0 A_t_bornOf A_t_trainsTo A_t_trainAt x_t_trainMany x_t_leastTries x_t_firstTrained x_t_isKept, iA cB 260 A_t_tape v_t_tape] o_r) ([.ref A_t, .int a1, .int a2] : List Value).toArray s 0 0 A) (F0 m 45 ls []) := by
    intro n_45
    induction n_45 with
    | zero =>
      intro x_t_taped l3 l4 l5 l6 H locs ls hl hP hD hS hf
      exact absurd hf (fun h => by rw [f_X12_forgery_b45] at h; cases h)
    | succ n_45 ih_45 =>
      intro x_t_taped l3 l4 l5 l6 H locs ls hl hP hD hS hf
      rw [f_X12_forgery_b45] at hf
      refine lv_iload hx hb dX12_forgery_45 (lv_at hl 6 rfl) ?_
      refine lv_iload_n hx hb dX12_forgery_47 rfl (lv_at hl 1 rfl) ?_
      refine lv_icmp_ge (tgt := 101) hx hb dX12_forgery_48 (by decide) (fun q => ?_) (fun q => ?_)
      · have hf := if_t q hf
        refine lv_iload_n hx hb dX12_forgery_101 rfl (lv_at hl 2 rfl) ?_
        refine lv_iconst (v := 2) hx hb dX12_forgery_102 (by decide) ?_
        refine lv_icmp_ge (tgt := 111) hx hb dX12_forgery_103 (by decide) (fun q => ?_) (fun q => ?_)
        · have hf := if_t q hf
          refine lv_iload_n hx hb dX12_forgery_111 rfl (lv_at hl 3 rfl) ?_
          refine lv_iload hx hb dX12_forgery_112 (lv_at hl 5 rfl) ?_
          refine lv_isub hx hb dX12_forgery_114 ?_
          exact hb_115 x_t_taped (l3 - l5) l3 _ _ ls (lv_sub hl [2, 3] rfl) hP hD hS hf
        · have hf := if_f q hf
          refine lv_iload hx hb dX12_forgery_106 (lv_at hl 4 rfl) ?_
          refine lv_goto (tgt := 115) hx hb dX12_forgery_108 (by decide) ?_
          exact hb_115 x_t_taped l4 l3 _ _ ls (lv_sub hl [2, 3] rfl) hP hD hS hf
      · have hf := if_f q hf
        refine lv_aload_n hx hb dX12_forgery_51 rfl (lv_at hl 0 rfl) ?_
        refine lv_iload hx hb dX12_forgery_52 (lv_at hl 6 rfl) ?_
        obtain ⟨r3, hc4, hf⟩ := bd1_e hf
        refine x_callVI (ws' := [oX12 A_t A_t_now A_t_aside A_t_kept A_t_rhymeOf A_t_wasRhyme A_t_wordAt x_t_wordMany A_t_tape x_t_taped x_t_place0 x_t_length0 x_t_fault x_t_number0 x_t_open x_t_codeMany x_t_waiting x_t_saidMany x_t_clauses A_t_said A_t_waitsAt A_t_saidLetter A_t_saidFrom A_t_saidHalf A_t_saidTo A_t_codes A_t_clauseOf A_t_codeFrom A_t_codeHalf A_t_codeTo A_t_stack A_t_facts x_t_lines A_t_newWords A_t_roundFrom A_t_roundAt A_t_roundTimes x_t_newMany x_t_rounds x_t_itFrom x_t_itTimes x_t_writtenNow x_t_picturesNow x_t_usedNow x_t_chosen x_t_fearOfChosen A_t_leastFrom A_t_rowNow x_t_changesNow x_t_left0 A_t_bornOf A_t_trainsTo A_t_trainAt x_t_trainMany x_t_leastTries x_t_firstTrained x_t_isKept, iA cB 260 A_t_tape v_t_tape]) (rest := []) C hK hP hD hS hA hl mf_X12_378 (c_X12_octet hc4) [0, 1] 0 12 rfl rfl rfl rfl rfl rfl rfl rfl rfl rfl (Nat.le_of_ble_eq_true rfl) ⟨Nat.le_of_ble_eq_true rfl, Nat.le_of_ble_eq_true rfl⟩ ⟨Nat.le_refl _, Nat.le_refl _⟩ dX12_forgery_54 ?_
        intro H locs hP hD hS
        refine lv_bipush (v := 10) hx hb dX12_forgery_57 (by decide) ?_
        refine lv_icmp_le (tgt := 65) hx hb dX12_forgery_59 (by decide) (fun q => ?_) (fun q => ?_)
        · have hf := if_t q hf
          refine lv_iload_n hx hb dX12_forgery_65 rfl (lv_at hl 3 rfl) ?_
          refine lv_bipush (v := 10) hx hb dX12_forgery_66 (by decide) ?_
          refine lv_imul hx hb dX12_forgery_68 ?_
          refine lv_istore_n (lv' := [(3, .int (l3 * (10 : Int32))), (0, .ref A_t), (1, .int a1), (2, .int a2), (4, .int l4), (5, .int l5), (6, .int l6)]) hx hb dX12_forgery_69 rfl hl (by decide) rfl (fun ls hl => ?_)
          refine lv_iload hx hb dX12_forgery_70 (lv_at hl 4 rfl) ?_
          refine lv_aload_n hx hb dX12_forgery_72 rfl (lv_at hl 1 rfl) ?_
          refine lv_iload hx hb dX12_forgery_73 (lv_at hl 6 rfl) ?_
          obtain ⟨r5, hc6, hf⟩ := bd1_e hf
          refine x_callVI (ws' := [oX12 A_t A_t_now A_t_aside A_t_kept A_t_rhymeOf A_t_wasRhyme A_t_wordAt x_t_wordMany A_t_tape x_t_taped x_t_place0 x_t_length0 x_t_fault x_t_number0 x_t_open x_t_codeMany x_t_waiting x_t_saidMany x_t_clauses A_t_said A_t_waitsAt A_t_saidLetter A_t_saidFrom A_t_saidHalf A_t_saidTo A_t_codes A_t_clauseOf A_t_codeFrom A_t_codeHalf A_t_codeTo A_t_stack A_t_facts x_t_lines A_t_newWords A_t_roundFrom A_t_roundAt A_t_roundTimes x_t_newMany x_t_rounds x_t_itFrom x_t_itTimes x_t_writtenNow x_t_picturesNow x_t_usedNow x_t_chosen x_t_fearOfChosen A_t_leastFrom A_t_rowNow x_t_changesNow x_t_left0 A_t_bornOf A_t_trainsTo A_t_trainAt x_t_trainMany x_t_leastTries x_t_firstTrained x_t_isKept, iA cB 260 A_t_tape v_t_tape]) (rest := [.int l4]) C hK hP hD hS hA hl mf_X12_378 (c_X12_octet hc6) [0, 1] 0 12 rfl rfl rfl rfl rfl rfl rfl rfl rfl rfl (Nat.le_of_ble_eq_true rfl) ⟨Nat.le_of_ble_eq_true rfl, Nat.le_of_ble_eq_true rfl⟩ ⟨Nat.le_refl _, Nat.le_refl _⟩ dX12_forgery_75 ?_
          intro H locs hP hD hS
          refine lv_imul hx hb dX12_forgery_78 ?_
          refine lv_istore (lv' := [(4, .int (l4 * r5)), (3, .int (l3 * (10 : Int32))), (0, .ref A_t), (1, .int a1), (2, .int a2), (5, .int l5), (6, .int l6)]) hx hb dX12_forgery_79 hl (by decide) rfl (fun ls hl => ?_)
          refine lv_iload hx hb dX12_forgery_81 (lv_at hl 5 rfl) ?_
          refine lv_bipush (v := 10) hx hb dX12_forgery_83 (by decide) ?_
          refine lv_aload_n hx hb dX12_forgery_85 rfl (lv_at hl 2 rfl) ?_
          refine lv_iload hx hb dX12_forgery_86 (lv_at hl 6 rfl) ?_
          obtain ⟨r7, hc8, hf⟩ := bd1_e hf
          refine x_callVI (ws' := [oX12 A_t A_t_now A_t_aside A_t_kept A_t_rhymeOf A_t_wasRhyme A_t_wordAt x_t_wordMany A_t_tape x_t_taped x_t_place0 x_t_length0 x_t_fault x_t_number0 x_t_open x_t_codeMany x_t_waiting x_t_saidMany x_t_clauses A_t_said A_t_waitsAt A_t_saidLetter A_t_saidFrom A_t_saidHalf A_t_saidTo A_t_codes A_t_clauseOf A_t_codeFrom A_t_codeHalf A_t_codeTo A_t_stack A_t_facts x_t_lines A_t_newWords A_t_roundFrom A_t_roundAt A_t_roundTimes x_t_newMany x_t_rounds x_t_itFrom x_t_itTimes x_t_writtenNow x_t_picturesNow x_t_usedNow x_t_chosen x_t_fearOfChosen A_t_leastFrom A_t_rowNow x_t_changesNow x_t_left0 A_t_bornOf A_t_trainsTo A_t_trainAt x_t_trainMany x_t_leastTries x_t_firstTrained x_t_isKept, iA cB 260 A_t_tape v_t_tape]) (rest := [.int (10 : Int32), .int l5]) C hK hP hD hS hA hl mf_X12_378 (c_X12_octet hc8) [0, 1] 0 12 rfl rfl rfl rfl rfl rfl rfl rfl rfl rfl (Nat.le_of_ble_eq_true rfl) ⟨Nat.le_of_ble_eq_true rfl, Nat.le_of_ble_eq_true rfl⟩ ⟨Nat.le_refl _, Nat.le_refl _⟩ dX12_forgery_88 ?_
          intro H locs hP hD hS
          refine lv_isub hx hb dX12_forgery_91 ?_
          refine lv_imul hx hb dX12_forgery_92 ?_
          refine lv_istore (lv' := [(5, .int (l5 * ((10 : Int32) - r7))), (4, .int (l4 * r5)), (3, .int (l3 * (10 : Int32))), (0, .ref A_t), (1, .int a1), (2, .int a2), (6, .int l6)]) hx hb dX12_forgery_93 hl (by decide) rfl (fun ls hl => ?_)
          refine lv_iinc (v := (l6 + (1 : Int32))) (lv' := [(6, .int (l6 + (1 : Int32))), (5, .int (l5 * ((10 : Int32) - r7))), (4, .int (l4 * r5)), (3, .int (l3 * (10 : Int32))), (0, .ref A_t), (1, .int a1), (2, .int a2)]) hx hb dX12_forgery_95 hl (k := 6) rfl rfl (by decide) rfl (fun ls hl => ?_)
          refine lv_goto (tgt := 45) hx hb dX12_forgery_98 (by decide) ?_
          exact ih_45 x_t_taped (l3 * (10 : Int32)) (l4 * r5) (l5 * ((10 : Int32) - r7)) (l6 + (1 : Int32)) _ _ ls (lv_sub hl [4, 5, 6, 3, 2, 1, 0] rfl) hP hD hS hf
        · have hf := if_f q hf
          refine lv_bipush (v := -3) hx hb dX12_forgery_62 (by decide) ?_
          obtain ⟨rfl, rfl⟩ := ev2 hf
          exact x_iret C hr hlk hP hD hS dX12_forgery_64
  refine lv_iload_n hx hb dX12_forgery_0 rfl (lv_at hl 1 rfl) ?_
  refine lv_iconst (v := 1) hx hb dX12_forgery_1 (by decide) ?_
  refine lv_bipush (v := 9) hx hb dX12_forgery_2 (by decide) ?_
  obtain ⟨r9, hc10, hf⟩ := bd1_e hf
  refine x_callSI (ws' := [oX12 A_t A_t_now A_t_aside A_t_kept A_t_rhymeOf A_t_wasRhyme A_t_wordAt x_t_wordMany A_t_tape x_t_taped x_t_place0 x_t_length0 x_t_fault x_t_number0 x_t_open x_t_codeMany x_t_waiting x_t_saidMany x_t_clauses A_t_said A_t_waitsAt A_t_saidLetter A_t_saidFrom A_t_saidHalf A_t_saidTo A_t_codes A_t_clauseOf A_t_codeFrom A_t_codeHalf A_t_codeTo A_t_stack A_t_facts x_t_lines A_t_newWords A_t_roundFrom A_t_roundAt A_t_roundTimes x_t_newMany x_t_rounds x_t_itFrom x_t_itTimes x_t_writtenNow x_t_picturesNow x_t_usedNow x_t_chosen x_t_fearOfChosen A_t_leastFrom A_t_rowNow x_t_changesNow x_t_left0 A_t_bornOf A_t_trainsTo A_t_trainAt x_t_trainMany x_t_leastTries x_t_firstTrained x_t_isKept, iA cB 260 A_t_tape v_t_tape]) (rest := []) C hK hP hD hS hA hl mf_X12_105 (c_X12_in hc10) [] rfl rfl rfl rfl rfl rfl rfl rfl (Nat.le_of_ble_eq_true rfl) ⟨Nat.le_of_ble_eq_true rfl, Nat.le_of_ble_eq_true rfl⟩ ⟨Nat.le_refl _, Nat.le_refl _⟩ dX12_forgery_4 ?_
  intro H locs hP hD hS
  refine lv_if_eq (tgt := 27) hx hb dX12_forgery_7 (by decide) (fun q => ?_) (fun q => ?_)
  · have hf := if_t q hf
    exact hb_27 x_t_taped _ _ ls (lv_sub hl [] rfl) hP hD hS hf
  · have hf := if_f q hf
    refine lv_iload_n hx hb dX12_forgery_10 rfl (lv_at hl 2 rfl) ?_
    refine lv_iconst (v := 0) hx hb dX12_forgery_11 (by decide) ?_
    refine lv_iconst (v := 3) hx hb dX12_forgery_12 (by decide) ?_
    obtain ⟨r11, hc12, hf⟩ := bd1_e hf
    refine x_callSI (ws' := [oX12 A_t A_t_now A_t_aside A_t_kept A_t_rhymeOf A_t_wasRhyme A_t_wordAt x_t_wordMany A_t_tape x_t_taped x_t_place0 x_t_length0 x_t_fault x_t_number0 x_t_open x_t_codeMany x_t_waiting x_t_saidMany x_t_clauses A_t_said A_t_waitsAt A_t_saidLetter A_t_saidFrom A_t_saidHalf A_t_saidTo A_t_codes A_t_clauseOf A_t_codeFrom A_t_codeHalf A_t_codeTo A_t_stack A_t_facts x_t_lines A_t_newWords A_t_roundFrom A_t_roundAt A_t_roundTimes x_t_newMany x_t_rounds x_t_itFrom x_t_itTimes x_t_writtenNow x_t_picturesNow x_t_usedNow x_t_chosen x_t_fearOfChosen A_t_leastFrom A_t_rowNow x_t_changesNow x_t_left0 A_t_bornOf A_t_trainsTo A_t_trainAt x_t_trainMany x_t_leastTries x_t_firstTrained x_t_isKept, iA cB 260 A_t_tape v_t_tape]) (rest := []) C hK hP hD hS hA hl mf_X12_105 (c_X12_in hc12) [] rfl rfl rfl rfl rfl rfl rfl rfl (Nat.le_of_ble_eq_true rfl) ⟨Nat.le_of_ble_eq_true rfl, Nat.le_of_ble_eq_true rfl⟩ ⟨Nat.le_refl _, Nat.le_refl _⟩ dX12_forgery_13 ?_
    intro H locs hP hD hS
    refine lv_if_eq (tgt := 27) hx hb dX12_forgery_16 (by decide) (fun q => ?_) (fun q => ?_)
    · have hf := if_t q hf
      exact hb_27 x_t_taped _ _ ls (lv_sub hl [] rfl) hP hD hS hf
    · have hf := if_f q hf
      refine lv_iload_n hx hb dX12_forgery_19 rfl (lv_at hl 1 rfl) ?_
      refine lv_aload_n hx hb dX12_forgery_20 rfl (lv_at hl 0 rfl) ?_
      refine x_get C hK hP fd_X12_143 0 rfl rfl dX12_forgery_21 ?_
      refine lv_icmp_le (tgt := 29) hx hb dX12_forgery_24 (by decide) (fun q => ?_) (fun q => ?_)
      · have hf := if_t q hf
        refine lv_aload_n hx hb dX12_forgery_29 rfl (lv_at hl 0 rfl) ?_
        refine lv_iconst (v := 0) hx hb dX12_forgery_30 (by decide) ?_
        refine x_put (ws' := [oX12 A_t A_t_now A_t_aside A_t_kept A_t_rhymeOf A_t_wasRhyme A_t_wordAt x_t_wordMany A_t_tape (0 : Int32) x_t_place0 x_t_length0 x_t_fault x_t_number0 x_t_open x_t_codeMany x_t_waiting x_t_saidMany x_t_clauses A_t_said A_t_waitsAt A_t_saidLetter A_t_saidFrom A_t_saidHalf A_t_saidTo A_t_codes A_t_clauseOf A_t_codeFrom A_t_codeHalf A_t_codeTo A_t_stack A_t_facts x_t_lines A_t_newWords A_t_roundFrom A_t_roundAt A_t_roundTimes x_t_newMany x_t_rounds x_t_itFrom x_t_itTimes x_t_writtenNow x_t_picturesNow x_t_usedNow x_t_chosen x_t_fearOfChosen A_t_leastFrom A_t_rowNow x_t_changesNow x_t_left0 A_t_bornOf A_t_trainsTo A_t_trainAt x_t_trainMany x_t_leastTries x_t_firstTrained x_t_isKept, iA cB 260 A_t_tape v_t_tape]) C hK hP hD hS fp_X12_143 0 rfl rfl rfl (Nat.le_of_ble_eq_true rfl) rfl dX12_forgery_31 ?_
        intro H locs hP hD hS
        refine lv_iconst (v := 1) hx hb dX12_forgery_34 (by decide) ?_
        refine lv_istore_n (lv' := [(3, .int (1 : Int32)), (0, .ref A_t), (1, .int a1), (2, .int a2)]) hx hb dX12_forgery_35 rfl hl (by decide) rfl (fun ls hl => ?_)
        refine lv_iconst (v := 1) hx hb dX12_forgery_36 (by decide) ?_
        refine lv_istore (lv' := [(4, .int (1 : Int32)), (3, .int (1 : Int32)), (0, .ref A_t), (1, .int a1), (2, .int a2)]) hx hb dX12_forgery_37 hl (by decide) rfl (fun ls hl => ?_)
        refine lv_iconst (v := 1) hx hb dX12_forgery_39 (by decide) ?_
        refine lv_istore (lv' := [(5, .int (1 : Int32)), (4, .int (1 : Int32)), (3, .int (1 : Int32)), (0, .ref A_t), (1, .int a1), (2, .int a2)]) hx hb dX12_forgery_40 hl (by decide) rfl (fun ls hl => ?_)
        refine lv_iconst (v := 0) hx hb dX12_forgery_42 (by decide) ?_
        refine lv_istore (lv' := [(6, .int (0 : Int32)), (5, .int (1 : Int32)), (4, .int (1 : Int32)), (3, .int (1 : Int32)), (0, .ref A_t), (1, .int a1), (2, .int a2)]) hx hb dX12_forgery_43 hl (by decide) rfl (fun ls hl => ?_)
        exact hb_45 FU (0 : Int32) (1 : Int32) (1 : Int32) (1 : Int32) (0 : Int32) _ _ ls (lv_sub hl [4, 5, 6, 3, 2, 1, 0] rfl) hP hD hS hf
      · have hf := if_f q hf
        exact hb_27 x_t_taped _ _ ls (lv_sub hl [] rfl) hP hD hS hf
def f_X12_areEachOnce_b30 : Option (Int32) :=
  some (0 : Int32)
def f_X12_areEachOnce_b4 (v_t_tape : (Nat → Int32)) (a1 : Int32) : Nat → Int32 → Int32 → Option (Int32)
  | 0, _, _ => none
  | n + 1, l2, l3 =>
    if a1 ≤ l3 then
      some (1 : Int32)
    else
      bd1 (f_X12_octet v_t_tape l3) (fun r1 =>
      if a1 ≤ r1 then
        f_X12_areEachOnce_b30
      else
        bd1 (f_X12_octet v_t_tape l3) (fun r2 =>
        bd1 (f_X12_has l2 r2) (fun r3 =>
        if r3 = 0 then
          bd1 (f_X12_octet v_t_tape l3) (fun r4 =>
          f_X12_areEachOnce_b4 v_t_tape a1 n (l2 ||| ((1 : Int32) <<< (r4 &&& 31))) (l3 + (1 : Int32)))
        else
          f_X12_areEachOnce_b30)))
def f_X12_areEachOnce (v_t_tape : (Nat → Int32)) (a1 : Int32) : Option (Int32) :=
  f_X12_areEachOnce_b4 v_t_tape a1 FU (0 : Int32) (0 : Int32)
set_option maxHeartbeats 4000000 in
set_option maxRecDepth 100000 in
theorem c_X12_areEachOnce {l : Launch} {D : va_G} {cI cB : ClassId} {A_t A_t_now A_t_aside A_t_kept A_t_rhymeOf A_t_wasRhyme A_t_wordAt A_t_tape A_t_said A_t_waitsAt A_t_saidLetter A_t_saidFrom A_t_saidHalf A_t_saidTo A_t_codes A_t_clauseOf A_t_codeFrom A_t_codeHalf A_t_codeTo A_t_stack A_t_facts A_t_newWords A_t_roundFrom A_t_roundAt A_t_roundTimes A_t_leastFrom A_t_rowNow A_t_bornOf A_t_trainsTo A_t_trainAt : Nat} {x_t_wordMany x_t_taped x_t_place0 x_t_length0 x_t_fault x_t_number0 x_t_open x_t_codeMany x_t_waiting x_t_saidMany x_t_clauses x_t_lines x_t_newMany x_t_rounds x_t_itFrom x_t_itTimes x_t_writtenNow x_t_picturesNow x_t_usedNow x_t_chosen x_t_fearOfChosen x_t_changesNow x_t_left0 x_t_trainMany x_t_leastTries x_t_firstTrained x_t_isKept a1 : Int32} {v_t_tape : Nat → Int32} {o_r : Int32} (hf : f_X12_areEachOnce v_t_tape a1 = some o_r) : CtI l D cI cB yX12_areEachOnce cX12_areEachOnce 4 (some .boolean) 1 21 [.ref A_t, .int a1] [oX12 A_t A_t_now A_t_aside A_t_kept A_t_rhymeOf A_t_wasRhyme A_t_wordAt x_t_wordMany A_t_tape x_t_taped x_t_place0 x_t_length0 x_t_fault x_t_number0 x_t_open x_t_codeMany x_t_waiting x_t_saidMany x_t_clauses A_t_said A_t_waitsAt A_t_saidLetter A_t_saidFrom A_t_saidHalf A_t_saidTo A_t_codes A_t_clauseOf A_t_codeFrom A_t_codeHalf A_t_codeTo A_t_stack A_t_facts x_t_lines A_t_newWords A_t_roundFrom A_t_roundAt A_t_roundTimes x_t_newMany x_t_rounds x_t_itFrom x_t_itTimes x_t_writtenNow x_t_picturesNow x_t_usedNow x_t_chosen x_t_fearOfChosen A_t_leastFrom A_t_rowNow x_t_changesNow x_t_left0 A_t_bornOf A_t_trainsTo A_t_trainAt x_t_trainMany x_t_leastTries x_t_firstTrained x_t_isKept, iA cB 260 A_t_tape v_t_tape] [oX12 A_t A_t_now A_t_aside A_t_kept A_t_rhymeOf A_t_wasRhyme A_t_wordAt x_t_wordMany A_t_tape x_t_taped x_t_place0 x_t_length0 x_t_fault x_t_number0 x_t_open x_t_codeMany x_t_waiting x_t_saidMany x_t_clauses A_t_said A_t_waitsAt A_t_saidLetter A_t_saidFrom A_t_saidHalf A_t_saidTo A_t_codes A_t_clauseOf A_t_codeFrom A_t_codeHalf A_t_codeTo A_t_stack A_t_facts x_t_lines A_t_newWords A_t_roundFrom A_t_roundAt A_t_roundTimes x_t_newMany x_t_rounds x_t_itFrom x_t_itTimes x_t_writtenNow x_t_picturesNow x_t_usedNow x_t_chosen x_t_fearOfChosen A_t_leastFrom A_t_rowNow x_t_changesNow x_t_left0 A_t_bornOf A_t_trainsTo A_t_trainAt x_t_trainMany x_t_leastTries x_t_firstTrained x_t_isKept, iA cB 260 A_t_tape v_t_tape] o_r := by
  refine x_startI (by decide) (Nat.le_of_ble_eq_true rfl) ?_
  intro p e s m below meth c A C hr hlk hA hK hP hD hS ls hl
  have hl : lv_has ls 4 [(0, .ref A_t), (1, .int a1)] := hl
  have hx := C.1
  have hb := C.2.1
  unfold f_X12_areEachOnce at hf
  have hb_30 : ∀ (H : Heap) (locs : List Loc) (ls : Array Slot), lv_has ls 4 [] → va_P D vwCl [oX12 A_t A_t_now A_t_aside A_t_kept A_t_rhymeOf A_t_wasRhyme A_t_wordAt x_t_wordMany A_t_tape x_t_taped x_t_place0 x_t_length0 x_t_fault x_t_number0 x_t_open x_t_codeMany x_t_waiting x_t_saidMany x_t_clauses A_t_said A_t_waitsAt A_t_saidLetter A_t_saidFrom A_t_saidHalf A_t_saidTo A_t_codes A_t_clauseOf A_t_codeFrom A_t_codeHalf A_t_codeTo A_t_stack A_t_facts x_t_lines A_t_newWords A_t_roundFrom A_t_roundAt A_t_roundTimes x_t_newMany x_t_rounds x_t_itFrom x_t_itTimes x_t_writtenNow x_t_picturesNow x_t_usedNow x_t_chosen x_t_fearOfChosen A_t_leastFrom A_t_rowNow x_t_changesNow x_t_left0 A_t_bornOf A_t_trainsTo A_t_trainAt x_t_trainMany x_t_leastTries x_t_firstTrained x_t_isKept, iA cB 260 A_t_tape v_t_tape] H → va_D A [oX12 A_t A_t_now A_t_aside A_t_kept A_t_rhymeOf A_t_wasRhyme A_t_wordAt x_t_wordMany A_t_tape x_t_taped x_t_place0 x_t_length0 x_t_fault x_t_number0 x_t_open x_t_codeMany x_t_waiting x_t_saidMany x_t_clauses A_t_said A_t_waitsAt A_t_saidLetter A_t_saidFrom A_t_saidHalf A_t_saidTo A_t_codes A_t_clauseOf A_t_codeFrom A_t_codeHalf A_t_codeTo A_t_stack A_t_facts x_t_lines A_t_newWords A_t_roundFrom A_t_roundAt A_t_roundTimes x_t_newMany x_t_rounds x_t_itFrom x_t_itTimes x_t_writtenNow x_t_picturesNow x_t_usedNow x_t_chosen x_t_fearOfChosen A_t_leastFrom A_t_rowNow x_t_changesNow x_t_left0 A_t_bornOf A_t_trainsTo A_t_trainAt x_t_trainMany x_t_leastTries x_t_firstTrained x_t_isKept, iA cB 260 A_t_tape v_t_tape] → va_S A s.heap H locs → f_X12_areEachOnce_b30 = some o_r → W p l e { frames := 1, cells := 0, slots := 0, locals := 21 } s m ([.ref A_t, .int a1] : List Value).toArray below meth c H locs 0 0 (MQ below (PoI D A [oX12 A_t A_t_now A_t_aside A_t_kept A_t_rhymeOf A_t_wasRhyme A_t_wordAt x_t_wordMany A_t_tape x_t_taped x_t_place0 x_t_length0 x_t_fault x_t_number0 x_t_open x_t_codeMany x_t_waiting x_t_saidMany x_t_clauses A_t_said A_t_waitsAt A_t_saidLetter A_t_saidFrom A_t_saidHalf A_t_saidTo A_t_codes A_t_clauseOf A_t_codeFrom A_t_codeHalf A_t_codeTo A_t_stack A_t_facts x_t_lines A_t_newWords A_t_roundFrom A_t_roundAt A_t_roundTimes x_t_newMany x_t_rounds x_t_itFrom x_t_itTimes x_t_writtenNow x_t_picturesNow x_t_usedNow x_t_chosen x_t_fearOfChosen A_t_leastFrom A_t_rowNow x_t_changesNow x_t_left0 A_t_bornOf A_t_trainsTo A_t_trainAt x_t_trainMany x_t_leastTries x_t_firstTrained x_t_isKept, iA cB 260 A_t_tape v_t_tape] o_r) ([.ref A_t, .int a1] : List Value).toArray s 0 0 A) (F0 m 30 ls []) := by
    intro H locs ls hl hP hD hS hf
    unfold f_X12_areEachOnce_b30 at hf
    refine lv_iconst (v := 0) hx hb dX12_areEachOnce_30 (by decide) ?_
    obtain rfl := ev1 hf
    exact x_zret C hr hlk (Or.inl rfl) hP hD hS dX12_areEachOnce_31
  have hb_4 : ∀ (n_4 : Nat) (l2 : Int32) (l3 : Int32) (H : Heap) (locs : List Loc) (ls : Array Slot), lv_has ls 4 [(0, .ref A_t), (1, .int a1), (2, .int l2), (3, .int l3)] → va_P D vwCl [oX12 A_t A_t_now A_t_aside A_t_kept A_t_rhymeOf A_t_wasRhyme A_t_wordAt x_t_wordMany A_t_tape x_t_taped x_t_place0 x_t_length0 x_t_fault x_t_number0 x_t_open x_t_codeMany x_t_waiting x_t_saidMany x_t_clauses A_t_said A_t_waitsAt A_t_saidLetter A_t_saidFrom A_t_saidHalf A_t_saidTo A_t_codes A_t_clauseOf A_t_codeFrom A_t_codeHalf A_t_codeTo A_t_stack A_t_facts x_t_lines A_t_newWords A_t_roundFrom A_t_roundAt A_t_roundTimes x_t_newMany x_t_rounds x_t_itFrom x_t_itTimes x_t_writtenNow x_t_picturesNow x_t_usedNow x_t_chosen x_t_fearOfChosen A_t_leastFrom A_t_rowNow x_t_changesNow x_t_left0 A_t_bornOf A_t_trainsTo A_t_trainAt x_t_trainMany x_t_leastTries x_t_firstTrained x_t_isKept, iA cB 260 A_t_tape v_t_tape] H → va_D A [oX12 A_t A_t_now A_t_aside A_t_kept A_t_rhymeOf A_t_wasRhyme A_t_wordAt x_t_wordMany A_t_tape x_t_taped x_t_place0 x_t_length0 x_t_fault x_t_number0 x_t_open x_t_codeMany x_t_waiting x_t_saidMany x_t_clauses A_t_said A_t_waitsAt A_t_saidLetter A_t_saidFrom A_t_saidHalf A_t_saidTo A_t_codes A_t_clauseOf A_t_codeFrom A_t_codeHalf A_t_codeTo A_t_stack A_t_facts x_t_lines A_t_newWords A_t_roundFrom A_t_roundAt A_t_roundTimes x_t_newMany x_t_rounds x_t_itFrom x_t_itTimes x_t_writtenNow x_t_picturesNow x_t_usedNow x_t_chosen x_t_fearOfChosen A_t_leastFrom A_t_rowNow x_t_changesNow x_t_left0 A_t_bornOf A_t_trainsTo A_t_trainAt x_t_trainMany x_t_leastTries x_t_firstTrained x_t_isKept, iA cB 260 A_t_tape v_t_tape] → va_S A s.heap H locs → f_X12_areEachOnce_b4 v_t_tape a1 n_4 l2 l3 = some o_r → W p l e { frames := 1, cells := 0, slots := 0, locals := 21 } s m ([.ref A_t, .int a1] : List Value).toArray below meth c H locs 0 0 (MQ below (PoI D A [oX12 A_t A_t_now A_t_aside A_t_kept A_t_rhymeOf A_t_wasRhyme A_t_wordAt x_t_wordMany A_t_tape x_t_taped x_t_place0 x_t_length0 x_t_fault x_t_number0 x_t_open x_t_codeMany x_t_waiting x_t_saidMany x_t_clauses A_t_said A_t_waitsAt A_t_saidLetter A_t_saidFrom A_t_saidHalf A_t_saidTo A_t_codes A_t_clauseOf A_t_codeFrom A_t_codeHalf A_t_codeTo A_t_stack A_t_facts x_t_lines A_t_newWords A_t_roundFrom A_t_roundAt A_t_roundTimes x_t_newMany x_t_rounds x_t_itFrom x_t_itTimes x_t_writtenNow x_t_picturesNow x_t_usedNow x_t_chosen x_t_fearOfChosen A_t_leastFrom A_t_rowNow x_t_changesNow x_t_left0 A_t_bornOf A_t_trainsTo A_t_trainAt x_t_trainMany x_t_leastTries x_t_firstTrained x_t_isKept, iA cB 260 A_t_tape v_t_tape] o_r) ([.ref A_t, .int a1] : List Value).toArray s 0 0 A) (F0 m 4 ls []) := by
    intro n_4
    induction n_4 with
    | zero =>
      intro l2 l3 H locs ls hl hP hD hS hf
      exact absurd hf (fun h => by rw [f_X12_areEachOnce_b4] at h; cases h)
    | succ n_4 ih_4 =>
      intro l2 l3 H locs ls hl hP hD hS hf
      rw [f_X12_areEachOnce_b4] at hf
      refine lv_iload_n hx hb dX12_areEachOnce_4 rfl (lv_at hl 3 rfl) ?_
      refine lv_iload_n hx hb dX12_areEachOnce_5 rfl (lv_at hl 1 rfl) ?_
      refine lv_icmp_ge (tgt := 48) hx hb dX12_areEachOnce_6 (by decide) (fun q => ?_) (fun q => ?_)
      · have hf := if_t q hf
        refine lv_iconst (v := 1) hx hb dX12_areEachOnce_48 (by decide) ?_
        obtain rfl := ev1 hf
        exact x_zret C hr hlk (Or.inr rfl) hP hD hS dX12_areEachOnce_49
      · have hf := if_f q hf
        refine lv_aload_n hx hb dX12_areEachOnce_9 rfl (lv_at hl 0 rfl) ?_
        refine lv_iload_n hx hb dX12_areEachOnce_10 rfl (lv_at hl 3 rfl) ?_
        obtain ⟨r1, hc2, hf⟩ := bd1_e hf
        refine x_callVI (ws' := [oX12 A_t A_t_now A_t_aside A_t_kept A_t_rhymeOf A_t_wasRhyme A_t_wordAt x_t_wordMany A_t_tape x_t_taped x_t_place0 x_t_length0 x_t_fault x_t_number0 x_t_open x_t_codeMany x_t_waiting x_t_saidMany x_t_clauses A_t_said A_t_waitsAt A_t_saidLetter A_t_saidFrom A_t_saidHalf A_t_saidTo A_t_codes A_t_clauseOf A_t_codeFrom A_t_codeHalf A_t_codeTo A_t_stack A_t_facts x_t_lines A_t_newWords A_t_roundFrom A_t_roundAt A_t_roundTimes x_t_newMany x_t_rounds x_t_itFrom x_t_itTimes x_t_writtenNow x_t_picturesNow x_t_usedNow x_t_chosen x_t_fearOfChosen A_t_leastFrom A_t_rowNow x_t_changesNow x_t_left0 A_t_bornOf A_t_trainsTo A_t_trainAt x_t_trainMany x_t_leastTries x_t_firstTrained x_t_isKept, iA cB 260 A_t_tape v_t_tape]) (rest := []) C hK hP hD hS hA hl mf_X12_378 (c_X12_octet hc2) [0, 1] 0 12 rfl rfl rfl rfl rfl rfl rfl rfl rfl rfl (Nat.le_of_ble_eq_true rfl) ⟨Nat.le_of_ble_eq_true rfl, Nat.le_of_ble_eq_true rfl⟩ ⟨Nat.le_refl _, Nat.le_refl _⟩ dX12_areEachOnce_11 ?_
        intro H locs hP hD hS
        refine lv_iload_n hx hb dX12_areEachOnce_14 rfl (lv_at hl 1 rfl) ?_
        refine lv_icmp_ge (tgt := 30) hx hb dX12_areEachOnce_15 (by decide) (fun q => ?_) (fun q => ?_)
        · have hf := if_t q hf
          exact hb_30 _ _ ls (lv_sub hl [] rfl) hP hD hS hf
        · have hf := if_f q hf
          refine lv_iload_n hx hb dX12_areEachOnce_18 rfl (lv_at hl 2 rfl) ?_
          refine lv_aload_n hx hb dX12_areEachOnce_19 rfl (lv_at hl 0 rfl) ?_
          refine lv_iload_n hx hb dX12_areEachOnce_20 rfl (lv_at hl 3 rfl) ?_
          obtain ⟨r3, hc4, hf⟩ := bd1_e hf
          refine x_callVI (ws' := [oX12 A_t A_t_now A_t_aside A_t_kept A_t_rhymeOf A_t_wasRhyme A_t_wordAt x_t_wordMany A_t_tape x_t_taped x_t_place0 x_t_length0 x_t_fault x_t_number0 x_t_open x_t_codeMany x_t_waiting x_t_saidMany x_t_clauses A_t_said A_t_waitsAt A_t_saidLetter A_t_saidFrom A_t_saidHalf A_t_saidTo A_t_codes A_t_clauseOf A_t_codeFrom A_t_codeHalf A_t_codeTo A_t_stack A_t_facts x_t_lines A_t_newWords A_t_roundFrom A_t_roundAt A_t_roundTimes x_t_newMany x_t_rounds x_t_itFrom x_t_itTimes x_t_writtenNow x_t_picturesNow x_t_usedNow x_t_chosen x_t_fearOfChosen A_t_leastFrom A_t_rowNow x_t_changesNow x_t_left0 A_t_bornOf A_t_trainsTo A_t_trainAt x_t_trainMany x_t_leastTries x_t_firstTrained x_t_isKept, iA cB 260 A_t_tape v_t_tape]) (rest := [.int l2]) C hK hP hD hS hA hl mf_X12_378 (c_X12_octet hc4) [0, 1] 0 12 rfl rfl rfl rfl rfl rfl rfl rfl rfl rfl (Nat.le_of_ble_eq_true rfl) ⟨Nat.le_of_ble_eq_true rfl, Nat.le_of_ble_eq_true rfl⟩ ⟨Nat.le_refl _, Nat.le_refl _⟩ dX12_areEachOnce_21 ?_
          intro H locs hP hD hS
          obtain ⟨r5, hc6, hf⟩ := bd1_e hf
          refine x_callSI (ws' := [oX12 A_t A_t_now A_t_aside A_t_kept A_t_rhymeOf A_t_wasRhyme A_t_wordAt x_t_wordMany A_t_tape x_t_taped x_t_place0 x_t_length0 x_t_fault x_t_number0 x_t_open x_t_codeMany x_t_waiting x_t_saidMany x_t_clauses A_t_said A_t_waitsAt A_t_saidLetter A_t_saidFrom A_t_saidHalf A_t_saidTo A_t_codes A_t_clauseOf A_t_codeFrom A_t_codeHalf A_t_codeTo A_t_stack A_t_facts x_t_lines A_t_newWords A_t_roundFrom A_t_roundAt A_t_roundTimes x_t_newMany x_t_rounds x_t_itFrom x_t_itTimes x_t_writtenNow x_t_picturesNow x_t_usedNow x_t_chosen x_t_fearOfChosen A_t_leastFrom A_t_rowNow x_t_changesNow x_t_left0 A_t_bornOf A_t_trainsTo A_t_trainAt x_t_trainMany x_t_leastTries x_t_firstTrained x_t_isKept, iA cB 260 A_t_tape v_t_tape]) (rest := []) C hK hP hD hS hA hl mf_X12_381 (c_X12_has hc6) [] rfl rfl rfl rfl rfl rfl rfl rfl (Nat.le_of_ble_eq_true rfl) ⟨Nat.le_of_ble_eq_true rfl, Nat.le_of_ble_eq_true rfl⟩ ⟨Nat.le_refl _, Nat.le_refl _⟩ dX12_areEachOnce_24 ?_
          intro H locs hP hD hS
          refine lv_if_eq (tgt := 32) hx hb dX12_areEachOnce_27 (by decide) (fun q => ?_) (fun q => ?_)
          · have hf := if_t q hf
            refine lv_iload_n hx hb dX12_areEachOnce_32 rfl (lv_at hl 2 rfl) ?_
            refine lv_iconst (v := 1) hx hb dX12_areEachOnce_33 (by decide) ?_
            refine lv_aload_n hx hb dX12_areEachOnce_34 rfl (lv_at hl 0 rfl) ?_
            refine lv_iload_n hx hb dX12_areEachOnce_35 rfl (lv_at hl 3 rfl) ?_
            obtain ⟨r7, hc8, hf⟩ := bd1_e hf
            refine x_callVI (ws' := [oX12 A_t A_t_now A_t_aside A_t_kept A_t_rhymeOf A_t_wasRhyme A_t_wordAt x_t_wordMany A_t_tape x_t_taped x_t_place0 x_t_length0 x_t_fault x_t_number0 x_t_open x_t_codeMany x_t_waiting x_t_saidMany x_t_clauses A_t_said A_t_waitsAt A_t_saidLetter A_t_saidFrom A_t_saidHalf A_t_saidTo A_t_codes A_t_clauseOf A_t_codeFrom A_t_codeHalf A_t_codeTo A_t_stack A_t_facts x_t_lines A_t_newWords A_t_roundFrom A_t_roundAt A_t_roundTimes x_t_newMany x_t_rounds x_t_itFrom x_t_itTimes x_t_writtenNow x_t_picturesNow x_t_usedNow x_t_chosen x_t_fearOfChosen A_t_leastFrom A_t_rowNow x_t_changesNow x_t_left0 A_t_bornOf A_t_trainsTo A_t_trainAt x_t_trainMany x_t_leastTries x_t_firstTrained x_t_isKept, iA cB 260 A_t_tape v_t_tape]) (rest := [.int (1 : Int32), .int l2]) C hK hP hD hS hA hl mf_X12_378 (c_X12_octet hc8) [0, 1] 0 12 rfl rfl rfl rfl rfl rfl rfl rfl rfl rfl (Nat.le_of_ble_eq_true rfl) ⟨Nat.le_of_ble_eq_true rfl, Nat.le_of_ble_eq_true rfl⟩ ⟨Nat.le_refl _, Nat.le_refl _⟩ dX12_areEachOnce_36 ?_
            intro H locs hP hD hS
            refine lv_ishl hx hb dX12_areEachOnce_39 ?_
            refine lv_ior hx hb dX12_areEachOnce_40 ?_
            refine lv_istore_n (lv' := [(2, .int (l2 ||| ((1 : Int32) <<< (r7 &&& 31)))), (0, .ref A_t), (1, .int a1), (3, .int l3)]) hx hb dX12_areEachOnce_41 rfl hl (by decide) rfl (fun ls hl => ?_)
            refine lv_iinc (v := (l3 + (1 : Int32))) (lv' := [(3, .int (l3 + (1 : Int32))), (2, .int (l2 ||| ((1 : Int32) <<< (r7 &&& 31)))), (0, .ref A_t), (1, .int a1)]) hx hb dX12_areEachOnce_42 hl (k := 3) rfl rfl (by decide) rfl (fun ls hl => ?_)
            refine lv_goto (tgt := 4) hx hb dX12_areEachOnce_45 (by decide) ?_
            exact ih_4 (l2 ||| ((1 : Int32) <<< (r7 &&& 31))) (l3 + (1 : Int32)) _ _ ls (lv_sub hl [2, 3, 1, 0] rfl) hP hD hS hf
          · have hf := if_f q hf
            exact hb_30 _ _ ls (lv_sub hl [] rfl) hP hD hS hf
  refine lv_iconst (v := 0) hx hb dX12_areEachOnce_0 (by decide) ?_
  refine lv_istore_n (lv' := [(2, .int (0 : Int32)), (0, .ref A_t), (1, .int a1)]) hx hb dX12_areEachOnce_1 rfl hl (by decide) rfl (fun ls hl => ?_)
  refine lv_iconst (v := 0) hx hb dX12_areEachOnce_2 (by decide) ?_
  refine lv_istore_n (lv' := [(3, .int (0 : Int32)), (2, .int (0 : Int32)), (0, .ref A_t), (1, .int a1)]) hx hb dX12_areEachOnce_3 rfl hl (by decide) rfl (fun ls hl => ?_)
  exact hb_4 FU (0 : Int32) (0 : Int32) _ _ ls (lv_sub hl [2, 3, 1, 0] rfl) hP hD hS hf
def f_X12_rings_b27 (x_t_taped : Int32) : Option (Int32 × Int32) :=
  some ((-1 : Int32), x_t_taped)
def f_X12_rings_b135 (a1 : Int32) (a2 : Int32) (k56 : Int32 → Int32 → Int32 → Int32 → Int32 → Option (Int32 × Int32)) (x_t_taped : Int32) (l3 : Int32) (l4 : Int32) (l5 : Int32) (l6 : Int32) : Option (Int32 × Int32) :=
  k56 x_t_taped l3 l4 l5 (l6 + (1 : Int32))
def f_X12_rings_b81 (v_t_tape : (Nat → Int32)) (a1 : Int32) (a2 : Int32) (k56 : Int32 → Int32 → Int32 → Int32 → Int32 → Option (Int32 × Int32)) : Nat → Int32 → Int32 → Int32 → Int32 → Int32 → Int32 → Int32 → Option (Int32 × Int32)
  | 0, _, _, _, _, _, _, _ => none
  | n + 1, x_t_taped, l3, l4, l5, l6, l7, l8 =>
    bd1 (f_X12_has l3 l8) (fun r1 =>
    if r1 = 0 then
      bd1 (f_X12_octet v_t_tape l8) (fun r4 =>
      f_X12_rings_b81 v_t_tape a1 a2 k56 n x_t_taped (l3 ||| ((1 : Int32) <<< (l8 &&& 31))) l4 l5 l6 (l7 + (1 : Int32)) r4)
    else
      bd1 (f_X12_gcd l5 l7) (fun r2 =>
      dI l5 r2 (fun g3 =>
      f_X12_rings_b135 a1 a2 k56 x_t_taped l3 (l4 + (1 : Int32)) (g3 * l7) l6)))
def f_X12_rings_b152 (x_t_taped : Int32) (s0 : Int32) : Option (Int32 × Int32) :=
  some (s0, x_t_taped)
def f_X12_rings_b56 (v_t_tape : (Nat → Int32)) (a1 : Int32) (a2 : Int32) : Nat → Int32 → Int32 → Int32 → Int32 → Int32 → Option (Int32 × Int32)
  | 0, _, _, _, _, _ => none
  | n + 1, x_t_taped, l3, l4, l5, l6 =>
    if a1 ≤ l6 then
      if a2 = 0 then
        f_X12_rings_b152 x_t_taped l4
      else
        f_X12_rings_b152 x_t_taped l5
    else
      bd1 (f_X12_has l3 l6) (fun r1 =>
      if r1 = 0 then
        f_X12_rings_b81 v_t_tape a1 a2 (f_X12_rings_b56 v_t_tape a1 a2 n) FU x_t_taped l3 l4 l5 l6 (0 : Int32) l6
      else
        f_X12_rings_b135 a1 a2 (f_X12_rings_b56 v_t_tape a1 a2 n) x_t_taped l3 l4 l5 l6)
def f_X12_rings (v_t_tape : (Nat → Int32)) (x_t_taped : Int32) (a1 : Int32) (a2 : Int32) : Option (Int32 × Int32) :=
  bd1 (f_X12_in a1 (1 : Int32) (12 : Int32)) (fun r2 =>
  if r2 = 0 then
    f_X12_rings_b27 x_t_taped
  else
    bd1 (f_X12_in a2 (0 : Int32) (1 : Int32)) (fun r3 =>
    if r3 = 0 then
      f_X12_rings_b27 x_t_taped
    else
      if a1 ≤ x_t_taped then
        bd1 (f_X12_areEachOnce v_t_tape a1) (fun r4 =>
        if r4 = 0 then
          some ((-3 : Int32), (0 : Int32))
        else
          f_X12_rings_b56 v_t_tape a1 a2 FU (0 : Int32) (0 : Int32) (0 : Int32) (1 : Int32) (0 : Int32))
      else
        f_X12_rings_b27 x_t_taped))
set_option maxHeartbeats 4000000 in
set_option maxRecDepth 100000 in
theorem c_X12_rings {l : Launch} {D : va_G} {cI cB : ClassId} {A_t A_t_now A_t_aside A_t_kept A_t_rhymeOf A_t_wasRhyme A_t_wordAt A_t_tape A_t_said A_t_waitsAt A_t_saidLetter A_t_saidFrom A_t_saidHalf A_t_saidTo A_t_codes A_t_clauseOf A_t_codeFrom A_t_codeHalf A_t_codeTo A_t_stack A_t_facts A_t_newWords A_t_roundFrom A_t_roundAt A_t_roundTimes A_t_leastFrom A_t_rowNow A_t_bornOf A_t_trainsTo A_t_trainAt : Nat} {x_t_wordMany x_t_taped x_t_place0 x_t_length0 x_t_fault x_t_number0 x_t_open x_t_codeMany x_t_waiting x_t_saidMany x_t_clauses x_t_lines x_t_newMany x_t_rounds x_t_itFrom x_t_itTimes x_t_writtenNow x_t_picturesNow x_t_usedNow x_t_chosen x_t_fearOfChosen x_t_changesNow x_t_left0 x_t_trainMany x_t_leastTries x_t_firstTrained x_t_isKept a1 a2 : Int32} {v_t_tape : Nat → Int32} {o_r o_x_t_taped : Int32} (hf : f_X12_rings v_t_tape x_t_taped a1 a2 = some (o_r, o_x_t_taped)) : CtI l D cI cB yX12_rings cX12_rings 9 (some .int) 2 44 [.ref A_t, .int a1, .int a2] [oX12 A_t A_t_now A_t_aside A_t_kept A_t_rhymeOf A_t_wasRhyme A_t_wordAt x_t_wordMany A_t_tape x_t_taped x_t_place0 x_t_length0 x_t_fault x_t_number0 x_t_open x_t_codeMany x_t_waiting x_t_saidMany x_t_clauses A_t_said A_t_waitsAt A_t_saidLetter A_t_saidFrom A_t_saidHalf A_t_saidTo A_t_codes A_t_clauseOf A_t_codeFrom A_t_codeHalf A_t_codeTo A_t_stack A_t_facts x_t_lines A_t_newWords A_t_roundFrom A_t_roundAt A_t_roundTimes x_t_newMany x_t_rounds x_t_itFrom x_t_itTimes x_t_writtenNow x_t_picturesNow x_t_usedNow x_t_chosen x_t_fearOfChosen A_t_leastFrom A_t_rowNow x_t_changesNow x_t_left0 A_t_bornOf A_t_trainsTo A_t_trainAt x_t_trainMany x_t_leastTries x_t_firstTrained x_t_isKept, iA cB 260 A_t_tape v_t_tape] [oX12 A_t A_t_now A_t_aside A_t_kept A_t_rhymeOf A_t_wasRhyme A_t_wordAt x_t_wordMany A_t_tape o_x_t_taped x_t_place0 x_t_length0 x_t_fault x_t_number0 x_t_open x_t_codeMany x_t_waiting x_t_saidMany x_t_clauses A_t_said A_t_waitsAt A_t_saidLetter A_t_saidFrom A_t_saidHalf A_t_saidTo A_t_codes A_t_clauseOf A_t_codeFrom A_t_codeHalf A_t_codeTo A_t_stack A_t_facts x_t_lines A_t_newWords A_t_roundFrom A_t_roundAt A_t_roundTimes x_t_newMany x_t_rounds x_t_itFrom x_t_itTimes x_t_writtenNow x_t_picturesNow x_t_usedNow x_t_chosen x_t_fearOfChosen A_t_leastFrom A_t_rowNow x_t_changesNow x_t_left0 A_t_bornOf A_t_trainsTo A_t_trainAt x_t_trainMany x_t_leastTries x_t_firstTrained x_t_isKept, iA cB 260 A_t_tape v_t_tape] o_r := by
  refine x_startI (by decide) (Nat.le_of_ble_eq_true rfl) ?_
  intro p e s m below meth c A C hr hlk hA hK hP hD hS ls hl
  have hl : lv_has ls 9 [(0, .ref A_t), (1, .int a1), (2, .int a2)] := hl
  have hx := C.1
  have hb := C.2.1
  unfold f_X12_rings at hf
  have hb_27 : ∀ (x_t_taped : Int32) (H : Heap) (locs : List Loc) (ls : Array Slot), lv_has ls 9 [] → va_P D vwCl [oX12 A_t A_t_now A_t_aside A_t_kept A_t_rhymeOf A_t_wasRhyme A_t_wordAt x_t_wordMany A_t_tape x_t_taped x_t_place0 x_t_length0 x_t_fault x_t_number0 x_t_open x_t_codeMany x_t_waiting x_t_saidMany x_t_clauses A_t_said A_t_waitsAt A_t_saidLetter A_t_saidFrom A_t_saidHalf A_t_saidTo A_t_codes A_t_clauseOf A_t_codeFrom A_t_codeHalf A_t_codeTo A_t_stack A_t_facts x_t_lines A_t_newWords A_t_roundFrom A_t_roundAt A_t_roundTimes x_t_newMany x_t_rounds x_t_itFrom x_t_itTimes x_t_writtenNow x_t_picturesNow x_t_usedNow x_t_chosen x_t_fearOfChosen A_t_leastFrom A_t_rowNow x_t_changesNow x_t_left0 A_t_bornOf A_t_trainsTo A_t_trainAt x_t_trainMany x_t_leastTries x_t_firstTrained x_t_isKept, iA cB 260 A_t_tape v_t_tape] H → va_D A [oX12 A_t A_t_now A_t_aside A_t_kept A_t_rhymeOf A_t_wasRhyme A_t_wordAt x_t_wordMany A_t_tape x_t_taped x_t_place0 x_t_length0 x_t_fault x_t_number0 x_t_open x_t_codeMany x_t_waiting x_t_saidMany x_t_clauses A_t_said A_t_waitsAt A_t_saidLetter A_t_saidFrom A_t_saidHalf A_t_saidTo A_t_codes A_t_clauseOf A_t_codeFrom A_t_codeHalf A_t_codeTo A_t_stack A_t_facts x_t_lines A_t_newWords A_t_roundFrom A_t_roundAt A_t_roundTimes x_t_newMany x_t_rounds x_t_itFrom x_t_itTimes x_t_writtenNow x_t_picturesNow x_t_usedNow x_t_chosen x_t_fearOfChosen A_t_leastFrom A_t_rowNow x_t_changesNow x_t_left0 A_t_bornOf A_t_trainsTo A_t_trainAt x_t_trainMany x_t_leastTries x_t_firstTrained x_t_isKept, iA cB 260 A_t_tape v_t_tape] → va_S A s.heap H locs → f_X12_rings_b27 x_t_taped = some (o_r, o_x_t_taped) → W p l e { frames := 2, cells := 0, slots := 0, locals := 44 } s m ([.ref A_t, .int a1, .int a2] : List Value).toArray below meth c H locs 0 0 (MQ below (PoI D A [oX12 A_t A_t_now A_t_aside A_t_kept A_t_rhymeOf A_t_wasRhyme A_t_wordAt x_t_wordMany A_t_tape o_x_t_taped x_t_place0 x_t_length0 x_t_fault x_t_number0 x_t_open x_t_codeMany x_t_waiting x_t_saidMany x_t_clauses A_t_said A_t_waitsAt A_t_saidLetter A_t_saidFrom A_t_saidHalf A_t_saidTo A_t_codes A_t_clauseOf A_t_codeFrom A_t_codeHalf A_t_codeTo A_t_stack A_t_facts x_t_lines A_t_newWords A_t_roundFrom A_t_roundAt A_t_roundTimes x_t_newMany x_t_rounds x_t_itFrom x_t_itTimes x_t_writtenNow x_t_picturesNow x_t_usedNow x_t_chosen x_t_fearOfChosen A_t_leastFrom A_t_rowNow x_t_changesNow x_t_left0 A_t_bornOf A_t_trainsTo A_t_trainAt x_t_trainMany x_t_leastTries x_t_firstTrained x_t_isKept, iA cB 260 A_t_tape v_t_tape] o_r) ([.ref A_t, .int a1, .int a2] : List Value).toArray s 0 0 A) (F0 m 27 ls []) := by
    intro x_t_taped H locs ls hl hP hD hS hf
    unfold f_X12_rings_b27 at hf
    refine lv_iconst (v := -1) hx hb dX12_rings_27 (by decide) ?_
    obtain ⟨rfl, rfl⟩ := ev2 hf
    exact x_iret C hr hlk hP hD hS dX12_rings_28
  have hb_152 : ∀ (x_t_taped : Int32) (s0 : Int32) (H : Heap) (locs : List Loc) (ls : Array Slot), lv_has ls 9 [] → va_P D vwCl [oX12 A_t A_t_now A_t_aside A_t_kept A_t_rhymeOf A_t_wasRhyme A_t_wordAt x_t_wordMany A_t_tape x_t_taped x_t_place0 x_t_length0 x_t_fault x_t_number0 x_t_open x_t_codeMany x_t_waiting x_t_saidMany x_t_clauses A_t_said A_t_waitsAt A_t_saidLetter A_t_saidFrom A_t_saidHalf A_t_saidTo A_t_codes A_t_clauseOf A_t_codeFrom A_t_codeHalf A_t_codeTo A_t_stack A_t_facts x_t_lines A_t_newWords A_t_roundFrom A_t_roundAt A_t_roundTimes x_t_newMany x_t_rounds x_t_itFrom x_t_itTimes x_t_writtenNow x_t_picturesNow x_t_usedNow x_t_chosen x_t_fearOfChosen A_t_leastFrom A_t_rowNow x_t_changesNow x_t_left0 A_t_bornOf A_t_trainsTo A_t_trainAt x_t_trainMany x_t_leastTries x_t_firstTrained x_t_isKept, iA cB 260 A_t_tape v_t_tape] H → va_D A [oX12 A_t A_t_now A_t_aside A_t_kept A_t_rhymeOf A_t_wasRhyme A_t_wordAt x_t_wordMany A_t_tape x_t_taped x_t_place0 x_t_length0 x_t_fault x_t_number0 x_t_open x_t_codeMany x_t_waiting x_t_saidMany x_t_clauses A_t_said A_t_waitsAt A_t_saidLetter A_t_saidFrom A_t_saidHalf A_t_saidTo A_t_codes A_t_clauseOf A_t_codeFrom A_t_codeHalf A_t_codeTo A_t_stack A_t_facts x_t_lines A_t_newWords A_t_roundFrom A_t_roundAt A_t_roundTimes x_t_newMany x_t_rounds x_t_itFrom x_t_itTimes x_t_writtenNow x_t_picturesNow x_t_usedNow x_t_chosen x_t_fearOfChosen A_t_leastFrom A_t_rowNow x_t_changesNow x_t_left0 A_t_bornOf A_t_trainsTo A_t_trainAt x_t_trainMany x_t_leastTries x_t_firstTrained x_t_isKept, iA cB 260 A_t_tape v_t_tape] → va_S A s.heap H locs → f_X12_rings_b152 x_t_taped s0 = some (o_r, o_x_t_taped) → W p l e { frames := 2, cells := 0, slots := 0, locals := 44 } s m ([.ref A_t, .int a1, .int a2] : List Value).toArray below meth c H locs 0 0 (MQ below (PoI D A [oX12 A_t A_t_now A_t_aside A_t_kept A_t_rhymeOf A_t_wasRhyme A_t_wordAt x_t_wordMany A_t_tape o_x_t_taped x_t_place0 x_t_length0 x_t_fault x_t_number0 x_t_open x_t_codeMany x_t_waiting x_t_saidMany x_t_clauses A_t_said A_t_waitsAt A_t_saidLetter A_t_saidFrom A_t_saidHalf A_t_saidTo A_t_codes A_t_clauseOf A_t_codeFrom A_t_codeHalf A_t_codeTo A_t_stack A_t_facts x_t_lines A_t_newWords A_t_roundFrom A_t_roundAt A_t_roundTimes x_t_newMany x_t_rounds x_t_itFrom x_t_itTimes x_t_writtenNow x_t_picturesNow x_t_usedNow x_t_chosen x_t_fearOfChosen A_t_leastFrom A_t_rowNow x_t_changesNow x_t_left0 A_t_bornOf A_t_trainsTo A_t_trainAt x_t_trainMany x_t_leastTries x_t_firstTrained x_t_isKept, iA cB 260 A_t_tape v_t_tape] o_r) ([.ref A_t, .int a1, .int a2] : List Value).toArray s 0 0 A) (F0 m 152 ls [.int s0]) := by
    intro x_t_taped s0 H locs ls hl hP hD hS hf
    unfold f_X12_rings_b152 at hf
    obtain ⟨rfl, rfl⟩ := ev2 hf
    exact x_iret C hr hlk hP hD hS dX12_rings_152
  have hb_56 : ∀ (n_56 : Nat) (x_t_taped : Int32) (l3 : Int32) (l4 : Int32) (l5 : Int32) (l6 : Int32) (H : Heap) (locs : List Loc) (ls : Array Slot), lv_has ls 9 [(0, .ref A_t), (1, .int a1), (2, .int a2), (3, .int l3), (4, .int l4), (5, .int l5), (6, .int l6)] → va_P D vwCl [oX12 A_t A_t_now A_t_aside A_t_kept A_t_rhymeOf A_t_wasRhyme A_t_wordAt x_t_wordMany A_t_tape x_t_taped x_t_place0 x_t_length0 x_t_fault x_t_number0 x_t_open x_t_codeMany x_t_waiting x_t_saidMany x_t_clauses A_t_said A_t_waitsAt A_t_saidLetter A_t_saidFrom A_t_saidHalf A_t_saidTo A_t_codes A_t_clauseOf A_t_codeFrom A_t_codeHalf A_t_codeTo A_t_stack A_t_facts x_t_lines A_t_newWords A_t_roundFrom A_t_roundAt A_t_roundTimes x_t_newMany x_t_rounds x_t_itFrom x_t_itTimes x_t_writtenNow x_t_picturesNow x_t_usedNow x_t_chosen x_t_fearOfChosen A_t_leastFrom A_t_rowNow x_t_changesNow x_t_left0 A_t_bornOf A_t_trainsTo A_t_trainAt x_t_trainMany x_t_leastTries x_t_firstTrained x_t_isKept, iA cB 260 A_t_tape v_t_tape] H → va_D A [oX12 A_t A_t_now A_t_aside A_t_kept A_t_rhymeOf A_t_wasRhyme A_t_wordAt x_t_wordMany A_t_tape x_t_taped x_t_place0 x_t_length0 x_t_fault x_t_number0 x_t_open x_t_codeMany x_t_waiting x_t_saidMany x_t_clauses A_t_said A_t_waitsAt A_t_saidLetter A_t_saidFrom A_t_saidHalf A_t_saidTo A_t_codes A_t_clauseOf A_t_codeFrom A_t_codeHalf A_t_codeTo A_t_stack A_t_facts x_t_lines A_t_newWords A_t_roundFrom A_t_roundAt A_t_roundTimes x_t_newMany x_t_rounds x_t_itFrom x_t_itTimes x_t_writtenNow x_t_picturesNow x_t_usedNow x_t_chosen x_t_fearOfChosen A_t_leastFrom A_t_rowNow x_t_changesNow x_t_left0 A_t_bornOf A_t_trainsTo A_t_trainAt x_t_trainMany x_t_leastTries x_t_firstTrained x_t_isKept, iA cB 260 A_t_tape v_t_tape] → va_S A s.heap H locs → f_X12_rings_b56 v_t_tape a1 a2 n_56 x_t_taped l3 l4 l5 l6 = some (o_r, o_x_t_taped) → W p l e { frames := 2, cells := 0, slots := 0, locals := 44 } s m ([.ref A_t, .int a1, .int a2] : List Value).toArray below meth c H locs 0 0 (MQ below (PoI D A [oX12 A_t A_t_now A_t_aside A_t_kept A_t_rhymeOf A_t_wasRhyme A_t_wordAt x_t_wordMany A_t_tape o_x_t_taped x_t_place0 x_t_length0 x_t_fault x_t_number0 x_t_open x_t_codeMany x_t_waiting x_t_saidMany x_t_clauses A_t_said A_t_waitsAt A_t_saidLetter A_t_saidFrom A_t_saidHalf A_t_saidTo A_t_codes A_t_clauseOf A_t_codeFrom A_t_codeHalf A_t_codeTo A_t_stack A_t_facts x_t_lines A_t_newWords A_t_roundFrom A_t_roundAt A_t_roundTimes x_t_newMany x_t_rounds x_t_itFrom x_t_itTimes x_t_writtenNow x_t_picturesNow x_t_usedNow x_t_chosen x_t_fearOfChosen A_t_leastFrom A_t_rowNow x_t_changesNow x_t_left0 A_t_bornOf A_t_trainsTo A_t_trainAt x_t_trainMany x_t_leastTries x_t_firstTrained x_t_isKept, iA cB 260 A_t_tape v_t_tape] o_r) ([.ref A_t, .int a1, .int a2] : List Value).toArray s 0 0 A) (F0 m 56 ls []) := by
    intro n_56
    induction n_56 with
    | zero =>
      intro x_t_taped l3 l4 l5 l6 H locs ls hl hP hD hS hf
      exact absurd hf (fun h => by rw [f_X12_rings_b56] at h; cases h)
    | succ n_56 ih_56 =>
      have hb_135 : ∀ (x_t_taped : Int32) (l3 : Int32) (l4 : Int32) (l5 : Int32) (l6 : Int32) (H : Heap) (locs : List Loc) (ls : Array Slot), lv_has ls 9 [(0, .ref A_t), (1, .int a1), (2, .int a2), (3, .int l3), (4, .int l4), (5, .int l5), (6, .int l6)] → va_P D vwCl [oX12 A_t A_t_now A_t_aside A_t_kept A_t_rhymeOf A_t_wasRhyme A_t_wordAt x_t_wordMany A_t_tape x_t_taped x_t_place0 x_t_length0 x_t_fault x_t_number0 x_t_open x_t_codeMany x_t_waiting x_t_saidMany x_t_clauses A_t_said A_t_waitsAt A_t_saidLetter A_t_saidFrom A_t_saidHalf A_t_saidTo A_t_codes A_t_clauseOf A_t_codeFrom A_t_codeHalf A_t_codeTo A_t_stack A_t_facts x_t_lines A_t_newWords A_t_roundFrom A_t_roundAt A_t_roundTimes x_t_newMany x_t_rounds x_t_itFrom x_t_itTimes x_t_writtenNow x_t_picturesNow x_t_usedNow x_t_chosen x_t_fearOfChosen A_t_leastFrom A_t_rowNow x_t_changesNow x_t_left0 A_t_bornOf A_t_trainsTo A_t_trainAt x_t_trainMany x_t_leastTries x_t_firstTrained x_t_isKept, iA cB 260 A_t_tape v_t_tape] H → va_D A [oX12 A_t A_t_now A_t_aside A_t_kept A_t_rhymeOf A_t_wasRhyme A_t_wordAt x_t_wordMany A_t_tape x_t_taped x_t_place0 x_t_length0 x_t_fault x_t_number0 x_t_open x_t_codeMany x_t_waiting x_t_saidMany x_t_clauses A_t_said A_t_waitsAt A_t_saidLetter A_t_saidFrom A_t_saidHalf A_t_saidTo A_t_codes A_t_clauseOf A_t_codeFrom A_t_codeHalf A_t_codeTo A_t_stack A_t_facts x_t_lines A_t_newWords A_t_roundFrom A_t_roundAt A_t_roundTimes x_t_newMany x_t_rounds x_t_itFrom x_t_itTimes x_t_writtenNow x_t_picturesNow x_t_usedNow x_t_chosen x_t_fearOfChosen A_t_leastFrom A_t_rowNow x_t_changesNow x_t_left0 A_t_bornOf A_t_trainsTo A_t_trainAt x_t_trainMany x_t_leastTries x_t_firstTrained x_t_isKept, iA cB 260 A_t_tape v_t_tape] → va_S A s.heap H locs → f_X12_rings_b135 a1 a2 (f_X12_rings_b56 v_t_tape a1 a2 n_56) x_t_taped l3 l4 l5 l6 = some (o_r, o_x_t_taped) → W p l e { frames := 2, cells := 0, slots := 0, locals := 44 } s m ([.ref A_t, .int a1, .int a2] : List Value).toArray below meth c H locs 0 0 (MQ below (PoI D A [oX12 A_t A_t_now A_t_aside A_t_kept A_t_rhymeOf A_t_wasRhyme A_t_wordAt x_t_wordMany A_t_tape o_x_t_taped x_t_place0 x_t_length0 x_t_fault x_t_number0 x_t_open x_t_codeMany x_t_waiting x_t_saidMany x_t_clauses A_t_said A_t_waitsAt A_t_saidLetter A_t_saidFrom A_t_saidHalf A_t_saidTo A_t_codes A_t_clauseOf A_t_codeFrom A_t_codeHalf A_t_codeTo A_t_stack A_t_facts x_t_lines A_t_newWords A_t_roundFrom A_t_roundAt A_t_roundTimes x_t_newMany x_t_rounds x_t_itFrom x_t_itTimes x_t_writtenNow x_t_picturesNow x_t_usedNow x_t_chosen x_t_fearOfChosen A_t_leastFrom A_t_rowNow x_t_changesNow x_t_left0 A_t_bornOf A_t_trainsTo A_t_trainAt x_t_trainMany x_t_leastTries x_t_firstTrained x_t_isKept, iA cB 260 A_t_tape v_t_tape] o_r) ([.ref A_t, .int a1, .int a2] : List Value).toArray s 0 0 A) (F0 m 135 ls []) := by
        intro x_t_taped l3 l4 l5 l6 H locs ls hl hP hD hS hf
        unfold f_X12_rings_b135 at hf
        refine lv_iinc (v := (l6 + (1 : Int32))) (lv' := [(6, .int (l6 + (1 : Int32))), (0, .ref A_t), (1, .int a1), (2, .int a2), (3, .int l3), (4, .int l4), (5, .int l5)]) hx hb dX12_rings_135 hl (k := 6) rfl rfl (by decide) rfl (fun ls hl => ?_)
        refine lv_goto (tgt := 56) hx hb dX12_rings_138 (by decide) ?_
        exact ih_56 x_t_taped l3 l4 l5 (l6 + (1 : Int32)) _ _ ls (lv_sub hl [1, 2, 3, 4, 5, 6, 0] rfl) hP hD hS hf
      have hb_81 : ∀ (n_81 : Nat) (x_t_taped : Int32) (l3 : Int32) (l4 : Int32) (l5 : Int32) (l6 : Int32) (l7 : Int32) (l8 : Int32) (H : Heap) (locs : List Loc) (ls : Array Slot), lv_has ls 9 [(0, .ref A_t), (1, .int a1), (2, .int a2), (3, .int l3), (4, .int l4), (5, .int l5), (6, .int l6), (7, .int l7), (8, .int l8)] → va_P D vwCl [oX12 A_t A_t_now A_t_aside A_t_kept A_t_rhymeOf A_t_wasRhyme A_t_wordAt x_t_wordMany A_t_tape x_t_taped x_t_place0 x_t_length0 x_t_fault x_t_number0 x_t_open x_t_codeMany x_t_waiting x_t_saidMany x_t_clauses A_t_said A_t_waitsAt A_t_saidLetter A_t_saidFrom A_t_saidHalf A_t_saidTo A_t_codes A_t_clauseOf A_t_codeFrom A_t_codeHalf A_t_codeTo A_t_stack A_t_facts x_t_lines A_t_newWords A_t_roundFrom A_t_roundAt A_t_roundTimes x_t_newMany x_t_rounds x_t_itFrom x_t_itTimes x_t_writtenNow x_t_picturesNow x_t_usedNow x_t_chosen x_t_fearOfChosen A_t_leastFrom A_t_rowNow x_t_changesNow x_t_left0 A_t_bornOf A_t_trainsTo A_t_trainAt x_t_trainMany x_t_leastTries x_t_firstTrained x_t_isKept, iA cB 260 A_t_tape v_t_tape] H → va_D A [oX12 A_t A_t_now A_t_aside A_t_kept A_t_rhymeOf A_t_wasRhyme A_t_wordAt x_t_wordMany A_t_tape x_t_taped x_t_place0 x_t_length0 x_t_fault x_t_number0 x_t_open x_t_codeMany x_t_waiting x_t_saidMany x_t_clauses A_t_said A_t_waitsAt A_t_saidLetter A_t_saidFrom A_t_saidHalf A_t_saidTo A_t_codes A_t_clauseOf A_t_codeFrom A_t_codeHalf A_t_codeTo A_t_stack A_t_facts x_t_lines A_t_newWords A_t_roundFrom A_t_roundAt A_t_roundTimes x_t_newMany x_t_rounds x_t_itFrom x_t_itTimes x_t_writtenNow x_t_picturesNow x_t_usedNow x_t_chosen x_t_fearOfChosen A_t_leastFrom A_t_rowNow x_t_changesNow x_t_left0 A_t_bornOf A_t_trainsTo A_t_trainAt x_t_trainMany x_t_leastTries x_t_firstTrained x_t_isKept, iA cB 260 A_t_tape v_t_tape] → va_S A s.heap H locs → f_X12_rings_b81 v_t_tape a1 a2 (f_X12_rings_b56 v_t_tape a1 a2 n_56) n_81 x_t_taped l3 l4 l5 l6 l7 l8 = some (o_r, o_x_t_taped) → W p l e { frames := 2, cells := 0, slots := 0, locals := 44 } s m ([.ref A_t, .int a1, .int a2] : List Value).toArray below meth c H locs 0 0 (MQ below (PoI D A [oX12 A_t A_t_now A_t_aside A_t_kept A_t_rhymeOf A_t_wasRhyme A_t_wordAt x_t_wordMany A_t_tape o_x_t_taped x_t_place0 x_t_length0 x_t_fault x_t_number0 x_t_open x_t_codeMany x_t_waiting x_t_saidMany x_t_clauses A_t_said A_t_waitsAt A_t_saidLetter A_t_saidFrom A_t_saidHalf A_t_saidTo A_t_codes A_t_clauseOf A_t_codeFrom A_t_codeHalf A_t_codeTo A_t_stack A_t_facts x_t_lines A_t_newWords A_t_roundFrom A_t_roundAt A_t_roundTimes x_t_newMany x_t_rounds x_t_itFrom x_t_itTimes x_t_writtenNow x_t_picturesNow x_t_usedNow x_t_chosen x_t_fearOfChosen A_t_leastFrom A_t_rowNow x_t_changesNow x_t_left0 A_t_bornOf A_t_trainsTo A_t_trainAt x_t_trainMany x_t_leastTries x_t_firstTrained x_t_isKept, iA cB 260 A_t_tape v_t_tape] o_r) ([.ref A_t, .int a1, .int a2] : List Value).toArray s 0 0 A) (F0 m 81 ls []) := by
        intro n_81
        induction n_81 with
        | zero =>
          intro x_t_taped l3 l4 l5 l6 l7 l8 H locs ls hl hP hD hS hf
          exact absurd hf (fun h => by rw [f_X12_rings_b81] at h; cases h)
        | succ n_81 ih_81 =>
          intro x_t_taped l3 l4 l5 l6 l7 l8 H locs ls hl hP hD hS hf
          rw [f_X12_rings_b81] at hf
          refine lv_iload_n hx hb dX12_rings_81 rfl (lv_at hl 3 rfl) ?_
          refine lv_iload hx hb dX12_rings_82 (lv_at hl 8 rfl) ?_
          obtain ⟨r1, hc2, hf⟩ := bd1_e hf
          refine x_callSI (ws' := [oX12 A_t A_t_now A_t_aside A_t_kept A_t_rhymeOf A_t_wasRhyme A_t_wordAt x_t_wordMany A_t_tape x_t_taped x_t_place0 x_t_length0 x_t_fault x_t_number0 x_t_open x_t_codeMany x_t_waiting x_t_saidMany x_t_clauses A_t_said A_t_waitsAt A_t_saidLetter A_t_saidFrom A_t_saidHalf A_t_saidTo A_t_codes A_t_clauseOf A_t_codeFrom A_t_codeHalf A_t_codeTo A_t_stack A_t_facts x_t_lines A_t_newWords A_t_roundFrom A_t_roundAt A_t_roundTimes x_t_newMany x_t_rounds x_t_itFrom x_t_itTimes x_t_writtenNow x_t_picturesNow x_t_usedNow x_t_chosen x_t_fearOfChosen A_t_leastFrom A_t_rowNow x_t_changesNow x_t_left0 A_t_bornOf A_t_trainsTo A_t_trainAt x_t_trainMany x_t_leastTries x_t_firstTrained x_t_isKept, iA cB 260 A_t_tape v_t_tape]) (rest := []) C hK hP hD hS hA hl mf_X12_381 (c_X12_has hc2) [] rfl rfl rfl rfl rfl rfl rfl rfl (Nat.le_of_ble_eq_true rfl) ⟨Nat.le_of_ble_eq_true rfl, Nat.le_of_ble_eq_true rfl⟩ ⟨Nat.le_refl _, Nat.le_refl _⟩ dX12_rings_84 ?_
          intro H locs hP hD hS
          refine lv_if_ne (tgt := 114) hx hb dX12_rings_87 (by decide) (fun q => ?_) (fun q => ?_)
          · have hf := if_f q hf
            refine lv_iload hx hb dX12_rings_114 (lv_at hl 4 rfl) ?_
            refine lv_iconst (v := 1) hx hb dX12_rings_116 (by decide) ?_
            refine lv_iadd hx hb dX12_rings_117 ?_
            refine lv_istore (lv' := [(4, .int (l4 + (1 : Int32))), (0, .ref A_t), (1, .int a1), (2, .int a2), (3, .int l3), (5, .int l5), (6, .int l6), (7, .int l7), (8, .int l8)]) hx hb dX12_rings_118 hl (by decide) rfl (fun ls hl => ?_)
            refine lv_iload hx hb dX12_rings_120 (lv_at hl 5 rfl) ?_
            refine lv_iload hx hb dX12_rings_122 (lv_at hl 5 rfl) ?_
            refine lv_iload hx hb dX12_rings_124 (lv_at hl 7 rfl) ?_
            obtain ⟨r3, hc4, hf⟩ := bd1_e hf
            refine x_callSI (ws' := [oX12 A_t A_t_now A_t_aside A_t_kept A_t_rhymeOf A_t_wasRhyme A_t_wordAt x_t_wordMany A_t_tape x_t_taped x_t_place0 x_t_length0 x_t_fault x_t_number0 x_t_open x_t_codeMany x_t_waiting x_t_saidMany x_t_clauses A_t_said A_t_waitsAt A_t_saidLetter A_t_saidFrom A_t_saidHalf A_t_saidTo A_t_codes A_t_clauseOf A_t_codeFrom A_t_codeHalf A_t_codeTo A_t_stack A_t_facts x_t_lines A_t_newWords A_t_roundFrom A_t_roundAt A_t_roundTimes x_t_newMany x_t_rounds x_t_itFrom x_t_itTimes x_t_writtenNow x_t_picturesNow x_t_usedNow x_t_chosen x_t_fearOfChosen A_t_leastFrom A_t_rowNow x_t_changesNow x_t_left0 A_t_bornOf A_t_trainsTo A_t_trainAt x_t_trainMany x_t_leastTries x_t_firstTrained x_t_isKept, iA cB 260 A_t_tape v_t_tape]) (rest := [.int l5]) C hK hP hD hS hA hl mf_X12_434 (c_X12_gcd hc4) [] rfl rfl rfl rfl rfl rfl rfl rfl (Nat.le_of_ble_eq_true rfl) ⟨Nat.le_of_ble_eq_true rfl, Nat.le_of_ble_eq_true rfl⟩ ⟨Nat.le_refl _, Nat.le_refl _⟩ dX12_rings_126 ?_
            intro H locs hP hD hS
            obtain ⟨hz, hf⟩ := dI_e hf
            refine lv_idiv hx hb dX12_rings_129 hz ?_
            refine lv_iload hx hb dX12_rings_130 (lv_at hl 7 rfl) ?_
            refine lv_imul hx hb dX12_rings_132 ?_
            refine lv_istore (lv' := [(5, .int ((l5 / r3) * l7)), (4, .int (l4 + (1 : Int32))), (0, .ref A_t), (1, .int a1), (2, .int a2), (3, .int l3), (6, .int l6), (7, .int l7), (8, .int l8)]) hx hb dX12_rings_133 hl (by decide) rfl (fun ls hl => ?_)
            exact hb_135 x_t_taped l3 (l4 + (1 : Int32)) ((l5 / r3) * l7) l6 _ _ ls (lv_sub hl [2, 3, 4, 5, 1, 0, 6] rfl) hP hD hS hf
          · have hf := if_t q hf
            refine lv_iload_n hx hb dX12_rings_90 rfl (lv_at hl 3 rfl) ?_
            refine lv_iconst (v := 1) hx hb dX12_rings_91 (by decide) ?_
            refine lv_iload hx hb dX12_rings_92 (lv_at hl 8 rfl) ?_
            refine lv_ishl hx hb dX12_rings_94 ?_
            refine lv_ior hx hb dX12_rings_95 ?_
            refine lv_istore_n (lv' := [(3, .int (l3 ||| ((1 : Int32) <<< (l8 &&& 31)))), (0, .ref A_t), (1, .int a1), (2, .int a2), (4, .int l4), (5, .int l5), (6, .int l6), (7, .int l7), (8, .int l8)]) hx hb dX12_rings_96 rfl hl (by decide) rfl (fun ls hl => ?_)
            refine lv_iload hx hb dX12_rings_97 (lv_at hl 7 rfl) ?_
            refine lv_iconst (v := 1) hx hb dX12_rings_99 (by decide) ?_
            refine lv_iadd hx hb dX12_rings_100 ?_
            refine lv_istore (lv' := [(7, .int (l7 + (1 : Int32))), (3, .int (l3 ||| ((1 : Int32) <<< (l8 &&& 31)))), (0, .ref A_t), (1, .int a1), (2, .int a2), (4, .int l4), (5, .int l5), (6, .int l6), (8, .int l8)]) hx hb dX12_rings_101 hl (by decide) rfl (fun ls hl => ?_)
            refine lv_aload_n hx hb dX12_rings_103 rfl (lv_at hl 2 rfl) ?_
            refine lv_iload hx hb dX12_rings_104 (lv_at hl 8 rfl) ?_
            obtain ⟨r5, hc6, hf⟩ := bd1_e hf
            refine x_callVI (ws' := [oX12 A_t A_t_now A_t_aside A_t_kept A_t_rhymeOf A_t_wasRhyme A_t_wordAt x_t_wordMany A_t_tape x_t_taped x_t_place0 x_t_length0 x_t_fault x_t_number0 x_t_open x_t_codeMany x_t_waiting x_t_saidMany x_t_clauses A_t_said A_t_waitsAt A_t_saidLetter A_t_saidFrom A_t_saidHalf A_t_saidTo A_t_codes A_t_clauseOf A_t_codeFrom A_t_codeHalf A_t_codeTo A_t_stack A_t_facts x_t_lines A_t_newWords A_t_roundFrom A_t_roundAt A_t_roundTimes x_t_newMany x_t_rounds x_t_itFrom x_t_itTimes x_t_writtenNow x_t_picturesNow x_t_usedNow x_t_chosen x_t_fearOfChosen A_t_leastFrom A_t_rowNow x_t_changesNow x_t_left0 A_t_bornOf A_t_trainsTo A_t_trainAt x_t_trainMany x_t_leastTries x_t_firstTrained x_t_isKept, iA cB 260 A_t_tape v_t_tape]) (rest := []) C hK hP hD hS hA hl mf_X12_378 (c_X12_octet hc6) [0, 1] 0 12 rfl rfl rfl rfl rfl rfl rfl rfl rfl rfl (Nat.le_of_ble_eq_true rfl) ⟨Nat.le_of_ble_eq_true rfl, Nat.le_of_ble_eq_true rfl⟩ ⟨Nat.le_refl _, Nat.le_refl _⟩ dX12_rings_106 ?_
            intro H locs hP hD hS
            refine lv_istore (lv' := [(8, .int r5), (7, .int (l7 + (1 : Int32))), (3, .int (l3 ||| ((1 : Int32) <<< (l8 &&& 31)))), (0, .ref A_t), (1, .int a1), (2, .int a2), (4, .int l4), (5, .int l5), (6, .int l6)]) hx hb dX12_rings_109 hl (by decide) rfl (fun ls hl => ?_)
            refine lv_goto (tgt := 81) hx hb dX12_rings_111 (by decide) ?_
            exact ih_81 x_t_taped (l3 ||| ((1 : Int32) <<< (l8 &&& 31))) l4 l5 l6 (l7 + (1 : Int32)) r5 _ _ ls (lv_sub hl [3, 4, 5, 2, 6, 7, 8, 1, 0] rfl) hP hD hS hf
      intro x_t_taped l3 l4 l5 l6 H locs ls hl hP hD hS hf
      rw [f_X12_rings_b56] at hf
      refine lv_iload hx hb dX12_rings_56 (lv_at hl 6 rfl) ?_
      refine lv_iload_n hx hb dX12_rings_58 rfl (lv_at hl 1 rfl) ?_
      refine lv_icmp_ge (tgt := 141) hx hb dX12_rings_59 (by decide) (fun q => ?_) (fun q => ?_)
      · have hf := if_t q hf
        refine lv_iload_n hx hb dX12_rings_141 rfl (lv_at hl 2 rfl) ?_
        refine lv_if_ne (tgt := 150) hx hb dX12_rings_142 (by decide) (fun q => ?_) (fun q => ?_)
        · have hf := if_f q hf
          refine lv_iload hx hb dX12_rings_150 (lv_at hl 5 rfl) ?_
          exact hb_152 x_t_taped l5 _ _ ls (lv_sub hl [] rfl) hP hD hS hf
        · have hf := if_t q hf
          refine lv_iload hx hb dX12_rings_145 (lv_at hl 4 rfl) ?_
          refine lv_goto (tgt := 152) hx hb dX12_rings_147 (by decide) ?_
          exact hb_152 x_t_taped l4 _ _ ls (lv_sub hl [] rfl) hP hD hS hf
      · have hf := if_f q hf
        refine lv_iload_n hx hb dX12_rings_62 rfl (lv_at hl 3 rfl) ?_
        refine lv_iload hx hb dX12_rings_63 (lv_at hl 6 rfl) ?_
        obtain ⟨r7, hc8, hf⟩ := bd1_e hf
        refine x_callSI (ws' := [oX12 A_t A_t_now A_t_aside A_t_kept A_t_rhymeOf A_t_wasRhyme A_t_wordAt x_t_wordMany A_t_tape x_t_taped x_t_place0 x_t_length0 x_t_fault x_t_number0 x_t_open x_t_codeMany x_t_waiting x_t_saidMany x_t_clauses A_t_said A_t_waitsAt A_t_saidLetter A_t_saidFrom A_t_saidHalf A_t_saidTo A_t_codes A_t_clauseOf A_t_codeFrom A_t_codeHalf A_t_codeTo A_t_stack A_t_facts x_t_lines A_t_newWords A_t_roundFrom A_t_roundAt A_t_roundTimes x_t_newMany x_t_rounds x_t_itFrom x_t_itTimes x_t_writtenNow x_t_picturesNow x_t_usedNow x_t_chosen x_t_fearOfChosen A_t_leastFrom A_t_rowNow x_t_changesNow x_t_left0 A_t_bornOf A_t_trainsTo A_t_trainAt x_t_trainMany x_t_leastTries x_t_firstTrained x_t_isKept, iA cB 260 A_t_tape v_t_tape]) (rest := []) C hK hP hD hS hA hl mf_X12_381 (c_X12_has hc8) [] rfl rfl rfl rfl rfl rfl rfl rfl (Nat.le_of_ble_eq_true rfl) ⟨Nat.le_of_ble_eq_true rfl, Nat.le_of_ble_eq_true rfl⟩ ⟨Nat.le_refl _, Nat.le_refl _⟩ dX12_rings_65 ?_
        intro H locs hP hD hS
        refine lv_if_eq (tgt := 74) hx hb dX12_rings_68 (by decide) (fun q => ?_) (fun q => ?_)
        · have hf := if_t q hf
          refine lv_iconst (v := 0) hx hb dX12_rings_74 (by decide) ?_
          refine lv_istore (lv' := [(7, .int (0 : Int32)), (0, .ref A_t), (1, .int a1), (2, .int a2), (3, .int l3), (4, .int l4), (5, .int l5), (6, .int l6)]) hx hb dX12_rings_75 hl (by decide) rfl (fun ls hl => ?_)
          refine lv_iload hx hb dX12_rings_77 (lv_at hl 7 rfl) ?_
          refine lv_istore (lv' := [(8, .int l6), (7, .int (0 : Int32)), (0, .ref A_t), (1, .int a1), (2, .int a2), (3, .int l3), (4, .int l4), (5, .int l5), (6, .int l6)]) hx hb dX12_rings_79 hl (by decide) rfl (fun ls hl => ?_)
          exact hb_81 FU x_t_taped l3 l4 l5 l6 (0 : Int32) l6 _ _ ls (lv_sub hl [2, 3, 4, 5, 6, 7, 8, 1, 0] rfl) hP hD hS hf
        · have hf := if_f q hf
          refine lv_goto (tgt := 135) hx hb dX12_rings_71 (by decide) ?_
          exact hb_135 x_t_taped l3 l4 l5 l6 _ _ ls (lv_sub hl [0, 1, 2, 3, 4, 5, 6] rfl) hP hD hS hf
  refine lv_iload_n hx hb dX12_rings_0 rfl (lv_at hl 1 rfl) ?_
  refine lv_iconst (v := 1) hx hb dX12_rings_1 (by decide) ?_
  refine lv_bipush (v := 12) hx hb dX12_rings_2 (by decide) ?_
  obtain ⟨r9, hc10, hf⟩ := bd1_e hf
  refine x_callSI (ws' := [oX12 A_t A_t_now A_t_aside A_t_kept A_t_rhymeOf A_t_wasRhyme A_t_wordAt x_t_wordMany A_t_tape x_t_taped x_t_place0 x_t_length0 x_t_fault x_t_number0 x_t_open x_t_codeMany x_t_waiting x_t_saidMany x_t_clauses A_t_said A_t_waitsAt A_t_saidLetter A_t_saidFrom A_t_saidHalf A_t_saidTo A_t_codes A_t_clauseOf A_t_codeFrom A_t_codeHalf A_t_codeTo A_t_stack A_t_facts x_t_lines A_t_newWords A_t_roundFrom A_t_roundAt A_t_roundTimes x_t_newMany x_t_rounds x_t_itFrom x_t_itTimes x_t_writtenNow x_t_picturesNow x_t_usedNow x_t_chosen x_t_fearOfChosen A_t_leastFrom A_t_rowNow x_t_changesNow x_t_left0 A_t_bornOf A_t_trainsTo A_t_trainAt x_t_trainMany x_t_leastTries x_t_firstTrained x_t_isKept, iA cB 260 A_t_tape v_t_tape]) (rest := []) C hK hP hD hS hA hl mf_X12_105 (c_X12_in hc10) [] rfl rfl rfl rfl rfl rfl rfl rfl (Nat.le_of_ble_eq_true rfl) ⟨Nat.le_of_ble_eq_true rfl, Nat.le_of_ble_eq_true rfl⟩ ⟨Nat.le_refl _, Nat.le_refl _⟩ dX12_rings_4 ?_
  intro H locs hP hD hS
  refine lv_if_eq (tgt := 27) hx hb dX12_rings_7 (by decide) (fun q => ?_) (fun q => ?_)
  · have hf := if_t q hf
    exact hb_27 x_t_taped _ _ ls (lv_sub hl [] rfl) hP hD hS hf
  · have hf := if_f q hf
    refine lv_iload_n hx hb dX12_rings_10 rfl (lv_at hl 2 rfl) ?_
    refine lv_iconst (v := 0) hx hb dX12_rings_11 (by decide) ?_
    refine lv_iconst (v := 1) hx hb dX12_rings_12 (by decide) ?_
    obtain ⟨r11, hc12, hf⟩ := bd1_e hf
    refine x_callSI (ws' := [oX12 A_t A_t_now A_t_aside A_t_kept A_t_rhymeOf A_t_wasRhyme A_t_wordAt x_t_wordMany A_t_tape x_t_taped x_t_place0 x_t_length0 x_t_fault x_t_number0 x_t_open x_t_codeMany x_t_waiting x_t_saidMany x_t_clauses A_t_said A_t_waitsAt A_t_saidLetter A_t_saidFrom A_t_saidHalf A_t_saidTo A_t_codes A_t_clauseOf A_t_codeFrom A_t_codeHalf A_t_codeTo A_t_stack A_t_facts x_t_lines A_t_newWords A_t_roundFrom A_t_roundAt A_t_roundTimes x_t_newMany x_t_rounds x_t_itFrom x_t_itTimes x_t_writtenNow x_t_picturesNow x_t_usedNow x_t_chosen x_t_fearOfChosen A_t_leastFrom A_t_rowNow x_t_changesNow x_t_left0 A_t_bornOf A_t_trainsTo A_t_trainAt x_t_trainMany x_t_leastTries x_t_firstTrained x_t_isKept, iA cB 260 A_t_tape v_t_tape]) (rest := []) C hK hP hD hS hA hl mf_X12_105 (c_X12_in hc12) [] rfl rfl rfl rfl rfl rfl rfl rfl (Nat.le_of_ble_eq_true rfl) ⟨Nat.le_of_ble_eq_true rfl, Nat.le_of_ble_eq_true rfl⟩ ⟨Nat.le_refl _, Nat.le_refl _⟩ dX12_rings_13 ?_
    intro H locs hP hD hS
    refine lv_if_eq (tgt := 27) hx hb dX12_rings_16 (by decide) (fun q => ?_) (fun q => ?_)
    · have hf := if_t q hf
      exact hb_27 x_t_taped _ _ ls (lv_sub hl [] rfl) hP hD hS hf
    · have hf := if_f q hf
      refine lv_iload_n hx hb dX12_rings_19 rfl (lv_at hl 1 rfl) ?_
      refine lv_aload_n hx hb dX12_rings_20 rfl (lv_at hl 0 rfl) ?_
      refine x_get C hK hP fd_X12_143 0 rfl rfl dX12_rings_21 ?_
      refine lv_icmp_le (tgt := 29) hx hb dX12_rings_24 (by decide) (fun q => ?_) (fun q => ?_)
      · have hf := if_t q hf
        refine lv_aload_n hx hb dX12_rings_29 rfl (lv_at hl 0 rfl) ?_
        refine lv_iconst (v := 0) hx hb dX12_rings_30 (by decide) ?_
        refine x_put (ws' := [oX12 A_t A_t_now A_t_aside A_t_kept A_t_rhymeOf A_t_wasRhyme A_t_wordAt x_t_wordMany A_t_tape (0 : Int32) x_t_place0 x_t_length0 x_t_fault x_t_number0 x_t_open x_t_codeMany x_t_waiting x_t_saidMany x_t_clauses A_t_said A_t_waitsAt A_t_saidLetter A_t_saidFrom A_t_saidHalf A_t_saidTo A_t_codes A_t_clauseOf A_t_codeFrom A_t_codeHalf A_t_codeTo A_t_stack A_t_facts x_t_lines A_t_newWords A_t_roundFrom A_t_roundAt A_t_roundTimes x_t_newMany x_t_rounds x_t_itFrom x_t_itTimes x_t_writtenNow x_t_picturesNow x_t_usedNow x_t_chosen x_t_fearOfChosen A_t_leastFrom A_t_rowNow x_t_changesNow x_t_left0 A_t_bornOf A_t_trainsTo A_t_trainAt x_t_trainMany x_t_leastTries x_t_firstTrained x_t_isKept, iA cB 260 A_t_tape v_t_tape]) C hK hP hD hS fp_X12_143 0 rfl rfl rfl (Nat.le_of_ble_eq_true rfl) rfl dX12_rings_31 ?_
        intro H locs hP hD hS
        refine lv_aload_n hx hb dX12_rings_34 rfl (lv_at hl 0 rfl) ?_
        refine lv_iload_n hx hb dX12_rings_35 rfl (lv_at hl 1 rfl) ?_
        obtain ⟨r13, hc14, hf⟩ := bd1_e hf
        refine x_callVI (ws' := [oX12 A_t A_t_now A_t_aside A_t_kept A_t_rhymeOf A_t_wasRhyme A_t_wordAt x_t_wordMany A_t_tape (0 : Int32) x_t_place0 x_t_length0 x_t_fault x_t_number0 x_t_open x_t_codeMany x_t_waiting x_t_saidMany x_t_clauses A_t_said A_t_waitsAt A_t_saidLetter A_t_saidFrom A_t_saidHalf A_t_saidTo A_t_codes A_t_clauseOf A_t_codeFrom A_t_codeHalf A_t_codeTo A_t_stack A_t_facts x_t_lines A_t_newWords A_t_roundFrom A_t_roundAt A_t_roundTimes x_t_newMany x_t_rounds x_t_itFrom x_t_itTimes x_t_writtenNow x_t_picturesNow x_t_usedNow x_t_chosen x_t_fearOfChosen A_t_leastFrom A_t_rowNow x_t_changesNow x_t_left0 A_t_bornOf A_t_trainsTo A_t_trainAt x_t_trainMany x_t_leastTries x_t_firstTrained x_t_isKept, iA cB 260 A_t_tape v_t_tape]) (rest := []) C hK hP hD hS hA hl mf_X12_437 (c_X12_areEachOnce hc14) [0, 1] 0 12 rfl rfl rfl rfl rfl rfl rfl rfl rfl rfl (Nat.le_of_ble_eq_true rfl) ⟨Nat.le_of_ble_eq_true rfl, Nat.le_of_ble_eq_true rfl⟩ ⟨Nat.le_refl _, Nat.le_refl _⟩ dX12_rings_36 ?_
        intro H locs hP hD hS
        refine lv_if_ne (tgt := 45) hx hb dX12_rings_39 (by decide) (fun q => ?_) (fun q => ?_)
        · have hf := if_f q hf
          refine lv_iconst (v := 0) hx hb dX12_rings_45 (by decide) ?_
          refine lv_istore_n (lv' := [(3, .int (0 : Int32)), (0, .ref A_t), (1, .int a1), (2, .int a2)]) hx hb dX12_rings_46 rfl hl (by decide) rfl (fun ls hl => ?_)
          refine lv_iconst (v := 0) hx hb dX12_rings_47 (by decide) ?_
          refine lv_istore (lv' := [(4, .int (0 : Int32)), (3, .int (0 : Int32)), (0, .ref A_t), (1, .int a1), (2, .int a2)]) hx hb dX12_rings_48 hl (by decide) rfl (fun ls hl => ?_)
          refine lv_iconst (v := 1) hx hb dX12_rings_50 (by decide) ?_
          refine lv_istore (lv' := [(5, .int (1 : Int32)), (4, .int (0 : Int32)), (3, .int (0 : Int32)), (0, .ref A_t), (1, .int a1), (2, .int a2)]) hx hb dX12_rings_51 hl (by decide) rfl (fun ls hl => ?_)
          refine lv_iconst (v := 0) hx hb dX12_rings_53 (by decide) ?_
          refine lv_istore (lv' := [(6, .int (0 : Int32)), (5, .int (1 : Int32)), (4, .int (0 : Int32)), (3, .int (0 : Int32)), (0, .ref A_t), (1, .int a1), (2, .int a2)]) hx hb dX12_rings_54 hl (by decide) rfl (fun ls hl => ?_)
          exact hb_56 FU (0 : Int32) (0 : Int32) (0 : Int32) (1 : Int32) (0 : Int32) _ _ ls (lv_sub hl [4, 5, 6, 3, 2, 1, 0] rfl) hP hD hS hf
        · have hf := if_t q hf
          refine lv_bipush (v := -3) hx hb dX12_rings_42 (by decide) ?_
          obtain ⟨rfl, rfl⟩ := ev2 hf
          exact x_iret C hr hlk hP hD hS dX12_rings_44
      · have hf := if_f q hf
        exact hb_27 x_t_taped _ _ ls (lv_sub hl [] rfl) hP hD hS hf
def f_X12_seed (v_t_now : (Nat → Int32)) (a1 : Int32) : Option (Int32 × (Nat → Int32)) :=
  bd1 (f_X12_in a1 (0 : Int32) (65535 : Int32)) (fun r1 =>
  if r1 = 0 then
    some ((0 : Int32), v_t_now)
  else
    sI 293 v_t_now (292 : Int32) a1 (fun w2 =>
    some ((1 : Int32), w2)))
set_option maxHeartbeats 4000000 in
set_option maxRecDepth 100000 in
theorem c_X12_seed {l : Launch} {D : va_G} {cI cB : ClassId} {A_t A_t_now A_t_aside A_t_kept A_t_rhymeOf A_t_wasRhyme A_t_wordAt A_t_tape A_t_said A_t_waitsAt A_t_saidLetter A_t_saidFrom A_t_saidHalf A_t_saidTo A_t_codes A_t_clauseOf A_t_codeFrom A_t_codeHalf A_t_codeTo A_t_stack A_t_facts A_t_newWords A_t_roundFrom A_t_roundAt A_t_roundTimes A_t_leastFrom A_t_rowNow A_t_bornOf A_t_trainsTo A_t_trainAt : Nat} {x_t_wordMany x_t_taped x_t_place0 x_t_length0 x_t_fault x_t_number0 x_t_open x_t_codeMany x_t_waiting x_t_saidMany x_t_clauses x_t_lines x_t_newMany x_t_rounds x_t_itFrom x_t_itTimes x_t_writtenNow x_t_picturesNow x_t_usedNow x_t_chosen x_t_fearOfChosen x_t_changesNow x_t_left0 x_t_trainMany x_t_leastTries x_t_firstTrained x_t_isKept a1 : Int32} {v_t_now : Nat → Int32} {o_r : Int32} {o_v_t_now : Nat → Int32} (hf : f_X12_seed v_t_now a1 = some (o_r, o_v_t_now)) : CtI l D cI cB yX12_seed cX12_seed 2 (some .boolean) 1 22 [.ref A_t, .int a1] [oX12 A_t A_t_now A_t_aside A_t_kept A_t_rhymeOf A_t_wasRhyme A_t_wordAt x_t_wordMany A_t_tape x_t_taped x_t_place0 x_t_length0 x_t_fault x_t_number0 x_t_open x_t_codeMany x_t_waiting x_t_saidMany x_t_clauses A_t_said A_t_waitsAt A_t_saidLetter A_t_saidFrom A_t_saidHalf A_t_saidTo A_t_codes A_t_clauseOf A_t_codeFrom A_t_codeHalf A_t_codeTo A_t_stack A_t_facts x_t_lines A_t_newWords A_t_roundFrom A_t_roundAt A_t_roundTimes x_t_newMany x_t_rounds x_t_itFrom x_t_itTimes x_t_writtenNow x_t_picturesNow x_t_usedNow x_t_chosen x_t_fearOfChosen A_t_leastFrom A_t_rowNow x_t_changesNow x_t_left0 A_t_bornOf A_t_trainsTo A_t_trainAt x_t_trainMany x_t_leastTries x_t_firstTrained x_t_isKept, iA cI 293 A_t_now v_t_now] [oX12 A_t A_t_now A_t_aside A_t_kept A_t_rhymeOf A_t_wasRhyme A_t_wordAt x_t_wordMany A_t_tape x_t_taped x_t_place0 x_t_length0 x_t_fault x_t_number0 x_t_open x_t_codeMany x_t_waiting x_t_saidMany x_t_clauses A_t_said A_t_waitsAt A_t_saidLetter A_t_saidFrom A_t_saidHalf A_t_saidTo A_t_codes A_t_clauseOf A_t_codeFrom A_t_codeHalf A_t_codeTo A_t_stack A_t_facts x_t_lines A_t_newWords A_t_roundFrom A_t_roundAt A_t_roundTimes x_t_newMany x_t_rounds x_t_itFrom x_t_itTimes x_t_writtenNow x_t_picturesNow x_t_usedNow x_t_chosen x_t_fearOfChosen A_t_leastFrom A_t_rowNow x_t_changesNow x_t_left0 A_t_bornOf A_t_trainsTo A_t_trainAt x_t_trainMany x_t_leastTries x_t_firstTrained x_t_isKept, iA cI 293 A_t_now o_v_t_now] o_r := by
  refine x_startI (by decide) (Nat.le_of_ble_eq_true rfl) ?_
  intro p e s m below meth c A C hr hlk hA hK hP hD hS ls hl
  have hl : lv_has ls 2 [(0, .ref A_t), (1, .int a1)] := hl
  have hx := C.1
  have hb := C.2.1
  unfold f_X12_seed at hf
  refine lv_iload_n hx hb dX12_seed_0 rfl (lv_at hl 1 rfl) ?_
  refine lv_iconst (v := 0) hx hb dX12_seed_1 (by decide) ?_
  refine x_ldc C kc_X12_136 dX12_seed_2 ?_
  obtain ⟨r1, hc2, hf⟩ := bd1_e hf
  refine x_callSI (ws' := [oX12 A_t A_t_now A_t_aside A_t_kept A_t_rhymeOf A_t_wasRhyme A_t_wordAt x_t_wordMany A_t_tape x_t_taped x_t_place0 x_t_length0 x_t_fault x_t_number0 x_t_open x_t_codeMany x_t_waiting x_t_saidMany x_t_clauses A_t_said A_t_waitsAt A_t_saidLetter A_t_saidFrom A_t_saidHalf A_t_saidTo A_t_codes A_t_clauseOf A_t_codeFrom A_t_codeHalf A_t_codeTo A_t_stack A_t_facts x_t_lines A_t_newWords A_t_roundFrom A_t_roundAt A_t_roundTimes x_t_newMany x_t_rounds x_t_itFrom x_t_itTimes x_t_writtenNow x_t_picturesNow x_t_usedNow x_t_chosen x_t_fearOfChosen A_t_leastFrom A_t_rowNow x_t_changesNow x_t_left0 A_t_bornOf A_t_trainsTo A_t_trainAt x_t_trainMany x_t_leastTries x_t_firstTrained x_t_isKept, iA cI 293 A_t_now v_t_now]) (rest := []) C hK hP hD hS hA hl mf_X12_105 (c_X12_in hc2) [] rfl rfl rfl rfl rfl rfl rfl rfl (Nat.le_of_ble_eq_true rfl) ⟨Nat.le_of_ble_eq_true rfl, Nat.le_of_ble_eq_true rfl⟩ ⟨Nat.le_refl _, Nat.le_refl _⟩ dX12_seed_4 ?_
  intro H locs hP hD hS
  refine lv_if_ne (tgt := 12) hx hb dX12_seed_7 (by decide) (fun q => ?_) (fun q => ?_)
  · have hf := if_f q hf
    refine lv_aload_n hx hb dX12_seed_12 rfl (lv_at hl 0 rfl) ?_
    refine x_get C hK hP fd_X12_7 0 rfl rfl dX12_seed_13 ?_
    refine lv_sipush (v := 292) hx hb dX12_seed_16 (by decide) ?_
    refine lv_iload_n hx hb dX12_seed_19 rfl (lv_at hl 1 rfl) ?_
    obtain ⟨hi, hf⟩ := sI_e hf
    refine x_iast (ws' := [oX12 A_t A_t_now A_t_aside A_t_kept A_t_rhymeOf A_t_wasRhyme A_t_wordAt x_t_wordMany A_t_tape x_t_taped x_t_place0 x_t_length0 x_t_fault x_t_number0 x_t_open x_t_codeMany x_t_waiting x_t_saidMany x_t_clauses A_t_said A_t_waitsAt A_t_saidLetter A_t_saidFrom A_t_saidHalf A_t_saidTo A_t_codes A_t_clauseOf A_t_codeFrom A_t_codeHalf A_t_codeTo A_t_stack A_t_facts x_t_lines A_t_newWords A_t_roundFrom A_t_roundAt A_t_roundTimes x_t_newMany x_t_rounds x_t_itFrom x_t_itTimes x_t_writtenNow x_t_picturesNow x_t_usedNow x_t_chosen x_t_fearOfChosen A_t_leastFrom A_t_rowNow x_t_changesNow x_t_left0 A_t_bornOf A_t_trainsTo A_t_trainAt x_t_trainMany x_t_leastTries x_t_firstTrained x_t_isKept, iA cI 293 A_t_now (upd v_t_now (292 : Int32).toNatClampNeg a1)]) C hK hP hD hS 1 rfl hi rfl dX12_seed_20 ?_
    intro H locs hP hD hS
    refine lv_iconst (v := 1) hx hb dX12_seed_21 (by decide) ?_
    obtain ⟨rfl, rfl⟩ := ev2 hf
    exact x_zret C hr hlk (Or.inr rfl) hP hD hS dX12_seed_22
  · have hf := if_t q hf
    refine lv_iconst (v := 0) hx hb dX12_seed_10 (by decide) ?_
    obtain ⟨rfl, rfl⟩ := ev2 hf
    exact x_zret C hr hlk (Or.inl rfl) hP hD hS dX12_seed_11
def f_X12_keep (v_t_kept : (Nat → Int32)) (v_t_now : (Nat → Int32)) (x_t_isKept : Int32) : Option (Int32 × (Nat → Int32) × Int32) :=
  bd1 (f_X12_copies v_t_now v_t_kept) (fun w1 =>
  gI 293 v_t_now (291 : Int32) (fun g2 =>
  some (g2, w1, (1 : Int32))))
set_option maxHeartbeats 4000000 in
set_option maxRecDepth 100000 in
theorem c_X12_keep {l : Launch} {D : va_G} {cI cB : ClassId} {A_t A_t_now A_t_aside A_t_kept A_t_rhymeOf A_t_wasRhyme A_t_wordAt A_t_tape A_t_said A_t_waitsAt A_t_saidLetter A_t_saidFrom A_t_saidHalf A_t_saidTo A_t_codes A_t_clauseOf A_t_codeFrom A_t_codeHalf A_t_codeTo A_t_stack A_t_facts A_t_newWords A_t_roundFrom A_t_roundAt A_t_roundTimes A_t_leastFrom A_t_rowNow A_t_bornOf A_t_trainsTo A_t_trainAt : Nat} {x_t_wordMany x_t_taped x_t_place0 x_t_length0 x_t_fault x_t_number0 x_t_open x_t_codeMany x_t_waiting x_t_saidMany x_t_clauses x_t_lines x_t_newMany x_t_rounds x_t_itFrom x_t_itTimes x_t_writtenNow x_t_picturesNow x_t_usedNow x_t_chosen x_t_fearOfChosen x_t_changesNow x_t_left0 x_t_trainMany x_t_leastTries x_t_firstTrained x_t_isKept : Int32} {v_t_kept v_t_now : Nat → Int32} {o_r o_x_t_isKept : Int32} {o_v_t_kept : Nat → Int32} (hf : f_X12_keep v_t_kept v_t_now x_t_isKept = some (o_r, o_v_t_kept, o_x_t_isKept)) : CtI l D cI cB yX12_keep cX12_keep 1 (some .int) 1 22 [.ref A_t] [oX12 A_t A_t_now A_t_aside A_t_kept A_t_rhymeOf A_t_wasRhyme A_t_wordAt x_t_wordMany A_t_tape x_t_taped x_t_place0 x_t_length0 x_t_fault x_t_number0 x_t_open x_t_codeMany x_t_waiting x_t_saidMany x_t_clauses A_t_said A_t_waitsAt A_t_saidLetter A_t_saidFrom A_t_saidHalf A_t_saidTo A_t_codes A_t_clauseOf A_t_codeFrom A_t_codeHalf A_t_codeTo A_t_stack A_t_facts x_t_lines A_t_newWords A_t_roundFrom A_t_roundAt A_t_roundTimes x_t_newMany x_t_rounds x_t_itFrom x_t_itTimes x_t_writtenNow x_t_picturesNow x_t_usedNow x_t_chosen x_t_fearOfChosen A_t_leastFrom A_t_rowNow x_t_changesNow x_t_left0 A_t_bornOf A_t_trainsTo A_t_trainAt x_t_trainMany x_t_leastTries x_t_firstTrained x_t_isKept, iA cI 293 A_t_kept v_t_kept, iA cI 293 A_t_now v_t_now] [oX12 A_t A_t_now A_t_aside A_t_kept A_t_rhymeOf A_t_wasRhyme A_t_wordAt x_t_wordMany A_t_tape x_t_taped x_t_place0 x_t_length0 x_t_fault x_t_number0 x_t_open x_t_codeMany x_t_waiting x_t_saidMany x_t_clauses A_t_said A_t_waitsAt A_t_saidLetter A_t_saidFrom A_t_saidHalf A_t_saidTo A_t_codes A_t_clauseOf A_t_codeFrom A_t_codeHalf A_t_codeTo A_t_stack A_t_facts x_t_lines A_t_newWords A_t_roundFrom A_t_roundAt A_t_roundTimes x_t_newMany x_t_rounds x_t_itFrom x_t_itTimes x_t_writtenNow x_t_picturesNow x_t_usedNow x_t_chosen x_t_fearOfChosen A_t_leastFrom A_t_rowNow x_t_changesNow x_t_left0 A_t_bornOf A_t_trainsTo A_t_trainAt x_t_trainMany x_t_leastTries x_t_firstTrained o_x_t_isKept, iA cI 293 A_t_kept o_v_t_kept, iA cI 293 A_t_now v_t_now] o_r := by
  refine x_startI (by decide) (Nat.le_of_ble_eq_true rfl) ?_
  intro p e s m below meth c A C hr hlk hA hK hP hD hS ls hl
  have hl : lv_has ls 1 [(0, .ref A_t)] := hl
  have hx := C.1
  have hb := C.2.1
  unfold f_X12_keep at hf
  refine lv_aload_n hx hb dX12_keep_0 rfl (lv_at hl 0 rfl) ?_
  refine lv_iconst (v := 1) hx hb dX12_keep_1 (by decide) ?_
  refine x_put (ws' := [oX12 A_t A_t_now A_t_aside A_t_kept A_t_rhymeOf A_t_wasRhyme A_t_wordAt x_t_wordMany A_t_tape x_t_taped x_t_place0 x_t_length0 x_t_fault x_t_number0 x_t_open x_t_codeMany x_t_waiting x_t_saidMany x_t_clauses A_t_said A_t_waitsAt A_t_saidLetter A_t_saidFrom A_t_saidHalf A_t_saidTo A_t_codes A_t_clauseOf A_t_codeFrom A_t_codeHalf A_t_codeTo A_t_stack A_t_facts x_t_lines A_t_newWords A_t_roundFrom A_t_roundAt A_t_roundTimes x_t_newMany x_t_rounds x_t_itFrom x_t_itTimes x_t_writtenNow x_t_picturesNow x_t_usedNow x_t_chosen x_t_fearOfChosen A_t_leastFrom A_t_rowNow x_t_changesNow x_t_left0 A_t_bornOf A_t_trainsTo A_t_trainAt x_t_trainMany x_t_leastTries x_t_firstTrained (1 : Int32), iA cI 293 A_t_kept v_t_kept, iA cI 293 A_t_now v_t_now]) C hK hP hD hS fp_X12_440 0 rfl (by decide) (by decide) (Nat.le_of_ble_eq_true rfl) rfl dX12_keep_2 ?_
  intro H locs hP hD hS
  refine lv_aload_n hx hb dX12_keep_5 rfl (lv_at hl 0 rfl) ?_
  refine x_get C hK hP fd_X12_7 0 rfl rfl dX12_keep_6 ?_
  refine lv_aload_n hx hb dX12_keep_9 rfl (lv_at hl 0 rfl) ?_
  refine x_get C hK hP fd_X12_16 0 rfl rfl dX12_keep_10 ?_
  obtain ⟨w1, hc2, hf⟩ := bd1_e hf
  refine x_callSV (ws' := [oX12 A_t A_t_now A_t_aside A_t_kept A_t_rhymeOf A_t_wasRhyme A_t_wordAt x_t_wordMany A_t_tape x_t_taped x_t_place0 x_t_length0 x_t_fault x_t_number0 x_t_open x_t_codeMany x_t_waiting x_t_saidMany x_t_clauses A_t_said A_t_waitsAt A_t_saidLetter A_t_saidFrom A_t_saidHalf A_t_saidTo A_t_codes A_t_clauseOf A_t_codeFrom A_t_codeHalf A_t_codeTo A_t_stack A_t_facts x_t_lines A_t_newWords A_t_roundFrom A_t_roundAt A_t_roundTimes x_t_newMany x_t_rounds x_t_itFrom x_t_itTimes x_t_writtenNow x_t_picturesNow x_t_usedNow x_t_chosen x_t_fearOfChosen A_t_leastFrom A_t_rowNow x_t_changesNow x_t_left0 A_t_bornOf A_t_trainsTo A_t_trainAt x_t_trainMany x_t_leastTries x_t_firstTrained (1 : Int32), iA cI 293 A_t_kept w1, iA cI 293 A_t_now v_t_now]) (rest := []) C hK hP hD hS hA hl mf_X12_272 (c_X12_copies hc2) [2, 1] rfl rfl rfl rfl rfl rfl rfl rfl (Nat.le_of_ble_eq_true rfl) ⟨Nat.le_of_ble_eq_true rfl, Nat.le_of_ble_eq_true rfl⟩ ⟨Nat.le_refl _, Nat.le_refl _⟩ dX12_keep_13 ?_
  intro H locs hP hD hS
  refine lv_aload_n hx hb dX12_keep_16 rfl (lv_at hl 0 rfl) ?_
  refine x_get C hK hP fd_X12_7 0 rfl rfl dX12_keep_17 ?_
  refine lv_sipush (v := 291) hx hb dX12_keep_20 (by decide) ?_
  obtain ⟨hi, hf⟩ := gI_e hf
  refine x_iald C hK hP 2 rfl hi dX12_keep_23 ?_
  obtain ⟨rfl, rfl, rfl⟩ := ev3 hf
  exact x_iret C hr hlk hP hD hS dX12_keep_24
def f_X12_undo (v_t_kept : (Nat → Int32)) (v_t_now : (Nat → Int32)) (x_t_isKept : Int32) : Option (Int32 × (Nat → Int32)) :=
  if x_t_isKept = 0 then
    some ((0 : Int32), v_t_now)
  else
    bd1 (f_X12_copies v_t_kept v_t_now) (fun w1 =>
    some ((1 : Int32), w1))
set_option maxHeartbeats 4000000 in
set_option maxRecDepth 100000 in
theorem c_X12_undo {l : Launch} {D : va_G} {cI cB : ClassId} {A_t A_t_now A_t_aside A_t_kept A_t_rhymeOf A_t_wasRhyme A_t_wordAt A_t_tape A_t_said A_t_waitsAt A_t_saidLetter A_t_saidFrom A_t_saidHalf A_t_saidTo A_t_codes A_t_clauseOf A_t_codeFrom A_t_codeHalf A_t_codeTo A_t_stack A_t_facts A_t_newWords A_t_roundFrom A_t_roundAt A_t_roundTimes A_t_leastFrom A_t_rowNow A_t_bornOf A_t_trainsTo A_t_trainAt : Nat} {x_t_wordMany x_t_taped x_t_place0 x_t_length0 x_t_fault x_t_number0 x_t_open x_t_codeMany x_t_waiting x_t_saidMany x_t_clauses x_t_lines x_t_newMany x_t_rounds x_t_itFrom x_t_itTimes x_t_writtenNow x_t_picturesNow x_t_usedNow x_t_chosen x_t_fearOfChosen x_t_changesNow x_t_left0 x_t_trainMany x_t_leastTries x_t_firstTrained x_t_isKept : Int32} {v_t_kept v_t_now : Nat → Int32} {o_r : Int32} {o_v_t_now : Nat → Int32} (hf : f_X12_undo v_t_kept v_t_now x_t_isKept = some (o_r, o_v_t_now)) : CtI l D cI cB yX12_undo cX12_undo 1 (some .boolean) 1 22 [.ref A_t] [oX12 A_t A_t_now A_t_aside A_t_kept A_t_rhymeOf A_t_wasRhyme A_t_wordAt x_t_wordMany A_t_tape x_t_taped x_t_place0 x_t_length0 x_t_fault x_t_number0 x_t_open x_t_codeMany x_t_waiting x_t_saidMany x_t_clauses A_t_said A_t_waitsAt A_t_saidLetter A_t_saidFrom A_t_saidHalf A_t_saidTo A_t_codes A_t_clauseOf A_t_codeFrom A_t_codeHalf A_t_codeTo A_t_stack A_t_facts x_t_lines A_t_newWords A_t_roundFrom A_t_roundAt A_t_roundTimes x_t_newMany x_t_rounds x_t_itFrom x_t_itTimes x_t_writtenNow x_t_picturesNow x_t_usedNow x_t_chosen x_t_fearOfChosen A_t_leastFrom A_t_rowNow x_t_changesNow x_t_left0 A_t_bornOf A_t_trainsTo A_t_trainAt x_t_trainMany x_t_leastTries x_t_firstTrained x_t_isKept, iA cI 293 A_t_kept v_t_kept, iA cI 293 A_t_now v_t_now] [oX12 A_t A_t_now A_t_aside A_t_kept A_t_rhymeOf A_t_wasRhyme A_t_wordAt x_t_wordMany A_t_tape x_t_taped x_t_place0 x_t_length0 x_t_fault x_t_number0 x_t_open x_t_codeMany x_t_waiting x_t_saidMany x_t_clauses A_t_said A_t_waitsAt A_t_saidLetter A_t_saidFrom A_t_saidHalf A_t_saidTo A_t_codes A_t_clauseOf A_t_codeFrom A_t_codeHalf A_t_codeTo A_t_stack A_t_facts x_t_lines A_t_newWords A_t_roundFrom A_t_roundAt A_t_roundTimes x_t_newMany x_t_rounds x_t_itFrom x_t_itTimes x_t_writtenNow x_t_picturesNow x_t_usedNow x_t_chosen x_t_fearOfChosen A_t_leastFrom A_t_rowNow x_t_changesNow x_t_left0 A_t_bornOf A_t_trainsTo A_t_trainAt x_t_trainMany x_t_leastTries x_t_firstTrained x_t_isKept, iA cI 293 A_t_kept v_t_kept, iA cI 293 A_t_now o_v_t_now] o_r := by
  refine x_startI (by decide) (Nat.le_of_ble_eq_true rfl) ?_
  intro p e s m below meth c A C hr hlk hA hK hP hD hS ls hl
  have hl : lv_has ls 1 [(0, .ref A_t)] := hl
  have hx := C.1
  have hb := C.2.1
  unfold f_X12_undo at hf
  refine lv_aload_n hx hb dX12_undo_0 rfl (lv_at hl 0 rfl) ?_
  refine x_get C hK hP fd_X12_440 0 rfl rfl dX12_undo_1 ?_
  refine lv_if_ne (tgt := 9) hx hb dX12_undo_4 (by decide) (fun q => ?_) (fun q => ?_)
  · have hf := if_f q hf
    refine lv_aload_n hx hb dX12_undo_9 rfl (lv_at hl 0 rfl) ?_
    refine x_get C hK hP fd_X12_16 0 rfl rfl dX12_undo_10 ?_
    refine lv_aload_n hx hb dX12_undo_13 rfl (lv_at hl 0 rfl) ?_
    refine x_get C hK hP fd_X12_7 0 rfl rfl dX12_undo_14 ?_
    obtain ⟨w1, hc2, hf⟩ := bd1_e hf
    refine x_callSV (ws' := [oX12 A_t A_t_now A_t_aside A_t_kept A_t_rhymeOf A_t_wasRhyme A_t_wordAt x_t_wordMany A_t_tape x_t_taped x_t_place0 x_t_length0 x_t_fault x_t_number0 x_t_open x_t_codeMany x_t_waiting x_t_saidMany x_t_clauses A_t_said A_t_waitsAt A_t_saidLetter A_t_saidFrom A_t_saidHalf A_t_saidTo A_t_codes A_t_clauseOf A_t_codeFrom A_t_codeHalf A_t_codeTo A_t_stack A_t_facts x_t_lines A_t_newWords A_t_roundFrom A_t_roundAt A_t_roundTimes x_t_newMany x_t_rounds x_t_itFrom x_t_itTimes x_t_writtenNow x_t_picturesNow x_t_usedNow x_t_chosen x_t_fearOfChosen A_t_leastFrom A_t_rowNow x_t_changesNow x_t_left0 A_t_bornOf A_t_trainsTo A_t_trainAt x_t_trainMany x_t_leastTries x_t_firstTrained x_t_isKept, iA cI 293 A_t_kept v_t_kept, iA cI 293 A_t_now w1]) (rest := []) C hK hP hD hS hA hl mf_X12_272 (c_X12_copies hc2) [1, 2] rfl rfl rfl rfl rfl rfl rfl rfl (Nat.le_of_ble_eq_true rfl) ⟨Nat.le_of_ble_eq_true rfl, Nat.le_of_ble_eq_true rfl⟩ ⟨Nat.le_refl _, Nat.le_refl _⟩ dX12_undo_17 ?_
    intro H locs hP hD hS
    refine lv_iconst (v := 1) hx hb dX12_undo_20 (by decide) ?_
    obtain ⟨rfl, rfl⟩ := ev2 hf
    exact x_zret C hr hlk (Or.inr rfl) hP hD hS dX12_undo_21
  · have hf := if_t q hf
    refine lv_iconst (v := 0) hx hb dX12_undo_7 (by decide) ?_
    obtain ⟨rfl, rfl⟩ := ev2 hf
    exact x_zret C hr hlk (Or.inl rfl) hP hD hS dX12_undo_8
def f_X12_check_b18 (x_t_taped : Int32) : Option (Int32 × Int32) :=
  some ((-2 : Int32), x_t_taped)
def f_X12_check_b61 (a1 : Int32) (k28 : Int32 → Int32 → Option (Int32 × Int32)) (x_t_taped : Int32) (s0 : Int32) (s1 : Int32) (l2 : Int32) : Option (Int32 × Int32) :=
  if s0 = s1 then
    k28 x_t_taped (l2 + (1 : Int32))
  else
    some (l2, x_t_taped)
def f_X12_check_b28 (v_t_now : (Nat → Int32)) (v_t_tape : (Nat → Int32)) (a1 : Int32) : Nat → Int32 → Int32 → Option (Int32 × Int32)
  | 0, _, _ => none
  | n + 1, x_t_taped, l2 =>
    if a1 ≤ l2 then
      some ((-1 : Int32), x_t_taped)
    else
      bd1 (f_X12_octet v_t_tape l2) (fun r1 =>
      bd1 (f_X12_isTold v_t_now l2) (fun r2 =>
      if r2 = 0 then
        f_X12_check_b61 a1 (f_X12_check_b28 v_t_now v_t_tape a1 n) x_t_taped r1 (255 : Int32) l2
      else
        gI 293 v_t_now ((16 : Int32) + l2) (fun g3 =>
        f_X12_check_b61 a1 (f_X12_check_b28 v_t_now v_t_tape a1 n) x_t_taped r1 g3 l2)))
def f_X12_check (v_t_now : (Nat → Int32)) (v_t_tape : (Nat → Int32)) (x_t_taped : Int32) (a1 : Int32) : Option (Int32 × Int32) :=
  bd1 (f_X12_in a1 (0 : Int32) (8 : Int32)) (fun r4 =>
  if r4 = 0 then
    f_X12_check_b18 x_t_taped
  else
    if a1 ≤ x_t_taped then
      f_X12_check_b28 v_t_now v_t_tape a1 FU (0 : Int32) (0 : Int32)
    else
      f_X12_check_b18 x_t_taped)
set_option maxHeartbeats 4000000 in
set_option maxRecDepth 100000 in
theorem c_X12_check {l : Launch} {D : va_G} {cI cB : ClassId} {A_t A_t_now A_t_aside A_t_kept A_t_rhymeOf A_t_wasRhyme A_t_wordAt A_t_tape A_t_said A_t_waitsAt A_t_saidLetter A_t_saidFrom A_t_saidHalf A_t_saidTo A_t_codes A_t_clauseOf A_t_codeFrom A_t_codeHalf A_t_codeTo A_t_stack A_t_facts A_t_newWords A_t_roundFrom A_t_roundAt A_t_roundTimes A_t_leastFrom A_t_rowNow A_t_bornOf A_t_trainsTo A_t_trainAt : Nat} {x_t_wordMany x_t_taped x_t_place0 x_t_length0 x_t_fault x_t_number0 x_t_open x_t_codeMany x_t_waiting x_t_saidMany x_t_clauses x_t_lines x_t_newMany x_t_rounds x_t_itFrom x_t_itTimes x_t_writtenNow x_t_picturesNow x_t_usedNow x_t_chosen x_t_fearOfChosen x_t_changesNow x_t_left0 x_t_trainMany x_t_leastTries x_t_firstTrained x_t_isKept a1 : Int32} {v_t_now v_t_tape : Nat → Int32} {o_r o_x_t_taped : Int32} (hf : f_X12_check v_t_now v_t_tape x_t_taped a1 = some (o_r, o_x_t_taped)) : CtI l D cI cB yX12_check cX12_check 3 (some .int) 2 43 [.ref A_t, .int a1] [oX12 A_t A_t_now A_t_aside A_t_kept A_t_rhymeOf A_t_wasRhyme A_t_wordAt x_t_wordMany A_t_tape x_t_taped x_t_place0 x_t_length0 x_t_fault x_t_number0 x_t_open x_t_codeMany x_t_waiting x_t_saidMany x_t_clauses A_t_said A_t_waitsAt A_t_saidLetter A_t_saidFrom A_t_saidHalf A_t_saidTo A_t_codes A_t_clauseOf A_t_codeFrom A_t_codeHalf A_t_codeTo A_t_stack A_t_facts x_t_lines A_t_newWords A_t_roundFrom A_t_roundAt A_t_roundTimes x_t_newMany x_t_rounds x_t_itFrom x_t_itTimes x_t_writtenNow x_t_picturesNow x_t_usedNow x_t_chosen x_t_fearOfChosen A_t_leastFrom A_t_rowNow x_t_changesNow x_t_left0 A_t_bornOf A_t_trainsTo A_t_trainAt x_t_trainMany x_t_leastTries x_t_firstTrained x_t_isKept, iA cI 293 A_t_now v_t_now, iA cB 260 A_t_tape v_t_tape] [oX12 A_t A_t_now A_t_aside A_t_kept A_t_rhymeOf A_t_wasRhyme A_t_wordAt x_t_wordMany A_t_tape o_x_t_taped x_t_place0 x_t_length0 x_t_fault x_t_number0 x_t_open x_t_codeMany x_t_waiting x_t_saidMany x_t_clauses A_t_said A_t_waitsAt A_t_saidLetter A_t_saidFrom A_t_saidHalf A_t_saidTo A_t_codes A_t_clauseOf A_t_codeFrom A_t_codeHalf A_t_codeTo A_t_stack A_t_facts x_t_lines A_t_newWords A_t_roundFrom A_t_roundAt A_t_roundTimes x_t_newMany x_t_rounds x_t_itFrom x_t_itTimes x_t_writtenNow x_t_picturesNow x_t_usedNow x_t_chosen x_t_fearOfChosen A_t_leastFrom A_t_rowNow x_t_changesNow x_t_left0 A_t_bornOf A_t_trainsTo A_t_trainAt x_t_trainMany x_t_leastTries x_t_firstTrained x_t_isKept, iA cI 293 A_t_now v_t_now, iA cB 260 A_t_tape v_t_tape] o_r := by
  refine x_startI (by decide) (Nat.le_of_ble_eq_true rfl) ?_
  intro p e s m below meth c A C hr hlk hA hK hP hD hS ls hl
  have hl : lv_has ls 3 [(0, .ref A_t), (1, .int a1)] := hl
  have hx := C.1
  have hb := C.2.1
  unfold f_X12_check at hf
  have hb_18 : ∀ (x_t_taped : Int32) (H : Heap) (locs : List Loc) (ls : Array Slot), lv_has ls 3 [] → va_P D vwCl [oX12 A_t A_t_now A_t_aside A_t_kept A_t_rhymeOf A_t_wasRhyme A_t_wordAt x_t_wordMany A_t_tape x_t_taped x_t_place0 x_t_length0 x_t_fault x_t_number0 x_t_open x_t_codeMany x_t_waiting x_t_saidMany x_t_clauses A_t_said A_t_waitsAt A_t_saidLetter A_t_saidFrom A_t_saidHalf A_t_saidTo A_t_codes A_t_clauseOf A_t_codeFrom A_t_codeHalf A_t_codeTo A_t_stack A_t_facts x_t_lines A_t_newWords A_t_roundFrom A_t_roundAt A_t_roundTimes x_t_newMany x_t_rounds x_t_itFrom x_t_itTimes x_t_writtenNow x_t_picturesNow x_t_usedNow x_t_chosen x_t_fearOfChosen A_t_leastFrom A_t_rowNow x_t_changesNow x_t_left0 A_t_bornOf A_t_trainsTo A_t_trainAt x_t_trainMany x_t_leastTries x_t_firstTrained x_t_isKept, iA cI 293 A_t_now v_t_now, iA cB 260 A_t_tape v_t_tape] H → va_D A [oX12 A_t A_t_now A_t_aside A_t_kept A_t_rhymeOf A_t_wasRhyme A_t_wordAt x_t_wordMany A_t_tape x_t_taped x_t_place0 x_t_length0 x_t_fault x_t_number0 x_t_open x_t_codeMany x_t_waiting x_t_saidMany x_t_clauses A_t_said A_t_waitsAt A_t_saidLetter A_t_saidFrom A_t_saidHalf A_t_saidTo A_t_codes A_t_clauseOf A_t_codeFrom A_t_codeHalf A_t_codeTo A_t_stack A_t_facts x_t_lines A_t_newWords A_t_roundFrom A_t_roundAt A_t_roundTimes x_t_newMany x_t_rounds x_t_itFrom x_t_itTimes x_t_writtenNow x_t_picturesNow x_t_usedNow x_t_chosen x_t_fearOfChosen A_t_leastFrom A_t_rowNow x_t_changesNow x_t_left0 A_t_bornOf A_t_trainsTo A_t_trainAt x_t_trainMany x_t_leastTries x_t_firstTrained x_t_isKept, iA cI 293 A_t_now v_t_now, iA cB 260 A_t_tape v_t_tape] → va_S A s.heap H locs → f_X12_check_b18 x_t_taped = some (o_r, o_x_t_taped) → W p l e { frames := 2, cells := 0, slots := 0, locals := 43 } s m ([.ref A_t, .int a1] : List Value).toArray below meth c H locs 0 0 (MQ below (PoI D A [oX12 A_t A_t_now A_t_aside A_t_kept A_t_rhymeOf A_t_wasRhyme A_t_wordAt x_t_wordMany A_t_tape o_x_t_taped x_t_place0 x_t_length0 x_t_fault x_t_number0 x_t_open x_t_codeMany x_t_waiting x_t_saidMany x_t_clauses A_t_said A_t_waitsAt A_t_saidLetter A_t_saidFrom A_t_saidHalf A_t_saidTo A_t_codes A_t_clauseOf A_t_codeFrom A_t_codeHalf A_t_codeTo A_t_stack A_t_facts x_t_lines A_t_newWords A_t_roundFrom A_t_roundAt A_t_roundTimes x_t_newMany x_t_rounds x_t_itFrom x_t_itTimes x_t_writtenNow x_t_picturesNow x_t_usedNow x_t_chosen x_t_fearOfChosen A_t_leastFrom A_t_rowNow x_t_changesNow x_t_left0 A_t_bornOf A_t_trainsTo A_t_trainAt x_t_trainMany x_t_leastTries x_t_firstTrained x_t_isKept, iA cI 293 A_t_now v_t_now, iA cB 260 A_t_tape v_t_tape] o_r) ([.ref A_t, .int a1] : List Value).toArray s 0 0 A) (F0 m 18 ls []) := by
    intro x_t_taped H locs ls hl hP hD hS hf
    unfold f_X12_check_b18 at hf
    refine lv_bipush (v := -2) hx hb dX12_check_18 (by decide) ?_
    obtain ⟨rfl, rfl⟩ := ev2 hf
    exact x_iret C hr hlk hP hD hS dX12_check_20
  have hb_28 : ∀ (n_28 : Nat) (x_t_taped : Int32) (l2 : Int32) (H : Heap) (locs : List Loc) (ls : Array Slot), lv_has ls 3 [(0, .ref A_t), (1, .int a1), (2, .int l2)] → va_P D vwCl [oX12 A_t A_t_now A_t_aside A_t_kept A_t_rhymeOf A_t_wasRhyme A_t_wordAt x_t_wordMany A_t_tape x_t_taped x_t_place0 x_t_length0 x_t_fault x_t_number0 x_t_open x_t_codeMany x_t_waiting x_t_saidMany x_t_clauses A_t_said A_t_waitsAt A_t_saidLetter A_t_saidFrom A_t_saidHalf A_t_saidTo A_t_codes A_t_clauseOf A_t_codeFrom A_t_codeHalf A_t_codeTo A_t_stack A_t_facts x_t_lines A_t_newWords A_t_roundFrom A_t_roundAt A_t_roundTimes x_t_newMany x_t_rounds x_t_itFrom x_t_itTimes x_t_writtenNow x_t_picturesNow x_t_usedNow x_t_chosen x_t_fearOfChosen A_t_leastFrom A_t_rowNow x_t_changesNow x_t_left0 A_t_bornOf A_t_trainsTo A_t_trainAt x_t_trainMany x_t_leastTries x_t_firstTrained x_t_isKept, iA cI 293 A_t_now v_t_now, iA cB 260 A_t_tape v_t_tape] H → va_D A [oX12 A_t A_t_now A_t_aside A_t_kept A_t_rhymeOf A_t_wasRhyme A_t_wordAt x_t_wordMany A_t_tape x_t_taped x_t_place0 x_t_length0 x_t_fault x_t_number0 x_t_open x_t_codeMany x_t_waiting x_t_saidMany x_t_clauses A_t_said A_t_waitsAt A_t_saidLetter A_t_saidFrom A_t_saidHalf A_t_saidTo A_t_codes A_t_clauseOf A_t_codeFrom A_t_codeHalf A_t_codeTo A_t_stack A_t_facts x_t_lines A_t_newWords A_t_roundFrom A_t_roundAt A_t_roundTimes x_t_newMany x_t_rounds x_t_itFrom x_t_itTimes x_t_writtenNow x_t_picturesNow x_t_usedNow x_t_chosen x_t_fearOfChosen A_t_leastFrom A_t_rowNow x_t_changesNow x_t_left0 A_t_bornOf A_t_trainsTo A_t_trainAt x_t_trainMany x_t_leastTries x_t_firstTrained x_t_isKept, iA cI 293 A_t_now v_t_now, iA cB 260 A_t_tape v_t_tape] → va_S A s.heap H locs → f_X12_check_b28 v_t_now v_t_tape a1 n_28 x_t_taped l2 = some (o_r, o_x_t_taped) → W p l e { frames := 2, cells := 0, slots := 0, locals := 43 } s m ([.ref A_t, .int a1] : List Value).toArray below meth c H locs 0 0 (MQ below (PoI D A [oX12 A_t A_t_now A_t_aside A_t_kept A_t_rhymeOf A_t_wasRhyme A_t_wordAt x_t_wordMany A_t_tape o_x_t_taped x_t_place0 x_t_length0 x_t_fault x_t_number0 x_t_open x_t_codeMany x_t_waiting x_t_saidMany x_t_clauses A_t_said A_t_waitsAt A_t_saidLetter A_t_saidFrom A_t_saidHalf A_t_saidTo A_t_codes A_t_clauseOf A_t_codeFrom A_t_codeHalf A_t_codeTo A_t_stack A_t_facts x_t_lines A_t_newWords A_t_roundFrom A_t_roundAt A_t_roundTimes x_t_newMany x_t_rounds x_t_itFrom x_t_itTimes x_t_writtenNow x_t_picturesNow x_t_usedNow x_t_chosen x_t_fearOfChosen A_t_leastFrom A_t_rowNow x_t_changesNow x_t_left0 A_t_bornOf A_t_trainsTo A_t_trainAt x_t_trainMany x_t_leastTries x_t_firstTrained x_t_isKept, iA cI 293 A_t_now v_t_now, iA cB 260 A_t_tape v_t_tape] o_r) ([.ref A_t, .int a1] : List Value).toArray s 0 0 A) (F0 m 28 ls []) := by
    intro n_28
    induction n_28 with
    | zero =>
      intro x_t_taped l2 H locs ls hl hP hD hS hf
      exact absurd hf (fun h => by rw [f_X12_check_b28] at h; cases h)
    | succ n_28 ih_28 =>
      have hb_61 : ∀ (x_t_taped : Int32) (s0 : Int32) (s1 : Int32) (l2 : Int32) (H : Heap) (locs : List Loc) (ls : Array Slot), lv_has ls 3 [(0, .ref A_t), (1, .int a1), (2, .int l2)] → va_P D vwCl [oX12 A_t A_t_now A_t_aside A_t_kept A_t_rhymeOf A_t_wasRhyme A_t_wordAt x_t_wordMany A_t_tape x_t_taped x_t_place0 x_t_length0 x_t_fault x_t_number0 x_t_open x_t_codeMany x_t_waiting x_t_saidMany x_t_clauses A_t_said A_t_waitsAt A_t_saidLetter A_t_saidFrom A_t_saidHalf A_t_saidTo A_t_codes A_t_clauseOf A_t_codeFrom A_t_codeHalf A_t_codeTo A_t_stack A_t_facts x_t_lines A_t_newWords A_t_roundFrom A_t_roundAt A_t_roundTimes x_t_newMany x_t_rounds x_t_itFrom x_t_itTimes x_t_writtenNow x_t_picturesNow x_t_usedNow x_t_chosen x_t_fearOfChosen A_t_leastFrom A_t_rowNow x_t_changesNow x_t_left0 A_t_bornOf A_t_trainsTo A_t_trainAt x_t_trainMany x_t_leastTries x_t_firstTrained x_t_isKept, iA cI 293 A_t_now v_t_now, iA cB 260 A_t_tape v_t_tape] H → va_D A [oX12 A_t A_t_now A_t_aside A_t_kept A_t_rhymeOf A_t_wasRhyme A_t_wordAt x_t_wordMany A_t_tape x_t_taped x_t_place0 x_t_length0 x_t_fault x_t_number0 x_t_open x_t_codeMany x_t_waiting x_t_saidMany x_t_clauses A_t_said A_t_waitsAt A_t_saidLetter A_t_saidFrom A_t_saidHalf A_t_saidTo A_t_codes A_t_clauseOf A_t_codeFrom A_t_codeHalf A_t_codeTo A_t_stack A_t_facts x_t_lines A_t_newWords A_t_roundFrom A_t_roundAt A_t_roundTimes x_t_newMany x_t_rounds x_t_itFrom x_t_itTimes x_t_writtenNow x_t_picturesNow x_t_usedNow x_t_chosen x_t_fearOfChosen A_t_leastFrom A_t_rowNow x_t_changesNow x_t_left0 A_t_bornOf A_t_trainsTo A_t_trainAt x_t_trainMany x_t_leastTries x_t_firstTrained x_t_isKept, iA cI 293 A_t_now v_t_now, iA cB 260 A_t_tape v_t_tape] → va_S A s.heap H locs → f_X12_check_b61 a1 (f_X12_check_b28 v_t_now v_t_tape a1 n_28) x_t_taped s0 s1 l2 = some (o_r, o_x_t_taped) → W p l e { frames := 2, cells := 0, slots := 0, locals := 43 } s m ([.ref A_t, .int a1] : List Value).toArray below meth c H locs 0 0 (MQ below (PoI D A [oX12 A_t A_t_now A_t_aside A_t_kept A_t_rhymeOf A_t_wasRhyme A_t_wordAt x_t_wordMany A_t_tape o_x_t_taped x_t_place0 x_t_length0 x_t_fault x_t_number0 x_t_open x_t_codeMany x_t_waiting x_t_saidMany x_t_clauses A_t_said A_t_waitsAt A_t_saidLetter A_t_saidFrom A_t_saidHalf A_t_saidTo A_t_codes A_t_clauseOf A_t_codeFrom A_t_codeHalf A_t_codeTo A_t_stack A_t_facts x_t_lines A_t_newWords A_t_roundFrom A_t_roundAt A_t_roundTimes x_t_newMany x_t_rounds x_t_itFrom x_t_itTimes x_t_writtenNow x_t_picturesNow x_t_usedNow x_t_chosen x_t_fearOfChosen A_t_leastFrom A_t_rowNow x_t_changesNow x_t_left0 A_t_bornOf A_t_trainsTo A_t_trainAt x_t_trainMany x_t_leastTries x_t_firstTrained x_t_isKept, iA cI 293 A_t_now v_t_now, iA cB 260 A_t_tape v_t_tape] o_r) ([.ref A_t, .int a1] : List Value).toArray s 0 0 A) (F0 m 61 ls [.int s1, .int s0]) := by
        intro x_t_taped s0 s1 l2 H locs ls hl hP hD hS hf
        unfold f_X12_check_b61 at hf
        refine lv_icmp_eq (tgt := 66) hx hb dX12_check_61 (by decide) (fun q => ?_) (fun q => ?_)
        · have hf := if_t q hf
          refine lv_iinc (v := (l2 + (1 : Int32))) (lv' := [(2, .int (l2 + (1 : Int32))), (0, .ref A_t), (1, .int a1)]) hx hb dX12_check_66 hl (k := 2) rfl rfl (by decide) rfl (fun ls hl => ?_)
          refine lv_goto (tgt := 28) hx hb dX12_check_69 (by decide) ?_
          exact ih_28 x_t_taped (l2 + (1 : Int32)) _ _ ls (lv_sub hl [1, 2, 0] rfl) hP hD hS hf
        · have hf := if_f q hf
          refine lv_iload_n hx hb dX12_check_64 rfl (lv_at hl 2 rfl) ?_
          obtain ⟨rfl, rfl⟩ := ev2 hf
          exact x_iret C hr hlk hP hD hS dX12_check_65
      intro x_t_taped l2 H locs ls hl hP hD hS hf
      rw [f_X12_check_b28] at hf
      refine lv_iload_n hx hb dX12_check_28 rfl (lv_at hl 2 rfl) ?_
      refine lv_iload_n hx hb dX12_check_29 rfl (lv_at hl 1 rfl) ?_
      refine lv_icmp_ge (tgt := 72) hx hb dX12_check_30 (by decide) (fun q => ?_) (fun q => ?_)
      · have hf := if_t q hf
        refine lv_iconst (v := -1) hx hb dX12_check_72 (by decide) ?_
        obtain ⟨rfl, rfl⟩ := ev2 hf
        exact x_iret C hr hlk hP hD hS dX12_check_73
      · have hf := if_f q hf
        refine lv_aload_n hx hb dX12_check_33 rfl (lv_at hl 0 rfl) ?_
        refine lv_iload_n hx hb dX12_check_34 rfl (lv_at hl 2 rfl) ?_
        obtain ⟨r1, hc2, hf⟩ := bd1_e hf
        refine x_callVI (ws' := [oX12 A_t A_t_now A_t_aside A_t_kept A_t_rhymeOf A_t_wasRhyme A_t_wordAt x_t_wordMany A_t_tape x_t_taped x_t_place0 x_t_length0 x_t_fault x_t_number0 x_t_open x_t_codeMany x_t_waiting x_t_saidMany x_t_clauses A_t_said A_t_waitsAt A_t_saidLetter A_t_saidFrom A_t_saidHalf A_t_saidTo A_t_codes A_t_clauseOf A_t_codeFrom A_t_codeHalf A_t_codeTo A_t_stack A_t_facts x_t_lines A_t_newWords A_t_roundFrom A_t_roundAt A_t_roundTimes x_t_newMany x_t_rounds x_t_itFrom x_t_itTimes x_t_writtenNow x_t_picturesNow x_t_usedNow x_t_chosen x_t_fearOfChosen A_t_leastFrom A_t_rowNow x_t_changesNow x_t_left0 A_t_bornOf A_t_trainsTo A_t_trainAt x_t_trainMany x_t_leastTries x_t_firstTrained x_t_isKept, iA cI 293 A_t_now v_t_now, iA cB 260 A_t_tape v_t_tape]) (rest := []) C hK hP hD hS hA hl mf_X12_378 (c_X12_octet hc2) [0, 2] 0 12 rfl rfl rfl rfl rfl rfl rfl rfl rfl rfl (Nat.le_of_ble_eq_true rfl) ⟨Nat.le_of_ble_eq_true rfl, Nat.le_of_ble_eq_true rfl⟩ ⟨Nat.le_refl _, Nat.le_refl _⟩ dX12_check_35 ?_
        intro H locs hP hD hS
        refine lv_aload_n hx hb dX12_check_38 rfl (lv_at hl 0 rfl) ?_
        refine lv_iload_n hx hb dX12_check_39 rfl (lv_at hl 2 rfl) ?_
        obtain ⟨r3, hc4, hf⟩ := bd1_e hf
        refine x_callVI (ws' := [oX12 A_t A_t_now A_t_aside A_t_kept A_t_rhymeOf A_t_wasRhyme A_t_wordAt x_t_wordMany A_t_tape x_t_taped x_t_place0 x_t_length0 x_t_fault x_t_number0 x_t_open x_t_codeMany x_t_waiting x_t_saidMany x_t_clauses A_t_said A_t_waitsAt A_t_saidLetter A_t_saidFrom A_t_saidHalf A_t_saidTo A_t_codes A_t_clauseOf A_t_codeFrom A_t_codeHalf A_t_codeTo A_t_stack A_t_facts x_t_lines A_t_newWords A_t_roundFrom A_t_roundAt A_t_roundTimes x_t_newMany x_t_rounds x_t_itFrom x_t_itTimes x_t_writtenNow x_t_picturesNow x_t_usedNow x_t_chosen x_t_fearOfChosen A_t_leastFrom A_t_rowNow x_t_changesNow x_t_left0 A_t_bornOf A_t_trainsTo A_t_trainAt x_t_trainMany x_t_leastTries x_t_firstTrained x_t_isKept, iA cI 293 A_t_now v_t_now, iA cB 260 A_t_tape v_t_tape]) (rest := [.int r1]) C hK hP hD hS hA hl mf_X12_109 (c_X12_isTold hc4) [0, 1] 0 12 rfl rfl rfl rfl rfl rfl rfl rfl rfl rfl (Nat.le_of_ble_eq_true rfl) ⟨Nat.le_of_ble_eq_true rfl, Nat.le_of_ble_eq_true rfl⟩ ⟨Nat.le_refl _, Nat.le_refl _⟩ dX12_check_40 ?_
        intro H locs hP hD hS
        refine lv_if_eq (tgt := 58) hx hb dX12_check_43 (by decide) (fun q => ?_) (fun q => ?_)
        · have hf := if_t q hf
          refine lv_sipush (v := 255) hx hb dX12_check_58 (by decide) ?_
          exact hb_61 x_t_taped r1 (255 : Int32) l2 _ _ ls (lv_sub hl [0, 1, 2] rfl) hP hD hS hf
        · have hf := if_f q hf
          refine lv_aload_n hx hb dX12_check_46 rfl (lv_at hl 0 rfl) ?_
          refine x_get C hK hP fd_X12_7 0 rfl rfl dX12_check_47 ?_
          refine lv_bipush (v := 16) hx hb dX12_check_50 (by decide) ?_
          refine lv_iload_n hx hb dX12_check_52 rfl (lv_at hl 2 rfl) ?_
          refine lv_iadd hx hb dX12_check_53 ?_
          obtain ⟨hi, hf⟩ := gI_e hf
          refine x_iald C hK hP 1 rfl hi dX12_check_54 ?_
          refine lv_goto (tgt := 61) hx hb dX12_check_55 (by decide) ?_
          exact hb_61 x_t_taped r1 (v_t_now ((16 : Int32) + l2).toNatClampNeg) l2 _ _ ls (lv_sub hl [0, 1, 2] rfl) hP hD hS hf
  refine lv_iload_n hx hb dX12_check_0 rfl (lv_at hl 1 rfl) ?_
  refine lv_iconst (v := 0) hx hb dX12_check_1 (by decide) ?_
  refine lv_bipush (v := 8) hx hb dX12_check_2 (by decide) ?_
  obtain ⟨r5, hc6, hf⟩ := bd1_e hf
  refine x_callSI (ws' := [oX12 A_t A_t_now A_t_aside A_t_kept A_t_rhymeOf A_t_wasRhyme A_t_wordAt x_t_wordMany A_t_tape x_t_taped x_t_place0 x_t_length0 x_t_fault x_t_number0 x_t_open x_t_codeMany x_t_waiting x_t_saidMany x_t_clauses A_t_said A_t_waitsAt A_t_saidLetter A_t_saidFrom A_t_saidHalf A_t_saidTo A_t_codes A_t_clauseOf A_t_codeFrom A_t_codeHalf A_t_codeTo A_t_stack A_t_facts x_t_lines A_t_newWords A_t_roundFrom A_t_roundAt A_t_roundTimes x_t_newMany x_t_rounds x_t_itFrom x_t_itTimes x_t_writtenNow x_t_picturesNow x_t_usedNow x_t_chosen x_t_fearOfChosen A_t_leastFrom A_t_rowNow x_t_changesNow x_t_left0 A_t_bornOf A_t_trainsTo A_t_trainAt x_t_trainMany x_t_leastTries x_t_firstTrained x_t_isKept, iA cI 293 A_t_now v_t_now, iA cB 260 A_t_tape v_t_tape]) (rest := []) C hK hP hD hS hA hl mf_X12_105 (c_X12_in hc6) [] rfl rfl rfl rfl rfl rfl rfl rfl (Nat.le_of_ble_eq_true rfl) ⟨Nat.le_of_ble_eq_true rfl, Nat.le_of_ble_eq_true rfl⟩ ⟨Nat.le_refl _, Nat.le_refl _⟩ dX12_check_4 ?_
  intro H locs hP hD hS
  refine lv_if_eq (tgt := 18) hx hb dX12_check_7 (by decide) (fun q => ?_) (fun q => ?_)
  · have hf := if_t q hf
    exact hb_18 x_t_taped _ _ ls (lv_sub hl [] rfl) hP hD hS hf
  · have hf := if_f q hf
    refine lv_iload_n hx hb dX12_check_10 rfl (lv_at hl 1 rfl) ?_
    refine lv_aload_n hx hb dX12_check_11 rfl (lv_at hl 0 rfl) ?_
    refine x_get C hK hP fd_X12_143 0 rfl rfl dX12_check_12 ?_
    refine lv_icmp_le (tgt := 21) hx hb dX12_check_15 (by decide) (fun q => ?_) (fun q => ?_)
    · have hf := if_t q hf
      refine lv_aload_n hx hb dX12_check_21 rfl (lv_at hl 0 rfl) ?_
      refine lv_iconst (v := 0) hx hb dX12_check_22 (by decide) ?_
      refine x_put (ws' := [oX12 A_t A_t_now A_t_aside A_t_kept A_t_rhymeOf A_t_wasRhyme A_t_wordAt x_t_wordMany A_t_tape (0 : Int32) x_t_place0 x_t_length0 x_t_fault x_t_number0 x_t_open x_t_codeMany x_t_waiting x_t_saidMany x_t_clauses A_t_said A_t_waitsAt A_t_saidLetter A_t_saidFrom A_t_saidHalf A_t_saidTo A_t_codes A_t_clauseOf A_t_codeFrom A_t_codeHalf A_t_codeTo A_t_stack A_t_facts x_t_lines A_t_newWords A_t_roundFrom A_t_roundAt A_t_roundTimes x_t_newMany x_t_rounds x_t_itFrom x_t_itTimes x_t_writtenNow x_t_picturesNow x_t_usedNow x_t_chosen x_t_fearOfChosen A_t_leastFrom A_t_rowNow x_t_changesNow x_t_left0 A_t_bornOf A_t_trainsTo A_t_trainAt x_t_trainMany x_t_leastTries x_t_firstTrained x_t_isKept, iA cI 293 A_t_now v_t_now, iA cB 260 A_t_tape v_t_tape]) C hK hP hD hS fp_X12_143 0 rfl rfl rfl (Nat.le_of_ble_eq_true rfl) rfl dX12_check_23 ?_
      intro H locs hP hD hS
      refine lv_iconst (v := 0) hx hb dX12_check_26 (by decide) ?_
      refine lv_istore_n (lv' := [(2, .int (0 : Int32)), (0, .ref A_t), (1, .int a1)]) hx hb dX12_check_27 rfl hl (by decide) rfl (fun ls hl => ?_)
      exact hb_28 FU (0 : Int32) (0 : Int32) _ _ ls (lv_sub hl [1, 2, 0] rfl) hP hD hS hf
    · have hf := if_f q hf
      exact hb_18 x_t_taped _ _ ls (lv_sub hl [] rfl) hP hD hS hf
