def f_X12_types_b2 (a1 : Int32) : Nat → (Nat → Int32) → Int32 → Int32 → Option ((Nat → Int32) × Int32)
  | 0, _, _, _ => none
  | n + 1, v_t_tape, x_t_taped, l2 =>
    if l2 < 0 then
      some (v_t_tape, x_t_taped)
    else
      sI 260 v_t_tape x_t_taped (vp_nar .byte ((a1 >>> (((8 : Int32) * l2) &&& 31)).toInt8.toInt32)) (fun w1 =>
      f_X12_types_b2 a1 n w1 (x_t_taped + (1 : Int32)) (l2 + (-1 : Int32)))
def f_X12_types (v_t_tape : (Nat → Int32)) (x_t_taped : Int32) (a1 : Int32) : Option ((Nat → Int32) × Int32) :=
  f_X12_types_b2 a1 FU v_t_tape x_t_taped (3 : Int32)
set_option maxHeartbeats 4000000 in
set_option maxRecDepth 100000 in
theorem c_X12_types {l : Launch} {D : va_G} {cI cB : ClassId} {A_t A_t_now A_t_aside A_t_kept A_t_rhymeOf A_t_wasRhyme A_t_wordAt A_t_tape A_t_said A_t_waitsAt A_t_saidLetter A_t_saidFrom A_t_saidHalf A_t_saidTo A_t_codes A_t_clauseOf A_t_codeFrom A_t_codeHalf A_t_codeTo A_t_stack A_t_facts A_t_newWords A_t_roundFrom A_t_roundAt A_t_roundTimes A_t_leastFrom A_t_rowNow A_t_bornOf A_t_trainsTo A_t_trainAt : Nat} {x_t_wordMany x_t_taped x_t_place0 x_t_length0 x_t_fault x_t_number0 x_t_open x_t_codeMany x_t_waiting x_t_saidMany x_t_clauses x_t_lines x_t_newMany x_t_rounds x_t_itFrom x_t_itTimes x_t_writtenNow x_t_picturesNow x_t_usedNow x_t_chosen x_t_fearOfChosen x_t_changesNow x_t_left0 x_t_trainMany x_t_leastTries x_t_firstTrained x_t_isKept a1 : Int32} {v_t_tape : Nat → Int32} {o_x_t_taped : Int32} {o_v_t_tape : Nat → Int32} (hf : f_X12_types v_t_tape x_t_taped a1 = some (o_v_t_tape, o_x_t_taped)) : CtV l D cI cB yX12_types cX12_types 3 0 0 [.ref A_t, .int a1] [oX12 A_t A_t_now A_t_aside A_t_kept A_t_rhymeOf A_t_wasRhyme A_t_wordAt x_t_wordMany A_t_tape x_t_taped x_t_place0 x_t_length0 x_t_fault x_t_number0 x_t_open x_t_codeMany x_t_waiting x_t_saidMany x_t_clauses A_t_said A_t_waitsAt A_t_saidLetter A_t_saidFrom A_t_saidHalf A_t_saidTo A_t_codes A_t_clauseOf A_t_codeFrom A_t_codeHalf A_t_codeTo A_t_stack A_t_facts x_t_lines A_t_newWords A_t_roundFrom A_t_roundAt A_t_roundTimes x_t_newMany x_t_rounds x_t_itFrom x_t_itTimes x_t_writtenNow x_t_picturesNow x_t_usedNow x_t_chosen x_t_fearOfChosen A_t_leastFrom A_t_rowNow x_t_changesNow x_t_left0 A_t_bornOf A_t_trainsTo A_t_trainAt x_t_trainMany x_t_leastTries x_t_firstTrained x_t_isKept, iA cB 260 A_t_tape v_t_tape] [oX12 A_t A_t_now A_t_aside A_t_kept A_t_rhymeOf A_t_wasRhyme A_t_wordAt x_t_wordMany A_t_tape o_x_t_taped x_t_place0 x_t_length0 x_t_fault x_t_number0 x_t_open x_t_codeMany x_t_waiting x_t_saidMany x_t_clauses A_t_said A_t_waitsAt A_t_saidLetter A_t_saidFrom A_t_saidHalf A_t_saidTo A_t_codes A_t_clauseOf A_t_codeFrom A_t_codeHalf A_t_codeTo A_t_stack A_t_facts x_t_lines A_t_newWords A_t_roundFrom A_t_roundAt A_t_roundTimes x_t_newMany x_t_rounds x_t_itFrom x_t_itTimes x_t_writtenNow x_t_picturesNow x_t_usedNow x_t_chosen x_t_fearOfChosen A_t_leastFrom A_t_rowNow x_t_changesNow x_t_left0 A_t_bornOf A_t_trainsTo A_t_trainAt x_t_trainMany x_t_leastTries x_t_firstTrained x_t_isKept, iA cB 260 A_t_tape o_v_t_tape] := by
  refine x_startV (by decide) (Nat.le_of_ble_eq_true rfl) ?_
  intro p e s m below meth c A C hr hlk hA hK hP hD hS ls hl
  have hl : lv_has ls 3 [(0, .ref A_t), (1, .int a1)] := hl
  have hx := C.1
  have hb := C.2.1
  unfold f_X12_types at hf
  have hb_2 : ∀ (n_2 : Nat) (v_t_tape : (Nat → Int32)) (x_t_taped : Int32) (l2 : Int32) (H : Heap) (locs : List Loc) (ls : Array Slot), lv_has ls 3 [(0, .ref A_t), (1, .int a1), (2, .int l2)] → va_P D vwCl [oX12 A_t A_t_now A_t_aside A_t_kept A_t_rhymeOf A_t_wasRhyme A_t_wordAt x_t_wordMany A_t_tape x_t_taped x_t_place0 x_t_length0 x_t_fault x_t_number0 x_t_open x_t_codeMany x_t_waiting x_t_saidMany x_t_clauses A_t_said A_t_waitsAt A_t_saidLetter A_t_saidFrom A_t_saidHalf A_t_saidTo A_t_codes A_t_clauseOf A_t_codeFrom A_t_codeHalf A_t_codeTo A_t_stack A_t_facts x_t_lines A_t_newWords A_t_roundFrom A_t_roundAt A_t_roundTimes x_t_newMany x_t_rounds x_t_itFrom x_t_itTimes x_t_writtenNow x_t_picturesNow x_t_usedNow x_t_chosen x_t_fearOfChosen A_t_leastFrom A_t_rowNow x_t_changesNow x_t_left0 A_t_bornOf A_t_trainsTo A_t_trainAt x_t_trainMany x_t_leastTries x_t_firstTrained x_t_isKept, iA cB 260 A_t_tape v_t_tape] H → va_D A [oX12 A_t A_t_now A_t_aside A_t_kept A_t_rhymeOf A_t_wasRhyme A_t_wordAt x_t_wordMany A_t_tape x_t_taped x_t_place0 x_t_length0 x_t_fault x_t_number0 x_t_open x_t_codeMany x_t_waiting x_t_saidMany x_t_clauses A_t_said A_t_waitsAt A_t_saidLetter A_t_saidFrom A_t_saidHalf A_t_saidTo A_t_codes A_t_clauseOf A_t_codeFrom A_t_codeHalf A_t_codeTo A_t_stack A_t_facts x_t_lines A_t_newWords A_t_roundFrom A_t_roundAt A_t_roundTimes x_t_newMany x_t_rounds x_t_itFrom x_t_itTimes x_t_writtenNow x_t_picturesNow x_t_usedNow x_t_chosen x_t_fearOfChosen A_t_leastFrom A_t_rowNow x_t_changesNow x_t_left0 A_t_bornOf A_t_trainsTo A_t_trainAt x_t_trainMany x_t_leastTries x_t_firstTrained x_t_isKept, iA cB 260 A_t_tape v_t_tape] → va_S A s.heap H locs → f_X12_types_b2 a1 n_2 v_t_tape x_t_taped l2 = some (o_v_t_tape, o_x_t_taped) → W p l e { frames := 0, cells := 0, slots := 0, locals := 0 } s m ([.ref A_t, .int a1] : List Value).toArray below meth c H locs 0 0 (MQ below (PoV D A [oX12 A_t A_t_now A_t_aside A_t_kept A_t_rhymeOf A_t_wasRhyme A_t_wordAt x_t_wordMany A_t_tape o_x_t_taped x_t_place0 x_t_length0 x_t_fault x_t_number0 x_t_open x_t_codeMany x_t_waiting x_t_saidMany x_t_clauses A_t_said A_t_waitsAt A_t_saidLetter A_t_saidFrom A_t_saidHalf A_t_saidTo A_t_codes A_t_clauseOf A_t_codeFrom A_t_codeHalf A_t_codeTo A_t_stack A_t_facts x_t_lines A_t_newWords A_t_roundFrom A_t_roundAt A_t_roundTimes x_t_newMany x_t_rounds x_t_itFrom x_t_itTimes x_t_writtenNow x_t_picturesNow x_t_usedNow x_t_chosen x_t_fearOfChosen A_t_leastFrom A_t_rowNow x_t_changesNow x_t_left0 A_t_bornOf A_t_trainsTo A_t_trainAt x_t_trainMany x_t_leastTries x_t_firstTrained x_t_isKept, iA cB 260 A_t_tape o_v_t_tape]) ([.ref A_t, .int a1] : List Value).toArray s 0 0 A) (F0 m 2 ls []) := by
    intro n_2
    induction n_2 with
    | zero =>
      intro v_t_tape x_t_taped l2 H locs ls hl hP hD hS hf
      exact absurd hf (fun h => by rw [f_X12_types_b2] at h; cases h)
    | succ n_2 ih_2 =>
      intro v_t_tape x_t_taped l2 H locs ls hl hP hD hS hf
      rw [f_X12_types_b2] at hf
      refine lv_iload_n hx hb dX12_types_2 rfl (lv_at hl 2 rfl) ?_
      refine lv_if_lt (tgt := 38) hx hb dX12_types_3 (by decide) (fun q => ?_) (fun q => ?_)
      · have hf := if_t q hf
        obtain ⟨rfl, rfl⟩ := ev2 hf
        exact x_vret C hr hlk hP hD hS dX12_types_38
      · have hf := if_f q hf
        refine lv_aload_n hx hb dX12_types_6 rfl (lv_at hl 0 rfl) ?_
        refine x_get C hK hP fd_X12_28 0 rfl rfl dX12_types_7 ?_
        refine lv_aload_n hx hb dX12_types_10 rfl (lv_at hl 0 rfl) ?_
        refine x_get C hK hP fd_X12_143 0 rfl rfl dX12_types_11 ?_
        refine lv_iload_n hx hb dX12_types_14 rfl (lv_at hl 1 rfl) ?_
        refine lv_bipush (v := 8) hx hb dX12_types_15 (by decide) ?_
        refine lv_iload_n hx hb dX12_types_17 rfl (lv_at hl 2 rfl) ?_
        refine lv_imul hx hb dX12_types_18 ?_
        refine lv_ishr hx hb dX12_types_19 ?_
        refine lv_i2b hx hb dX12_types_20 rfl ?_
        obtain ⟨hi, hf⟩ := sI_e hf
        refine x_bast (ws' := [oX12 A_t A_t_now A_t_aside A_t_kept A_t_rhymeOf A_t_wasRhyme A_t_wordAt x_t_wordMany A_t_tape x_t_taped x_t_place0 x_t_length0 x_t_fault x_t_number0 x_t_open x_t_codeMany x_t_waiting x_t_saidMany x_t_clauses A_t_said A_t_waitsAt A_t_saidLetter A_t_saidFrom A_t_saidHalf A_t_saidTo A_t_codes A_t_clauseOf A_t_codeFrom A_t_codeHalf A_t_codeTo A_t_stack A_t_facts x_t_lines A_t_newWords A_t_roundFrom A_t_roundAt A_t_roundTimes x_t_newMany x_t_rounds x_t_itFrom x_t_itTimes x_t_writtenNow x_t_picturesNow x_t_usedNow x_t_chosen x_t_fearOfChosen A_t_leastFrom A_t_rowNow x_t_changesNow x_t_left0 A_t_bornOf A_t_trainsTo A_t_trainAt x_t_trainMany x_t_leastTries x_t_firstTrained x_t_isKept, iA cB 260 A_t_tape (upd v_t_tape x_t_taped.toNatClampNeg (vp_nar .byte ((a1 >>> (((8 : Int32) * l2) &&& 31)).toInt8.toInt32)))]) C hK hP hD hS 1 rfl hi rfl dX12_types_21 ?_
        intro H locs hP hD hS
        refine lv_aload_n hx hb dX12_types_22 rfl (lv_at hl 0 rfl) ?_
        refine lv_aload_n hx hb dX12_types_23 rfl (lv_at hl 0 rfl) ?_
        refine x_get C hK hP fd_X12_143 0 rfl rfl dX12_types_24 ?_
        refine lv_iconst (v := 1) hx hb dX12_types_27 (by decide) ?_
        refine lv_iadd hx hb dX12_types_28 ?_
        refine x_put (ws' := [oX12 A_t A_t_now A_t_aside A_t_kept A_t_rhymeOf A_t_wasRhyme A_t_wordAt x_t_wordMany A_t_tape (x_t_taped + (1 : Int32)) x_t_place0 x_t_length0 x_t_fault x_t_number0 x_t_open x_t_codeMany x_t_waiting x_t_saidMany x_t_clauses A_t_said A_t_waitsAt A_t_saidLetter A_t_saidFrom A_t_saidHalf A_t_saidTo A_t_codes A_t_clauseOf A_t_codeFrom A_t_codeHalf A_t_codeTo A_t_stack A_t_facts x_t_lines A_t_newWords A_t_roundFrom A_t_roundAt A_t_roundTimes x_t_newMany x_t_rounds x_t_itFrom x_t_itTimes x_t_writtenNow x_t_picturesNow x_t_usedNow x_t_chosen x_t_fearOfChosen A_t_leastFrom A_t_rowNow x_t_changesNow x_t_left0 A_t_bornOf A_t_trainsTo A_t_trainAt x_t_trainMany x_t_leastTries x_t_firstTrained x_t_isKept, iA cB 260 A_t_tape (upd v_t_tape x_t_taped.toNatClampNeg (vp_nar .byte ((a1 >>> (((8 : Int32) * l2) &&& 31)).toInt8.toInt32)))]) C hK hP hD hS fp_X12_143 0 rfl rfl rfl (Nat.le_of_ble_eq_true rfl) rfl dX12_types_29 ?_
        intro H locs hP hD hS
        refine lv_iinc (v := (l2 + (-1 : Int32))) (lv' := [(2, .int (l2 + (-1 : Int32))), (0, .ref A_t), (1, .int a1)]) hx hb dX12_types_32 hl (k := 2) rfl rfl (by decide) rfl (fun ls hl => ?_)
        refine lv_goto (tgt := 2) hx hb dX12_types_35 (by decide) ?_
        exact ih_2 (upd v_t_tape x_t_taped.toNatClampNeg (vp_nar .byte ((a1 >>> (((8 : Int32) * l2) &&& 31)).toInt8.toInt32))) (x_t_taped + (1 : Int32)) (l2 + (-1 : Int32)) _ _ ls (lv_sub hl [1, 2, 0] rfl) hP hD hS hf
  refine lv_iconst (v := 3) hx hb dX12_types_0 (by decide) ?_
  refine lv_istore_n (lv' := [(2, .int (3 : Int32)), (0, .ref A_t), (1, .int a1)]) hx hb dX12_types_1 rfl hl (by decide) rfl (fun ls hl => ?_)
  exact hb_2 FU v_t_tape x_t_taped (3 : Int32) _ _ ls (lv_sub hl [1, 2, 0] rfl) hP hD hS hf
def f_X12_feed (v_t_tape : (Nat → Int32)) (x_t_taped : Int32) (a1 : Int32) (a2 : Int32) (a3 : Int32) (a4 : Int32) (a5 : Int32) : Option (Int32 × (Nat → Int32) × Int32) :=
  if (x_t_taped + (20 : Int32)) ≤ (260 : Int32) then
    bd2 (f_X12_types v_t_tape x_t_taped a1) (fun w1 w2 =>
    bd2 (f_X12_types w1 w2 a2) (fun w3 w4 =>
    bd2 (f_X12_types w3 w4 a3) (fun w5 w6 =>
    bd2 (f_X12_types w5 w6 a4) (fun w7 w8 =>
    bd2 (f_X12_types w7 w8 a5) (fun w9 w10 =>
    some (w10, w9, w10))))))
  else
    some ((-1 : Int32), v_t_tape, x_t_taped)
set_option maxHeartbeats 4000000 in
set_option maxRecDepth 100000 in
theorem c_X12_feed {l : Launch} {D : va_G} {cI cB : ClassId} {A_t A_t_now A_t_aside A_t_kept A_t_rhymeOf A_t_wasRhyme A_t_wordAt A_t_tape A_t_said A_t_waitsAt A_t_saidLetter A_t_saidFrom A_t_saidHalf A_t_saidTo A_t_codes A_t_clauseOf A_t_codeFrom A_t_codeHalf A_t_codeTo A_t_stack A_t_facts A_t_newWords A_t_roundFrom A_t_roundAt A_t_roundTimes A_t_leastFrom A_t_rowNow A_t_bornOf A_t_trainsTo A_t_trainAt : Nat} {x_t_wordMany x_t_taped x_t_place0 x_t_length0 x_t_fault x_t_number0 x_t_open x_t_codeMany x_t_waiting x_t_saidMany x_t_clauses x_t_lines x_t_newMany x_t_rounds x_t_itFrom x_t_itTimes x_t_writtenNow x_t_picturesNow x_t_usedNow x_t_chosen x_t_fearOfChosen x_t_changesNow x_t_left0 x_t_trainMany x_t_leastTries x_t_firstTrained x_t_isKept a1 a2 a3 a4 a5 : Int32} {v_t_tape : Nat → Int32} {o_r o_x_t_taped : Int32} {o_v_t_tape : Nat → Int32} (hf : f_X12_feed v_t_tape x_t_taped a1 a2 a3 a4 a5 = some (o_r, o_v_t_tape, o_x_t_taped)) : CtI l D cI cB yX12_feed cX12_feed 6 (some .int) 1 22 [.ref A_t, .int a1, .int a2, .int a3, .int a4, .int a5] [oX12 A_t A_t_now A_t_aside A_t_kept A_t_rhymeOf A_t_wasRhyme A_t_wordAt x_t_wordMany A_t_tape x_t_taped x_t_place0 x_t_length0 x_t_fault x_t_number0 x_t_open x_t_codeMany x_t_waiting x_t_saidMany x_t_clauses A_t_said A_t_waitsAt A_t_saidLetter A_t_saidFrom A_t_saidHalf A_t_saidTo A_t_codes A_t_clauseOf A_t_codeFrom A_t_codeHalf A_t_codeTo A_t_stack A_t_facts x_t_lines A_t_newWords A_t_roundFrom A_t_roundAt A_t_roundTimes x_t_newMany x_t_rounds x_t_itFrom x_t_itTimes x_t_writtenNow x_t_picturesNow x_t_usedNow x_t_chosen x_t_fearOfChosen A_t_leastFrom A_t_rowNow x_t_changesNow x_t_left0 A_t_bornOf A_t_trainsTo A_t_trainAt x_t_trainMany x_t_leastTries x_t_firstTrained x_t_isKept, iA cB 260 A_t_tape v_t_tape] [oX12 A_t A_t_now A_t_aside A_t_kept A_t_rhymeOf A_t_wasRhyme A_t_wordAt x_t_wordMany A_t_tape o_x_t_taped x_t_place0 x_t_length0 x_t_fault x_t_number0 x_t_open x_t_codeMany x_t_waiting x_t_saidMany x_t_clauses A_t_said A_t_waitsAt A_t_saidLetter A_t_saidFrom A_t_saidHalf A_t_saidTo A_t_codes A_t_clauseOf A_t_codeFrom A_t_codeHalf A_t_codeTo A_t_stack A_t_facts x_t_lines A_t_newWords A_t_roundFrom A_t_roundAt A_t_roundTimes x_t_newMany x_t_rounds x_t_itFrom x_t_itTimes x_t_writtenNow x_t_picturesNow x_t_usedNow x_t_chosen x_t_fearOfChosen A_t_leastFrom A_t_rowNow x_t_changesNow x_t_left0 A_t_bornOf A_t_trainsTo A_t_trainAt x_t_trainMany x_t_leastTries x_t_firstTrained x_t_isKept, iA cB 260 A_t_tape o_v_t_tape] o_r := by
  refine x_startI (by decide) (Nat.le_of_ble_eq_true rfl) ?_
  intro p e s m below meth c A C hr hlk hA hK hP hD hS ls hl
  have hl : lv_has ls 6 [(0, .ref A_t), (1, .int a1), (2, .int a2), (3, .int a3), (4, .int a4), (5, .int a5)] := hl
  have hx := C.1
  have hb := C.2.1
  unfold f_X12_feed at hf
  refine lv_aload_n hx hb dX12_feed_0 rfl (lv_at hl 0 rfl) ?_
  refine x_get C hK hP fd_X12_143 0 rfl rfl dX12_feed_1 ?_
  refine lv_bipush (v := 20) hx hb dX12_feed_4 (by decide) ?_
  refine lv_iadd hx hb dX12_feed_6 ?_
  refine lv_sipush (v := 260) hx hb dX12_feed_7 (by decide) ?_
  refine lv_icmp_le (tgt := 15) hx hb dX12_feed_10 (by decide) (fun q => ?_) (fun q => ?_)
  · have hf := if_t q hf
    refine lv_aload_n hx hb dX12_feed_15 rfl (lv_at hl 0 rfl) ?_
    refine lv_iload_n hx hb dX12_feed_16 rfl (lv_at hl 1 rfl) ?_
    obtain ⟨w1, w2, hc3, hf⟩ := bd2_e hf
    refine x_callVV (ws' := [oX12 A_t A_t_now A_t_aside A_t_kept A_t_rhymeOf A_t_wasRhyme A_t_wordAt x_t_wordMany A_t_tape w2 x_t_place0 x_t_length0 x_t_fault x_t_number0 x_t_open x_t_codeMany x_t_waiting x_t_saidMany x_t_clauses A_t_said A_t_waitsAt A_t_saidLetter A_t_saidFrom A_t_saidHalf A_t_saidTo A_t_codes A_t_clauseOf A_t_codeFrom A_t_codeHalf A_t_codeTo A_t_stack A_t_facts x_t_lines A_t_newWords A_t_roundFrom A_t_roundAt A_t_roundTimes x_t_newMany x_t_rounds x_t_itFrom x_t_itTimes x_t_writtenNow x_t_picturesNow x_t_usedNow x_t_chosen x_t_fearOfChosen A_t_leastFrom A_t_rowNow x_t_changesNow x_t_left0 A_t_bornOf A_t_trainsTo A_t_trainAt x_t_trainMany x_t_leastTries x_t_firstTrained x_t_isKept, iA cB 260 A_t_tape w1]) (rest := []) C hK hP hD hS hA hl mf_X12_147 (c_X12_types hc3) [0, 1] 0 12 rfl rfl rfl rfl rfl rfl rfl rfl rfl rfl (Nat.le_of_ble_eq_true rfl) ⟨Nat.le_of_ble_eq_true rfl, Nat.le_of_ble_eq_true rfl⟩ ⟨Nat.le_refl _, Nat.le_refl _⟩ dX12_feed_17 ?_
    intro H locs hP hD hS
    refine lv_aload_n hx hb dX12_feed_20 rfl (lv_at hl 0 rfl) ?_
    refine lv_iload_n hx hb dX12_feed_21 rfl (lv_at hl 2 rfl) ?_
    obtain ⟨w4, w5, hc6, hf⟩ := bd2_e hf
    refine x_callVV (ws' := [oX12 A_t A_t_now A_t_aside A_t_kept A_t_rhymeOf A_t_wasRhyme A_t_wordAt x_t_wordMany A_t_tape w5 x_t_place0 x_t_length0 x_t_fault x_t_number0 x_t_open x_t_codeMany x_t_waiting x_t_saidMany x_t_clauses A_t_said A_t_waitsAt A_t_saidLetter A_t_saidFrom A_t_saidHalf A_t_saidTo A_t_codes A_t_clauseOf A_t_codeFrom A_t_codeHalf A_t_codeTo A_t_stack A_t_facts x_t_lines A_t_newWords A_t_roundFrom A_t_roundAt A_t_roundTimes x_t_newMany x_t_rounds x_t_itFrom x_t_itTimes x_t_writtenNow x_t_picturesNow x_t_usedNow x_t_chosen x_t_fearOfChosen A_t_leastFrom A_t_rowNow x_t_changesNow x_t_left0 A_t_bornOf A_t_trainsTo A_t_trainAt x_t_trainMany x_t_leastTries x_t_firstTrained x_t_isKept, iA cB 260 A_t_tape w4]) (rest := []) C hK hP hD hS hA hl mf_X12_147 (c_X12_types hc6) [0, 1] 0 12 rfl rfl rfl rfl rfl rfl rfl rfl rfl rfl (Nat.le_of_ble_eq_true rfl) ⟨Nat.le_of_ble_eq_true rfl, Nat.le_of_ble_eq_true rfl⟩ ⟨Nat.le_refl _, Nat.le_refl _⟩ dX12_feed_22 ?_
    intro H locs hP hD hS
    refine lv_aload_n hx hb dX12_feed_25 rfl (lv_at hl 0 rfl) ?_
    refine lv_iload_n hx hb dX12_feed_26 rfl (lv_at hl 3 rfl) ?_
    obtain ⟨w7, w8, hc9, hf⟩ := bd2_e hf
    refine x_callVV (ws' := [oX12 A_t A_t_now A_t_aside A_t_kept A_t_rhymeOf A_t_wasRhyme A_t_wordAt x_t_wordMany A_t_tape w8 x_t_place0 x_t_length0 x_t_fault x_t_number0 x_t_open x_t_codeMany x_t_waiting x_t_saidMany x_t_clauses A_t_said A_t_waitsAt A_t_saidLetter A_t_saidFrom A_t_saidHalf A_t_saidTo A_t_codes A_t_clauseOf A_t_codeFrom A_t_codeHalf A_t_codeTo A_t_stack A_t_facts x_t_lines A_t_newWords A_t_roundFrom A_t_roundAt A_t_roundTimes x_t_newMany x_t_rounds x_t_itFrom x_t_itTimes x_t_writtenNow x_t_picturesNow x_t_usedNow x_t_chosen x_t_fearOfChosen A_t_leastFrom A_t_rowNow x_t_changesNow x_t_left0 A_t_bornOf A_t_trainsTo A_t_trainAt x_t_trainMany x_t_leastTries x_t_firstTrained x_t_isKept, iA cB 260 A_t_tape w7]) (rest := []) C hK hP hD hS hA hl mf_X12_147 (c_X12_types hc9) [0, 1] 0 12 rfl rfl rfl rfl rfl rfl rfl rfl rfl rfl (Nat.le_of_ble_eq_true rfl) ⟨Nat.le_of_ble_eq_true rfl, Nat.le_of_ble_eq_true rfl⟩ ⟨Nat.le_refl _, Nat.le_refl _⟩ dX12_feed_27 ?_
    intro H locs hP hD hS
    refine lv_aload_n hx hb dX12_feed_30 rfl (lv_at hl 0 rfl) ?_
    refine lv_iload hx hb dX12_feed_31 (lv_at hl 4 rfl) ?_
    obtain ⟨w10, w11, hc12, hf⟩ := bd2_e hf
    refine x_callVV (ws' := [oX12 A_t A_t_now A_t_aside A_t_kept A_t_rhymeOf A_t_wasRhyme A_t_wordAt x_t_wordMany A_t_tape w11 x_t_place0 x_t_length0 x_t_fault x_t_number0 x_t_open x_t_codeMany x_t_waiting x_t_saidMany x_t_clauses A_t_said A_t_waitsAt A_t_saidLetter A_t_saidFrom A_t_saidHalf A_t_saidTo A_t_codes A_t_clauseOf A_t_codeFrom A_t_codeHalf A_t_codeTo A_t_stack A_t_facts x_t_lines A_t_newWords A_t_roundFrom A_t_roundAt A_t_roundTimes x_t_newMany x_t_rounds x_t_itFrom x_t_itTimes x_t_writtenNow x_t_picturesNow x_t_usedNow x_t_chosen x_t_fearOfChosen A_t_leastFrom A_t_rowNow x_t_changesNow x_t_left0 A_t_bornOf A_t_trainsTo A_t_trainAt x_t_trainMany x_t_leastTries x_t_firstTrained x_t_isKept, iA cB 260 A_t_tape w10]) (rest := []) C hK hP hD hS hA hl mf_X12_147 (c_X12_types hc12) [0, 1] 0 12 rfl rfl rfl rfl rfl rfl rfl rfl rfl rfl (Nat.le_of_ble_eq_true rfl) ⟨Nat.le_of_ble_eq_true rfl, Nat.le_of_ble_eq_true rfl⟩ ⟨Nat.le_refl _, Nat.le_refl _⟩ dX12_feed_33 ?_
    intro H locs hP hD hS
    refine lv_aload_n hx hb dX12_feed_36 rfl (lv_at hl 0 rfl) ?_
    refine lv_iload hx hb dX12_feed_37 (lv_at hl 5 rfl) ?_
    obtain ⟨w13, w14, hc15, hf⟩ := bd2_e hf
    refine x_callVV (ws' := [oX12 A_t A_t_now A_t_aside A_t_kept A_t_rhymeOf A_t_wasRhyme A_t_wordAt x_t_wordMany A_t_tape w14 x_t_place0 x_t_length0 x_t_fault x_t_number0 x_t_open x_t_codeMany x_t_waiting x_t_saidMany x_t_clauses A_t_said A_t_waitsAt A_t_saidLetter A_t_saidFrom A_t_saidHalf A_t_saidTo A_t_codes A_t_clauseOf A_t_codeFrom A_t_codeHalf A_t_codeTo A_t_stack A_t_facts x_t_lines A_t_newWords A_t_roundFrom A_t_roundAt A_t_roundTimes x_t_newMany x_t_rounds x_t_itFrom x_t_itTimes x_t_writtenNow x_t_picturesNow x_t_usedNow x_t_chosen x_t_fearOfChosen A_t_leastFrom A_t_rowNow x_t_changesNow x_t_left0 A_t_bornOf A_t_trainsTo A_t_trainAt x_t_trainMany x_t_leastTries x_t_firstTrained x_t_isKept, iA cB 260 A_t_tape w13]) (rest := []) C hK hP hD hS hA hl mf_X12_147 (c_X12_types hc15) [0, 1] 0 12 rfl rfl rfl rfl rfl rfl rfl rfl rfl rfl (Nat.le_of_ble_eq_true rfl) ⟨Nat.le_of_ble_eq_true rfl, Nat.le_of_ble_eq_true rfl⟩ ⟨Nat.le_refl _, Nat.le_refl _⟩ dX12_feed_39 ?_
    intro H locs hP hD hS
    refine lv_aload_n hx hb dX12_feed_42 rfl (lv_at hl 0 rfl) ?_
    refine x_get C hK hP fd_X12_143 0 rfl rfl dX12_feed_43 ?_
    obtain ⟨rfl, rfl, rfl⟩ := ev3 hf
    exact x_iret C hr hlk hP hD hS dX12_feed_46
  · have hf := if_f q hf
    refine lv_iconst (v := -1) hx hb dX12_feed_13 (by decide) ?_
    obtain ⟨rfl, rfl, rfl⟩ := ev3 hf
    exact x_iret C hr hlk hP hD hS dX12_feed_14
def f_X12_octet (v_t_tape : (Nat → Int32)) (a1 : Int32) : Option (Int32) :=
  gI 260 v_t_tape a1 (fun g1 =>
  some (g1 &&& (255 : Int32)))
set_option maxHeartbeats 4000000 in
set_option maxRecDepth 100000 in
theorem c_X12_octet {l : Launch} {D : va_G} {cI cB : ClassId} {A_t A_t_now A_t_aside A_t_kept A_t_rhymeOf A_t_wasRhyme A_t_wordAt A_t_tape A_t_said A_t_waitsAt A_t_saidLetter A_t_saidFrom A_t_saidHalf A_t_saidTo A_t_codes A_t_clauseOf A_t_codeFrom A_t_codeHalf A_t_codeTo A_t_stack A_t_facts A_t_newWords A_t_roundFrom A_t_roundAt A_t_roundTimes A_t_leastFrom A_t_rowNow A_t_bornOf A_t_trainsTo A_t_trainAt : Nat} {x_t_wordMany x_t_taped x_t_place0 x_t_length0 x_t_fault x_t_number0 x_t_open x_t_codeMany x_t_waiting x_t_saidMany x_t_clauses x_t_lines x_t_newMany x_t_rounds x_t_itFrom x_t_itTimes x_t_writtenNow x_t_picturesNow x_t_usedNow x_t_chosen x_t_fearOfChosen x_t_changesNow x_t_left0 x_t_trainMany x_t_leastTries x_t_firstTrained x_t_isKept a1 : Int32} {v_t_tape : Nat → Int32} {o_r : Int32} (hf : f_X12_octet v_t_tape a1 = some o_r) : CtI l D cI cB yX12_octet cX12_octet 2 (some .int) 0 0 [.ref A_t, .int a1] [oX12 A_t A_t_now A_t_aside A_t_kept A_t_rhymeOf A_t_wasRhyme A_t_wordAt x_t_wordMany A_t_tape x_t_taped x_t_place0 x_t_length0 x_t_fault x_t_number0 x_t_open x_t_codeMany x_t_waiting x_t_saidMany x_t_clauses A_t_said A_t_waitsAt A_t_saidLetter A_t_saidFrom A_t_saidHalf A_t_saidTo A_t_codes A_t_clauseOf A_t_codeFrom A_t_codeHalf A_t_codeTo A_t_stack A_t_facts x_t_lines A_t_newWords A_t_roundFrom A_t_roundAt A_t_roundTimes x_t_newMany x_t_rounds x_t_itFrom x_t_itTimes x_t_writtenNow x_t_picturesNow x_t_usedNow x_t_chosen x_t_fearOfChosen A_t_leastFrom A_t_rowNow x_t_changesNow x_t_left0 A_t_bornOf A_t_trainsTo A_t_trainAt x_t_trainMany x_t_leastTries x_t_firstTrained x_t_isKept, iA cB 260 A_t_tape v_t_tape] [oX12 A_t A_t_now A_t_aside A_t_kept A_t_rhymeOf A_t_wasRhyme A_t_wordAt x_t_wordMany A_t_tape x_t_taped x_t_place0 x_t_length0 x_t_fault x_t_number0 x_t_open x_t_codeMany x_t_waiting x_t_saidMany x_t_clauses A_t_said A_t_waitsAt A_t_saidLetter A_t_saidFrom A_t_saidHalf A_t_saidTo A_t_codes A_t_clauseOf A_t_codeFrom A_t_codeHalf A_t_codeTo A_t_stack A_t_facts x_t_lines A_t_newWords A_t_roundFrom A_t_roundAt A_t_roundTimes x_t_newMany x_t_rounds x_t_itFrom x_t_itTimes x_t_writtenNow x_t_picturesNow x_t_usedNow x_t_chosen x_t_fearOfChosen A_t_leastFrom A_t_rowNow x_t_changesNow x_t_left0 A_t_bornOf A_t_trainsTo A_t_trainAt x_t_trainMany x_t_leastTries x_t_firstTrained x_t_isKept, iA cB 260 A_t_tape v_t_tape] o_r := by
  refine x_startI (by decide) (Nat.le_of_ble_eq_true rfl) ?_
  intro p e s m below meth c A C hr hlk hA hK hP hD hS ls hl
  have hl : lv_has ls 2 [(0, .ref A_t), (1, .int a1)] := hl
  have hx := C.1
  have hb := C.2.1
  unfold f_X12_octet at hf
  refine lv_aload_n hx hb dX12_octet_0 rfl (lv_at hl 0 rfl) ?_
  refine x_get C hK hP fd_X12_28 0 rfl rfl dX12_octet_1 ?_
  refine lv_iload_n hx hb dX12_octet_4 rfl (lv_at hl 1 rfl) ?_
  obtain ⟨hi, hf⟩ := gI_e hf
  refine x_bald C hK hP 1 rfl hi dX12_octet_5 ?_
  refine lv_sipush (v := 255) hx hb dX12_octet_6 (by decide) ?_
  refine lv_iand hx hb dX12_octet_9 ?_
  obtain rfl := ev1 hf
  exact x_iret C hr hlk hP hD hS dX12_octet_10
def f_X12_here_b28 (s0 : Int32) : Option (Int32) :=
  some s0
def f_X12_here (v_t_tape : (Nat → Int32)) (x_t_length0 : Int32) (x_t_place0 : Int32) : Option (Int32) :=
  if x_t_length0 ≤ x_t_place0 then
    f_X12_here_b28 (-1 : Int32)
  else
    gI 260 v_t_tape x_t_place0 (fun g1 =>
    f_X12_here_b28 (g1 &&& (255 : Int32)))
set_option maxHeartbeats 4000000 in
set_option maxRecDepth 100000 in
theorem c_X12_here {l : Launch} {D : va_G} {cI cB : ClassId} {A_t A_t_now A_t_aside A_t_kept A_t_rhymeOf A_t_wasRhyme A_t_wordAt A_t_tape A_t_said A_t_waitsAt A_t_saidLetter A_t_saidFrom A_t_saidHalf A_t_saidTo A_t_codes A_t_clauseOf A_t_codeFrom A_t_codeHalf A_t_codeTo A_t_stack A_t_facts A_t_newWords A_t_roundFrom A_t_roundAt A_t_roundTimes A_t_leastFrom A_t_rowNow A_t_bornOf A_t_trainsTo A_t_trainAt : Nat} {x_t_wordMany x_t_taped x_t_place0 x_t_length0 x_t_fault x_t_number0 x_t_open x_t_codeMany x_t_waiting x_t_saidMany x_t_clauses x_t_lines x_t_newMany x_t_rounds x_t_itFrom x_t_itTimes x_t_writtenNow x_t_picturesNow x_t_usedNow x_t_chosen x_t_fearOfChosen x_t_changesNow x_t_left0 x_t_trainMany x_t_leastTries x_t_firstTrained x_t_isKept : Int32} {v_t_tape : Nat → Int32} {o_r : Int32} (hf : f_X12_here v_t_tape x_t_length0 x_t_place0 = some o_r) : CtI l D cI cB yX12_here cX12_here 1 (some .int) 0 0 [.ref A_t] [oX12 A_t A_t_now A_t_aside A_t_kept A_t_rhymeOf A_t_wasRhyme A_t_wordAt x_t_wordMany A_t_tape x_t_taped x_t_place0 x_t_length0 x_t_fault x_t_number0 x_t_open x_t_codeMany x_t_waiting x_t_saidMany x_t_clauses A_t_said A_t_waitsAt A_t_saidLetter A_t_saidFrom A_t_saidHalf A_t_saidTo A_t_codes A_t_clauseOf A_t_codeFrom A_t_codeHalf A_t_codeTo A_t_stack A_t_facts x_t_lines A_t_newWords A_t_roundFrom A_t_roundAt A_t_roundTimes x_t_newMany x_t_rounds x_t_itFrom x_t_itTimes x_t_writtenNow x_t_picturesNow x_t_usedNow x_t_chosen x_t_fearOfChosen A_t_leastFrom A_t_rowNow x_t_changesNow x_t_left0 A_t_bornOf A_t_trainsTo A_t_trainAt x_t_trainMany x_t_leastTries x_t_firstTrained x_t_isKept, iA cB 260 A_t_tape v_t_tape] [oX12 A_t A_t_now A_t_aside A_t_kept A_t_rhymeOf A_t_wasRhyme A_t_wordAt x_t_wordMany A_t_tape x_t_taped x_t_place0 x_t_length0 x_t_fault x_t_number0 x_t_open x_t_codeMany x_t_waiting x_t_saidMany x_t_clauses A_t_said A_t_waitsAt A_t_saidLetter A_t_saidFrom A_t_saidHalf A_t_saidTo A_t_codes A_t_clauseOf A_t_codeFrom A_t_codeHalf A_t_codeTo A_t_stack A_t_facts x_t_lines A_t_newWords A_t_roundFrom A_t_roundAt A_t_roundTimes x_t_newMany x_t_rounds x_t_itFrom x_t_itTimes x_t_writtenNow x_t_picturesNow x_t_usedNow x_t_chosen x_t_fearOfChosen A_t_leastFrom A_t_rowNow x_t_changesNow x_t_left0 A_t_bornOf A_t_trainsTo A_t_trainAt x_t_trainMany x_t_leastTries x_t_firstTrained x_t_isKept, iA cB 260 A_t_tape v_t_tape] o_r := by
  refine x_startI (by decide) (Nat.le_of_ble_eq_true rfl) ?_
  intro p e s m below meth c A C hr hlk hA hK hP hD hS ls hl
  have hl : lv_has ls 1 [(0, .ref A_t)] := hl
  have hx := C.1
  have hb := C.2.1
  unfold f_X12_here at hf
  have hb_28 : ∀ (s0 : Int32) (H : Heap) (locs : List Loc) (ls : Array Slot), lv_has ls 1 [] → va_P D vwCl [oX12 A_t A_t_now A_t_aside A_t_kept A_t_rhymeOf A_t_wasRhyme A_t_wordAt x_t_wordMany A_t_tape x_t_taped x_t_place0 x_t_length0 x_t_fault x_t_number0 x_t_open x_t_codeMany x_t_waiting x_t_saidMany x_t_clauses A_t_said A_t_waitsAt A_t_saidLetter A_t_saidFrom A_t_saidHalf A_t_saidTo A_t_codes A_t_clauseOf A_t_codeFrom A_t_codeHalf A_t_codeTo A_t_stack A_t_facts x_t_lines A_t_newWords A_t_roundFrom A_t_roundAt A_t_roundTimes x_t_newMany x_t_rounds x_t_itFrom x_t_itTimes x_t_writtenNow x_t_picturesNow x_t_usedNow x_t_chosen x_t_fearOfChosen A_t_leastFrom A_t_rowNow x_t_changesNow x_t_left0 A_t_bornOf A_t_trainsTo A_t_trainAt x_t_trainMany x_t_leastTries x_t_firstTrained x_t_isKept, iA cB 260 A_t_tape v_t_tape] H → va_D A [oX12 A_t A_t_now A_t_aside A_t_kept A_t_rhymeOf A_t_wasRhyme A_t_wordAt x_t_wordMany A_t_tape x_t_taped x_t_place0 x_t_length0 x_t_fault x_t_number0 x_t_open x_t_codeMany x_t_waiting x_t_saidMany x_t_clauses A_t_said A_t_waitsAt A_t_saidLetter A_t_saidFrom A_t_saidHalf A_t_saidTo A_t_codes A_t_clauseOf A_t_codeFrom A_t_codeHalf A_t_codeTo A_t_stack A_t_facts x_t_lines A_t_newWords A_t_roundFrom A_t_roundAt A_t_roundTimes x_t_newMany x_t_rounds x_t_itFrom x_t_itTimes x_t_writtenNow x_t_picturesNow x_t_usedNow x_t_chosen x_t_fearOfChosen A_t_leastFrom A_t_rowNow x_t_changesNow x_t_left0 A_t_bornOf A_t_trainsTo A_t_trainAt x_t_trainMany x_t_leastTries x_t_firstTrained x_t_isKept, iA cB 260 A_t_tape v_t_tape] → va_S A s.heap H locs → f_X12_here_b28 s0 = some o_r → W p l e { frames := 0, cells := 0, slots := 0, locals := 0 } s m ([.ref A_t] : List Value).toArray below meth c H locs 0 0 (MQ below (PoI D A [oX12 A_t A_t_now A_t_aside A_t_kept A_t_rhymeOf A_t_wasRhyme A_t_wordAt x_t_wordMany A_t_tape x_t_taped x_t_place0 x_t_length0 x_t_fault x_t_number0 x_t_open x_t_codeMany x_t_waiting x_t_saidMany x_t_clauses A_t_said A_t_waitsAt A_t_saidLetter A_t_saidFrom A_t_saidHalf A_t_saidTo A_t_codes A_t_clauseOf A_t_codeFrom A_t_codeHalf A_t_codeTo A_t_stack A_t_facts x_t_lines A_t_newWords A_t_roundFrom A_t_roundAt A_t_roundTimes x_t_newMany x_t_rounds x_t_itFrom x_t_itTimes x_t_writtenNow x_t_picturesNow x_t_usedNow x_t_chosen x_t_fearOfChosen A_t_leastFrom A_t_rowNow x_t_changesNow x_t_left0 A_t_bornOf A_t_trainsTo A_t_trainAt x_t_trainMany x_t_leastTries x_t_firstTrained x_t_isKept, iA cB 260 A_t_tape v_t_tape] o_r) ([.ref A_t] : List Value).toArray s 0 0 A) (F0 m 28 ls [.int s0]) := by
    intro s0 H locs ls hl hP hD hS hf
    unfold f_X12_here_b28 at hf
    obtain rfl := ev1 hf
    exact x_iret C hr hlk hP hD hS dX12_here_28
  refine lv_aload_n hx hb dX12_here_0 rfl (lv_at hl 0 rfl) ?_
  refine x_get C hK hP fd_X12_150 0 rfl rfl dX12_here_1 ?_
  refine lv_aload_n hx hb dX12_here_4 rfl (lv_at hl 0 rfl) ?_
  refine x_get C hK hP fd_X12_153 0 rfl rfl dX12_here_5 ?_
  refine lv_icmp_ge (tgt := 27) hx hb dX12_here_8 (by decide) (fun q => ?_) (fun q => ?_)
  · have hf := if_t q hf
    refine lv_iconst (v := -1) hx hb dX12_here_27 (by decide) ?_
    exact hb_28 (-1 : Int32) _ _ ls (lv_sub hl [] rfl) hP hD hS hf
  · have hf := if_f q hf
    refine lv_aload_n hx hb dX12_here_11 rfl (lv_at hl 0 rfl) ?_
    refine x_get C hK hP fd_X12_28 0 rfl rfl dX12_here_12 ?_
    refine lv_aload_n hx hb dX12_here_15 rfl (lv_at hl 0 rfl) ?_
    refine x_get C hK hP fd_X12_150 0 rfl rfl dX12_here_16 ?_
    obtain ⟨hi, hf⟩ := gI_e hf
    refine x_bald C hK hP 1 rfl hi dX12_here_19 ?_
    refine lv_sipush (v := 255) hx hb dX12_here_20 (by decide) ?_
    refine lv_iand hx hb dX12_here_23 ?_
    refine lv_goto (tgt := 28) hx hb dX12_here_24 (by decide) ?_
    exact hb_28 ((v_t_tape x_t_place0.toNatClampNeg) &&& (255 : Int32)) _ _ ls (lv_sub hl [] rfl) hP hD hS hf
def f_X12_isDigit_b23 (s0 : Int32) : Option (Int32) :=
  zI s0 (some s0)
def f_X12_isDigit_b22 : Option (Int32) :=
  f_X12_isDigit_b23 (0 : Int32)
def f_X12_isDigit (v_t_tape : (Nat → Int32)) (x_t_length0 : Int32) (x_t_place0 : Int32) : Option (Int32) :=
  bd1 (f_X12_here v_t_tape x_t_length0 x_t_place0) (fun r1 =>
  if r1 < (48 : Int32) then
    f_X12_isDigit_b22
  else
    bd1 (f_X12_here v_t_tape x_t_length0 x_t_place0) (fun r2 =>
    if (57 : Int32) < r2 then
      f_X12_isDigit_b22
    else
      f_X12_isDigit_b23 (1 : Int32)))
set_option maxHeartbeats 4000000 in
set_option maxRecDepth 100000 in
theorem c_X12_isDigit {l : Launch} {D : va_G} {cI cB : ClassId} {A_t A_t_now A_t_aside A_t_kept A_t_rhymeOf A_t_wasRhyme A_t_wordAt A_t_tape A_t_said A_t_waitsAt A_t_saidLetter A_t_saidFrom A_t_saidHalf A_t_saidTo A_t_codes A_t_clauseOf A_t_codeFrom A_t_codeHalf A_t_codeTo A_t_stack A_t_facts A_t_newWords A_t_roundFrom A_t_roundAt A_t_roundTimes A_t_leastFrom A_t_rowNow A_t_bornOf A_t_trainsTo A_t_trainAt : Nat} {x_t_wordMany x_t_taped x_t_place0 x_t_length0 x_t_fault x_t_number0 x_t_open x_t_codeMany x_t_waiting x_t_saidMany x_t_clauses x_t_lines x_t_newMany x_t_rounds x_t_itFrom x_t_itTimes x_t_writtenNow x_t_picturesNow x_t_usedNow x_t_chosen x_t_fearOfChosen x_t_changesNow x_t_left0 x_t_trainMany x_t_leastTries x_t_firstTrained x_t_isKept : Int32} {v_t_tape : Nat → Int32} {o_r : Int32} (hf : f_X12_isDigit v_t_tape x_t_length0 x_t_place0 = some o_r) : CtI l D cI cB yX12_isDigit cX12_isDigit 1 (some .boolean) 1 20 [.ref A_t] [oX12 A_t A_t_now A_t_aside A_t_kept A_t_rhymeOf A_t_wasRhyme A_t_wordAt x_t_wordMany A_t_tape x_t_taped x_t_place0 x_t_length0 x_t_fault x_t_number0 x_t_open x_t_codeMany x_t_waiting x_t_saidMany x_t_clauses A_t_said A_t_waitsAt A_t_saidLetter A_t_saidFrom A_t_saidHalf A_t_saidTo A_t_codes A_t_clauseOf A_t_codeFrom A_t_codeHalf A_t_codeTo A_t_stack A_t_facts x_t_lines A_t_newWords A_t_roundFrom A_t_roundAt A_t_roundTimes x_t_newMany x_t_rounds x_t_itFrom x_t_itTimes x_t_writtenNow x_t_picturesNow x_t_usedNow x_t_chosen x_t_fearOfChosen A_t_leastFrom A_t_rowNow x_t_changesNow x_t_left0 A_t_bornOf A_t_trainsTo A_t_trainAt x_t_trainMany x_t_leastTries x_t_firstTrained x_t_isKept, iA cB 260 A_t_tape v_t_tape] [oX12 A_t A_t_now A_t_aside A_t_kept A_t_rhymeOf A_t_wasRhyme A_t_wordAt x_t_wordMany A_t_tape x_t_taped x_t_place0 x_t_length0 x_t_fault x_t_number0 x_t_open x_t_codeMany x_t_waiting x_t_saidMany x_t_clauses A_t_said A_t_waitsAt A_t_saidLetter A_t_saidFrom A_t_saidHalf A_t_saidTo A_t_codes A_t_clauseOf A_t_codeFrom A_t_codeHalf A_t_codeTo A_t_stack A_t_facts x_t_lines A_t_newWords A_t_roundFrom A_t_roundAt A_t_roundTimes x_t_newMany x_t_rounds x_t_itFrom x_t_itTimes x_t_writtenNow x_t_picturesNow x_t_usedNow x_t_chosen x_t_fearOfChosen A_t_leastFrom A_t_rowNow x_t_changesNow x_t_left0 A_t_bornOf A_t_trainsTo A_t_trainAt x_t_trainMany x_t_leastTries x_t_firstTrained x_t_isKept, iA cB 260 A_t_tape v_t_tape] o_r := by
  refine x_startI (by decide) (Nat.le_of_ble_eq_true rfl) ?_
  intro p e s m below meth c A C hr hlk hA hK hP hD hS ls hl
  have hl : lv_has ls 1 [(0, .ref A_t)] := hl
  have hx := C.1
  have hb := C.2.1
  unfold f_X12_isDigit at hf
  have hb_23 : ∀ (s0 : Int32) (H : Heap) (locs : List Loc) (ls : Array Slot), lv_has ls 1 [] → va_P D vwCl [oX12 A_t A_t_now A_t_aside A_t_kept A_t_rhymeOf A_t_wasRhyme A_t_wordAt x_t_wordMany A_t_tape x_t_taped x_t_place0 x_t_length0 x_t_fault x_t_number0 x_t_open x_t_codeMany x_t_waiting x_t_saidMany x_t_clauses A_t_said A_t_waitsAt A_t_saidLetter A_t_saidFrom A_t_saidHalf A_t_saidTo A_t_codes A_t_clauseOf A_t_codeFrom A_t_codeHalf A_t_codeTo A_t_stack A_t_facts x_t_lines A_t_newWords A_t_roundFrom A_t_roundAt A_t_roundTimes x_t_newMany x_t_rounds x_t_itFrom x_t_itTimes x_t_writtenNow x_t_picturesNow x_t_usedNow x_t_chosen x_t_fearOfChosen A_t_leastFrom A_t_rowNow x_t_changesNow x_t_left0 A_t_bornOf A_t_trainsTo A_t_trainAt x_t_trainMany x_t_leastTries x_t_firstTrained x_t_isKept, iA cB 260 A_t_tape v_t_tape] H → va_D A [oX12 A_t A_t_now A_t_aside A_t_kept A_t_rhymeOf A_t_wasRhyme A_t_wordAt x_t_wordMany A_t_tape x_t_taped x_t_place0 x_t_length0 x_t_fault x_t_number0 x_t_open x_t_codeMany x_t_waiting x_t_saidMany x_t_clauses A_t_said A_t_waitsAt A_t_saidLetter A_t_saidFrom A_t_saidHalf A_t_saidTo A_t_codes A_t_clauseOf A_t_codeFrom A_t_codeHalf A_t_codeTo A_t_stack A_t_facts x_t_lines A_t_newWords A_t_roundFrom A_t_roundAt A_t_roundTimes x_t_newMany x_t_rounds x_t_itFrom x_t_itTimes x_t_writtenNow x_t_picturesNow x_t_usedNow x_t_chosen x_t_fearOfChosen A_t_leastFrom A_t_rowNow x_t_changesNow x_t_left0 A_t_bornOf A_t_trainsTo A_t_trainAt x_t_trainMany x_t_leastTries x_t_firstTrained x_t_isKept, iA cB 260 A_t_tape v_t_tape] → va_S A s.heap H locs → f_X12_isDigit_b23 s0 = some o_r → W p l e { frames := 1, cells := 0, slots := 0, locals := 20 } s m ([.ref A_t] : List Value).toArray below meth c H locs 0 0 (MQ below (PoI D A [oX12 A_t A_t_now A_t_aside A_t_kept A_t_rhymeOf A_t_wasRhyme A_t_wordAt x_t_wordMany A_t_tape x_t_taped x_t_place0 x_t_length0 x_t_fault x_t_number0 x_t_open x_t_codeMany x_t_waiting x_t_saidMany x_t_clauses A_t_said A_t_waitsAt A_t_saidLetter A_t_saidFrom A_t_saidHalf A_t_saidTo A_t_codes A_t_clauseOf A_t_codeFrom A_t_codeHalf A_t_codeTo A_t_stack A_t_facts x_t_lines A_t_newWords A_t_roundFrom A_t_roundAt A_t_roundTimes x_t_newMany x_t_rounds x_t_itFrom x_t_itTimes x_t_writtenNow x_t_picturesNow x_t_usedNow x_t_chosen x_t_fearOfChosen A_t_leastFrom A_t_rowNow x_t_changesNow x_t_left0 A_t_bornOf A_t_trainsTo A_t_trainAt x_t_trainMany x_t_leastTries x_t_firstTrained x_t_isKept, iA cB 260 A_t_tape v_t_tape] o_r) ([.ref A_t] : List Value).toArray s 0 0 A) (F0 m 23 ls [.int s0]) := by
    intro s0 H locs ls hl hP hD hS hf
    unfold f_X12_isDigit_b23 at hf
    obtain ⟨hz, hf⟩ := zI_e hf
    obtain rfl := ev1 hf
    exact x_zret C hr hlk hz hP hD hS dX12_isDigit_23
  have hb_22 : ∀ (H : Heap) (locs : List Loc) (ls : Array Slot), lv_has ls 1 [] → va_P D vwCl [oX12 A_t A_t_now A_t_aside A_t_kept A_t_rhymeOf A_t_wasRhyme A_t_wordAt x_t_wordMany A_t_tape x_t_taped x_t_place0 x_t_length0 x_t_fault x_t_number0 x_t_open x_t_codeMany x_t_waiting x_t_saidMany x_t_clauses A_t_said A_t_waitsAt A_t_saidLetter A_t_saidFrom A_t_saidHalf A_t_saidTo A_t_codes A_t_clauseOf A_t_codeFrom A_t_codeHalf A_t_codeTo A_t_stack A_t_facts x_t_lines A_t_newWords A_t_roundFrom A_t_roundAt A_t_roundTimes x_t_newMany x_t_rounds x_t_itFrom x_t_itTimes x_t_writtenNow x_t_picturesNow x_t_usedNow x_t_chosen x_t_fearOfChosen A_t_leastFrom A_t_rowNow x_t_changesNow x_t_left0 A_t_bornOf A_t_trainsTo A_t_trainAt x_t_trainMany x_t_leastTries x_t_firstTrained x_t_isKept, iA cB 260 A_t_tape v_t_tape] H → va_D A [oX12 A_t A_t_now A_t_aside A_t_kept A_t_rhymeOf A_t_wasRhyme A_t_wordAt x_t_wordMany A_t_tape x_t_taped x_t_place0 x_t_length0 x_t_fault x_t_number0 x_t_open x_t_codeMany x_t_waiting x_t_saidMany x_t_clauses A_t_said A_t_waitsAt A_t_saidLetter A_t_saidFrom A_t_saidHalf A_t_saidTo A_t_codes A_t_clauseOf A_t_codeFrom A_t_codeHalf A_t_codeTo A_t_stack A_t_facts x_t_lines A_t_newWords A_t_roundFrom A_t_roundAt A_t_roundTimes x_t_newMany x_t_rounds x_t_itFrom x_t_itTimes x_t_writtenNow x_t_picturesNow x_t_usedNow x_t_chosen x_t_fearOfChosen A_t_leastFrom A_t_rowNow x_t_changesNow x_t_left0 A_t_bornOf A_t_trainsTo A_t_trainAt x_t_trainMany x_t_leastTries x_t_firstTrained x_t_isKept, iA cB 260 A_t_tape v_t_tape] → va_S A s.heap H locs → f_X12_isDigit_b22 = some o_r → W p l e { frames := 1, cells := 0, slots := 0, locals := 20 } s m ([.ref A_t] : List Value).toArray below meth c H locs 0 0 (MQ below (PoI D A [oX12 A_t A_t_now A_t_aside A_t_kept A_t_rhymeOf A_t_wasRhyme A_t_wordAt x_t_wordMany A_t_tape x_t_taped x_t_place0 x_t_length0 x_t_fault x_t_number0 x_t_open x_t_codeMany x_t_waiting x_t_saidMany x_t_clauses A_t_said A_t_waitsAt A_t_saidLetter A_t_saidFrom A_t_saidHalf A_t_saidTo A_t_codes A_t_clauseOf A_t_codeFrom A_t_codeHalf A_t_codeTo A_t_stack A_t_facts x_t_lines A_t_newWords A_t_roundFrom A_t_roundAt A_t_roundTimes x_t_newMany x_t_rounds x_t_itFrom x_t_itTimes x_t_writtenNow x_t_picturesNow x_t_usedNow x_t_chosen x_t_fearOfChosen A_t_leastFrom A_t_rowNow x_t_changesNow x_t_left0 A_t_bornOf A_t_trainsTo A_t_trainAt x_t_trainMany x_t_leastTries x_t_firstTrained x_t_isKept, iA cB 260 A_t_tape v_t_tape] o_r) ([.ref A_t] : List Value).toArray s 0 0 A) (F0 m 22 ls []) := by
    intro H locs ls hl hP hD hS hf
    unfold f_X12_isDigit_b22 at hf
    refine lv_iconst (v := 0) hx hb dX12_isDigit_22 (by decide) ?_
    exact hb_23 (0 : Int32) _ _ ls (lv_sub hl [] rfl) hP hD hS hf
  refine lv_aload_n hx hb dX12_isDigit_0 rfl (lv_at hl 0 rfl) ?_
  obtain ⟨r1, hc2, hf⟩ := bd1_e hf
  refine x_callVI (ws' := [oX12 A_t A_t_now A_t_aside A_t_kept A_t_rhymeOf A_t_wasRhyme A_t_wordAt x_t_wordMany A_t_tape x_t_taped x_t_place0 x_t_length0 x_t_fault x_t_number0 x_t_open x_t_codeMany x_t_waiting x_t_saidMany x_t_clauses A_t_said A_t_waitsAt A_t_saidLetter A_t_saidFrom A_t_saidHalf A_t_saidTo A_t_codes A_t_clauseOf A_t_codeFrom A_t_codeHalf A_t_codeTo A_t_stack A_t_facts x_t_lines A_t_newWords A_t_roundFrom A_t_roundAt A_t_roundTimes x_t_newMany x_t_rounds x_t_itFrom x_t_itTimes x_t_writtenNow x_t_picturesNow x_t_usedNow x_t_chosen x_t_fearOfChosen A_t_leastFrom A_t_rowNow x_t_changesNow x_t_left0 A_t_bornOf A_t_trainsTo A_t_trainAt x_t_trainMany x_t_leastTries x_t_firstTrained x_t_isKept, iA cB 260 A_t_tape v_t_tape]) (rest := []) C hK hP hD hS hA hl mf_X12_156 (c_X12_here hc2) [0, 1] 0 12 rfl rfl rfl rfl rfl rfl rfl rfl rfl rfl (Nat.le_of_ble_eq_true rfl) ⟨Nat.le_of_ble_eq_true rfl, Nat.le_of_ble_eq_true rfl⟩ ⟨Nat.le_refl _, Nat.le_refl _⟩ dX12_isDigit_1 ?_
  intro H locs hP hD hS
  refine lv_bipush (v := 48) hx hb dX12_isDigit_4 (by decide) ?_
  refine lv_icmp_lt (tgt := 22) hx hb dX12_isDigit_6 (by decide) (fun q => ?_) (fun q => ?_)
  · have hf := if_t q hf
    exact hb_22 _ _ ls (lv_sub hl [] rfl) hP hD hS hf
  · have hf := if_f q hf
    refine lv_aload_n hx hb dX12_isDigit_9 rfl (lv_at hl 0 rfl) ?_
    obtain ⟨r3, hc4, hf⟩ := bd1_e hf
    refine x_callVI (ws' := [oX12 A_t A_t_now A_t_aside A_t_kept A_t_rhymeOf A_t_wasRhyme A_t_wordAt x_t_wordMany A_t_tape x_t_taped x_t_place0 x_t_length0 x_t_fault x_t_number0 x_t_open x_t_codeMany x_t_waiting x_t_saidMany x_t_clauses A_t_said A_t_waitsAt A_t_saidLetter A_t_saidFrom A_t_saidHalf A_t_saidTo A_t_codes A_t_clauseOf A_t_codeFrom A_t_codeHalf A_t_codeTo A_t_stack A_t_facts x_t_lines A_t_newWords A_t_roundFrom A_t_roundAt A_t_roundTimes x_t_newMany x_t_rounds x_t_itFrom x_t_itTimes x_t_writtenNow x_t_picturesNow x_t_usedNow x_t_chosen x_t_fearOfChosen A_t_leastFrom A_t_rowNow x_t_changesNow x_t_left0 A_t_bornOf A_t_trainsTo A_t_trainAt x_t_trainMany x_t_leastTries x_t_firstTrained x_t_isKept, iA cB 260 A_t_tape v_t_tape]) (rest := []) C hK hP hD hS hA hl mf_X12_156 (c_X12_here hc4) [0, 1] 0 12 rfl rfl rfl rfl rfl rfl rfl rfl rfl rfl (Nat.le_of_ble_eq_true rfl) ⟨Nat.le_of_ble_eq_true rfl, Nat.le_of_ble_eq_true rfl⟩ ⟨Nat.le_refl _, Nat.le_refl _⟩ dX12_isDigit_10 ?_
    intro H locs hP hD hS
    refine lv_bipush (v := 57) hx hb dX12_isDigit_13 (by decide) ?_
    refine lv_icmp_gt (tgt := 22) hx hb dX12_isDigit_15 (by decide) (fun q => ?_) (fun q => ?_)
    · have hf := if_t q hf
      exact hb_22 _ _ ls (lv_sub hl [] rfl) hP hD hS hf
    · have hf := if_f q hf
      refine lv_iconst (v := 1) hx hb dX12_isDigit_18 (by decide) ?_
      refine lv_goto (tgt := 23) hx hb dX12_isDigit_19 (by decide) ?_
      exact hb_23 (1 : Int32) _ _ ls (lv_sub hl [] rfl) hP hD hS hf
def f_X12_wrongAt (x_t_fault : Int32) (a1 : Int32) (a2 : Int32) : Option (Int32 × Int32) :=
  some ((0 : Int32), (((-1000 : Int32) * a1) - a2))
set_option maxHeartbeats 4000000 in
set_option maxRecDepth 100000 in
theorem c_X12_wrongAt {l : Launch} {D : va_G} {cI cB : ClassId} {A_t A_t_now A_t_aside A_t_kept A_t_rhymeOf A_t_wasRhyme A_t_wordAt A_t_tape A_t_said A_t_waitsAt A_t_saidLetter A_t_saidFrom A_t_saidHalf A_t_saidTo A_t_codes A_t_clauseOf A_t_codeFrom A_t_codeHalf A_t_codeTo A_t_stack A_t_facts A_t_newWords A_t_roundFrom A_t_roundAt A_t_roundTimes A_t_leastFrom A_t_rowNow A_t_bornOf A_t_trainsTo A_t_trainAt : Nat} {x_t_wordMany x_t_taped x_t_place0 x_t_length0 x_t_fault x_t_number0 x_t_open x_t_codeMany x_t_waiting x_t_saidMany x_t_clauses x_t_lines x_t_newMany x_t_rounds x_t_itFrom x_t_itTimes x_t_writtenNow x_t_picturesNow x_t_usedNow x_t_chosen x_t_fearOfChosen x_t_changesNow x_t_left0 x_t_trainMany x_t_leastTries x_t_firstTrained x_t_isKept a1 a2 : Int32} {o_r o_x_t_fault : Int32} (hf : f_X12_wrongAt x_t_fault a1 a2 = some (o_r, o_x_t_fault)) : CtI l D cI cB yX12_wrongAt cX12_wrongAt 3 (some .boolean) 0 0 [.ref A_t, .int a1, .int a2] [oX12 A_t A_t_now A_t_aside A_t_kept A_t_rhymeOf A_t_wasRhyme A_t_wordAt x_t_wordMany A_t_tape x_t_taped x_t_place0 x_t_length0 x_t_fault x_t_number0 x_t_open x_t_codeMany x_t_waiting x_t_saidMany x_t_clauses A_t_said A_t_waitsAt A_t_saidLetter A_t_saidFrom A_t_saidHalf A_t_saidTo A_t_codes A_t_clauseOf A_t_codeFrom A_t_codeHalf A_t_codeTo A_t_stack A_t_facts x_t_lines A_t_newWords A_t_roundFrom A_t_roundAt A_t_roundTimes x_t_newMany x_t_rounds x_t_itFrom x_t_itTimes x_t_writtenNow x_t_picturesNow x_t_usedNow x_t_chosen x_t_fearOfChosen A_t_leastFrom A_t_rowNow x_t_changesNow x_t_left0 A_t_bornOf A_t_trainsTo A_t_trainAt x_t_trainMany x_t_leastTries x_t_firstTrained x_t_isKept] [oX12 A_t A_t_now A_t_aside A_t_kept A_t_rhymeOf A_t_wasRhyme A_t_wordAt x_t_wordMany A_t_tape x_t_taped x_t_place0 x_t_length0 o_x_t_fault x_t_number0 x_t_open x_t_codeMany x_t_waiting x_t_saidMany x_t_clauses A_t_said A_t_waitsAt A_t_saidLetter A_t_saidFrom A_t_saidHalf A_t_saidTo A_t_codes A_t_clauseOf A_t_codeFrom A_t_codeHalf A_t_codeTo A_t_stack A_t_facts x_t_lines A_t_newWords A_t_roundFrom A_t_roundAt A_t_roundTimes x_t_newMany x_t_rounds x_t_itFrom x_t_itTimes x_t_writtenNow x_t_picturesNow x_t_usedNow x_t_chosen x_t_fearOfChosen A_t_leastFrom A_t_rowNow x_t_changesNow x_t_left0 A_t_bornOf A_t_trainsTo A_t_trainAt x_t_trainMany x_t_leastTries x_t_firstTrained x_t_isKept] o_r := by
  refine x_startI (by decide) (Nat.le_of_ble_eq_true rfl) ?_
  intro p e s m below meth c A C hr hlk hA hK hP hD hS ls hl
  have hl : lv_has ls 3 [(0, .ref A_t), (1, .int a1), (2, .int a2)] := hl
  have hx := C.1
  have hb := C.2.1
  unfold f_X12_wrongAt at hf
  refine lv_aload_n hx hb dX12_wrongAt_0 rfl (lv_at hl 0 rfl) ?_
  refine lv_sipush (v := -1000) hx hb dX12_wrongAt_1 (by decide) ?_
  refine lv_iload_n hx hb dX12_wrongAt_4 rfl (lv_at hl 1 rfl) ?_
  refine lv_imul hx hb dX12_wrongAt_5 ?_
  refine lv_iload_n hx hb dX12_wrongAt_6 rfl (lv_at hl 2 rfl) ?_
  refine lv_isub hx hb dX12_wrongAt_7 ?_
  refine x_put (ws' := [oX12 A_t A_t_now A_t_aside A_t_kept A_t_rhymeOf A_t_wasRhyme A_t_wordAt x_t_wordMany A_t_tape x_t_taped x_t_place0 x_t_length0 (((-1000 : Int32) * a1) - a2) x_t_number0 x_t_open x_t_codeMany x_t_waiting x_t_saidMany x_t_clauses A_t_said A_t_waitsAt A_t_saidLetter A_t_saidFrom A_t_saidHalf A_t_saidTo A_t_codes A_t_clauseOf A_t_codeFrom A_t_codeHalf A_t_codeTo A_t_stack A_t_facts x_t_lines A_t_newWords A_t_roundFrom A_t_roundAt A_t_roundTimes x_t_newMany x_t_rounds x_t_itFrom x_t_itTimes x_t_writtenNow x_t_picturesNow x_t_usedNow x_t_chosen x_t_fearOfChosen A_t_leastFrom A_t_rowNow x_t_changesNow x_t_left0 A_t_bornOf A_t_trainsTo A_t_trainAt x_t_trainMany x_t_leastTries x_t_firstTrained x_t_isKept]) C hK hP hD hS fp_X12_160 0 rfl rfl rfl (Nat.le_of_ble_eq_true rfl) rfl dX12_wrongAt_8 ?_
  intro H locs hP hD hS
  refine lv_iconst (v := 0) hx hb dX12_wrongAt_11 (by decide) ?_
  obtain ⟨rfl, rfl⟩ := ev2 hf
  exact x_zret C hr hlk (Or.inl rfl) hP hD hS dX12_wrongAt_12
def f_X12_takes (v_t_tape : (Nat → Int32)) (x_t_fault : Int32) (x_t_length0 : Int32) (x_t_place0 : Int32) (a1 : Int32) : Option (Int32 × Int32 × Int32) :=
  bd1 (f_X12_here v_t_tape x_t_length0 x_t_place0) (fun r1 =>
  if r1 = a1 then
    some ((1 : Int32), x_t_fault, (x_t_place0 + (1 : Int32)))
  else
    bd2 (f_X12_wrongAt x_t_fault (1 : Int32) x_t_place0) (fun r2 w3 =>
    zI r2 (some (r2, w3, x_t_place0))))
set_option maxHeartbeats 4000000 in
set_option maxRecDepth 100000 in
theorem c_X12_takes {l : Launch} {D : va_G} {cI cB : ClassId} {A_t A_t_now A_t_aside A_t_kept A_t_rhymeOf A_t_wasRhyme A_t_wordAt A_t_tape A_t_said A_t_waitsAt A_t_saidLetter A_t_saidFrom A_t_saidHalf A_t_saidTo A_t_codes A_t_clauseOf A_t_codeFrom A_t_codeHalf A_t_codeTo A_t_stack A_t_facts A_t_newWords A_t_roundFrom A_t_roundAt A_t_roundTimes A_t_leastFrom A_t_rowNow A_t_bornOf A_t_trainsTo A_t_trainAt : Nat} {x_t_wordMany x_t_taped x_t_place0 x_t_length0 x_t_fault x_t_number0 x_t_open x_t_codeMany x_t_waiting x_t_saidMany x_t_clauses x_t_lines x_t_newMany x_t_rounds x_t_itFrom x_t_itTimes x_t_writtenNow x_t_picturesNow x_t_usedNow x_t_chosen x_t_fearOfChosen x_t_changesNow x_t_left0 x_t_trainMany x_t_leastTries x_t_firstTrained x_t_isKept a1 : Int32} {v_t_tape : Nat → Int32} {o_r o_x_t_fault o_x_t_place0 : Int32} (hf : f_X12_takes v_t_tape x_t_fault x_t_length0 x_t_place0 a1 = some (o_r, o_x_t_fault, o_x_t_place0)) : CtI l D cI cB yX12_takes cX12_takes 2 (some .boolean) 1 22 [.ref A_t, .int a1] [oX12 A_t A_t_now A_t_aside A_t_kept A_t_rhymeOf A_t_wasRhyme A_t_wordAt x_t_wordMany A_t_tape x_t_taped x_t_place0 x_t_length0 x_t_fault x_t_number0 x_t_open x_t_codeMany x_t_waiting x_t_saidMany x_t_clauses A_t_said A_t_waitsAt A_t_saidLetter A_t_saidFrom A_t_saidHalf A_t_saidTo A_t_codes A_t_clauseOf A_t_codeFrom A_t_codeHalf A_t_codeTo A_t_stack A_t_facts x_t_lines A_t_newWords A_t_roundFrom A_t_roundAt A_t_roundTimes x_t_newMany x_t_rounds x_t_itFrom x_t_itTimes x_t_writtenNow x_t_picturesNow x_t_usedNow x_t_chosen x_t_fearOfChosen A_t_leastFrom A_t_rowNow x_t_changesNow x_t_left0 A_t_bornOf A_t_trainsTo A_t_trainAt x_t_trainMany x_t_leastTries x_t_firstTrained x_t_isKept, iA cB 260 A_t_tape v_t_tape] [oX12 A_t A_t_now A_t_aside A_t_kept A_t_rhymeOf A_t_wasRhyme A_t_wordAt x_t_wordMany A_t_tape x_t_taped o_x_t_place0 x_t_length0 o_x_t_fault x_t_number0 x_t_open x_t_codeMany x_t_waiting x_t_saidMany x_t_clauses A_t_said A_t_waitsAt A_t_saidLetter A_t_saidFrom A_t_saidHalf A_t_saidTo A_t_codes A_t_clauseOf A_t_codeFrom A_t_codeHalf A_t_codeTo A_t_stack A_t_facts x_t_lines A_t_newWords A_t_roundFrom A_t_roundAt A_t_roundTimes x_t_newMany x_t_rounds x_t_itFrom x_t_itTimes x_t_writtenNow x_t_picturesNow x_t_usedNow x_t_chosen x_t_fearOfChosen A_t_leastFrom A_t_rowNow x_t_changesNow x_t_left0 A_t_bornOf A_t_trainsTo A_t_trainAt x_t_trainMany x_t_leastTries x_t_firstTrained x_t_isKept, iA cB 260 A_t_tape v_t_tape] o_r := by
  refine x_startI (by decide) (Nat.le_of_ble_eq_true rfl) ?_
  intro p e s m below meth c A C hr hlk hA hK hP hD hS ls hl
  have hl : lv_has ls 2 [(0, .ref A_t), (1, .int a1)] := hl
  have hx := C.1
  have hb := C.2.1
  unfold f_X12_takes at hf
  refine lv_aload_n hx hb dX12_takes_0 rfl (lv_at hl 0 rfl) ?_
  obtain ⟨r1, hc2, hf⟩ := bd1_e hf
  refine x_callVI (ws' := [oX12 A_t A_t_now A_t_aside A_t_kept A_t_rhymeOf A_t_wasRhyme A_t_wordAt x_t_wordMany A_t_tape x_t_taped x_t_place0 x_t_length0 x_t_fault x_t_number0 x_t_open x_t_codeMany x_t_waiting x_t_saidMany x_t_clauses A_t_said A_t_waitsAt A_t_saidLetter A_t_saidFrom A_t_saidHalf A_t_saidTo A_t_codes A_t_clauseOf A_t_codeFrom A_t_codeHalf A_t_codeTo A_t_stack A_t_facts x_t_lines A_t_newWords A_t_roundFrom A_t_roundAt A_t_roundTimes x_t_newMany x_t_rounds x_t_itFrom x_t_itTimes x_t_writtenNow x_t_picturesNow x_t_usedNow x_t_chosen x_t_fearOfChosen A_t_leastFrom A_t_rowNow x_t_changesNow x_t_left0 A_t_bornOf A_t_trainsTo A_t_trainAt x_t_trainMany x_t_leastTries x_t_firstTrained x_t_isKept, iA cB 260 A_t_tape v_t_tape]) (rest := []) C hK hP hD hS hA hl mf_X12_156 (c_X12_here hc2) [0, 1] 0 12 rfl rfl rfl rfl rfl rfl rfl rfl rfl rfl (Nat.le_of_ble_eq_true rfl) ⟨Nat.le_of_ble_eq_true rfl, Nat.le_of_ble_eq_true rfl⟩ ⟨Nat.le_refl _, Nat.le_refl _⟩ dX12_takes_1 ?_
  intro H locs hP hD hS
  refine lv_iload_n hx hb dX12_takes_4 rfl (lv_at hl 1 rfl) ?_
  refine lv_icmp_eq (tgt := 18) hx hb dX12_takes_5 (by decide) (fun q => ?_) (fun q => ?_)
  · have hf := if_t q hf
    refine lv_aload_n hx hb dX12_takes_18 rfl (lv_at hl 0 rfl) ?_
    refine lv_aload_n hx hb dX12_takes_19 rfl (lv_at hl 0 rfl) ?_
    refine x_get C hK hP fd_X12_150 0 rfl rfl dX12_takes_20 ?_
    refine lv_iconst (v := 1) hx hb dX12_takes_23 (by decide) ?_
    refine lv_iadd hx hb dX12_takes_24 ?_
    refine x_put (ws' := [oX12 A_t A_t_now A_t_aside A_t_kept A_t_rhymeOf A_t_wasRhyme A_t_wordAt x_t_wordMany A_t_tape x_t_taped (x_t_place0 + (1 : Int32)) x_t_length0 x_t_fault x_t_number0 x_t_open x_t_codeMany x_t_waiting x_t_saidMany x_t_clauses A_t_said A_t_waitsAt A_t_saidLetter A_t_saidFrom A_t_saidHalf A_t_saidTo A_t_codes A_t_clauseOf A_t_codeFrom A_t_codeHalf A_t_codeTo A_t_stack A_t_facts x_t_lines A_t_newWords A_t_roundFrom A_t_roundAt A_t_roundTimes x_t_newMany x_t_rounds x_t_itFrom x_t_itTimes x_t_writtenNow x_t_picturesNow x_t_usedNow x_t_chosen x_t_fearOfChosen A_t_leastFrom A_t_rowNow x_t_changesNow x_t_left0 A_t_bornOf A_t_trainsTo A_t_trainAt x_t_trainMany x_t_leastTries x_t_firstTrained x_t_isKept, iA cB 260 A_t_tape v_t_tape]) C hK hP hD hS fp_X12_150 0 rfl rfl rfl (Nat.le_of_ble_eq_true rfl) rfl dX12_takes_25 ?_
    intro H locs hP hD hS
    refine lv_iconst (v := 1) hx hb dX12_takes_28 (by decide) ?_
    obtain ⟨rfl, rfl, rfl⟩ := ev3 hf
    exact x_zret C hr hlk (Or.inr rfl) hP hD hS dX12_takes_29
  · have hf := if_f q hf
    refine lv_aload_n hx hb dX12_takes_8 rfl (lv_at hl 0 rfl) ?_
    refine lv_iconst (v := 1) hx hb dX12_takes_9 (by decide) ?_
    refine lv_aload_n hx hb dX12_takes_10 rfl (lv_at hl 0 rfl) ?_
    refine x_get C hK hP fd_X12_150 0 rfl rfl dX12_takes_11 ?_
    obtain ⟨r3, w4, hc5, hf⟩ := bd2_e hf
    refine x_callVI (ws' := [oX12 A_t A_t_now A_t_aside A_t_kept A_t_rhymeOf A_t_wasRhyme A_t_wordAt x_t_wordMany A_t_tape x_t_taped x_t_place0 x_t_length0 w4 x_t_number0 x_t_open x_t_codeMany x_t_waiting x_t_saidMany x_t_clauses A_t_said A_t_waitsAt A_t_saidLetter A_t_saidFrom A_t_saidHalf A_t_saidTo A_t_codes A_t_clauseOf A_t_codeFrom A_t_codeHalf A_t_codeTo A_t_stack A_t_facts x_t_lines A_t_newWords A_t_roundFrom A_t_roundAt A_t_roundTimes x_t_newMany x_t_rounds x_t_itFrom x_t_itTimes x_t_writtenNow x_t_picturesNow x_t_usedNow x_t_chosen x_t_fearOfChosen A_t_leastFrom A_t_rowNow x_t_changesNow x_t_left0 A_t_bornOf A_t_trainsTo A_t_trainAt x_t_trainMany x_t_leastTries x_t_firstTrained x_t_isKept, iA cB 260 A_t_tape v_t_tape]) (rest := []) C hK hP hD hS hA hl mf_X12_163 (c_X12_wrongAt hc5) [0] 0 12 rfl rfl rfl rfl rfl rfl rfl rfl rfl rfl (Nat.le_of_ble_eq_true rfl) ⟨Nat.le_of_ble_eq_true rfl, Nat.le_of_ble_eq_true rfl⟩ ⟨Nat.le_refl _, Nat.le_refl _⟩ dX12_takes_14 ?_
    intro H locs hP hD hS
    obtain ⟨hz, hf⟩ := zI_e hf
    obtain ⟨rfl, rfl, rfl⟩ := ev3 hf
    exact x_zret C hr hlk hz hP hD hS dX12_takes_17
def f_X12_readsNumber_b10 (v_t_tape : (Nat → Int32)) (x_t_length0 : Int32) : Nat → Int32 → Int32 → Int32 → Int32 → Option (Int32 × Int32 × Int32 × Int32)
  | 0, _, _, _, _ => none
  | n + 1, x_t_fault, x_t_number0, x_t_place0, l1 =>
    bd1 (f_X12_isDigit v_t_tape x_t_length0 x_t_place0) (fun r1 =>
    if r1 = 0 then
      some ((1 : Int32), x_t_fault, x_t_number0, x_t_place0)
    else
      if x_t_place0 = (l1 + (5 : Int32)) then
        bd2 (f_X12_wrongAt x_t_fault (2 : Int32) x_t_place0) (fun r3 w4 =>
        zI r3 (some (r3, w4, x_t_number0, x_t_place0)))
      else
        bd1 (f_X12_here v_t_tape x_t_length0 x_t_place0) (fun r2 =>
        f_X12_readsNumber_b10 v_t_tape x_t_length0 n x_t_fault ((((10 : Int32) * x_t_number0) + r2) - (48 : Int32)) (x_t_place0 + (1 : Int32)) l1))
def f_X12_readsNumber (v_t_tape : (Nat → Int32)) (x_t_fault : Int32) (x_t_length0 : Int32) (x_t_number0 : Int32) (x_t_place0 : Int32) : Option (Int32 × Int32 × Int32 × Int32) :=
  f_X12_readsNumber_b10 v_t_tape x_t_length0 FU x_t_fault (0 : Int32) x_t_place0 x_t_place0
set_option maxHeartbeats 4000000 in
set_option maxRecDepth 100000 in
theorem c_X12_readsNumber {l : Launch} {D : va_G} {cI cB : ClassId} {A_t A_t_now A_t_aside A_t_kept A_t_rhymeOf A_t_wasRhyme A_t_wordAt A_t_tape A_t_said A_t_waitsAt A_t_saidLetter A_t_saidFrom A_t_saidHalf A_t_saidTo A_t_codes A_t_clauseOf A_t_codeFrom A_t_codeHalf A_t_codeTo A_t_stack A_t_facts A_t_newWords A_t_roundFrom A_t_roundAt A_t_roundTimes A_t_leastFrom A_t_rowNow A_t_bornOf A_t_trainsTo A_t_trainAt : Nat} {x_t_wordMany x_t_taped x_t_place0 x_t_length0 x_t_fault x_t_number0 x_t_open x_t_codeMany x_t_waiting x_t_saidMany x_t_clauses x_t_lines x_t_newMany x_t_rounds x_t_itFrom x_t_itTimes x_t_writtenNow x_t_picturesNow x_t_usedNow x_t_chosen x_t_fearOfChosen x_t_changesNow x_t_left0 x_t_trainMany x_t_leastTries x_t_firstTrained x_t_isKept : Int32} {v_t_tape : Nat → Int32} {o_r o_x_t_fault o_x_t_number0 o_x_t_place0 : Int32} (hf : f_X12_readsNumber v_t_tape x_t_fault x_t_length0 x_t_number0 x_t_place0 = some (o_r, o_x_t_fault, o_x_t_number0, o_x_t_place0)) : CtI l D cI cB yX12_readsNumber cX12_readsNumber 2 (some .boolean) 2 40 [.ref A_t] [oX12 A_t A_t_now A_t_aside A_t_kept A_t_rhymeOf A_t_wasRhyme A_t_wordAt x_t_wordMany A_t_tape x_t_taped x_t_place0 x_t_length0 x_t_fault x_t_number0 x_t_open x_t_codeMany x_t_waiting x_t_saidMany x_t_clauses A_t_said A_t_waitsAt A_t_saidLetter A_t_saidFrom A_t_saidHalf A_t_saidTo A_t_codes A_t_clauseOf A_t_codeFrom A_t_codeHalf A_t_codeTo A_t_stack A_t_facts x_t_lines A_t_newWords A_t_roundFrom A_t_roundAt A_t_roundTimes x_t_newMany x_t_rounds x_t_itFrom x_t_itTimes x_t_writtenNow x_t_picturesNow x_t_usedNow x_t_chosen x_t_fearOfChosen A_t_leastFrom A_t_rowNow x_t_changesNow x_t_left0 A_t_bornOf A_t_trainsTo A_t_trainAt x_t_trainMany x_t_leastTries x_t_firstTrained x_t_isKept, iA cB 260 A_t_tape v_t_tape] [oX12 A_t A_t_now A_t_aside A_t_kept A_t_rhymeOf A_t_wasRhyme A_t_wordAt x_t_wordMany A_t_tape x_t_taped o_x_t_place0 x_t_length0 o_x_t_fault o_x_t_number0 x_t_open x_t_codeMany x_t_waiting x_t_saidMany x_t_clauses A_t_said A_t_waitsAt A_t_saidLetter A_t_saidFrom A_t_saidHalf A_t_saidTo A_t_codes A_t_clauseOf A_t_codeFrom A_t_codeHalf A_t_codeTo A_t_stack A_t_facts x_t_lines A_t_newWords A_t_roundFrom A_t_roundAt A_t_roundTimes x_t_newMany x_t_rounds x_t_itFrom x_t_itTimes x_t_writtenNow x_t_picturesNow x_t_usedNow x_t_chosen x_t_fearOfChosen A_t_leastFrom A_t_rowNow x_t_changesNow x_t_left0 A_t_bornOf A_t_trainsTo A_t_trainAt x_t_trainMany x_t_leastTries x_t_firstTrained x_t_isKept, iA cB 260 A_t_tape v_t_tape] o_r := by
  refine x_startI (by decide) (Nat.le_of_ble_eq_true rfl) ?_
  intro p e s m below meth c A C hr hlk hA hK hP hD hS ls hl
  have hl : lv_has ls 2 [(0, .ref A_t)] := hl
  have hx := C.1
  have hb := C.2.1
  unfold f_X12_readsNumber at hf
  have hb_10 : ∀ (n_10 : Nat) (x_t_fault : Int32) (x_t_number0 : Int32) (x_t_place0 : Int32) (l1 : Int32) (H : Heap) (locs : List Loc) (ls : Array Slot), lv_has ls 2 [(0, .ref A_t), (1, .int l1)] → va_P D vwCl [oX12 A_t A_t_now A_t_aside A_t_kept A_t_rhymeOf A_t_wasRhyme A_t_wordAt x_t_wordMany A_t_tape x_t_taped x_t_place0 x_t_length0 x_t_fault x_t_number0 x_t_open x_t_codeMany x_t_waiting x_t_saidMany x_t_clauses A_t_said A_t_waitsAt A_t_saidLetter A_t_saidFrom A_t_saidHalf A_t_saidTo A_t_codes A_t_clauseOf A_t_codeFrom A_t_codeHalf A_t_codeTo A_t_stack A_t_facts x_t_lines A_t_newWords A_t_roundFrom A_t_roundAt A_t_roundTimes x_t_newMany x_t_rounds x_t_itFrom x_t_itTimes x_t_writtenNow x_t_picturesNow x_t_usedNow x_t_chosen x_t_fearOfChosen A_t_leastFrom A_t_rowNow x_t_changesNow x_t_left0 A_t_bornOf A_t_trainsTo A_t_trainAt x_t_trainMany x_t_leastTries x_t_firstTrained x_t_isKept, iA cB 260 A_t_tape v_t_tape] H → va_D A [oX12 A_t A_t_now A_t_aside A_t_kept A_t_rhymeOf A_t_wasRhyme A_t_wordAt x_t_wordMany A_t_tape x_t_taped x_t_place0 x_t_length0 x_t_fault x_t_number0 x_t_open x_t_codeMany x_t_waiting x_t_saidMany x_t_clauses A_t_said A_t_waitsAt A_t_saidLetter A_t_saidFrom A_t_saidHalf A_t_saidTo A_t_codes A_t_clauseOf A_t_codeFrom A_t_codeHalf A_t_codeTo A_t_stack A_t_facts x_t_lines A_t_newWords A_t_roundFrom A_t_roundAt A_t_roundTimes x_t_newMany x_t_rounds x_t_itFrom x_t_itTimes x_t_writtenNow x_t_picturesNow x_t_usedNow x_t_chosen x_t_fearOfChosen A_t_leastFrom A_t_rowNow x_t_changesNow x_t_left0 A_t_bornOf A_t_trainsTo A_t_trainAt x_t_trainMany x_t_leastTries x_t_firstTrained x_t_isKept, iA cB 260 A_t_tape v_t_tape] → va_S A s.heap H locs → f_X12_readsNumber_b10 v_t_tape x_t_length0 n_10 x_t_fault x_t_number0 x_t_place0 l1 = some (o_r, o_x_t_fault, o_x_t_number0, o_x_t_place0) → W p l e { frames := 2, cells := 0, slots := 0, locals := 40 } s m ([.ref A_t] : List Value).toArray below meth c H locs 0 0 (MQ below (PoI D A [oX12 A_t A_t_now A_t_aside A_t_kept A_t_rhymeOf A_t_wasRhyme A_t_wordAt x_t_wordMany A_t_tape x_t_taped o_x_t_place0 x_t_length0 o_x_t_fault o_x_t_number0 x_t_open x_t_codeMany x_t_waiting x_t_saidMany x_t_clauses A_t_said A_t_waitsAt A_t_saidLetter A_t_saidFrom A_t_saidHalf A_t_saidTo A_t_codes A_t_clauseOf A_t_codeFrom A_t_codeHalf A_t_codeTo A_t_stack A_t_facts x_t_lines A_t_newWords A_t_roundFrom A_t_roundAt A_t_roundTimes x_t_newMany x_t_rounds x_t_itFrom x_t_itTimes x_t_writtenNow x_t_picturesNow x_t_usedNow x_t_chosen x_t_fearOfChosen A_t_leastFrom A_t_rowNow x_t_changesNow x_t_left0 A_t_bornOf A_t_trainsTo A_t_trainAt x_t_trainMany x_t_leastTries x_t_firstTrained x_t_isKept, iA cB 260 A_t_tape v_t_tape] o_r) ([.ref A_t] : List Value).toArray s 0 0 A) (F0 m 10 ls []) := by
    intro n_10
    induction n_10 with
    | zero =>
      intro x_t_fault x_t_number0 x_t_place0 l1 H locs ls hl hP hD hS hf
      exact absurd hf (fun h => by rw [f_X12_readsNumber_b10] at h; cases h)
    | succ n_10 ih_10 =>
      intro x_t_fault x_t_number0 x_t_place0 l1 H locs ls hl hP hD hS hf
      rw [f_X12_readsNumber_b10] at hf
      refine lv_aload_n hx hb dX12_readsNumber_10 rfl (lv_at hl 0 rfl) ?_
      obtain ⟨r1, hc2, hf⟩ := bd1_e hf
      refine x_callVI (ws' := [oX12 A_t A_t_now A_t_aside A_t_kept A_t_rhymeOf A_t_wasRhyme A_t_wordAt x_t_wordMany A_t_tape x_t_taped x_t_place0 x_t_length0 x_t_fault x_t_number0 x_t_open x_t_codeMany x_t_waiting x_t_saidMany x_t_clauses A_t_said A_t_waitsAt A_t_saidLetter A_t_saidFrom A_t_saidHalf A_t_saidTo A_t_codes A_t_clauseOf A_t_codeFrom A_t_codeHalf A_t_codeTo A_t_stack A_t_facts x_t_lines A_t_newWords A_t_roundFrom A_t_roundAt A_t_roundTimes x_t_newMany x_t_rounds x_t_itFrom x_t_itTimes x_t_writtenNow x_t_picturesNow x_t_usedNow x_t_chosen x_t_fearOfChosen A_t_leastFrom A_t_rowNow x_t_changesNow x_t_left0 A_t_bornOf A_t_trainsTo A_t_trainAt x_t_trainMany x_t_leastTries x_t_firstTrained x_t_isKept, iA cB 260 A_t_tape v_t_tape]) (rest := []) C hK hP hD hS hA hl mf_X12_169 (c_X12_isDigit hc2) [0, 1] 0 12 rfl rfl rfl rfl rfl rfl rfl rfl rfl rfl (Nat.le_of_ble_eq_true rfl) ⟨Nat.le_of_ble_eq_true rfl, Nat.le_of_ble_eq_true rfl⟩ ⟨Nat.le_refl _, Nat.le_refl _⟩ dX12_readsNumber_11 ?_
      intro H locs hP hD hS
      refine lv_if_eq (tgt := 69) hx hb dX12_readsNumber_14 (by decide) (fun q => ?_) (fun q => ?_)
      · have hf := if_t q hf
        refine lv_iconst (v := 1) hx hb dX12_readsNumber_69 (by decide) ?_
        obtain ⟨rfl, rfl, rfl, rfl⟩ := ev4 hf
        exact x_zret C hr hlk (Or.inr rfl) hP hD hS dX12_readsNumber_70
      · have hf := if_f q hf
        refine lv_aload_n hx hb dX12_readsNumber_17 rfl (lv_at hl 0 rfl) ?_
        refine x_get C hK hP fd_X12_150 0 rfl rfl dX12_readsNumber_18 ?_
        refine lv_iload_n hx hb dX12_readsNumber_21 rfl (lv_at hl 1 rfl) ?_
        refine lv_iconst (v := 5) hx hb dX12_readsNumber_22 (by decide) ?_
        refine lv_iadd hx hb dX12_readsNumber_23 ?_
        refine lv_icmp_ne (tgt := 37) hx hb dX12_readsNumber_24 (by decide) (fun q => ?_) (fun q => ?_)
        · have hf := if_f q hf
          refine lv_aload_n hx hb dX12_readsNumber_37 rfl (lv_at hl 0 rfl) ?_
          refine lv_bipush (v := 10) hx hb dX12_readsNumber_38 (by decide) ?_
          refine lv_aload_n hx hb dX12_readsNumber_40 rfl (lv_at hl 0 rfl) ?_
          refine x_get C hK hP fd_X12_166 0 rfl rfl dX12_readsNumber_41 ?_
          refine lv_imul hx hb dX12_readsNumber_44 ?_
          refine lv_aload_n hx hb dX12_readsNumber_45 rfl (lv_at hl 0 rfl) ?_
          obtain ⟨r3, hc4, hf⟩ := bd1_e hf
          refine x_callVI (ws' := [oX12 A_t A_t_now A_t_aside A_t_kept A_t_rhymeOf A_t_wasRhyme A_t_wordAt x_t_wordMany A_t_tape x_t_taped x_t_place0 x_t_length0 x_t_fault x_t_number0 x_t_open x_t_codeMany x_t_waiting x_t_saidMany x_t_clauses A_t_said A_t_waitsAt A_t_saidLetter A_t_saidFrom A_t_saidHalf A_t_saidTo A_t_codes A_t_clauseOf A_t_codeFrom A_t_codeHalf A_t_codeTo A_t_stack A_t_facts x_t_lines A_t_newWords A_t_roundFrom A_t_roundAt A_t_roundTimes x_t_newMany x_t_rounds x_t_itFrom x_t_itTimes x_t_writtenNow x_t_picturesNow x_t_usedNow x_t_chosen x_t_fearOfChosen A_t_leastFrom A_t_rowNow x_t_changesNow x_t_left0 A_t_bornOf A_t_trainsTo A_t_trainAt x_t_trainMany x_t_leastTries x_t_firstTrained x_t_isKept, iA cB 260 A_t_tape v_t_tape]) (rest := [.int ((10 : Int32) * x_t_number0), .ref A_t]) C hK hP hD hS hA hl mf_X12_156 (c_X12_here hc4) [0, 1] 0 12 rfl rfl rfl rfl rfl rfl rfl rfl rfl rfl (Nat.le_of_ble_eq_true rfl) ⟨Nat.le_of_ble_eq_true rfl, Nat.le_of_ble_eq_true rfl⟩ ⟨Nat.le_refl _, Nat.le_refl _⟩ dX12_readsNumber_46 ?_
          intro H locs hP hD hS
          refine lv_iadd hx hb dX12_readsNumber_49 ?_
          refine lv_bipush (v := 48) hx hb dX12_readsNumber_50 (by decide) ?_
          refine lv_isub hx hb dX12_readsNumber_52 ?_
          refine x_put (ws' := [oX12 A_t A_t_now A_t_aside A_t_kept A_t_rhymeOf A_t_wasRhyme A_t_wordAt x_t_wordMany A_t_tape x_t_taped x_t_place0 x_t_length0 x_t_fault ((((10 : Int32) * x_t_number0) + r3) - (48 : Int32)) x_t_open x_t_codeMany x_t_waiting x_t_saidMany x_t_clauses A_t_said A_t_waitsAt A_t_saidLetter A_t_saidFrom A_t_saidHalf A_t_saidTo A_t_codes A_t_clauseOf A_t_codeFrom A_t_codeHalf A_t_codeTo A_t_stack A_t_facts x_t_lines A_t_newWords A_t_roundFrom A_t_roundAt A_t_roundTimes x_t_newMany x_t_rounds x_t_itFrom x_t_itTimes x_t_writtenNow x_t_picturesNow x_t_usedNow x_t_chosen x_t_fearOfChosen A_t_leastFrom A_t_rowNow x_t_changesNow x_t_left0 A_t_bornOf A_t_trainsTo A_t_trainAt x_t_trainMany x_t_leastTries x_t_firstTrained x_t_isKept, iA cB 260 A_t_tape v_t_tape]) C hK hP hD hS fp_X12_166 0 rfl rfl rfl (Nat.le_of_ble_eq_true rfl) rfl dX12_readsNumber_53 ?_
          intro H locs hP hD hS
          refine lv_aload_n hx hb dX12_readsNumber_56 rfl (lv_at hl 0 rfl) ?_
          refine lv_aload_n hx hb dX12_readsNumber_57 rfl (lv_at hl 0 rfl) ?_
          refine x_get C hK hP fd_X12_150 0 rfl rfl dX12_readsNumber_58 ?_
          refine lv_iconst (v := 1) hx hb dX12_readsNumber_61 (by decide) ?_
          refine lv_iadd hx hb dX12_readsNumber_62 ?_
          refine x_put (ws' := [oX12 A_t A_t_now A_t_aside A_t_kept A_t_rhymeOf A_t_wasRhyme A_t_wordAt x_t_wordMany A_t_tape x_t_taped (x_t_place0 + (1 : Int32)) x_t_length0 x_t_fault ((((10 : Int32) * x_t_number0) + r3) - (48 : Int32)) x_t_open x_t_codeMany x_t_waiting x_t_saidMany x_t_clauses A_t_said A_t_waitsAt A_t_saidLetter A_t_saidFrom A_t_saidHalf A_t_saidTo A_t_codes A_t_clauseOf A_t_codeFrom A_t_codeHalf A_t_codeTo A_t_stack A_t_facts x_t_lines A_t_newWords A_t_roundFrom A_t_roundAt A_t_roundTimes x_t_newMany x_t_rounds x_t_itFrom x_t_itTimes x_t_writtenNow x_t_picturesNow x_t_usedNow x_t_chosen x_t_fearOfChosen A_t_leastFrom A_t_rowNow x_t_changesNow x_t_left0 A_t_bornOf A_t_trainsTo A_t_trainAt x_t_trainMany x_t_leastTries x_t_firstTrained x_t_isKept, iA cB 260 A_t_tape v_t_tape]) C hK hP hD hS fp_X12_150 0 rfl rfl rfl (Nat.le_of_ble_eq_true rfl) rfl dX12_readsNumber_63 ?_
          intro H locs hP hD hS
          refine lv_goto (tgt := 10) hx hb dX12_readsNumber_66 (by decide) ?_
          exact ih_10 x_t_fault ((((10 : Int32) * x_t_number0) + r3) - (48 : Int32)) (x_t_place0 + (1 : Int32)) l1 _ _ ls (lv_sub hl [0, 1] rfl) hP hD hS hf
        · have hf := if_t q hf
          refine lv_aload_n hx hb dX12_readsNumber_27 rfl (lv_at hl 0 rfl) ?_
          refine lv_iconst (v := 2) hx hb dX12_readsNumber_28 (by decide) ?_
          refine lv_aload_n hx hb dX12_readsNumber_29 rfl (lv_at hl 0 rfl) ?_
          refine x_get C hK hP fd_X12_150 0 rfl rfl dX12_readsNumber_30 ?_
          obtain ⟨r5, w6, hc7, hf⟩ := bd2_e hf
          refine x_callVI (ws' := [oX12 A_t A_t_now A_t_aside A_t_kept A_t_rhymeOf A_t_wasRhyme A_t_wordAt x_t_wordMany A_t_tape x_t_taped x_t_place0 x_t_length0 w6 x_t_number0 x_t_open x_t_codeMany x_t_waiting x_t_saidMany x_t_clauses A_t_said A_t_waitsAt A_t_saidLetter A_t_saidFrom A_t_saidHalf A_t_saidTo A_t_codes A_t_clauseOf A_t_codeFrom A_t_codeHalf A_t_codeTo A_t_stack A_t_facts x_t_lines A_t_newWords A_t_roundFrom A_t_roundAt A_t_roundTimes x_t_newMany x_t_rounds x_t_itFrom x_t_itTimes x_t_writtenNow x_t_picturesNow x_t_usedNow x_t_chosen x_t_fearOfChosen A_t_leastFrom A_t_rowNow x_t_changesNow x_t_left0 A_t_bornOf A_t_trainsTo A_t_trainAt x_t_trainMany x_t_leastTries x_t_firstTrained x_t_isKept, iA cB 260 A_t_tape v_t_tape]) (rest := []) C hK hP hD hS hA hl mf_X12_163 (c_X12_wrongAt hc7) [0] 0 12 rfl rfl rfl rfl rfl rfl rfl rfl rfl rfl (Nat.le_of_ble_eq_true rfl) ⟨Nat.le_of_ble_eq_true rfl, Nat.le_of_ble_eq_true rfl⟩ ⟨Nat.le_refl _, Nat.le_refl _⟩ dX12_readsNumber_33 ?_
          intro H locs hP hD hS
          obtain ⟨hz, hf⟩ := zI_e hf
          obtain ⟨rfl, rfl, rfl, rfl⟩ := ev4 hf
          exact x_zret C hr hlk hz hP hD hS dX12_readsNumber_36
  refine lv_aload_n hx hb dX12_readsNumber_0 rfl (lv_at hl 0 rfl) ?_
  refine x_get C hK hP fd_X12_150 0 rfl rfl dX12_readsNumber_1 ?_
  refine lv_istore_n (lv' := [(1, .int x_t_place0), (0, .ref A_t)]) hx hb dX12_readsNumber_4 rfl hl (by decide) rfl (fun ls hl => ?_)
  refine lv_aload_n hx hb dX12_readsNumber_5 rfl (lv_at hl 1 rfl) ?_
  refine lv_iconst (v := 0) hx hb dX12_readsNumber_6 (by decide) ?_
  refine x_put (ws' := [oX12 A_t A_t_now A_t_aside A_t_kept A_t_rhymeOf A_t_wasRhyme A_t_wordAt x_t_wordMany A_t_tape x_t_taped x_t_place0 x_t_length0 x_t_fault (0 : Int32) x_t_open x_t_codeMany x_t_waiting x_t_saidMany x_t_clauses A_t_said A_t_waitsAt A_t_saidLetter A_t_saidFrom A_t_saidHalf A_t_saidTo A_t_codes A_t_clauseOf A_t_codeFrom A_t_codeHalf A_t_codeTo A_t_stack A_t_facts x_t_lines A_t_newWords A_t_roundFrom A_t_roundAt A_t_roundTimes x_t_newMany x_t_rounds x_t_itFrom x_t_itTimes x_t_writtenNow x_t_picturesNow x_t_usedNow x_t_chosen x_t_fearOfChosen A_t_leastFrom A_t_rowNow x_t_changesNow x_t_left0 A_t_bornOf A_t_trainsTo A_t_trainAt x_t_trainMany x_t_leastTries x_t_firstTrained x_t_isKept, iA cB 260 A_t_tape v_t_tape]) C hK hP hD hS fp_X12_166 0 rfl rfl rfl (Nat.le_of_ble_eq_true rfl) rfl dX12_readsNumber_7 ?_
  intro H locs hP hD hS
  exact hb_10 FU x_t_fault (0 : Int32) x_t_place0 x_t_place0 _ _ ls (lv_sub hl [1, 0] rfl) hP hD hS hf
def f_X12_notes (v_t_said : (Nat → Int32)) (x_t_codeMany : Int32) (a1 : Int32) (a2 : Int32) : Option ((Nat → Int32) × Int32) :=
  sI 260 v_t_said x_t_codeMany (((1048576 : Int32) * a1) + a2) (fun w1 =>
  some (w1, (x_t_codeMany + (1 : Int32))))
set_option maxHeartbeats 4000000 in
set_option maxRecDepth 100000 in
theorem c_X12_notes {l : Launch} {D : va_G} {cI cB : ClassId} {A_t A_t_now A_t_aside A_t_kept A_t_rhymeOf A_t_wasRhyme A_t_wordAt A_t_tape A_t_said A_t_waitsAt A_t_saidLetter A_t_saidFrom A_t_saidHalf A_t_saidTo A_t_codes A_t_clauseOf A_t_codeFrom A_t_codeHalf A_t_codeTo A_t_stack A_t_facts A_t_newWords A_t_roundFrom A_t_roundAt A_t_roundTimes A_t_leastFrom A_t_rowNow A_t_bornOf A_t_trainsTo A_t_trainAt : Nat} {x_t_wordMany x_t_taped x_t_place0 x_t_length0 x_t_fault x_t_number0 x_t_open x_t_codeMany x_t_waiting x_t_saidMany x_t_clauses x_t_lines x_t_newMany x_t_rounds x_t_itFrom x_t_itTimes x_t_writtenNow x_t_picturesNow x_t_usedNow x_t_chosen x_t_fearOfChosen x_t_changesNow x_t_left0 x_t_trainMany x_t_leastTries x_t_firstTrained x_t_isKept a1 a2 : Int32} {v_t_said : Nat → Int32} {o_x_t_codeMany : Int32} {o_v_t_said : Nat → Int32} (hf : f_X12_notes v_t_said x_t_codeMany a1 a2 = some (o_v_t_said, o_x_t_codeMany)) : CtV l D cI cB yX12_notes cX12_notes 3 0 0 [.ref A_t, .int a1, .int a2] [oX12 A_t A_t_now A_t_aside A_t_kept A_t_rhymeOf A_t_wasRhyme A_t_wordAt x_t_wordMany A_t_tape x_t_taped x_t_place0 x_t_length0 x_t_fault x_t_number0 x_t_open x_t_codeMany x_t_waiting x_t_saidMany x_t_clauses A_t_said A_t_waitsAt A_t_saidLetter A_t_saidFrom A_t_saidHalf A_t_saidTo A_t_codes A_t_clauseOf A_t_codeFrom A_t_codeHalf A_t_codeTo A_t_stack A_t_facts x_t_lines A_t_newWords A_t_roundFrom A_t_roundAt A_t_roundTimes x_t_newMany x_t_rounds x_t_itFrom x_t_itTimes x_t_writtenNow x_t_picturesNow x_t_usedNow x_t_chosen x_t_fearOfChosen A_t_leastFrom A_t_rowNow x_t_changesNow x_t_left0 A_t_bornOf A_t_trainsTo A_t_trainAt x_t_trainMany x_t_leastTries x_t_firstTrained x_t_isKept, iA cI 260 A_t_said v_t_said] [oX12 A_t A_t_now A_t_aside A_t_kept A_t_rhymeOf A_t_wasRhyme A_t_wordAt x_t_wordMany A_t_tape x_t_taped x_t_place0 x_t_length0 x_t_fault x_t_number0 x_t_open o_x_t_codeMany x_t_waiting x_t_saidMany x_t_clauses A_t_said A_t_waitsAt A_t_saidLetter A_t_saidFrom A_t_saidHalf A_t_saidTo A_t_codes A_t_clauseOf A_t_codeFrom A_t_codeHalf A_t_codeTo A_t_stack A_t_facts x_t_lines A_t_newWords A_t_roundFrom A_t_roundAt A_t_roundTimes x_t_newMany x_t_rounds x_t_itFrom x_t_itTimes x_t_writtenNow x_t_picturesNow x_t_usedNow x_t_chosen x_t_fearOfChosen A_t_leastFrom A_t_rowNow x_t_changesNow x_t_left0 A_t_bornOf A_t_trainsTo A_t_trainAt x_t_trainMany x_t_leastTries x_t_firstTrained x_t_isKept, iA cI 260 A_t_said o_v_t_said] := by
  refine x_startV (by decide) (Nat.le_of_ble_eq_true rfl) ?_
  intro p e s m below meth c A C hr hlk hA hK hP hD hS ls hl
  have hl : lv_has ls 3 [(0, .ref A_t), (1, .int a1), (2, .int a2)] := hl
  have hx := C.1
  have hb := C.2.1
  unfold f_X12_notes at hf
  refine lv_aload_n hx hb dX12_notes_0 rfl (lv_at hl 0 rfl) ?_
  refine x_get C hK hP fd_X12_32 0 rfl rfl dX12_notes_1 ?_
  refine lv_aload_n hx hb dX12_notes_4 rfl (lv_at hl 0 rfl) ?_
  refine x_get C hK hP fd_X12_173 0 rfl rfl dX12_notes_5 ?_
  refine x_ldc C kc_X12_176 dX12_notes_8 ?_
  refine lv_iload_n hx hb dX12_notes_10 rfl (lv_at hl 1 rfl) ?_
  refine lv_imul hx hb dX12_notes_11 ?_
  refine lv_iload_n hx hb dX12_notes_12 rfl (lv_at hl 2 rfl) ?_
  refine lv_iadd hx hb dX12_notes_13 ?_
  obtain ⟨hi, hf⟩ := sI_e hf
  refine x_iast (ws' := [oX12 A_t A_t_now A_t_aside A_t_kept A_t_rhymeOf A_t_wasRhyme A_t_wordAt x_t_wordMany A_t_tape x_t_taped x_t_place0 x_t_length0 x_t_fault x_t_number0 x_t_open x_t_codeMany x_t_waiting x_t_saidMany x_t_clauses A_t_said A_t_waitsAt A_t_saidLetter A_t_saidFrom A_t_saidHalf A_t_saidTo A_t_codes A_t_clauseOf A_t_codeFrom A_t_codeHalf A_t_codeTo A_t_stack A_t_facts x_t_lines A_t_newWords A_t_roundFrom A_t_roundAt A_t_roundTimes x_t_newMany x_t_rounds x_t_itFrom x_t_itTimes x_t_writtenNow x_t_picturesNow x_t_usedNow x_t_chosen x_t_fearOfChosen A_t_leastFrom A_t_rowNow x_t_changesNow x_t_left0 A_t_bornOf A_t_trainsTo A_t_trainAt x_t_trainMany x_t_leastTries x_t_firstTrained x_t_isKept, iA cI 260 A_t_said (upd v_t_said x_t_codeMany.toNatClampNeg (((1048576 : Int32) * a1) + a2))]) C hK hP hD hS 1 rfl hi rfl dX12_notes_14 ?_
  intro H locs hP hD hS
  refine lv_aload_n hx hb dX12_notes_15 rfl (lv_at hl 0 rfl) ?_
  refine lv_aload_n hx hb dX12_notes_16 rfl (lv_at hl 0 rfl) ?_
  refine x_get C hK hP fd_X12_173 0 rfl rfl dX12_notes_17 ?_
  refine lv_iconst (v := 1) hx hb dX12_notes_20 (by decide) ?_
  refine lv_iadd hx hb dX12_notes_21 ?_
  refine x_put (ws' := [oX12 A_t A_t_now A_t_aside A_t_kept A_t_rhymeOf A_t_wasRhyme A_t_wordAt x_t_wordMany A_t_tape x_t_taped x_t_place0 x_t_length0 x_t_fault x_t_number0 x_t_open (x_t_codeMany + (1 : Int32)) x_t_waiting x_t_saidMany x_t_clauses A_t_said A_t_waitsAt A_t_saidLetter A_t_saidFrom A_t_saidHalf A_t_saidTo A_t_codes A_t_clauseOf A_t_codeFrom A_t_codeHalf A_t_codeTo A_t_stack A_t_facts x_t_lines A_t_newWords A_t_roundFrom A_t_roundAt A_t_roundTimes x_t_newMany x_t_rounds x_t_itFrom x_t_itTimes x_t_writtenNow x_t_picturesNow x_t_usedNow x_t_chosen x_t_fearOfChosen A_t_leastFrom A_t_rowNow x_t_changesNow x_t_left0 A_t_bornOf A_t_trainsTo A_t_trainAt x_t_trainMany x_t_leastTries x_t_firstTrained x_t_isKept, iA cI 260 A_t_said (upd v_t_said x_t_codeMany.toNatClampNeg (((1048576 : Int32) * a1) + a2))]) C hK hP hD hS fp_X12_173 0 rfl rfl rfl (Nat.le_of_ble_eq_true rfl) rfl dX12_notes_22 ?_
  intro H locs hP hD hS
  obtain ⟨rfl, rfl⟩ := ev2 hf
  exact x_vret C hr hlk hP hD hS dX12_notes_25
def f_X12_opens (v_t_waitsAt : (Nat → Int32)) (x_t_fault : Int32) (x_t_open : Int32) (x_t_place0 : Int32) (x_t_waiting : Int32) (a1 : Int32) : Option (Int32 × (Nat → Int32) × Int32 × Int32 × Int32 × Int32) :=
  if x_t_open = (6 : Int32) then
    bd2 (f_X12_wrongAt x_t_fault (5 : Int32) x_t_place0) (fun r2 w3 =>
    zI r2 (some (r2, v_t_waitsAt, w3, x_t_open, x_t_place0, x_t_waiting)))
  else
    sI 260 v_t_waitsAt x_t_waiting ((1048576 : Int32) * a1) (fun w1 =>
    some ((1 : Int32), w1, x_t_fault, (x_t_open + (1 : Int32)), (x_t_place0 + (1 : Int32)), (x_t_waiting + (1 : Int32))))
set_option maxHeartbeats 4000000 in
set_option maxRecDepth 100000 in
theorem c_X12_opens {l : Launch} {D : va_G} {cI cB : ClassId} {A_t A_t_now A_t_aside A_t_kept A_t_rhymeOf A_t_wasRhyme A_t_wordAt A_t_tape A_t_said A_t_waitsAt A_t_saidLetter A_t_saidFrom A_t_saidHalf A_t_saidTo A_t_codes A_t_clauseOf A_t_codeFrom A_t_codeHalf A_t_codeTo A_t_stack A_t_facts A_t_newWords A_t_roundFrom A_t_roundAt A_t_roundTimes A_t_leastFrom A_t_rowNow A_t_bornOf A_t_trainsTo A_t_trainAt : Nat} {x_t_wordMany x_t_taped x_t_place0 x_t_length0 x_t_fault x_t_number0 x_t_open x_t_codeMany x_t_waiting x_t_saidMany x_t_clauses x_t_lines x_t_newMany x_t_rounds x_t_itFrom x_t_itTimes x_t_writtenNow x_t_picturesNow x_t_usedNow x_t_chosen x_t_fearOfChosen x_t_changesNow x_t_left0 x_t_trainMany x_t_leastTries x_t_firstTrained x_t_isKept a1 : Int32} {v_t_waitsAt : Nat → Int32} {o_r o_x_t_fault o_x_t_open o_x_t_place0 o_x_t_waiting : Int32} {o_v_t_waitsAt : Nat → Int32} (hf : f_X12_opens v_t_waitsAt x_t_fault x_t_open x_t_place0 x_t_waiting a1 = some (o_r, o_v_t_waitsAt, o_x_t_fault, o_x_t_open, o_x_t_place0, o_x_t_waiting)) : CtI l D cI cB yX12_opens cX12_opens 2 (some .boolean) 1 22 [.ref A_t, .int a1] [oX12 A_t A_t_now A_t_aside A_t_kept A_t_rhymeOf A_t_wasRhyme A_t_wordAt x_t_wordMany A_t_tape x_t_taped x_t_place0 x_t_length0 x_t_fault x_t_number0 x_t_open x_t_codeMany x_t_waiting x_t_saidMany x_t_clauses A_t_said A_t_waitsAt A_t_saidLetter A_t_saidFrom A_t_saidHalf A_t_saidTo A_t_codes A_t_clauseOf A_t_codeFrom A_t_codeHalf A_t_codeTo A_t_stack A_t_facts x_t_lines A_t_newWords A_t_roundFrom A_t_roundAt A_t_roundTimes x_t_newMany x_t_rounds x_t_itFrom x_t_itTimes x_t_writtenNow x_t_picturesNow x_t_usedNow x_t_chosen x_t_fearOfChosen A_t_leastFrom A_t_rowNow x_t_changesNow x_t_left0 A_t_bornOf A_t_trainsTo A_t_trainAt x_t_trainMany x_t_leastTries x_t_firstTrained x_t_isKept, iA cI 260 A_t_waitsAt v_t_waitsAt] [oX12 A_t A_t_now A_t_aside A_t_kept A_t_rhymeOf A_t_wasRhyme A_t_wordAt x_t_wordMany A_t_tape x_t_taped o_x_t_place0 x_t_length0 o_x_t_fault x_t_number0 o_x_t_open x_t_codeMany o_x_t_waiting x_t_saidMany x_t_clauses A_t_said A_t_waitsAt A_t_saidLetter A_t_saidFrom A_t_saidHalf A_t_saidTo A_t_codes A_t_clauseOf A_t_codeFrom A_t_codeHalf A_t_codeTo A_t_stack A_t_facts x_t_lines A_t_newWords A_t_roundFrom A_t_roundAt A_t_roundTimes x_t_newMany x_t_rounds x_t_itFrom x_t_itTimes x_t_writtenNow x_t_picturesNow x_t_usedNow x_t_chosen x_t_fearOfChosen A_t_leastFrom A_t_rowNow x_t_changesNow x_t_left0 A_t_bornOf A_t_trainsTo A_t_trainAt x_t_trainMany x_t_leastTries x_t_firstTrained x_t_isKept, iA cI 260 A_t_waitsAt o_v_t_waitsAt] o_r := by
  refine x_startI (by decide) (Nat.le_of_ble_eq_true rfl) ?_
  intro p e s m below meth c A C hr hlk hA hK hP hD hS ls hl
  have hl : lv_has ls 2 [(0, .ref A_t), (1, .int a1)] := hl
  have hx := C.1
  have hb := C.2.1
  unfold f_X12_opens at hf
  refine lv_aload_n hx hb dX12_opens_0 rfl (lv_at hl 0 rfl) ?_
  refine x_get C hK hP fd_X12_177 0 rfl rfl dX12_opens_1 ?_
  refine lv_bipush (v := 6) hx hb dX12_opens_4 (by decide) ?_
  refine lv_icmp_ne (tgt := 19) hx hb dX12_opens_6 (by decide) (fun q => ?_) (fun q => ?_)
  · have hf := if_f q hf
    refine lv_aload_n hx hb dX12_opens_19 rfl (lv_at hl 0 rfl) ?_
    refine lv_aload_n hx hb dX12_opens_20 rfl (lv_at hl 0 rfl) ?_
    refine x_get C hK hP fd_X12_177 0 rfl rfl dX12_opens_21 ?_
    refine lv_iconst (v := 1) hx hb dX12_opens_24 (by decide) ?_
    refine lv_iadd hx hb dX12_opens_25 ?_
    refine x_put (ws' := [oX12 A_t A_t_now A_t_aside A_t_kept A_t_rhymeOf A_t_wasRhyme A_t_wordAt x_t_wordMany A_t_tape x_t_taped x_t_place0 x_t_length0 x_t_fault x_t_number0 (x_t_open + (1 : Int32)) x_t_codeMany x_t_waiting x_t_saidMany x_t_clauses A_t_said A_t_waitsAt A_t_saidLetter A_t_saidFrom A_t_saidHalf A_t_saidTo A_t_codes A_t_clauseOf A_t_codeFrom A_t_codeHalf A_t_codeTo A_t_stack A_t_facts x_t_lines A_t_newWords A_t_roundFrom A_t_roundAt A_t_roundTimes x_t_newMany x_t_rounds x_t_itFrom x_t_itTimes x_t_writtenNow x_t_picturesNow x_t_usedNow x_t_chosen x_t_fearOfChosen A_t_leastFrom A_t_rowNow x_t_changesNow x_t_left0 A_t_bornOf A_t_trainsTo A_t_trainAt x_t_trainMany x_t_leastTries x_t_firstTrained x_t_isKept, iA cI 260 A_t_waitsAt v_t_waitsAt]) C hK hP hD hS fp_X12_177 0 rfl rfl rfl (Nat.le_of_ble_eq_true rfl) rfl dX12_opens_26 ?_
    intro H locs hP hD hS
    refine lv_aload_n hx hb dX12_opens_29 rfl (lv_at hl 0 rfl) ?_
    refine x_get C hK hP fd_X12_35 0 rfl rfl dX12_opens_30 ?_
    refine lv_aload_n hx hb dX12_opens_33 rfl (lv_at hl 0 rfl) ?_
    refine x_get C hK hP fd_X12_180 0 rfl rfl dX12_opens_34 ?_
    refine x_ldc C kc_X12_176 dX12_opens_37 ?_
    refine lv_iload_n hx hb dX12_opens_39 rfl (lv_at hl 1 rfl) ?_
    refine lv_imul hx hb dX12_opens_40 ?_
    obtain ⟨hi, hf⟩ := sI_e hf
    refine x_iast (ws' := [oX12 A_t A_t_now A_t_aside A_t_kept A_t_rhymeOf A_t_wasRhyme A_t_wordAt x_t_wordMany A_t_tape x_t_taped x_t_place0 x_t_length0 x_t_fault x_t_number0 (x_t_open + (1 : Int32)) x_t_codeMany x_t_waiting x_t_saidMany x_t_clauses A_t_said A_t_waitsAt A_t_saidLetter A_t_saidFrom A_t_saidHalf A_t_saidTo A_t_codes A_t_clauseOf A_t_codeFrom A_t_codeHalf A_t_codeTo A_t_stack A_t_facts x_t_lines A_t_newWords A_t_roundFrom A_t_roundAt A_t_roundTimes x_t_newMany x_t_rounds x_t_itFrom x_t_itTimes x_t_writtenNow x_t_picturesNow x_t_usedNow x_t_chosen x_t_fearOfChosen A_t_leastFrom A_t_rowNow x_t_changesNow x_t_left0 A_t_bornOf A_t_trainsTo A_t_trainAt x_t_trainMany x_t_leastTries x_t_firstTrained x_t_isKept, iA cI 260 A_t_waitsAt (upd v_t_waitsAt x_t_waiting.toNatClampNeg ((1048576 : Int32) * a1))]) C hK hP hD hS 1 rfl hi rfl dX12_opens_41 ?_
    intro H locs hP hD hS
    refine lv_aload_n hx hb dX12_opens_42 rfl (lv_at hl 0 rfl) ?_
    refine lv_aload_n hx hb dX12_opens_43 rfl (lv_at hl 0 rfl) ?_
    refine x_get C hK hP fd_X12_180 0 rfl rfl dX12_opens_44 ?_
    refine lv_iconst (v := 1) hx hb dX12_opens_47 (by decide) ?_
    refine lv_iadd hx hb dX12_opens_48 ?_
    refine x_put (ws' := [oX12 A_t A_t_now A_t_aside A_t_kept A_t_rhymeOf A_t_wasRhyme A_t_wordAt x_t_wordMany A_t_tape x_t_taped x_t_place0 x_t_length0 x_t_fault x_t_number0 (x_t_open + (1 : Int32)) x_t_codeMany (x_t_waiting + (1 : Int32)) x_t_saidMany x_t_clauses A_t_said A_t_waitsAt A_t_saidLetter A_t_saidFrom A_t_saidHalf A_t_saidTo A_t_codes A_t_clauseOf A_t_codeFrom A_t_codeHalf A_t_codeTo A_t_stack A_t_facts x_t_lines A_t_newWords A_t_roundFrom A_t_roundAt A_t_roundTimes x_t_newMany x_t_rounds x_t_itFrom x_t_itTimes x_t_writtenNow x_t_picturesNow x_t_usedNow x_t_chosen x_t_fearOfChosen A_t_leastFrom A_t_rowNow x_t_changesNow x_t_left0 A_t_bornOf A_t_trainsTo A_t_trainAt x_t_trainMany x_t_leastTries x_t_firstTrained x_t_isKept, iA cI 260 A_t_waitsAt (upd v_t_waitsAt x_t_waiting.toNatClampNeg ((1048576 : Int32) * a1))]) C hK hP hD hS fp_X12_180 0 rfl rfl rfl (Nat.le_of_ble_eq_true rfl) rfl dX12_opens_49 ?_
    intro H locs hP hD hS
    refine lv_aload_n hx hb dX12_opens_52 rfl (lv_at hl 0 rfl) ?_
    refine lv_aload_n hx hb dX12_opens_53 rfl (lv_at hl 0 rfl) ?_
    refine x_get C hK hP fd_X12_150 0 rfl rfl dX12_opens_54 ?_
    refine lv_iconst (v := 1) hx hb dX12_opens_57 (by decide) ?_
    refine lv_iadd hx hb dX12_opens_58 ?_
    refine x_put (ws' := [oX12 A_t A_t_now A_t_aside A_t_kept A_t_rhymeOf A_t_wasRhyme A_t_wordAt x_t_wordMany A_t_tape x_t_taped (x_t_place0 + (1 : Int32)) x_t_length0 x_t_fault x_t_number0 (x_t_open + (1 : Int32)) x_t_codeMany (x_t_waiting + (1 : Int32)) x_t_saidMany x_t_clauses A_t_said A_t_waitsAt A_t_saidLetter A_t_saidFrom A_t_saidHalf A_t_saidTo A_t_codes A_t_clauseOf A_t_codeFrom A_t_codeHalf A_t_codeTo A_t_stack A_t_facts x_t_lines A_t_newWords A_t_roundFrom A_t_roundAt A_t_roundTimes x_t_newMany x_t_rounds x_t_itFrom x_t_itTimes x_t_writtenNow x_t_picturesNow x_t_usedNow x_t_chosen x_t_fearOfChosen A_t_leastFrom A_t_rowNow x_t_changesNow x_t_left0 A_t_bornOf A_t_trainsTo A_t_trainAt x_t_trainMany x_t_leastTries x_t_firstTrained x_t_isKept, iA cI 260 A_t_waitsAt (upd v_t_waitsAt x_t_waiting.toNatClampNeg ((1048576 : Int32) * a1))]) C hK hP hD hS fp_X12_150 0 rfl rfl rfl (Nat.le_of_ble_eq_true rfl) rfl dX12_opens_59 ?_
    intro H locs hP hD hS
    refine lv_iconst (v := 1) hx hb dX12_opens_62 (by decide) ?_
    obtain ⟨rfl, rfl, rfl, rfl, rfl, rfl⟩ := ev6 hf
    exact x_zret C hr hlk (Or.inr rfl) hP hD hS dX12_opens_63
  · have hf := if_t q hf
    refine lv_aload_n hx hb dX12_opens_9 rfl (lv_at hl 0 rfl) ?_
    refine lv_iconst (v := 5) hx hb dX12_opens_10 (by decide) ?_
    refine lv_aload_n hx hb dX12_opens_11 rfl (lv_at hl 0 rfl) ?_
    refine x_get C hK hP fd_X12_150 0 rfl rfl dX12_opens_12 ?_
    obtain ⟨r1, w2, hc3, hf⟩ := bd2_e hf
    refine x_callVI (ws' := [oX12 A_t A_t_now A_t_aside A_t_kept A_t_rhymeOf A_t_wasRhyme A_t_wordAt x_t_wordMany A_t_tape x_t_taped x_t_place0 x_t_length0 w2 x_t_number0 x_t_open x_t_codeMany x_t_waiting x_t_saidMany x_t_clauses A_t_said A_t_waitsAt A_t_saidLetter A_t_saidFrom A_t_saidHalf A_t_saidTo A_t_codes A_t_clauseOf A_t_codeFrom A_t_codeHalf A_t_codeTo A_t_stack A_t_facts x_t_lines A_t_newWords A_t_roundFrom A_t_roundAt A_t_roundTimes x_t_newMany x_t_rounds x_t_itFrom x_t_itTimes x_t_writtenNow x_t_picturesNow x_t_usedNow x_t_chosen x_t_fearOfChosen A_t_leastFrom A_t_rowNow x_t_changesNow x_t_left0 A_t_bornOf A_t_trainsTo A_t_trainAt x_t_trainMany x_t_leastTries x_t_firstTrained x_t_isKept, iA cI 260 A_t_waitsAt v_t_waitsAt]) (rest := []) C hK hP hD hS hA hl mf_X12_163 (c_X12_wrongAt hc3) [0] 0 12 rfl rfl rfl rfl rfl rfl rfl rfl rfl rfl (Nat.le_of_ble_eq_true rfl) ⟨Nat.le_of_ble_eq_true rfl, Nat.le_of_ble_eq_true rfl⟩ ⟨Nat.le_refl _, Nat.le_refl _⟩ dX12_opens_15 ?_
    intro H locs hP hD hS
    obtain ⟨hz, hf⟩ := zI_e hf
    obtain ⟨rfl, rfl, rfl, rfl, rfl, rfl⟩ := ev6 hf
    exact x_zret C hr hlk hz hP hD hS dX12_opens_18
def f_X12_waitTop_b25 (s0 : Int32) : Option (Int32) :=
  some s0
def f_X12_waitTop (v_t_waitsAt : (Nat → Int32)) (x_t_waiting : Int32) : Option (Int32) :=
  if x_t_waiting = 0 then
    f_X12_waitTop_b25 (-1 : Int32)
  else
    gI 260 v_t_waitsAt (x_t_waiting - (1 : Int32)) (fun g1 =>
    dI g1 (1048576 : Int32) (fun g2 =>
    f_X12_waitTop_b25 g2))
set_option maxHeartbeats 4000000 in
set_option maxRecDepth 100000 in
theorem c_X12_waitTop {l : Launch} {D : va_G} {cI cB : ClassId} {A_t A_t_now A_t_aside A_t_kept A_t_rhymeOf A_t_wasRhyme A_t_wordAt A_t_tape A_t_said A_t_waitsAt A_t_saidLetter A_t_saidFrom A_t_saidHalf A_t_saidTo A_t_codes A_t_clauseOf A_t_codeFrom A_t_codeHalf A_t_codeTo A_t_stack A_t_facts A_t_newWords A_t_roundFrom A_t_roundAt A_t_roundTimes A_t_leastFrom A_t_rowNow A_t_bornOf A_t_trainsTo A_t_trainAt : Nat} {x_t_wordMany x_t_taped x_t_place0 x_t_length0 x_t_fault x_t_number0 x_t_open x_t_codeMany x_t_waiting x_t_saidMany x_t_clauses x_t_lines x_t_newMany x_t_rounds x_t_itFrom x_t_itTimes x_t_writtenNow x_t_picturesNow x_t_usedNow x_t_chosen x_t_fearOfChosen x_t_changesNow x_t_left0 x_t_trainMany x_t_leastTries x_t_firstTrained x_t_isKept : Int32} {v_t_waitsAt : Nat → Int32} {o_r : Int32} (hf : f_X12_waitTop v_t_waitsAt x_t_waiting = some o_r) : CtI l D cI cB yX12_waitTop cX12_waitTop 1 (some .int) 0 0 [.ref A_t] [oX12 A_t A_t_now A_t_aside A_t_kept A_t_rhymeOf A_t_wasRhyme A_t_wordAt x_t_wordMany A_t_tape x_t_taped x_t_place0 x_t_length0 x_t_fault x_t_number0 x_t_open x_t_codeMany x_t_waiting x_t_saidMany x_t_clauses A_t_said A_t_waitsAt A_t_saidLetter A_t_saidFrom A_t_saidHalf A_t_saidTo A_t_codes A_t_clauseOf A_t_codeFrom A_t_codeHalf A_t_codeTo A_t_stack A_t_facts x_t_lines A_t_newWords A_t_roundFrom A_t_roundAt A_t_roundTimes x_t_newMany x_t_rounds x_t_itFrom x_t_itTimes x_t_writtenNow x_t_picturesNow x_t_usedNow x_t_chosen x_t_fearOfChosen A_t_leastFrom A_t_rowNow x_t_changesNow x_t_left0 A_t_bornOf A_t_trainsTo A_t_trainAt x_t_trainMany x_t_leastTries x_t_firstTrained x_t_isKept, iA cI 260 A_t_waitsAt v_t_waitsAt] [oX12 A_t A_t_now A_t_aside A_t_kept A_t_rhymeOf A_t_wasRhyme A_t_wordAt x_t_wordMany A_t_tape x_t_taped x_t_place0 x_t_length0 x_t_fault x_t_number0 x_t_open x_t_codeMany x_t_waiting x_t_saidMany x_t_clauses A_t_said A_t_waitsAt A_t_saidLetter A_t_saidFrom A_t_saidHalf A_t_saidTo A_t_codes A_t_clauseOf A_t_codeFrom A_t_codeHalf A_t_codeTo A_t_stack A_t_facts x_t_lines A_t_newWords A_t_roundFrom A_t_roundAt A_t_roundTimes x_t_newMany x_t_rounds x_t_itFrom x_t_itTimes x_t_writtenNow x_t_picturesNow x_t_usedNow x_t_chosen x_t_fearOfChosen A_t_leastFrom A_t_rowNow x_t_changesNow x_t_left0 A_t_bornOf A_t_trainsTo A_t_trainAt x_t_trainMany x_t_leastTries x_t_firstTrained x_t_isKept, iA cI 260 A_t_waitsAt v_t_waitsAt] o_r := by
  refine x_startI (by decide) (Nat.le_of_ble_eq_true rfl) ?_
  intro p e s m below meth c A C hr hlk hA hK hP hD hS ls hl
  have hl : lv_has ls 1 [(0, .ref A_t)] := hl
  have hx := C.1
  have hb := C.2.1
  unfold f_X12_waitTop at hf
  have hb_25 : ∀ (s0 : Int32) (H : Heap) (locs : List Loc) (ls : Array Slot), lv_has ls 1 [] → va_P D vwCl [oX12 A_t A_t_now A_t_aside A_t_kept A_t_rhymeOf A_t_wasRhyme A_t_wordAt x_t_wordMany A_t_tape x_t_taped x_t_place0 x_t_length0 x_t_fault x_t_number0 x_t_open x_t_codeMany x_t_waiting x_t_saidMany x_t_clauses A_t_said A_t_waitsAt A_t_saidLetter A_t_saidFrom A_t_saidHalf A_t_saidTo A_t_codes A_t_clauseOf A_t_codeFrom A_t_codeHalf A_t_codeTo A_t_stack A_t_facts x_t_lines A_t_newWords A_t_roundFrom A_t_roundAt A_t_roundTimes x_t_newMany x_t_rounds x_t_itFrom x_t_itTimes x_t_writtenNow x_t_picturesNow x_t_usedNow x_t_chosen x_t_fearOfChosen A_t_leastFrom A_t_rowNow x_t_changesNow x_t_left0 A_t_bornOf A_t_trainsTo A_t_trainAt x_t_trainMany x_t_leastTries x_t_firstTrained x_t_isKept, iA cI 260 A_t_waitsAt v_t_waitsAt] H → va_D A [oX12 A_t A_t_now A_t_aside A_t_kept A_t_rhymeOf A_t_wasRhyme A_t_wordAt x_t_wordMany A_t_tape x_t_taped x_t_place0 x_t_length0 x_t_fault x_t_number0 x_t_open x_t_codeMany x_t_waiting x_t_saidMany x_t_clauses A_t_said A_t_waitsAt A_t_saidLetter A_t_saidFrom A_t_saidHalf A_t_saidTo A_t_codes A_t_clauseOf A_t_codeFrom A_t_codeHalf A_t_codeTo A_t_stack A_t_facts x_t_lines A_t_newWords A_t_roundFrom A_t_roundAt A_t_roundTimes x_t_newMany x_t_rounds x_t_itFrom x_t_itTimes x_t_writtenNow x_t_picturesNow x_t_usedNow x_t_chosen x_t_fearOfChosen A_t_leastFrom A_t_rowNow x_t_changesNow x_t_left0 A_t_bornOf A_t_trainsTo A_t_trainAt x_t_trainMany x_t_leastTries x_t_firstTrained x_t_isKept, iA cI 260 A_t_waitsAt v_t_waitsAt] → va_S A s.heap H locs → f_X12_waitTop_b25 s0 = some o_r → W p l e { frames := 0, cells := 0, slots := 0, locals := 0 } s m ([.ref A_t] : List Value).toArray below meth c H locs 0 0 (MQ below (PoI D A [oX12 A_t A_t_now A_t_aside A_t_kept A_t_rhymeOf A_t_wasRhyme A_t_wordAt x_t_wordMany A_t_tape x_t_taped x_t_place0 x_t_length0 x_t_fault x_t_number0 x_t_open x_t_codeMany x_t_waiting x_t_saidMany x_t_clauses A_t_said A_t_waitsAt A_t_saidLetter A_t_saidFrom A_t_saidHalf A_t_saidTo A_t_codes A_t_clauseOf A_t_codeFrom A_t_codeHalf A_t_codeTo A_t_stack A_t_facts x_t_lines A_t_newWords A_t_roundFrom A_t_roundAt A_t_roundTimes x_t_newMany x_t_rounds x_t_itFrom x_t_itTimes x_t_writtenNow x_t_picturesNow x_t_usedNow x_t_chosen x_t_fearOfChosen A_t_leastFrom A_t_rowNow x_t_changesNow x_t_left0 A_t_bornOf A_t_trainsTo A_t_trainAt x_t_trainMany x_t_leastTries x_t_firstTrained x_t_isKept, iA cI 260 A_t_waitsAt v_t_waitsAt] o_r) ([.ref A_t] : List Value).toArray s 0 0 A) (F0 m 25 ls [.int s0]) := by
    intro s0 H locs ls hl hP hD hS hf
    unfold f_X12_waitTop_b25 at hf
    obtain rfl := ev1 hf
    exact x_iret C hr hlk hP hD hS dX12_waitTop_25
  refine lv_aload_n hx hb dX12_waitTop_0 rfl (lv_at hl 0 rfl) ?_
  refine x_get C hK hP fd_X12_180 0 rfl rfl dX12_waitTop_1 ?_
  refine lv_if_ne (tgt := 11) hx hb dX12_waitTop_4 (by decide) (fun q => ?_) (fun q => ?_)
  · have hf := if_f q hf
    refine lv_aload_n hx hb dX12_waitTop_11 rfl (lv_at hl 0 rfl) ?_
    refine x_get C hK hP fd_X12_35 0 rfl rfl dX12_waitTop_12 ?_
    refine lv_aload_n hx hb dX12_waitTop_15 rfl (lv_at hl 0 rfl) ?_
    refine x_get C hK hP fd_X12_180 0 rfl rfl dX12_waitTop_16 ?_
    refine lv_iconst (v := 1) hx hb dX12_waitTop_19 (by decide) ?_
    refine lv_isub hx hb dX12_waitTop_20 ?_
    obtain ⟨hi, hf⟩ := gI_e hf
    refine x_iald C hK hP 1 rfl hi dX12_waitTop_21 ?_
    refine x_ldc C kc_X12_176 dX12_waitTop_22 ?_
    obtain ⟨hz, hf⟩ := dI_e hf
    refine lv_idiv hx hb dX12_waitTop_24 hz ?_
    exact hb_25 ((v_t_waitsAt (x_t_waiting - (1 : Int32)).toNatClampNeg) / (1048576 : Int32)) _ _ ls (lv_sub hl [] rfl) hP hD hS hf
  · have hf := if_t q hf
    refine lv_iconst (v := -1) hx hb dX12_waitTop_7 (by decide) ?_
    refine lv_goto (tgt := 25) hx hb dX12_waitTop_8 (by decide) ?_
    exact hb_25 (-1 : Int32) _ _ ls (lv_sub hl [] rfl) hP hD hS hf
def f_X12_factOf_b128 : Option (Int32) :=
  some (-1 : Int32)
def f_X12_factOf (a0 : Int32) : Option (Int32) :=
  if a0 = (98 : Int32) then
    some (0 : Int32)
  else
  if a0 = (99 : Int32) then
    f_X12_factOf_b128
  else
  if a0 = (100 : Int32) then
    some (8 : Int32)
  else
  if a0 = (101 : Int32) then
    f_X12_factOf_b128
  else
  if a0 = (102 : Int32) then
    f_X12_factOf_b128
  else
  if a0 = (103 : Int32) then
    f_X12_factOf_b128
  else
  if a0 = (104 : Int32) then
    f_X12_factOf_b128
  else
  if a0 = (105 : Int32) then
    some (7 : Int32)
  else
  if a0 = (106 : Int32) then
    f_X12_factOf_b128
  else
  if a0 = (107 : Int32) then
    some (1 : Int32)
  else
  if a0 = (108 : Int32) then
    f_X12_factOf_b128
  else
  if a0 = (109 : Int32) then
    f_X12_factOf_b128
  else
  if a0 = (110 : Int32) then
    some (4 : Int32)
  else
  if a0 = (111 : Int32) then
    f_X12_factOf_b128
  else
  if a0 = (112 : Int32) then
    f_X12_factOf_b128
  else
  if a0 = (113 : Int32) then
    some (6 : Int32)
  else
  if a0 = (114 : Int32) then
    f_X12_factOf_b128
  else
  if a0 = (115 : Int32) then
    some (5 : Int32)
  else
  if a0 = (116 : Int32) then
    f_X12_factOf_b128
  else
  if a0 = (117 : Int32) then
    some (9 : Int32)
  else
  if a0 = (118 : Int32) then
    some (3 : Int32)
  else
  if a0 = (119 : Int32) then
    some (2 : Int32)
  else
    f_X12_factOf_b128
set_option maxHeartbeats 4000000 in
set_option maxRecDepth 100000 in
theorem c_X12_factOf {l : Launch} {D : va_G} {cI cB : ClassId} {a0 : Int32} {o_r : Int32} (hf : f_X12_factOf a0 = some o_r) : CtI l D cI cB yX12_factOf cX12_factOf 1 (some .int) 0 0 [.int a0] [] [] o_r := by
  refine x_startI (by decide) (Nat.le_of_ble_eq_true rfl) ?_
  intro p e s m below meth c A C hr hlk hA hK hP hD hS ls hl
  have hl : lv_has ls 1 [(0, .int a0)] := hl
  have hx := C.1
  have hb := C.2.1
  unfold f_X12_factOf at hf
  have hb_128 : ∀ (H : Heap) (locs : List Loc) (ls : Array Slot), lv_has ls 1 [] → va_P D vwCl [] H → va_D A [] → va_S A s.heap H locs → f_X12_factOf_b128 = some o_r → W p l e { frames := 0, cells := 0, slots := 0, locals := 0 } s m ([.int a0] : List Value).toArray below meth c H locs 0 0 (MQ below (PoI D A [] o_r) ([.int a0] : List Value).toArray s 0 0 A) (F0 m 128 ls []) := by
    intro H locs ls hl hP hD hS hf
    unfold f_X12_factOf_b128 at hf
    refine lv_iconst (v := -1) hx hb dX12_factOf_128 (by decide) ?_
    obtain rfl := ev1 hf
    exact x_iret C hr hlk hP hD hS dX12_factOf_129
  refine lv_iload_n hx hb dX12_factOf_0 rfl (lv_at hl 0 rfl) ?_
  by_cases q_98 : a0 = (98 : Int32)
  · have hf := if_t q_98 hf
    refine lv_tableIn (tgt := 104) hx hb dX12_factOf_1 (by rw [q_98]; decide) (by rw [q_98]; decide) (by rw [q_98]; rfl) (by decide) ?_
    refine lv_iconst (v := 0) hx hb dX12_factOf_104 (by decide) ?_
    obtain rfl := ev1 hf
    exact x_iret C hr hlk hP hD hS dX12_factOf_105
  have hf := if_f q_98 hf
  by_cases q_99 : a0 = (99 : Int32)
  · have hf := if_t q_99 hf
    refine lv_tableIn (tgt := 128) hx hb dX12_factOf_1 (by rw [q_99]; decide) (by rw [q_99]; decide) (by rw [q_99]; rfl) (by decide) ?_
    exact hb_128 _ _ ls (lv_sub hl [] rfl) hP hD hS hf
  have hf := if_f q_99 hf
  by_cases q_100 : a0 = (100 : Int32)
  · have hf := if_t q_100 hf
    refine lv_tableIn (tgt := 122) hx hb dX12_factOf_1 (by rw [q_100]; decide) (by rw [q_100]; decide) (by rw [q_100]; rfl) (by decide) ?_
    refine lv_bipush (v := 8) hx hb dX12_factOf_122 (by decide) ?_
    obtain rfl := ev1 hf
    exact x_iret C hr hlk hP hD hS dX12_factOf_124
  have hf := if_f q_100 hf
  by_cases q_101 : a0 = (101 : Int32)
  · have hf := if_t q_101 hf
    refine lv_tableIn (tgt := 128) hx hb dX12_factOf_1 (by rw [q_101]; decide) (by rw [q_101]; decide) (by rw [q_101]; rfl) (by decide) ?_
    exact hb_128 _ _ ls (lv_sub hl [] rfl) hP hD hS hf
  have hf := if_f q_101 hf
  by_cases q_102 : a0 = (102 : Int32)
  · have hf := if_t q_102 hf
    refine lv_tableIn (tgt := 128) hx hb dX12_factOf_1 (by rw [q_102]; decide) (by rw [q_102]; decide) (by rw [q_102]; rfl) (by decide) ?_
    exact hb_128 _ _ ls (lv_sub hl [] rfl) hP hD hS hf
  have hf := if_f q_102 hf
  by_cases q_103 : a0 = (103 : Int32)
  · have hf := if_t q_103 hf
    refine lv_tableIn (tgt := 128) hx hb dX12_factOf_1 (by rw [q_103]; decide) (by rw [q_103]; decide) (by rw [q_103]; rfl) (by decide) ?_
    exact hb_128 _ _ ls (lv_sub hl [] rfl) hP hD hS hf
  have hf := if_f q_103 hf
  by_cases q_104 : a0 = (104 : Int32)
  · have hf := if_t q_104 hf
    refine lv_tableIn (tgt := 128) hx hb dX12_factOf_1 (by rw [q_104]; decide) (by rw [q_104]; decide) (by rw [q_104]; rfl) (by decide) ?_
    exact hb_128 _ _ ls (lv_sub hl [] rfl) hP hD hS hf
  have hf := if_f q_104 hf
  by_cases q_105 : a0 = (105 : Int32)
  · have hf := if_t q_105 hf
    refine lv_tableIn (tgt := 119) hx hb dX12_factOf_1 (by rw [q_105]; decide) (by rw [q_105]; decide) (by rw [q_105]; rfl) (by decide) ?_
    refine lv_bipush (v := 7) hx hb dX12_factOf_119 (by decide) ?_
    obtain rfl := ev1 hf
    exact x_iret C hr hlk hP hD hS dX12_factOf_121
  have hf := if_f q_105 hf
  by_cases q_106 : a0 = (106 : Int32)
  · have hf := if_t q_106 hf
    refine lv_tableIn (tgt := 128) hx hb dX12_factOf_1 (by rw [q_106]; decide) (by rw [q_106]; decide) (by rw [q_106]; rfl) (by decide) ?_
    exact hb_128 _ _ ls (lv_sub hl [] rfl) hP hD hS hf
  have hf := if_f q_106 hf
  by_cases q_107 : a0 = (107 : Int32)
  · have hf := if_t q_107 hf
    refine lv_tableIn (tgt := 106) hx hb dX12_factOf_1 (by rw [q_107]; decide) (by rw [q_107]; decide) (by rw [q_107]; rfl) (by decide) ?_
    refine lv_iconst (v := 1) hx hb dX12_factOf_106 (by decide) ?_
    obtain rfl := ev1 hf
    exact x_iret C hr hlk hP hD hS dX12_factOf_107
  have hf := if_f q_107 hf
  by_cases q_108 : a0 = (108 : Int32)
  · have hf := if_t q_108 hf
    refine lv_tableIn (tgt := 128) hx hb dX12_factOf_1 (by rw [q_108]; decide) (by rw [q_108]; decide) (by rw [q_108]; rfl) (by decide) ?_
    exact hb_128 _ _ ls (lv_sub hl [] rfl) hP hD hS hf
  have hf := if_f q_108 hf
  by_cases q_109 : a0 = (109 : Int32)
  · have hf := if_t q_109 hf
    refine lv_tableIn (tgt := 128) hx hb dX12_factOf_1 (by rw [q_109]; decide) (by rw [q_109]; decide) (by rw [q_109]; rfl) (by decide) ?_
    exact hb_128 _ _ ls (lv_sub hl [] rfl) hP hD hS hf
  have hf := if_f q_109 hf
  by_cases q_110 : a0 = (110 : Int32)
  · have hf := if_t q_110 hf
    refine lv_tableIn (tgt := 112) hx hb dX12_factOf_1 (by rw [q_110]; decide) (by rw [q_110]; decide) (by rw [q_110]; rfl) (by decide) ?_
    refine lv_iconst (v := 4) hx hb dX12_factOf_112 (by decide) ?_
    obtain rfl := ev1 hf
    exact x_iret C hr hlk hP hD hS dX12_factOf_113
  have hf := if_f q_110 hf
  by_cases q_111 : a0 = (111 : Int32)
  · have hf := if_t q_111 hf
    refine lv_tableIn (tgt := 128) hx hb dX12_factOf_1 (by rw [q_111]; decide) (by rw [q_111]; decide) (by rw [q_111]; rfl) (by decide) ?_
    exact hb_128 _ _ ls (lv_sub hl [] rfl) hP hD hS hf
  have hf := if_f q_111 hf
  by_cases q_112 : a0 = (112 : Int32)
  · have hf := if_t q_112 hf
    refine lv_tableIn (tgt := 128) hx hb dX12_factOf_1 (by rw [q_112]; decide) (by rw [q_112]; decide) (by rw [q_112]; rfl) (by decide) ?_
    exact hb_128 _ _ ls (lv_sub hl [] rfl) hP hD hS hf
  have hf := if_f q_112 hf
  by_cases q_113 : a0 = (113 : Int32)
  · have hf := if_t q_113 hf
    refine lv_tableIn (tgt := 116) hx hb dX12_factOf_1 (by rw [q_113]; decide) (by rw [q_113]; decide) (by rw [q_113]; rfl) (by decide) ?_
    refine lv_bipush (v := 6) hx hb dX12_factOf_116 (by decide) ?_
    obtain rfl := ev1 hf
    exact x_iret C hr hlk hP hD hS dX12_factOf_118
  have hf := if_f q_113 hf
  by_cases q_114 : a0 = (114 : Int32)
  · have hf := if_t q_114 hf
    refine lv_tableIn (tgt := 128) hx hb dX12_factOf_1 (by rw [q_114]; decide) (by rw [q_114]; decide) (by rw [q_114]; rfl) (by decide) ?_
    exact hb_128 _ _ ls (lv_sub hl [] rfl) hP hD hS hf
  have hf := if_f q_114 hf
  by_cases q_115 : a0 = (115 : Int32)
  · have hf := if_t q_115 hf
    refine lv_tableIn (tgt := 114) hx hb dX12_factOf_1 (by rw [q_115]; decide) (by rw [q_115]; decide) (by rw [q_115]; rfl) (by decide) ?_
    refine lv_iconst (v := 5) hx hb dX12_factOf_114 (by decide) ?_
    obtain rfl := ev1 hf
    exact x_iret C hr hlk hP hD hS dX12_factOf_115
  have hf := if_f q_115 hf
  by_cases q_116 : a0 = (116 : Int32)
  · have hf := if_t q_116 hf
    refine lv_tableIn (tgt := 128) hx hb dX12_factOf_1 (by rw [q_116]; decide) (by rw [q_116]; decide) (by rw [q_116]; rfl) (by decide) ?_
    exact hb_128 _ _ ls (lv_sub hl [] rfl) hP hD hS hf
  have hf := if_f q_116 hf
  by_cases q_117 : a0 = (117 : Int32)
  · have hf := if_t q_117 hf
    refine lv_tableIn (tgt := 125) hx hb dX12_factOf_1 (by rw [q_117]; decide) (by rw [q_117]; decide) (by rw [q_117]; rfl) (by decide) ?_
    refine lv_bipush (v := 9) hx hb dX12_factOf_125 (by decide) ?_
    obtain rfl := ev1 hf
    exact x_iret C hr hlk hP hD hS dX12_factOf_127
  have hf := if_f q_117 hf
  by_cases q_118 : a0 = (118 : Int32)
  · have hf := if_t q_118 hf
    refine lv_tableIn (tgt := 110) hx hb dX12_factOf_1 (by rw [q_118]; decide) (by rw [q_118]; decide) (by rw [q_118]; rfl) (by decide) ?_
    refine lv_iconst (v := 3) hx hb dX12_factOf_110 (by decide) ?_
    obtain rfl := ev1 hf
    exact x_iret C hr hlk hP hD hS dX12_factOf_111
  have hf := if_f q_118 hf
  by_cases q_119 : a0 = (119 : Int32)
  · have hf := if_t q_119 hf
    refine lv_tableIn (tgt := 108) hx hb dX12_factOf_1 (by rw [q_119]; decide) (by rw [q_119]; decide) (by rw [q_119]; rfl) (by decide) ?_
    refine lv_iconst (v := 2) hx hb dX12_factOf_108 (by decide) ?_
    obtain rfl := ev1 hf
    exact x_iret C hr hlk hP hD hS dX12_factOf_109
  have hf := if_f q_119 hf
  have eq_98 : a0.toInt ≠ 98 := fun h => q_98 (Int32.toInt_inj.mp (h.trans (by decide)))
  have eq_99 : a0.toInt ≠ 99 := fun h => q_99 (Int32.toInt_inj.mp (h.trans (by decide)))
  have eq_100 : a0.toInt ≠ 100 := fun h => q_100 (Int32.toInt_inj.mp (h.trans (by decide)))
  have eq_101 : a0.toInt ≠ 101 := fun h => q_101 (Int32.toInt_inj.mp (h.trans (by decide)))
  have eq_102 : a0.toInt ≠ 102 := fun h => q_102 (Int32.toInt_inj.mp (h.trans (by decide)))
  have eq_103 : a0.toInt ≠ 103 := fun h => q_103 (Int32.toInt_inj.mp (h.trans (by decide)))
  have eq_104 : a0.toInt ≠ 104 := fun h => q_104 (Int32.toInt_inj.mp (h.trans (by decide)))
  have eq_105 : a0.toInt ≠ 105 := fun h => q_105 (Int32.toInt_inj.mp (h.trans (by decide)))
  have eq_106 : a0.toInt ≠ 106 := fun h => q_106 (Int32.toInt_inj.mp (h.trans (by decide)))
  have eq_107 : a0.toInt ≠ 107 := fun h => q_107 (Int32.toInt_inj.mp (h.trans (by decide)))
  have eq_108 : a0.toInt ≠ 108 := fun h => q_108 (Int32.toInt_inj.mp (h.trans (by decide)))
  have eq_109 : a0.toInt ≠ 109 := fun h => q_109 (Int32.toInt_inj.mp (h.trans (by decide)))
  have eq_110 : a0.toInt ≠ 110 := fun h => q_110 (Int32.toInt_inj.mp (h.trans (by decide)))
  have eq_111 : a0.toInt ≠ 111 := fun h => q_111 (Int32.toInt_inj.mp (h.trans (by decide)))
  have eq_112 : a0.toInt ≠ 112 := fun h => q_112 (Int32.toInt_inj.mp (h.trans (by decide)))
  have eq_113 : a0.toInt ≠ 113 := fun h => q_113 (Int32.toInt_inj.mp (h.trans (by decide)))
  have eq_114 : a0.toInt ≠ 114 := fun h => q_114 (Int32.toInt_inj.mp (h.trans (by decide)))
  have eq_115 : a0.toInt ≠ 115 := fun h => q_115 (Int32.toInt_inj.mp (h.trans (by decide)))
  have eq_116 : a0.toInt ≠ 116 := fun h => q_116 (Int32.toInt_inj.mp (h.trans (by decide)))
  have eq_117 : a0.toInt ≠ 117 := fun h => q_117 (Int32.toInt_inj.mp (h.trans (by decide)))
  have eq_118 : a0.toInt ≠ 118 := fun h => q_118 (Int32.toInt_inj.mp (h.trans (by decide)))
  have eq_119 : a0.toInt ≠ 119 := fun h => q_119 (Int32.toInt_inj.mp (h.trans (by decide)))
  refine lv_tableOut (tgt := 128) hx hb dX12_factOf_1 (by omega) (by decide) ?_
  exact hb_128 _ _ ls (lv_sub hl [] rfl) hP hD hS hf
def f_X12_sumSign_b52 (s0 : Int32) : Option (Int32) :=
  some s0
def f_X12_sumSign (a0 : Int32) : Option (Int32) :=
  if a0 = (43 : Int32) then
    f_X12_sumSign_b52 (2 : Int32)
  else
    if a0 = (45 : Int32) then
      f_X12_sumSign_b52 (3 : Int32)
    else
      if a0 = (42 : Int32) then
        f_X12_sumSign_b52 (4 : Int32)
      else
        if a0 = (47 : Int32) then
          f_X12_sumSign_b52 (5 : Int32)
        else
          if a0 = (37 : Int32) then
            f_X12_sumSign_b52 (6 : Int32)
          else
            f_X12_sumSign_b52 (-1 : Int32)
set_option maxHeartbeats 4000000 in
set_option maxRecDepth 100000 in
theorem c_X12_sumSign {l : Launch} {D : va_G} {cI cB : ClassId} {a0 : Int32} {o_r : Int32} (hf : f_X12_sumSign a0 = some o_r) : CtI l D cI cB yX12_sumSign cX12_sumSign 1 (some .int) 0 0 [.int a0] [] [] o_r := by
  refine x_startI (by decide) (Nat.le_of_ble_eq_true rfl) ?_
  intro p e s m below meth c A C hr hlk hA hK hP hD hS ls hl
  have hl : lv_has ls 1 [(0, .int a0)] := hl
  have hx := C.1
  have hb := C.2.1
  unfold f_X12_sumSign at hf
  have hb_52 : ∀ (s0 : Int32) (H : Heap) (locs : List Loc) (ls : Array Slot), lv_has ls 1 [] → va_P D vwCl [] H → va_D A [] → va_S A s.heap H locs → f_X12_sumSign_b52 s0 = some o_r → W p l e { frames := 0, cells := 0, slots := 0, locals := 0 } s m ([.int a0] : List Value).toArray below meth c H locs 0 0 (MQ below (PoI D A [] o_r) ([.int a0] : List Value).toArray s 0 0 A) (F0 m 52 ls [.int s0]) := by
    intro s0 H locs ls hl hP hD hS hf
    unfold f_X12_sumSign_b52 at hf
    obtain rfl := ev1 hf
    exact x_iret C hr hlk hP hD hS dX12_sumSign_52
  refine lv_iload_n hx hb dX12_sumSign_0 rfl (lv_at hl 0 rfl) ?_
  refine lv_bipush (v := 43) hx hb dX12_sumSign_1 (by decide) ?_
  refine lv_icmp_ne (tgt := 10) hx hb dX12_sumSign_3 (by decide) (fun q => ?_) (fun q => ?_)
  · have hf := if_f q hf
    refine lv_iload_n hx hb dX12_sumSign_10 rfl (lv_at hl 0 rfl) ?_
    refine lv_bipush (v := 45) hx hb dX12_sumSign_11 (by decide) ?_
    refine lv_icmp_ne (tgt := 20) hx hb dX12_sumSign_13 (by decide) (fun q => ?_) (fun q => ?_)
    · have hf := if_f q hf
      refine lv_iload_n hx hb dX12_sumSign_20 rfl (lv_at hl 0 rfl) ?_
      refine lv_bipush (v := 42) hx hb dX12_sumSign_21 (by decide) ?_
      refine lv_icmp_ne (tgt := 30) hx hb dX12_sumSign_23 (by decide) (fun q => ?_) (fun q => ?_)
      · have hf := if_f q hf
        refine lv_iload_n hx hb dX12_sumSign_30 rfl (lv_at hl 0 rfl) ?_
        refine lv_bipush (v := 47) hx hb dX12_sumSign_31 (by decide) ?_
        refine lv_icmp_ne (tgt := 40) hx hb dX12_sumSign_33 (by decide) (fun q => ?_) (fun q => ?_)
        · have hf := if_f q hf
          refine lv_iload_n hx hb dX12_sumSign_40 rfl (lv_at hl 0 rfl) ?_
          refine lv_bipush (v := 37) hx hb dX12_sumSign_41 (by decide) ?_
          refine lv_icmp_ne (tgt := 51) hx hb dX12_sumSign_43 (by decide) (fun q => ?_) (fun q => ?_)
          · have hf := if_f q hf
            refine lv_iconst (v := -1) hx hb dX12_sumSign_51 (by decide) ?_
            exact hb_52 (-1 : Int32) _ _ ls (lv_sub hl [] rfl) hP hD hS hf
          · have hf := if_t q hf
            refine lv_bipush (v := 6) hx hb dX12_sumSign_46 (by decide) ?_
            refine lv_goto (tgt := 52) hx hb dX12_sumSign_48 (by decide) ?_
            exact hb_52 (6 : Int32) _ _ ls (lv_sub hl [] rfl) hP hD hS hf
        · have hf := if_t q hf
          refine lv_iconst (v := 5) hx hb dX12_sumSign_36 (by decide) ?_
          refine lv_goto (tgt := 52) hx hb dX12_sumSign_37 (by decide) ?_
          exact hb_52 (5 : Int32) _ _ ls (lv_sub hl [] rfl) hP hD hS hf
      · have hf := if_t q hf
        refine lv_iconst (v := 4) hx hb dX12_sumSign_26 (by decide) ?_
        refine lv_goto (tgt := 52) hx hb dX12_sumSign_27 (by decide) ?_
        exact hb_52 (4 : Int32) _ _ ls (lv_sub hl [] rfl) hP hD hS hf
    · have hf := if_t q hf
      refine lv_iconst (v := 3) hx hb dX12_sumSign_16 (by decide) ?_
      refine lv_goto (tgt := 52) hx hb dX12_sumSign_17 (by decide) ?_
      exact hb_52 (3 : Int32) _ _ ls (lv_sub hl [] rfl) hP hD hS hf
  · have hf := if_t q hf
    refine lv_iconst (v := 2) hx hb dX12_sumSign_6 (by decide) ?_
    refine lv_goto (tgt := 52) hx hb dX12_sumSign_7 (by decide) ?_
    exact hb_52 (2 : Int32) _ _ ls (lv_sub hl [] rfl) hP hD hS hf
def f_X12_closesSums_b37 (v_t_waitsAt : (Nat → Int32)) (a1 : Int32) (k0 : (Nat → Int32) → Int32 → Int32 → Option ((Nat → Int32) × Int32 × Int32)) (v_t_said : (Nat → Int32)) (x_t_codeMany : Int32) (x_t_waiting : Int32) : Option ((Nat → Int32) × Int32 × Int32) :=
  bd1 (f_X12_waitTop v_t_waitsAt x_t_waiting) (fun r1 =>
  bd2 (f_X12_notes v_t_said x_t_codeMany r1 (0 : Int32)) (fun w2 w3 =>
  k0 w2 w3 (x_t_waiting - (1 : Int32))))
def f_X12_closesSums_b59 (v_t_said : (Nat → Int32)) (x_t_codeMany : Int32) (x_t_waiting : Int32) : Option ((Nat → Int32) × Int32 × Int32) :=
  some (v_t_said, x_t_codeMany, x_t_waiting)
def f_X12_closesSums_b17 (v_t_waitsAt : (Nat → Int32)) (a1 : Int32) (k0 : (Nat → Int32) → Int32 → Int32 → Option ((Nat → Int32) × Int32 × Int32)) (v_t_said : (Nat → Int32)) (x_t_codeMany : Int32) (x_t_waiting : Int32) : Option ((Nat → Int32) × Int32 × Int32) :=
  if a1 = 0 then
    f_X12_closesSums_b59 v_t_said x_t_codeMany x_t_waiting
  else
    bd1 (f_X12_waitTop v_t_waitsAt x_t_waiting) (fun r1 =>
    if r1 = (2 : Int32) then
      f_X12_closesSums_b37 v_t_waitsAt a1 k0 v_t_said x_t_codeMany x_t_waiting
    else
      bd1 (f_X12_waitTop v_t_waitsAt x_t_waiting) (fun r2 =>
      if r2 = (3 : Int32) then
        f_X12_closesSums_b37 v_t_waitsAt a1 k0 v_t_said x_t_codeMany x_t_waiting
      else
        f_X12_closesSums_b59 v_t_said x_t_codeMany x_t_waiting))
def f_X12_closesSums_b0 (v_t_waitsAt : (Nat → Int32)) (a1 : Int32) : Nat → (Nat → Int32) → Int32 → Int32 → Option ((Nat → Int32) × Int32 × Int32)
  | 0, _, _, _ => none
  | n + 1, v_t_said, x_t_codeMany, x_t_waiting =>
    bd1 (f_X12_waitTop v_t_waitsAt x_t_waiting) (fun r1 =>
    if r1 < (4 : Int32) then
      f_X12_closesSums_b17 v_t_waitsAt a1 (f_X12_closesSums_b0 v_t_waitsAt a1 n) v_t_said x_t_codeMany x_t_waiting
    else
      bd1 (f_X12_waitTop v_t_waitsAt x_t_waiting) (fun r2 =>
      if r2 ≤ (6 : Int32) then
        f_X12_closesSums_b37 v_t_waitsAt a1 (f_X12_closesSums_b0 v_t_waitsAt a1 n) v_t_said x_t_codeMany x_t_waiting
      else
        f_X12_closesSums_b17 v_t_waitsAt a1 (f_X12_closesSums_b0 v_t_waitsAt a1 n) v_t_said x_t_codeMany x_t_waiting))
def f_X12_closesSums (v_t_said : (Nat → Int32)) (v_t_waitsAt : (Nat → Int32)) (x_t_codeMany : Int32) (x_t_waiting : Int32) (a1 : Int32) : Option ((Nat → Int32) × Int32 × Int32) :=
  f_X12_closesSums_b0 v_t_waitsAt a1 FU v_t_said x_t_codeMany x_t_waiting
set_option maxHeartbeats 4000000 in
set_option maxRecDepth 100000 in
theorem c_X12_closesSums {l : Launch} {D : va_G} {cI cB : ClassId} {A_t A_t_now A_t_aside A_t_kept A_t_rhymeOf A_t_wasRhyme A_t_wordAt A_t_tape A_t_said A_t_waitsAt A_t_saidLetter A_t_saidFrom A_t_saidHalf A_t_saidTo A_t_codes A_t_clauseOf A_t_codeFrom A_t_codeHalf A_t_codeTo A_t_stack A_t_facts A_t_newWords A_t_roundFrom A_t_roundAt A_t_roundTimes A_t_leastFrom A_t_rowNow A_t_bornOf A_t_trainsTo A_t_trainAt : Nat} {x_t_wordMany x_t_taped x_t_place0 x_t_length0 x_t_fault x_t_number0 x_t_open x_t_codeMany x_t_waiting x_t_saidMany x_t_clauses x_t_lines x_t_newMany x_t_rounds x_t_itFrom x_t_itTimes x_t_writtenNow x_t_picturesNow x_t_usedNow x_t_chosen x_t_fearOfChosen x_t_changesNow x_t_left0 x_t_trainMany x_t_leastTries x_t_firstTrained x_t_isKept a1 : Int32} {v_t_said v_t_waitsAt : Nat → Int32} {o_x_t_codeMany o_x_t_waiting : Int32} {o_v_t_said : Nat → Int32} (hf : f_X12_closesSums v_t_said v_t_waitsAt x_t_codeMany x_t_waiting a1 = some (o_v_t_said, o_x_t_codeMany, o_x_t_waiting)) : CtV l D cI cB yX12_closesSums cX12_closesSums 2 1 22 [.ref A_t, .int a1] [oX12 A_t A_t_now A_t_aside A_t_kept A_t_rhymeOf A_t_wasRhyme A_t_wordAt x_t_wordMany A_t_tape x_t_taped x_t_place0 x_t_length0 x_t_fault x_t_number0 x_t_open x_t_codeMany x_t_waiting x_t_saidMany x_t_clauses A_t_said A_t_waitsAt A_t_saidLetter A_t_saidFrom A_t_saidHalf A_t_saidTo A_t_codes A_t_clauseOf A_t_codeFrom A_t_codeHalf A_t_codeTo A_t_stack A_t_facts x_t_lines A_t_newWords A_t_roundFrom A_t_roundAt A_t_roundTimes x_t_newMany x_t_rounds x_t_itFrom x_t_itTimes x_t_writtenNow x_t_picturesNow x_t_usedNow x_t_chosen x_t_fearOfChosen A_t_leastFrom A_t_rowNow x_t_changesNow x_t_left0 A_t_bornOf A_t_trainsTo A_t_trainAt x_t_trainMany x_t_leastTries x_t_firstTrained x_t_isKept, iA cI 260 A_t_said v_t_said, iA cI 260 A_t_waitsAt v_t_waitsAt] [oX12 A_t A_t_now A_t_aside A_t_kept A_t_rhymeOf A_t_wasRhyme A_t_wordAt x_t_wordMany A_t_tape x_t_taped x_t_place0 x_t_length0 x_t_fault x_t_number0 x_t_open o_x_t_codeMany o_x_t_waiting x_t_saidMany x_t_clauses A_t_said A_t_waitsAt A_t_saidLetter A_t_saidFrom A_t_saidHalf A_t_saidTo A_t_codes A_t_clauseOf A_t_codeFrom A_t_codeHalf A_t_codeTo A_t_stack A_t_facts x_t_lines A_t_newWords A_t_roundFrom A_t_roundAt A_t_roundTimes x_t_newMany x_t_rounds x_t_itFrom x_t_itTimes x_t_writtenNow x_t_picturesNow x_t_usedNow x_t_chosen x_t_fearOfChosen A_t_leastFrom A_t_rowNow x_t_changesNow x_t_left0 A_t_bornOf A_t_trainsTo A_t_trainAt x_t_trainMany x_t_leastTries x_t_firstTrained x_t_isKept, iA cI 260 A_t_said o_v_t_said, iA cI 260 A_t_waitsAt v_t_waitsAt] := by
  refine x_startV (by decide) (Nat.le_of_ble_eq_true rfl) ?_
  intro p e s m below meth c A C hr hlk hA hK hP hD hS ls hl
  have hl : lv_has ls 2 [(0, .ref A_t), (1, .int a1)] := hl
  have hx := C.1
  have hb := C.2.1
  unfold f_X12_closesSums at hf
  have hb_59 : ∀ (v_t_said : (Nat → Int32)) (x_t_codeMany : Int32) (x_t_waiting : Int32) (H : Heap) (locs : List Loc) (ls : Array Slot), lv_has ls 2 [] → va_P D vwCl [oX12 A_t A_t_now A_t_aside A_t_kept A_t_rhymeOf A_t_wasRhyme A_t_wordAt x_t_wordMany A_t_tape x_t_taped x_t_place0 x_t_length0 x_t_fault x_t_number0 x_t_open x_t_codeMany x_t_waiting x_t_saidMany x_t_clauses A_t_said A_t_waitsAt A_t_saidLetter A_t_saidFrom A_t_saidHalf A_t_saidTo A_t_codes A_t_clauseOf A_t_codeFrom A_t_codeHalf A_t_codeTo A_t_stack A_t_facts x_t_lines A_t_newWords A_t_roundFrom A_t_roundAt A_t_roundTimes x_t_newMany x_t_rounds x_t_itFrom x_t_itTimes x_t_writtenNow x_t_picturesNow x_t_usedNow x_t_chosen x_t_fearOfChosen A_t_leastFrom A_t_rowNow x_t_changesNow x_t_left0 A_t_bornOf A_t_trainsTo A_t_trainAt x_t_trainMany x_t_leastTries x_t_firstTrained x_t_isKept, iA cI 260 A_t_said v_t_said, iA cI 260 A_t_waitsAt v_t_waitsAt] H → va_D A [oX12 A_t A_t_now A_t_aside A_t_kept A_t_rhymeOf A_t_wasRhyme A_t_wordAt x_t_wordMany A_t_tape x_t_taped x_t_place0 x_t_length0 x_t_fault x_t_number0 x_t_open x_t_codeMany x_t_waiting x_t_saidMany x_t_clauses A_t_said A_t_waitsAt A_t_saidLetter A_t_saidFrom A_t_saidHalf A_t_saidTo A_t_codes A_t_clauseOf A_t_codeFrom A_t_codeHalf A_t_codeTo A_t_stack A_t_facts x_t_lines A_t_newWords A_t_roundFrom A_t_roundAt A_t_roundTimes x_t_newMany x_t_rounds x_t_itFrom x_t_itTimes x_t_writtenNow x_t_picturesNow x_t_usedNow x_t_chosen x_t_fearOfChosen A_t_leastFrom A_t_rowNow x_t_changesNow x_t_left0 A_t_bornOf A_t_trainsTo A_t_trainAt x_t_trainMany x_t_leastTries x_t_firstTrained x_t_isKept, iA cI 260 A_t_said v_t_said, iA cI 260 A_t_waitsAt v_t_waitsAt] → va_S A s.heap H locs → f_X12_closesSums_b59 v_t_said x_t_codeMany x_t_waiting = some (o_v_t_said, o_x_t_codeMany, o_x_t_waiting) → W p l e { frames := 1, cells := 0, slots := 0, locals := 22 } s m ([.ref A_t, .int a1] : List Value).toArray below meth c H locs 0 0 (MQ below (PoV D A [oX12 A_t A_t_now A_t_aside A_t_kept A_t_rhymeOf A_t_wasRhyme A_t_wordAt x_t_wordMany A_t_tape x_t_taped x_t_place0 x_t_length0 x_t_fault x_t_number0 x_t_open o_x_t_codeMany o_x_t_waiting x_t_saidMany x_t_clauses A_t_said A_t_waitsAt A_t_saidLetter A_t_saidFrom A_t_saidHalf A_t_saidTo A_t_codes A_t_clauseOf A_t_codeFrom A_t_codeHalf A_t_codeTo A_t_stack A_t_facts x_t_lines A_t_newWords A_t_roundFrom A_t_roundAt A_t_roundTimes x_t_newMany x_t_rounds x_t_itFrom x_t_itTimes x_t_writtenNow x_t_picturesNow x_t_usedNow x_t_chosen x_t_fearOfChosen A_t_leastFrom A_t_rowNow x_t_changesNow x_t_left0 A_t_bornOf A_t_trainsTo A_t_trainAt x_t_trainMany x_t_leastTries x_t_firstTrained x_t_isKept, iA cI 260 A_t_said o_v_t_said, iA cI 260 A_t_waitsAt v_t_waitsAt]) ([.ref A_t, .int a1] : List Value).toArray s 0 0 A) (F0 m 59 ls []) := by
    intro v_t_said x_t_codeMany x_t_waiting H locs ls hl hP hD hS hf
    unfold f_X12_closesSums_b59 at hf
    obtain ⟨rfl, rfl, rfl⟩ := ev3 hf
    exact x_vret C hr hlk hP hD hS dX12_closesSums_59
  have hb_0 : ∀ (n_0 : Nat) (v_t_said : (Nat → Int32)) (x_t_codeMany : Int32) (x_t_waiting : Int32) (H : Heap) (locs : List Loc) (ls : Array Slot), lv_has ls 2 [(0, .ref A_t), (1, .int a1)] → va_P D vwCl [oX12 A_t A_t_now A_t_aside A_t_kept A_t_rhymeOf A_t_wasRhyme A_t_wordAt x_t_wordMany A_t_tape x_t_taped x_t_place0 x_t_length0 x_t_fault x_t_number0 x_t_open x_t_codeMany x_t_waiting x_t_saidMany x_t_clauses A_t_said A_t_waitsAt A_t_saidLetter A_t_saidFrom A_t_saidHalf A_t_saidTo A_t_codes A_t_clauseOf A_t_codeFrom A_t_codeHalf A_t_codeTo A_t_stack A_t_facts x_t_lines A_t_newWords A_t_roundFrom A_t_roundAt A_t_roundTimes x_t_newMany x_t_rounds x_t_itFrom x_t_itTimes x_t_writtenNow x_t_picturesNow x_t_usedNow x_t_chosen x_t_fearOfChosen A_t_leastFrom A_t_rowNow x_t_changesNow x_t_left0 A_t_bornOf A_t_trainsTo A_t_trainAt x_t_trainMany x_t_leastTries x_t_firstTrained x_t_isKept, iA cI 260 A_t_said v_t_said, iA cI 260 A_t_waitsAt v_t_waitsAt] H → va_D A [oX12 A_t A_t_now A_t_aside A_t_kept A_t_rhymeOf A_t_wasRhyme A_t_wordAt x_t_wordMany A_t_tape x_t_taped x_t_place0 x_t_length0 x_t_fault x_t_number0 x_t_open x_t_codeMany x_t_waiting x_t_saidMany x_t_clauses A_t_said A_t_waitsAt A_t_saidLetter A_t_saidFrom A_t_saidHalf A_t_saidTo A_t_codes A_t_clauseOf A_t_codeFrom A_t_codeHalf A_t_codeTo A_t_stack A_t_facts x_t_lines A_t_newWords A_t_roundFrom A_t_roundAt A_t_roundTimes x_t_newMany x_t_rounds x_t_itFrom x_t_itTimes x_t_writtenNow x_t_picturesNow x_t_usedNow x_t_chosen x_t_fearOfChosen A_t_leastFrom A_t_rowNow x_t_changesNow x_t_left0 A_t_bornOf A_t_trainsTo A_t_trainAt x_t_trainMany x_t_leastTries x_t_firstTrained x_t_isKept, iA cI 260 A_t_said v_t_said, iA cI 260 A_t_waitsAt v_t_waitsAt] → va_S A s.heap H locs → f_X12_closesSums_b0 v_t_waitsAt a1 n_0 v_t_said x_t_codeMany x_t_waiting = some (o_v_t_said, o_x_t_codeMany, o_x_t_waiting) → W p l e { frames := 1, cells := 0, slots := 0, locals := 22 } s m ([.ref A_t, .int a1] : List Value).toArray below meth c H locs 0 0 (MQ below (PoV D A [oX12 A_t A_t_now A_t_aside A_t_kept A_t_rhymeOf A_t_wasRhyme A_t_wordAt x_t_wordMany A_t_tape x_t_taped x_t_place0 x_t_length0 x_t_fault x_t_number0 x_t_open o_x_t_codeMany o_x_t_waiting x_t_saidMany x_t_clauses A_t_said A_t_waitsAt A_t_saidLetter A_t_saidFrom A_t_saidHalf A_t_saidTo A_t_codes A_t_clauseOf A_t_codeFrom A_t_codeHalf A_t_codeTo A_t_stack A_t_facts x_t_lines A_t_newWords A_t_roundFrom A_t_roundAt A_t_roundTimes x_t_newMany x_t_rounds x_t_itFrom x_t_itTimes x_t_writtenNow x_t_picturesNow x_t_usedNow x_t_chosen x_t_fearOfChosen A_t_leastFrom A_t_rowNow x_t_changesNow x_t_left0 A_t_bornOf A_t_trainsTo A_t_trainAt x_t_trainMany x_t_leastTries x_t_firstTrained x_t_isKept, iA cI 260 A_t_said o_v_t_said, iA cI 260 A_t_waitsAt v_t_waitsAt]) ([.ref A_t, .int a1] : List Value).toArray s 0 0 A) (F0 m 0 ls []) := by
    intro n_0
    induction n_0 with
    | zero =>
      intro v_t_said x_t_codeMany x_t_waiting H locs ls hl hP hD hS hf
      exact absurd hf (fun h => by rw [f_X12_closesSums_b0] at h; cases h)
    | succ n_0 ih_0 =>
      have hb_37 : ∀ (v_t_said : (Nat → Int32)) (x_t_codeMany : Int32) (x_t_waiting : Int32) (H : Heap) (locs : List Loc) (ls : Array Slot), lv_has ls 2 [(0, .ref A_t), (1, .int a1)] → va_P D vwCl [oX12 A_t A_t_now A_t_aside A_t_kept A_t_rhymeOf A_t_wasRhyme A_t_wordAt x_t_wordMany A_t_tape x_t_taped x_t_place0 x_t_length0 x_t_fault x_t_number0 x_t_open x_t_codeMany x_t_waiting x_t_saidMany x_t_clauses A_t_said A_t_waitsAt A_t_saidLetter A_t_saidFrom A_t_saidHalf A_t_saidTo A_t_codes A_t_clauseOf A_t_codeFrom A_t_codeHalf A_t_codeTo A_t_stack A_t_facts x_t_lines A_t_newWords A_t_roundFrom A_t_roundAt A_t_roundTimes x_t_newMany x_t_rounds x_t_itFrom x_t_itTimes x_t_writtenNow x_t_picturesNow x_t_usedNow x_t_chosen x_t_fearOfChosen A_t_leastFrom A_t_rowNow x_t_changesNow x_t_left0 A_t_bornOf A_t_trainsTo A_t_trainAt x_t_trainMany x_t_leastTries x_t_firstTrained x_t_isKept, iA cI 260 A_t_said v_t_said, iA cI 260 A_t_waitsAt v_t_waitsAt] H → va_D A [oX12 A_t A_t_now A_t_aside A_t_kept A_t_rhymeOf A_t_wasRhyme A_t_wordAt x_t_wordMany A_t_tape x_t_taped x_t_place0 x_t_length0 x_t_fault x_t_number0 x_t_open x_t_codeMany x_t_waiting x_t_saidMany x_t_clauses A_t_said A_t_waitsAt A_t_saidLetter A_t_saidFrom A_t_saidHalf A_t_saidTo A_t_codes A_t_clauseOf A_t_codeFrom A_t_codeHalf A_t_codeTo A_t_stack A_t_facts x_t_lines A_t_newWords A_t_roundFrom A_t_roundAt A_t_roundTimes x_t_newMany x_t_rounds x_t_itFrom x_t_itTimes x_t_writtenNow x_t_picturesNow x_t_usedNow x_t_chosen x_t_fearOfChosen A_t_leastFrom A_t_rowNow x_t_changesNow x_t_left0 A_t_bornOf A_t_trainsTo A_t_trainAt x_t_trainMany x_t_leastTries x_t_firstTrained x_t_isKept, iA cI 260 A_t_said v_t_said, iA cI 260 A_t_waitsAt v_t_waitsAt] → va_S A s.heap H locs → f_X12_closesSums_b37 v_t_waitsAt a1 (f_X12_closesSums_b0 v_t_waitsAt a1 n_0) v_t_said x_t_codeMany x_t_waiting = some (o_v_t_said, o_x_t_codeMany, o_x_t_waiting) → W p l e { frames := 1, cells := 0, slots := 0, locals := 22 } s m ([.ref A_t, .int a1] : List Value).toArray below meth c H locs 0 0 (MQ below (PoV D A [oX12 A_t A_t_now A_t_aside A_t_kept A_t_rhymeOf A_t_wasRhyme A_t_wordAt x_t_wordMany A_t_tape x_t_taped x_t_place0 x_t_length0 x_t_fault x_t_number0 x_t_open o_x_t_codeMany o_x_t_waiting x_t_saidMany x_t_clauses A_t_said A_t_waitsAt A_t_saidLetter A_t_saidFrom A_t_saidHalf A_t_saidTo A_t_codes A_t_clauseOf A_t_codeFrom A_t_codeHalf A_t_codeTo A_t_stack A_t_facts x_t_lines A_t_newWords A_t_roundFrom A_t_roundAt A_t_roundTimes x_t_newMany x_t_rounds x_t_itFrom x_t_itTimes x_t_writtenNow x_t_picturesNow x_t_usedNow x_t_chosen x_t_fearOfChosen A_t_leastFrom A_t_rowNow x_t_changesNow x_t_left0 A_t_bornOf A_t_trainsTo A_t_trainAt x_t_trainMany x_t_leastTries x_t_firstTrained x_t_isKept, iA cI 260 A_t_said o_v_t_said, iA cI 260 A_t_waitsAt v_t_waitsAt]) ([.ref A_t, .int a1] : List Value).toArray s 0 0 A) (F0 m 37 ls []) := by
        intro v_t_said x_t_codeMany x_t_waiting H locs ls hl hP hD hS hf
        unfold f_X12_closesSums_b37 at hf
        refine lv_aload_n hx hb dX12_closesSums_37 rfl (lv_at hl 0 rfl) ?_
        refine lv_aload_n hx hb dX12_closesSums_38 rfl (lv_at hl 0 rfl) ?_
        obtain ⟨r1, hc2, hf⟩ := bd1_e hf
        refine x_callVI (ws' := [oX12 A_t A_t_now A_t_aside A_t_kept A_t_rhymeOf A_t_wasRhyme A_t_wordAt x_t_wordMany A_t_tape x_t_taped x_t_place0 x_t_length0 x_t_fault x_t_number0 x_t_open x_t_codeMany x_t_waiting x_t_saidMany x_t_clauses A_t_said A_t_waitsAt A_t_saidLetter A_t_saidFrom A_t_saidHalf A_t_saidTo A_t_codes A_t_clauseOf A_t_codeFrom A_t_codeHalf A_t_codeTo A_t_stack A_t_facts x_t_lines A_t_newWords A_t_roundFrom A_t_roundAt A_t_roundTimes x_t_newMany x_t_rounds x_t_itFrom x_t_itTimes x_t_writtenNow x_t_picturesNow x_t_usedNow x_t_chosen x_t_fearOfChosen A_t_leastFrom A_t_rowNow x_t_changesNow x_t_left0 A_t_bornOf A_t_trainsTo A_t_trainAt x_t_trainMany x_t_leastTries x_t_firstTrained x_t_isKept, iA cI 260 A_t_said v_t_said, iA cI 260 A_t_waitsAt v_t_waitsAt]) (rest := [.ref A_t]) C hK hP hD hS hA hl mf_X12_183 (c_X12_waitTop hc2) [0, 2] 0 12 rfl rfl rfl rfl rfl rfl rfl rfl rfl rfl (Nat.le_of_ble_eq_true rfl) ⟨Nat.le_of_ble_eq_true rfl, Nat.le_of_ble_eq_true rfl⟩ ⟨Nat.le_refl _, Nat.le_refl _⟩ dX12_closesSums_39 ?_
        intro H locs hP hD hS
        refine lv_iconst (v := 0) hx hb dX12_closesSums_42 (by decide) ?_
        obtain ⟨w3, w4, hc5, hf⟩ := bd2_e hf
        refine x_callVV (ws' := [oX12 A_t A_t_now A_t_aside A_t_kept A_t_rhymeOf A_t_wasRhyme A_t_wordAt x_t_wordMany A_t_tape x_t_taped x_t_place0 x_t_length0 x_t_fault x_t_number0 x_t_open w4 x_t_waiting x_t_saidMany x_t_clauses A_t_said A_t_waitsAt A_t_saidLetter A_t_saidFrom A_t_saidHalf A_t_saidTo A_t_codes A_t_clauseOf A_t_codeFrom A_t_codeHalf A_t_codeTo A_t_stack A_t_facts x_t_lines A_t_newWords A_t_roundFrom A_t_roundAt A_t_roundTimes x_t_newMany x_t_rounds x_t_itFrom x_t_itTimes x_t_writtenNow x_t_picturesNow x_t_usedNow x_t_chosen x_t_fearOfChosen A_t_leastFrom A_t_rowNow x_t_changesNow x_t_left0 A_t_bornOf A_t_trainsTo A_t_trainAt x_t_trainMany x_t_leastTries x_t_firstTrained x_t_isKept, iA cI 260 A_t_said w3, iA cI 260 A_t_waitsAt v_t_waitsAt]) (rest := []) C hK hP hD hS hA hl mf_X12_186 (c_X12_notes hc5) [0, 1] 0 12 rfl rfl rfl rfl rfl rfl rfl rfl rfl rfl (Nat.le_of_ble_eq_true rfl) ⟨Nat.le_of_ble_eq_true rfl, Nat.le_of_ble_eq_true rfl⟩ ⟨Nat.le_refl _, Nat.le_refl _⟩ dX12_closesSums_43 ?_
        intro H locs hP hD hS
        refine lv_aload_n hx hb dX12_closesSums_46 rfl (lv_at hl 0 rfl) ?_
        refine lv_aload_n hx hb dX12_closesSums_47 rfl (lv_at hl 0 rfl) ?_
        refine x_get C hK hP fd_X12_180 0 rfl rfl dX12_closesSums_48 ?_
        refine lv_iconst (v := 1) hx hb dX12_closesSums_51 (by decide) ?_
        refine lv_isub hx hb dX12_closesSums_52 ?_
        refine x_put (ws' := [oX12 A_t A_t_now A_t_aside A_t_kept A_t_rhymeOf A_t_wasRhyme A_t_wordAt x_t_wordMany A_t_tape x_t_taped x_t_place0 x_t_length0 x_t_fault x_t_number0 x_t_open w4 (x_t_waiting - (1 : Int32)) x_t_saidMany x_t_clauses A_t_said A_t_waitsAt A_t_saidLetter A_t_saidFrom A_t_saidHalf A_t_saidTo A_t_codes A_t_clauseOf A_t_codeFrom A_t_codeHalf A_t_codeTo A_t_stack A_t_facts x_t_lines A_t_newWords A_t_roundFrom A_t_roundAt A_t_roundTimes x_t_newMany x_t_rounds x_t_itFrom x_t_itTimes x_t_writtenNow x_t_picturesNow x_t_usedNow x_t_chosen x_t_fearOfChosen A_t_leastFrom A_t_rowNow x_t_changesNow x_t_left0 A_t_bornOf A_t_trainsTo A_t_trainAt x_t_trainMany x_t_leastTries x_t_firstTrained x_t_isKept, iA cI 260 A_t_said w3, iA cI 260 A_t_waitsAt v_t_waitsAt]) C hK hP hD hS fp_X12_180 0 rfl rfl rfl (Nat.le_of_ble_eq_true rfl) rfl dX12_closesSums_53 ?_
        intro H locs hP hD hS
        refine lv_goto (tgt := 0) hx hb dX12_closesSums_56 (by decide) ?_
        exact ih_0 w3 w4 (x_t_waiting - (1 : Int32)) _ _ ls (lv_sub hl [0, 1] rfl) hP hD hS hf
      have hb_17 : ∀ (v_t_said : (Nat → Int32)) (x_t_codeMany : Int32) (x_t_waiting : Int32) (H : Heap) (locs : List Loc) (ls : Array Slot), lv_has ls 2 [(0, .ref A_t), (1, .int a1)] → va_P D vwCl [oX12 A_t A_t_now A_t_aside A_t_kept A_t_rhymeOf A_t_wasRhyme A_t_wordAt x_t_wordMany A_t_tape x_t_taped x_t_place0 x_t_length0 x_t_fault x_t_number0 x_t_open x_t_codeMany x_t_waiting x_t_saidMany x_t_clauses A_t_said A_t_waitsAt A_t_saidLetter A_t_saidFrom A_t_saidHalf A_t_saidTo A_t_codes A_t_clauseOf A_t_codeFrom A_t_codeHalf A_t_codeTo A_t_stack A_t_facts x_t_lines A_t_newWords A_t_roundFrom A_t_roundAt A_t_roundTimes x_t_newMany x_t_rounds x_t_itFrom x_t_itTimes x_t_writtenNow x_t_picturesNow x_t_usedNow x_t_chosen x_t_fearOfChosen A_t_leastFrom A_t_rowNow x_t_changesNow x_t_left0 A_t_bornOf A_t_trainsTo A_t_trainAt x_t_trainMany x_t_leastTries x_t_firstTrained x_t_isKept, iA cI 260 A_t_said v_t_said, iA cI 260 A_t_waitsAt v_t_waitsAt] H → va_D A [oX12 A_t A_t_now A_t_aside A_t_kept A_t_rhymeOf A_t_wasRhyme A_t_wordAt x_t_wordMany A_t_tape x_t_taped x_t_place0 x_t_length0 x_t_fault x_t_number0 x_t_open x_t_codeMany x_t_waiting x_t_saidMany x_t_clauses A_t_said A_t_waitsAt A_t_saidLetter A_t_saidFrom A_t_saidHalf A_t_saidTo A_t_codes A_t_clauseOf A_t_codeFrom A_t_codeHalf A_t_codeTo A_t_stack A_t_facts x_t_lines A_t_newWords A_t_roundFrom A_t_roundAt A_t_roundTimes x_t_newMany x_t_rounds x_t_itFrom x_t_itTimes x_t_writtenNow x_t_picturesNow x_t_usedNow x_t_chosen x_t_fearOfChosen A_t_leastFrom A_t_rowNow x_t_changesNow x_t_left0 A_t_bornOf A_t_trainsTo A_t_trainAt x_t_trainMany x_t_leastTries x_t_firstTrained x_t_isKept, iA cI 260 A_t_said v_t_said, iA cI 260 A_t_waitsAt v_t_waitsAt] → va_S A s.heap H locs → f_X12_closesSums_b17 v_t_waitsAt a1 (f_X12_closesSums_b0 v_t_waitsAt a1 n_0) v_t_said x_t_codeMany x_t_waiting = some (o_v_t_said, o_x_t_codeMany, o_x_t_waiting) → W p l e { frames := 1, cells := 0, slots := 0, locals := 22 } s m ([.ref A_t, .int a1] : List Value).toArray below meth c H locs 0 0 (MQ below (PoV D A [oX12 A_t A_t_now A_t_aside A_t_kept A_t_rhymeOf A_t_wasRhyme A_t_wordAt x_t_wordMany A_t_tape x_t_taped x_t_place0 x_t_length0 x_t_fault x_t_number0 x_t_open o_x_t_codeMany o_x_t_waiting x_t_saidMany x_t_clauses A_t_said A_t_waitsAt A_t_saidLetter A_t_saidFrom A_t_saidHalf A_t_saidTo A_t_codes A_t_clauseOf A_t_codeFrom A_t_codeHalf A_t_codeTo A_t_stack A_t_facts x_t_lines A_t_newWords A_t_roundFrom A_t_roundAt A_t_roundTimes x_t_newMany x_t_rounds x_t_itFrom x_t_itTimes x_t_writtenNow x_t_picturesNow x_t_usedNow x_t_chosen x_t_fearOfChosen A_t_leastFrom A_t_rowNow x_t_changesNow x_t_left0 A_t_bornOf A_t_trainsTo A_t_trainAt x_t_trainMany x_t_leastTries x_t_firstTrained x_t_isKept, iA cI 260 A_t_said o_v_t_said, iA cI 260 A_t_waitsAt v_t_waitsAt]) ([.ref A_t, .int a1] : List Value).toArray s 0 0 A) (F0 m 17 ls []) := by
        intro v_t_said x_t_codeMany x_t_waiting H locs ls hl hP hD hS hf
        unfold f_X12_closesSums_b17 at hf
        refine lv_iload_n hx hb dX12_closesSums_17 rfl (lv_at hl 1 rfl) ?_
        refine lv_if_eq (tgt := 59) hx hb dX12_closesSums_18 (by decide) (fun q => ?_) (fun q => ?_)
        · have hf := if_t q hf
          exact hb_59 v_t_said x_t_codeMany x_t_waiting _ _ ls (lv_sub hl [] rfl) hP hD hS hf
        · have hf := if_f q hf
          refine lv_aload_n hx hb dX12_closesSums_21 rfl (lv_at hl 0 rfl) ?_
          obtain ⟨r6, hc7, hf⟩ := bd1_e hf
          refine x_callVI (ws' := [oX12 A_t A_t_now A_t_aside A_t_kept A_t_rhymeOf A_t_wasRhyme A_t_wordAt x_t_wordMany A_t_tape x_t_taped x_t_place0 x_t_length0 x_t_fault x_t_number0 x_t_open x_t_codeMany x_t_waiting x_t_saidMany x_t_clauses A_t_said A_t_waitsAt A_t_saidLetter A_t_saidFrom A_t_saidHalf A_t_saidTo A_t_codes A_t_clauseOf A_t_codeFrom A_t_codeHalf A_t_codeTo A_t_stack A_t_facts x_t_lines A_t_newWords A_t_roundFrom A_t_roundAt A_t_roundTimes x_t_newMany x_t_rounds x_t_itFrom x_t_itTimes x_t_writtenNow x_t_picturesNow x_t_usedNow x_t_chosen x_t_fearOfChosen A_t_leastFrom A_t_rowNow x_t_changesNow x_t_left0 A_t_bornOf A_t_trainsTo A_t_trainAt x_t_trainMany x_t_leastTries x_t_firstTrained x_t_isKept, iA cI 260 A_t_said v_t_said, iA cI 260 A_t_waitsAt v_t_waitsAt]) (rest := []) C hK hP hD hS hA hl mf_X12_183 (c_X12_waitTop hc7) [0, 2] 0 12 rfl rfl rfl rfl rfl rfl rfl rfl rfl rfl (Nat.le_of_ble_eq_true rfl) ⟨Nat.le_of_ble_eq_true rfl, Nat.le_of_ble_eq_true rfl⟩ ⟨Nat.le_refl _, Nat.le_refl _⟩ dX12_closesSums_22 ?_
          intro H locs hP hD hS
          refine lv_iconst (v := 2) hx hb dX12_closesSums_25 (by decide) ?_
          refine lv_icmp_eq (tgt := 37) hx hb dX12_closesSums_26 (by decide) (fun q => ?_) (fun q => ?_)
          · have hf := if_t q hf
            exact hb_37 v_t_said x_t_codeMany x_t_waiting _ _ ls (lv_sub hl [0, 1] rfl) hP hD hS hf
          · have hf := if_f q hf
            refine lv_aload_n hx hb dX12_closesSums_29 rfl (lv_at hl 0 rfl) ?_
            obtain ⟨r8, hc9, hf⟩ := bd1_e hf
            refine x_callVI (ws' := [oX12 A_t A_t_now A_t_aside A_t_kept A_t_rhymeOf A_t_wasRhyme A_t_wordAt x_t_wordMany A_t_tape x_t_taped x_t_place0 x_t_length0 x_t_fault x_t_number0 x_t_open x_t_codeMany x_t_waiting x_t_saidMany x_t_clauses A_t_said A_t_waitsAt A_t_saidLetter A_t_saidFrom A_t_saidHalf A_t_saidTo A_t_codes A_t_clauseOf A_t_codeFrom A_t_codeHalf A_t_codeTo A_t_stack A_t_facts x_t_lines A_t_newWords A_t_roundFrom A_t_roundAt A_t_roundTimes x_t_newMany x_t_rounds x_t_itFrom x_t_itTimes x_t_writtenNow x_t_picturesNow x_t_usedNow x_t_chosen x_t_fearOfChosen A_t_leastFrom A_t_rowNow x_t_changesNow x_t_left0 A_t_bornOf A_t_trainsTo A_t_trainAt x_t_trainMany x_t_leastTries x_t_firstTrained x_t_isKept, iA cI 260 A_t_said v_t_said, iA cI 260 A_t_waitsAt v_t_waitsAt]) (rest := []) C hK hP hD hS hA hl mf_X12_183 (c_X12_waitTop hc9) [0, 2] 0 12 rfl rfl rfl rfl rfl rfl rfl rfl rfl rfl (Nat.le_of_ble_eq_true rfl) ⟨Nat.le_of_ble_eq_true rfl, Nat.le_of_ble_eq_true rfl⟩ ⟨Nat.le_refl _, Nat.le_refl _⟩ dX12_closesSums_30 ?_
            intro H locs hP hD hS
            refine lv_iconst (v := 3) hx hb dX12_closesSums_33 (by decide) ?_
            refine lv_icmp_ne (tgt := 59) hx hb dX12_closesSums_34 (by decide) (fun q => ?_) (fun q => ?_)
            · have hf := if_f q hf
              exact hb_59 v_t_said x_t_codeMany x_t_waiting _ _ ls (lv_sub hl [] rfl) hP hD hS hf
            · have hf := if_t q hf
              exact hb_37 v_t_said x_t_codeMany x_t_waiting _ _ ls (lv_sub hl [0, 1] rfl) hP hD hS hf
      intro v_t_said x_t_codeMany x_t_waiting H locs ls hl hP hD hS hf
      rw [f_X12_closesSums_b0] at hf
      refine lv_aload_n hx hb dX12_closesSums_0 rfl (lv_at hl 0 rfl) ?_
      obtain ⟨r10, hc11, hf⟩ := bd1_e hf
      refine x_callVI (ws' := [oX12 A_t A_t_now A_t_aside A_t_kept A_t_rhymeOf A_t_wasRhyme A_t_wordAt x_t_wordMany A_t_tape x_t_taped x_t_place0 x_t_length0 x_t_fault x_t_number0 x_t_open x_t_codeMany x_t_waiting x_t_saidMany x_t_clauses A_t_said A_t_waitsAt A_t_saidLetter A_t_saidFrom A_t_saidHalf A_t_saidTo A_t_codes A_t_clauseOf A_t_codeFrom A_t_codeHalf A_t_codeTo A_t_stack A_t_facts x_t_lines A_t_newWords A_t_roundFrom A_t_roundAt A_t_roundTimes x_t_newMany x_t_rounds x_t_itFrom x_t_itTimes x_t_writtenNow x_t_picturesNow x_t_usedNow x_t_chosen x_t_fearOfChosen A_t_leastFrom A_t_rowNow x_t_changesNow x_t_left0 A_t_bornOf A_t_trainsTo A_t_trainAt x_t_trainMany x_t_leastTries x_t_firstTrained x_t_isKept, iA cI 260 A_t_said v_t_said, iA cI 260 A_t_waitsAt v_t_waitsAt]) (rest := []) C hK hP hD hS hA hl mf_X12_183 (c_X12_waitTop hc11) [0, 2] 0 12 rfl rfl rfl rfl rfl rfl rfl rfl rfl rfl (Nat.le_of_ble_eq_true rfl) ⟨Nat.le_of_ble_eq_true rfl, Nat.le_of_ble_eq_true rfl⟩ ⟨Nat.le_refl _, Nat.le_refl _⟩ dX12_closesSums_1 ?_
      intro H locs hP hD hS
      refine lv_iconst (v := 4) hx hb dX12_closesSums_4 (by decide) ?_
      refine lv_icmp_lt (tgt := 17) hx hb dX12_closesSums_5 (by decide) (fun q => ?_) (fun q => ?_)
      · have hf := if_t q hf
        exact hb_17 v_t_said x_t_codeMany x_t_waiting _ _ ls (lv_sub hl [0, 1] rfl) hP hD hS hf
      · have hf := if_f q hf
        refine lv_aload_n hx hb dX12_closesSums_8 rfl (lv_at hl 0 rfl) ?_
        obtain ⟨r12, hc13, hf⟩ := bd1_e hf
        refine x_callVI (ws' := [oX12 A_t A_t_now A_t_aside A_t_kept A_t_rhymeOf A_t_wasRhyme A_t_wordAt x_t_wordMany A_t_tape x_t_taped x_t_place0 x_t_length0 x_t_fault x_t_number0 x_t_open x_t_codeMany x_t_waiting x_t_saidMany x_t_clauses A_t_said A_t_waitsAt A_t_saidLetter A_t_saidFrom A_t_saidHalf A_t_saidTo A_t_codes A_t_clauseOf A_t_codeFrom A_t_codeHalf A_t_codeTo A_t_stack A_t_facts x_t_lines A_t_newWords A_t_roundFrom A_t_roundAt A_t_roundTimes x_t_newMany x_t_rounds x_t_itFrom x_t_itTimes x_t_writtenNow x_t_picturesNow x_t_usedNow x_t_chosen x_t_fearOfChosen A_t_leastFrom A_t_rowNow x_t_changesNow x_t_left0 A_t_bornOf A_t_trainsTo A_t_trainAt x_t_trainMany x_t_leastTries x_t_firstTrained x_t_isKept, iA cI 260 A_t_said v_t_said, iA cI 260 A_t_waitsAt v_t_waitsAt]) (rest := []) C hK hP hD hS hA hl mf_X12_183 (c_X12_waitTop hc13) [0, 2] 0 12 rfl rfl rfl rfl rfl rfl rfl rfl rfl rfl (Nat.le_of_ble_eq_true rfl) ⟨Nat.le_of_ble_eq_true rfl, Nat.le_of_ble_eq_true rfl⟩ ⟨Nat.le_refl _, Nat.le_refl _⟩ dX12_closesSums_9 ?_
        intro H locs hP hD hS
        refine lv_bipush (v := 6) hx hb dX12_closesSums_12 (by decide) ?_
        refine lv_icmp_le (tgt := 37) hx hb dX12_closesSums_14 (by decide) (fun q => ?_) (fun q => ?_)
        · have hf := if_t q hf
          exact hb_37 v_t_said x_t_codeMany x_t_waiting _ _ ls (lv_sub hl [0, 1] rfl) hP hD hS hf
        · have hf := if_f q hf
          exact hb_17 v_t_said x_t_codeMany x_t_waiting _ _ ls (lv_sub hl [0, 1] rfl) hP hD hS hf
  exact hb_0 FU v_t_said x_t_codeMany x_t_waiting _ _ ls (lv_sub hl [0, 1] rfl) hP hD hS hf
def f_X12_readsFactor_b0 (v_t_tape : (Nat → Int32)) (x_t_length0 : Int32) : Nat → (Nat → Int32) → (Nat → Int32) → Int32 → Int32 → Int32 → Int32 → Int32 → Int32 → Option (Int32 × (Nat → Int32) × (Nat → Int32) × Int32 × Int32 × Int32 × Int32 × Int32 × Int32)
  | 0, _, _, _, _, _, _, _, _ => none
  | n + 1, v_t_said, v_t_waitsAt, x_t_codeMany, x_t_fault, x_t_number0, x_t_open, x_t_place0, x_t_waiting =>
    bd1 (f_X12_here v_t_tape x_t_length0 x_t_place0) (fun r1 =>
    if r1 = (91 : Int32) then
      bd6 (f_X12_opens v_t_waitsAt x_t_fault x_t_open x_t_place0 x_t_waiting (14 : Int32)) (fun r15 w16 w17 w18 w19 w20 =>
      if r15 = 0 then
        some ((0 : Int32), v_t_said, w16, x_t_codeMany, w17, x_t_number0, w18, w19, w20)
      else
        f_X12_readsFactor_b0 v_t_tape x_t_length0 n v_t_said w16 x_t_codeMany w17 x_t_number0 w18 w19 w20)
    else
      bd1 (f_X12_isDigit v_t_tape x_t_length0 x_t_place0) (fun r2 =>
      if r2 = 0 then
        bd1 (f_X12_here v_t_tape x_t_length0 x_t_place0) (fun r3 =>
        bd1 (f_X12_factOf r3) (fun r4 =>
        if r4 = (-1 : Int32) then
          bd2 (f_X12_wrongAt x_t_fault (1 : Int32) x_t_place0) (fun r7 w8 =>
          zI r7 (some (r7, v_t_said, v_t_waitsAt, x_t_codeMany, w8, x_t_number0, x_t_open, x_t_place0, x_t_waiting)))
        else
          bd2 (f_X12_notes v_t_said x_t_codeMany (1 : Int32) r4) (fun w5 w6 =>
          some ((1 : Int32), w5, v_t_waitsAt, w6, x_t_fault, x_t_number0, x_t_open, (x_t_place0 + (1 : Int32)), x_t_waiting))))
      else
        bd4 (f_X12_readsNumber v_t_tape x_t_fault x_t_length0 x_t_number0 x_t_place0) (fun r9 w10 w11 w12 =>
        if r9 = 0 then
          some ((0 : Int32), v_t_said, v_t_waitsAt, x_t_codeMany, w10, w11, x_t_open, w12, x_t_waiting)
        else
          bd2 (f_X12_notes v_t_said x_t_codeMany (0 : Int32) w11) (fun w13 w14 =>
          some ((1 : Int32), w13, v_t_waitsAt, w14, w10, w11, x_t_open, w12, x_t_waiting)))))
def f_X12_readsFactor (v_t_said : (Nat → Int32)) (v_t_tape : (Nat → Int32)) (v_t_waitsAt : (Nat → Int32)) (x_t_codeMany : Int32) (x_t_fault : Int32) (x_t_length0 : Int32) (x_t_number0 : Int32) (x_t_open : Int32) (x_t_place0 : Int32) (x_t_waiting : Int32) : Option (Int32 × (Nat → Int32) × (Nat → Int32) × Int32 × Int32 × Int32 × Int32 × Int32 × Int32) :=
  f_X12_readsFactor_b0 v_t_tape x_t_length0 FU v_t_said v_t_waitsAt x_t_codeMany x_t_fault x_t_number0 x_t_open x_t_place0 x_t_waiting
set_option maxHeartbeats 4000000 in
set_option maxRecDepth 100000 in
theorem c_X12_readsFactor {l : Launch} {D : va_G} {cI cB : ClassId} {A_t A_t_now A_t_aside A_t_kept A_t_rhymeOf A_t_wasRhyme A_t_wordAt A_t_tape A_t_said A_t_waitsAt A_t_saidLetter A_t_saidFrom A_t_saidHalf A_t_saidTo A_t_codes A_t_clauseOf A_t_codeFrom A_t_codeHalf A_t_codeTo A_t_stack A_t_facts A_t_newWords A_t_roundFrom A_t_roundAt A_t_roundTimes A_t_leastFrom A_t_rowNow A_t_bornOf A_t_trainsTo A_t_trainAt : Nat} {x_t_wordMany x_t_taped x_t_place0 x_t_length0 x_t_fault x_t_number0 x_t_open x_t_codeMany x_t_waiting x_t_saidMany x_t_clauses x_t_lines x_t_newMany x_t_rounds x_t_itFrom x_t_itTimes x_t_writtenNow x_t_picturesNow x_t_usedNow x_t_chosen x_t_fearOfChosen x_t_changesNow x_t_left0 x_t_trainMany x_t_leastTries x_t_firstTrained x_t_isKept : Int32} {v_t_said v_t_tape v_t_waitsAt : Nat → Int32} {o_r o_x_t_codeMany o_x_t_fault o_x_t_number0 o_x_t_open o_x_t_place0 o_x_t_waiting : Int32} {o_v_t_said o_v_t_waitsAt : Nat → Int32} (hf : f_X12_readsFactor v_t_said v_t_tape v_t_waitsAt x_t_codeMany x_t_fault x_t_length0 x_t_number0 x_t_open x_t_place0 x_t_waiting = some (o_r, o_v_t_said, o_v_t_waitsAt, o_x_t_codeMany, o_x_t_fault, o_x_t_number0, o_x_t_open, o_x_t_place0, o_x_t_waiting)) : CtI l D cI cB yX12_readsFactor cX12_readsFactor 2 (some .boolean) 3 61 [.ref A_t] [oX12 A_t A_t_now A_t_aside A_t_kept A_t_rhymeOf A_t_wasRhyme A_t_wordAt x_t_wordMany A_t_tape x_t_taped x_t_place0 x_t_length0 x_t_fault x_t_number0 x_t_open x_t_codeMany x_t_waiting x_t_saidMany x_t_clauses A_t_said A_t_waitsAt A_t_saidLetter A_t_saidFrom A_t_saidHalf A_t_saidTo A_t_codes A_t_clauseOf A_t_codeFrom A_t_codeHalf A_t_codeTo A_t_stack A_t_facts x_t_lines A_t_newWords A_t_roundFrom A_t_roundAt A_t_roundTimes x_t_newMany x_t_rounds x_t_itFrom x_t_itTimes x_t_writtenNow x_t_picturesNow x_t_usedNow x_t_chosen x_t_fearOfChosen A_t_leastFrom A_t_rowNow x_t_changesNow x_t_left0 A_t_bornOf A_t_trainsTo A_t_trainAt x_t_trainMany x_t_leastTries x_t_firstTrained x_t_isKept, iA cI 260 A_t_said v_t_said, iA cB 260 A_t_tape v_t_tape, iA cI 260 A_t_waitsAt v_t_waitsAt] [oX12 A_t A_t_now A_t_aside A_t_kept A_t_rhymeOf A_t_wasRhyme A_t_wordAt x_t_wordMany A_t_tape x_t_taped o_x_t_place0 x_t_length0 o_x_t_fault o_x_t_number0 o_x_t_open o_x_t_codeMany o_x_t_waiting x_t_saidMany x_t_clauses A_t_said A_t_waitsAt A_t_saidLetter A_t_saidFrom A_t_saidHalf A_t_saidTo A_t_codes A_t_clauseOf A_t_codeFrom A_t_codeHalf A_t_codeTo A_t_stack A_t_facts x_t_lines A_t_newWords A_t_roundFrom A_t_roundAt A_t_roundTimes x_t_newMany x_t_rounds x_t_itFrom x_t_itTimes x_t_writtenNow x_t_picturesNow x_t_usedNow x_t_chosen x_t_fearOfChosen A_t_leastFrom A_t_rowNow x_t_changesNow x_t_left0 A_t_bornOf A_t_trainsTo A_t_trainAt x_t_trainMany x_t_leastTries x_t_firstTrained x_t_isKept, iA cI 260 A_t_said o_v_t_said, iA cB 260 A_t_tape v_t_tape, iA cI 260 A_t_waitsAt o_v_t_waitsAt] o_r := by
  refine x_startI (by decide) (Nat.le_of_ble_eq_true rfl) ?_
  intro p e s m below meth c A C hr hlk hA hK hP hD hS ls hl
  have hl : lv_has ls 2 [(0, .ref A_t)] := hl
  have hx := C.1
  have hb := C.2.1
  unfold f_X12_readsFactor at hf
  have hb_0 : ∀ (n_0 : Nat) (v_t_said : (Nat → Int32)) (v_t_waitsAt : (Nat → Int32)) (x_t_codeMany : Int32) (x_t_fault : Int32) (x_t_number0 : Int32) (x_t_open : Int32) (x_t_place0 : Int32) (x_t_waiting : Int32) (H : Heap) (locs : List Loc) (ls : Array Slot), lv_has ls 2 [(0, .ref A_t)] → va_P D vwCl [oX12 A_t A_t_now A_t_aside A_t_kept A_t_rhymeOf A_t_wasRhyme A_t_wordAt x_t_wordMany A_t_tape x_t_taped x_t_place0 x_t_length0 x_t_fault x_t_number0 x_t_open x_t_codeMany x_t_waiting x_t_saidMany x_t_clauses A_t_said A_t_waitsAt A_t_saidLetter A_t_saidFrom A_t_saidHalf A_t_saidTo A_t_codes A_t_clauseOf A_t_codeFrom A_t_codeHalf A_t_codeTo A_t_stack A_t_facts x_t_lines A_t_newWords A_t_roundFrom A_t_roundAt A_t_roundTimes x_t_newMany x_t_rounds x_t_itFrom x_t_itTimes x_t_writtenNow x_t_picturesNow x_t_usedNow x_t_chosen x_t_fearOfChosen A_t_leastFrom A_t_rowNow x_t_changesNow x_t_left0 A_t_bornOf A_t_trainsTo A_t_trainAt x_t_trainMany x_t_leastTries x_t_firstTrained x_t_isKept, iA cI 260 A_t_said v_t_said, iA cB 260 A_t_tape v_t_tape, iA cI 260 A_t_waitsAt v_t_waitsAt] H → va_D A [oX12 A_t A_t_now A_t_aside A_t_kept A_t_rhymeOf A_t_wasRhyme A_t_wordAt x_t_wordMany A_t_tape x_t_taped x_t_place0 x_t_length0 x_t_fault x_t_number0 x_t_open x_t_codeMany x_t_waiting x_t_saidMany x_t_clauses A_t_said A_t_waitsAt A_t_saidLetter A_t_saidFrom A_t_saidHalf A_t_saidTo A_t_codes A_t_clauseOf A_t_codeFrom A_t_codeHalf A_t_codeTo A_t_stack A_t_facts x_t_lines A_t_newWords A_t_roundFrom A_t_roundAt A_t_roundTimes x_t_newMany x_t_rounds x_t_itFrom x_t_itTimes x_t_writtenNow x_t_picturesNow x_t_usedNow x_t_chosen x_t_fearOfChosen A_t_leastFrom A_t_rowNow x_t_changesNow x_t_left0 A_t_bornOf A_t_trainsTo A_t_trainAt x_t_trainMany x_t_leastTries x_t_firstTrained x_t_isKept, iA cI 260 A_t_said v_t_said, iA cB 260 A_t_tape v_t_tape, iA cI 260 A_t_waitsAt v_t_waitsAt] → va_S A s.heap H locs → f_X12_readsFactor_b0 v_t_tape x_t_length0 n_0 v_t_said v_t_waitsAt x_t_codeMany x_t_fault x_t_number0 x_t_open x_t_place0 x_t_waiting = some (o_r, o_v_t_said, o_v_t_waitsAt, o_x_t_codeMany, o_x_t_fault, o_x_t_number0, o_x_t_open, o_x_t_place0, o_x_t_waiting) → W p l e { frames := 3, cells := 0, slots := 0, locals := 61 } s m ([.ref A_t] : List Value).toArray below meth c H locs 0 0 (MQ below (PoI D A [oX12 A_t A_t_now A_t_aside A_t_kept A_t_rhymeOf A_t_wasRhyme A_t_wordAt x_t_wordMany A_t_tape x_t_taped o_x_t_place0 x_t_length0 o_x_t_fault o_x_t_number0 o_x_t_open o_x_t_codeMany o_x_t_waiting x_t_saidMany x_t_clauses A_t_said A_t_waitsAt A_t_saidLetter A_t_saidFrom A_t_saidHalf A_t_saidTo A_t_codes A_t_clauseOf A_t_codeFrom A_t_codeHalf A_t_codeTo A_t_stack A_t_facts x_t_lines A_t_newWords A_t_roundFrom A_t_roundAt A_t_roundTimes x_t_newMany x_t_rounds x_t_itFrom x_t_itTimes x_t_writtenNow x_t_picturesNow x_t_usedNow x_t_chosen x_t_fearOfChosen A_t_leastFrom A_t_rowNow x_t_changesNow x_t_left0 A_t_bornOf A_t_trainsTo A_t_trainAt x_t_trainMany x_t_leastTries x_t_firstTrained x_t_isKept, iA cI 260 A_t_said o_v_t_said, iA cB 260 A_t_tape v_t_tape, iA cI 260 A_t_waitsAt o_v_t_waitsAt] o_r) ([.ref A_t] : List Value).toArray s 0 0 A) (F0 m 0 ls []) := by
    intro n_0
    induction n_0 with
    | zero =>
      intro v_t_said v_t_waitsAt x_t_codeMany x_t_fault x_t_number0 x_t_open x_t_place0 x_t_waiting H locs ls hl hP hD hS hf
      exact absurd hf (fun h => by rw [f_X12_readsFactor_b0] at h; cases h)
    | succ n_0 ih_0 =>
      intro v_t_said v_t_waitsAt x_t_codeMany x_t_fault x_t_number0 x_t_open x_t_place0 x_t_waiting H locs ls hl hP hD hS hf
      rw [f_X12_readsFactor_b0] at hf
      refine lv_aload_n hx hb dX12_readsFactor_0 rfl (lv_at hl 0 rfl) ?_
      obtain ⟨r1, hc2, hf⟩ := bd1_e hf
      refine x_callVI (ws' := [oX12 A_t A_t_now A_t_aside A_t_kept A_t_rhymeOf A_t_wasRhyme A_t_wordAt x_t_wordMany A_t_tape x_t_taped x_t_place0 x_t_length0 x_t_fault x_t_number0 x_t_open x_t_codeMany x_t_waiting x_t_saidMany x_t_clauses A_t_said A_t_waitsAt A_t_saidLetter A_t_saidFrom A_t_saidHalf A_t_saidTo A_t_codes A_t_clauseOf A_t_codeFrom A_t_codeHalf A_t_codeTo A_t_stack A_t_facts x_t_lines A_t_newWords A_t_roundFrom A_t_roundAt A_t_roundTimes x_t_newMany x_t_rounds x_t_itFrom x_t_itTimes x_t_writtenNow x_t_picturesNow x_t_usedNow x_t_chosen x_t_fearOfChosen A_t_leastFrom A_t_rowNow x_t_changesNow x_t_left0 A_t_bornOf A_t_trainsTo A_t_trainAt x_t_trainMany x_t_leastTries x_t_firstTrained x_t_isKept, iA cI 260 A_t_said v_t_said, iA cB 260 A_t_tape v_t_tape, iA cI 260 A_t_waitsAt v_t_waitsAt]) (rest := []) C hK hP hD hS hA hl mf_X12_156 (c_X12_here hc2) [0, 2] 0 12 rfl rfl rfl rfl rfl rfl rfl rfl rfl rfl (Nat.le_of_ble_eq_true rfl) ⟨Nat.le_of_ble_eq_true rfl, Nat.le_of_ble_eq_true rfl⟩ ⟨Nat.le_refl _, Nat.le_refl _⟩ dX12_readsFactor_1 ?_
      intro H locs hP hD hS
      refine lv_bipush (v := 91) hx hb dX12_readsFactor_4 (by decide) ?_
      refine lv_icmp_ne (tgt := 20) hx hb dX12_readsFactor_6 (by decide) (fun q => ?_) (fun q => ?_)
      · have hf := if_f q hf
        refine lv_aload_n hx hb dX12_readsFactor_20 rfl (lv_at hl 0 rfl) ?_
        obtain ⟨r3, hc4, hf⟩ := bd1_e hf
        refine x_callVI (ws' := [oX12 A_t A_t_now A_t_aside A_t_kept A_t_rhymeOf A_t_wasRhyme A_t_wordAt x_t_wordMany A_t_tape x_t_taped x_t_place0 x_t_length0 x_t_fault x_t_number0 x_t_open x_t_codeMany x_t_waiting x_t_saidMany x_t_clauses A_t_said A_t_waitsAt A_t_saidLetter A_t_saidFrom A_t_saidHalf A_t_saidTo A_t_codes A_t_clauseOf A_t_codeFrom A_t_codeHalf A_t_codeTo A_t_stack A_t_facts x_t_lines A_t_newWords A_t_roundFrom A_t_roundAt A_t_roundTimes x_t_newMany x_t_rounds x_t_itFrom x_t_itTimes x_t_writtenNow x_t_picturesNow x_t_usedNow x_t_chosen x_t_fearOfChosen A_t_leastFrom A_t_rowNow x_t_changesNow x_t_left0 A_t_bornOf A_t_trainsTo A_t_trainAt x_t_trainMany x_t_leastTries x_t_firstTrained x_t_isKept, iA cI 260 A_t_said v_t_said, iA cB 260 A_t_tape v_t_tape, iA cI 260 A_t_waitsAt v_t_waitsAt]) (rest := []) C hK hP hD hS hA hl mf_X12_169 (c_X12_isDigit hc4) [0, 2] 0 12 rfl rfl rfl rfl rfl rfl rfl rfl rfl rfl (Nat.le_of_ble_eq_true rfl) ⟨Nat.le_of_ble_eq_true rfl, Nat.le_of_ble_eq_true rfl⟩ ⟨Nat.le_refl _, Nat.le_refl _⟩ dX12_readsFactor_21 ?_
        intro H locs hP hD hS
        refine lv_if_eq (tgt := 47) hx hb dX12_readsFactor_24 (by decide) (fun q => ?_) (fun q => ?_)
        · have hf := if_t q hf
          refine lv_aload_n hx hb dX12_readsFactor_47 rfl (lv_at hl 0 rfl) ?_
          obtain ⟨r5, hc6, hf⟩ := bd1_e hf
          refine x_callVI (ws' := [oX12 A_t A_t_now A_t_aside A_t_kept A_t_rhymeOf A_t_wasRhyme A_t_wordAt x_t_wordMany A_t_tape x_t_taped x_t_place0 x_t_length0 x_t_fault x_t_number0 x_t_open x_t_codeMany x_t_waiting x_t_saidMany x_t_clauses A_t_said A_t_waitsAt A_t_saidLetter A_t_saidFrom A_t_saidHalf A_t_saidTo A_t_codes A_t_clauseOf A_t_codeFrom A_t_codeHalf A_t_codeTo A_t_stack A_t_facts x_t_lines A_t_newWords A_t_roundFrom A_t_roundAt A_t_roundTimes x_t_newMany x_t_rounds x_t_itFrom x_t_itTimes x_t_writtenNow x_t_picturesNow x_t_usedNow x_t_chosen x_t_fearOfChosen A_t_leastFrom A_t_rowNow x_t_changesNow x_t_left0 A_t_bornOf A_t_trainsTo A_t_trainAt x_t_trainMany x_t_leastTries x_t_firstTrained x_t_isKept, iA cI 260 A_t_said v_t_said, iA cB 260 A_t_tape v_t_tape, iA cI 260 A_t_waitsAt v_t_waitsAt]) (rest := []) C hK hP hD hS hA hl mf_X12_156 (c_X12_here hc6) [0, 2] 0 12 rfl rfl rfl rfl rfl rfl rfl rfl rfl rfl (Nat.le_of_ble_eq_true rfl) ⟨Nat.le_of_ble_eq_true rfl, Nat.le_of_ble_eq_true rfl⟩ ⟨Nat.le_refl _, Nat.le_refl _⟩ dX12_readsFactor_48 ?_
          intro H locs hP hD hS
          obtain ⟨r7, hc8, hf⟩ := bd1_e hf
          refine x_callSI (ws' := [oX12 A_t A_t_now A_t_aside A_t_kept A_t_rhymeOf A_t_wasRhyme A_t_wordAt x_t_wordMany A_t_tape x_t_taped x_t_place0 x_t_length0 x_t_fault x_t_number0 x_t_open x_t_codeMany x_t_waiting x_t_saidMany x_t_clauses A_t_said A_t_waitsAt A_t_saidLetter A_t_saidFrom A_t_saidHalf A_t_saidTo A_t_codes A_t_clauseOf A_t_codeFrom A_t_codeHalf A_t_codeTo A_t_stack A_t_facts x_t_lines A_t_newWords A_t_roundFrom A_t_roundAt A_t_roundTimes x_t_newMany x_t_rounds x_t_itFrom x_t_itTimes x_t_writtenNow x_t_picturesNow x_t_usedNow x_t_chosen x_t_fearOfChosen A_t_leastFrom A_t_rowNow x_t_changesNow x_t_left0 A_t_bornOf A_t_trainsTo A_t_trainAt x_t_trainMany x_t_leastTries x_t_firstTrained x_t_isKept, iA cI 260 A_t_said v_t_said, iA cB 260 A_t_tape v_t_tape, iA cI 260 A_t_waitsAt v_t_waitsAt]) (rest := []) C hK hP hD hS hA hl mf_X12_196 (c_X12_factOf hc8) [] rfl rfl rfl rfl rfl rfl rfl rfl (Nat.le_of_ble_eq_true rfl) ⟨Nat.le_of_ble_eq_true rfl, Nat.le_of_ble_eq_true rfl⟩ ⟨Nat.le_refl _, Nat.le_refl _⟩ dX12_readsFactor_51 ?_
          intro H locs hP hD hS
          refine lv_istore_n (lv' := [(1, .int r7), (0, .ref A_t)]) hx hb dX12_readsFactor_54 rfl hl (by decide) rfl (fun ls hl => ?_)
          refine lv_iload_n hx hb dX12_readsFactor_55 rfl (lv_at hl 0 rfl) ?_
          refine lv_iconst (v := -1) hx hb dX12_readsFactor_56 (by decide) ?_
          refine lv_icmp_ne (tgt := 70) hx hb dX12_readsFactor_57 (by decide) (fun q => ?_) (fun q => ?_)
          · have hf := if_f q hf
            refine lv_aload_n hx hb dX12_readsFactor_70 rfl (lv_at hl 1 rfl) ?_
            refine lv_iconst (v := 1) hx hb dX12_readsFactor_71 (by decide) ?_
            refine lv_iload_n hx hb dX12_readsFactor_72 rfl (lv_at hl 0 rfl) ?_
            obtain ⟨w9, w10, hc11, hf⟩ := bd2_e hf
            refine x_callVV (ws' := [oX12 A_t A_t_now A_t_aside A_t_kept A_t_rhymeOf A_t_wasRhyme A_t_wordAt x_t_wordMany A_t_tape x_t_taped x_t_place0 x_t_length0 x_t_fault x_t_number0 x_t_open w10 x_t_waiting x_t_saidMany x_t_clauses A_t_said A_t_waitsAt A_t_saidLetter A_t_saidFrom A_t_saidHalf A_t_saidTo A_t_codes A_t_clauseOf A_t_codeFrom A_t_codeHalf A_t_codeTo A_t_stack A_t_facts x_t_lines A_t_newWords A_t_roundFrom A_t_roundAt A_t_roundTimes x_t_newMany x_t_rounds x_t_itFrom x_t_itTimes x_t_writtenNow x_t_picturesNow x_t_usedNow x_t_chosen x_t_fearOfChosen A_t_leastFrom A_t_rowNow x_t_changesNow x_t_left0 A_t_bornOf A_t_trainsTo A_t_trainAt x_t_trainMany x_t_leastTries x_t_firstTrained x_t_isKept, iA cI 260 A_t_said w9, iA cB 260 A_t_tape v_t_tape, iA cI 260 A_t_waitsAt v_t_waitsAt]) (rest := []) C hK hP hD hS hA hl mf_X12_186 (c_X12_notes hc11) [0, 1] 0 12 rfl rfl rfl rfl rfl rfl rfl rfl rfl rfl (Nat.le_of_ble_eq_true rfl) ⟨Nat.le_of_ble_eq_true rfl, Nat.le_of_ble_eq_true rfl⟩ ⟨Nat.le_refl _, Nat.le_refl _⟩ dX12_readsFactor_73 ?_
            intro H locs hP hD hS
            refine lv_aload_n hx hb dX12_readsFactor_76 rfl (lv_at hl 1 rfl) ?_
            refine lv_aload_n hx hb dX12_readsFactor_77 rfl (lv_at hl 1 rfl) ?_
            refine x_get C hK hP fd_X12_150 0 rfl rfl dX12_readsFactor_78 ?_
            refine lv_iconst (v := 1) hx hb dX12_readsFactor_81 (by decide) ?_
            refine lv_iadd hx hb dX12_readsFactor_82 ?_
            refine x_put (ws' := [oX12 A_t A_t_now A_t_aside A_t_kept A_t_rhymeOf A_t_wasRhyme A_t_wordAt x_t_wordMany A_t_tape x_t_taped (x_t_place0 + (1 : Int32)) x_t_length0 x_t_fault x_t_number0 x_t_open w10 x_t_waiting x_t_saidMany x_t_clauses A_t_said A_t_waitsAt A_t_saidLetter A_t_saidFrom A_t_saidHalf A_t_saidTo A_t_codes A_t_clauseOf A_t_codeFrom A_t_codeHalf A_t_codeTo A_t_stack A_t_facts x_t_lines A_t_newWords A_t_roundFrom A_t_roundAt A_t_roundTimes x_t_newMany x_t_rounds x_t_itFrom x_t_itTimes x_t_writtenNow x_t_picturesNow x_t_usedNow x_t_chosen x_t_fearOfChosen A_t_leastFrom A_t_rowNow x_t_changesNow x_t_left0 A_t_bornOf A_t_trainsTo A_t_trainAt x_t_trainMany x_t_leastTries x_t_firstTrained x_t_isKept, iA cI 260 A_t_said w9, iA cB 260 A_t_tape v_t_tape, iA cI 260 A_t_waitsAt v_t_waitsAt]) C hK hP hD hS fp_X12_150 0 rfl rfl rfl (Nat.le_of_ble_eq_true rfl) rfl dX12_readsFactor_83 ?_
            intro H locs hP hD hS
            refine lv_iconst (v := 1) hx hb dX12_readsFactor_86 (by decide) ?_
            obtain ⟨rfl, rfl, rfl, rfl, rfl, rfl, rfl, rfl, rfl⟩ := ev9 hf
            exact x_zret C hr hlk (Or.inr rfl) hP hD hS dX12_readsFactor_87
          · have hf := if_t q hf
            refine lv_aload_n hx hb dX12_readsFactor_60 rfl (lv_at hl 1 rfl) ?_
            refine lv_iconst (v := 1) hx hb dX12_readsFactor_61 (by decide) ?_
            refine lv_aload_n hx hb dX12_readsFactor_62 rfl (lv_at hl 1 rfl) ?_
            refine x_get C hK hP fd_X12_150 0 rfl rfl dX12_readsFactor_63 ?_
            obtain ⟨r12, w13, hc14, hf⟩ := bd2_e hf
            refine x_callVI (ws' := [oX12 A_t A_t_now A_t_aside A_t_kept A_t_rhymeOf A_t_wasRhyme A_t_wordAt x_t_wordMany A_t_tape x_t_taped x_t_place0 x_t_length0 w13 x_t_number0 x_t_open x_t_codeMany x_t_waiting x_t_saidMany x_t_clauses A_t_said A_t_waitsAt A_t_saidLetter A_t_saidFrom A_t_saidHalf A_t_saidTo A_t_codes A_t_clauseOf A_t_codeFrom A_t_codeHalf A_t_codeTo A_t_stack A_t_facts x_t_lines A_t_newWords A_t_roundFrom A_t_roundAt A_t_roundTimes x_t_newMany x_t_rounds x_t_itFrom x_t_itTimes x_t_writtenNow x_t_picturesNow x_t_usedNow x_t_chosen x_t_fearOfChosen A_t_leastFrom A_t_rowNow x_t_changesNow x_t_left0 A_t_bornOf A_t_trainsTo A_t_trainAt x_t_trainMany x_t_leastTries x_t_firstTrained x_t_isKept, iA cI 260 A_t_said v_t_said, iA cB 260 A_t_tape v_t_tape, iA cI 260 A_t_waitsAt v_t_waitsAt]) (rest := []) C hK hP hD hS hA hl mf_X12_163 (c_X12_wrongAt hc14) [0] 0 12 rfl rfl rfl rfl rfl rfl rfl rfl rfl rfl (Nat.le_of_ble_eq_true rfl) ⟨Nat.le_of_ble_eq_true rfl, Nat.le_of_ble_eq_true rfl⟩ ⟨Nat.le_refl _, Nat.le_refl _⟩ dX12_readsFactor_66 ?_
            intro H locs hP hD hS
            obtain ⟨hz, hf⟩ := zI_e hf
            obtain ⟨rfl, rfl, rfl, rfl, rfl, rfl, rfl, rfl, rfl⟩ := ev9 hf
            exact x_zret C hr hlk hz hP hD hS dX12_readsFactor_69
        · have hf := if_f q hf
          refine lv_aload_n hx hb dX12_readsFactor_27 rfl (lv_at hl 0 rfl) ?_
          obtain ⟨r15, w16, w17, w18, hc19, hf⟩ := bd4_e hf
          refine x_callVI (ws' := [oX12 A_t A_t_now A_t_aside A_t_kept A_t_rhymeOf A_t_wasRhyme A_t_wordAt x_t_wordMany A_t_tape x_t_taped w18 x_t_length0 w16 w17 x_t_open x_t_codeMany x_t_waiting x_t_saidMany x_t_clauses A_t_said A_t_waitsAt A_t_saidLetter A_t_saidFrom A_t_saidHalf A_t_saidTo A_t_codes A_t_clauseOf A_t_codeFrom A_t_codeHalf A_t_codeTo A_t_stack A_t_facts x_t_lines A_t_newWords A_t_roundFrom A_t_roundAt A_t_roundTimes x_t_newMany x_t_rounds x_t_itFrom x_t_itTimes x_t_writtenNow x_t_picturesNow x_t_usedNow x_t_chosen x_t_fearOfChosen A_t_leastFrom A_t_rowNow x_t_changesNow x_t_left0 A_t_bornOf A_t_trainsTo A_t_trainAt x_t_trainMany x_t_leastTries x_t_firstTrained x_t_isKept, iA cI 260 A_t_said v_t_said, iA cB 260 A_t_tape v_t_tape, iA cI 260 A_t_waitsAt v_t_waitsAt]) (rest := []) C hK hP hD hS hA hl mf_X12_193 (c_X12_readsNumber hc19) [0, 2] 0 12 rfl rfl rfl rfl rfl rfl rfl rfl rfl rfl (Nat.le_of_ble_eq_true rfl) ⟨Nat.le_of_ble_eq_true rfl, Nat.le_of_ble_eq_true rfl⟩ ⟨Nat.le_refl _, Nat.le_refl _⟩ dX12_readsFactor_28 ?_
          intro H locs hP hD hS
          refine lv_if_ne (tgt := 36) hx hb dX12_readsFactor_31 (by decide) (fun q => ?_) (fun q => ?_)
          · have hf := if_f q hf
            refine lv_aload_n hx hb dX12_readsFactor_36 rfl (lv_at hl 0 rfl) ?_
            refine lv_iconst (v := 0) hx hb dX12_readsFactor_37 (by decide) ?_
            refine lv_aload_n hx hb dX12_readsFactor_38 rfl (lv_at hl 0 rfl) ?_
            refine x_get C hK hP fd_X12_166 0 rfl rfl dX12_readsFactor_39 ?_
            obtain ⟨w20, w21, hc22, hf⟩ := bd2_e hf
            refine x_callVV (ws' := [oX12 A_t A_t_now A_t_aside A_t_kept A_t_rhymeOf A_t_wasRhyme A_t_wordAt x_t_wordMany A_t_tape x_t_taped w18 x_t_length0 w16 w17 x_t_open w21 x_t_waiting x_t_saidMany x_t_clauses A_t_said A_t_waitsAt A_t_saidLetter A_t_saidFrom A_t_saidHalf A_t_saidTo A_t_codes A_t_clauseOf A_t_codeFrom A_t_codeHalf A_t_codeTo A_t_stack A_t_facts x_t_lines A_t_newWords A_t_roundFrom A_t_roundAt A_t_roundTimes x_t_newMany x_t_rounds x_t_itFrom x_t_itTimes x_t_writtenNow x_t_picturesNow x_t_usedNow x_t_chosen x_t_fearOfChosen A_t_leastFrom A_t_rowNow x_t_changesNow x_t_left0 A_t_bornOf A_t_trainsTo A_t_trainAt x_t_trainMany x_t_leastTries x_t_firstTrained x_t_isKept, iA cI 260 A_t_said w20, iA cB 260 A_t_tape v_t_tape, iA cI 260 A_t_waitsAt v_t_waitsAt]) (rest := []) C hK hP hD hS hA hl mf_X12_186 (c_X12_notes hc22) [0, 1] 0 12 rfl rfl rfl rfl rfl rfl rfl rfl rfl rfl (Nat.le_of_ble_eq_true rfl) ⟨Nat.le_of_ble_eq_true rfl, Nat.le_of_ble_eq_true rfl⟩ ⟨Nat.le_refl _, Nat.le_refl _⟩ dX12_readsFactor_42 ?_
            intro H locs hP hD hS
            refine lv_iconst (v := 1) hx hb dX12_readsFactor_45 (by decide) ?_
            obtain ⟨rfl, rfl, rfl, rfl, rfl, rfl, rfl, rfl, rfl⟩ := ev9 hf
            exact x_zret C hr hlk (Or.inr rfl) hP hD hS dX12_readsFactor_46
          · have hf := if_t q hf
            refine lv_iconst (v := 0) hx hb dX12_readsFactor_34 (by decide) ?_
            obtain ⟨rfl, rfl, rfl, rfl, rfl, rfl, rfl, rfl, rfl⟩ := ev9 hf
            exact x_zret C hr hlk (Or.inl rfl) hP hD hS dX12_readsFactor_35
      · have hf := if_t q hf
        refine lv_aload_n hx hb dX12_readsFactor_9 rfl (lv_at hl 0 rfl) ?_
        refine lv_bipush (v := 14) hx hb dX12_readsFactor_10 (by decide) ?_
        obtain ⟨r23, w24, w25, w26, w27, w28, hc29, hf⟩ := bd6_e hf
        refine x_callVI (ws' := [oX12 A_t A_t_now A_t_aside A_t_kept A_t_rhymeOf A_t_wasRhyme A_t_wordAt x_t_wordMany A_t_tape x_t_taped w27 x_t_length0 w25 x_t_number0 w26 x_t_codeMany w28 x_t_saidMany x_t_clauses A_t_said A_t_waitsAt A_t_saidLetter A_t_saidFrom A_t_saidHalf A_t_saidTo A_t_codes A_t_clauseOf A_t_codeFrom A_t_codeHalf A_t_codeTo A_t_stack A_t_facts x_t_lines A_t_newWords A_t_roundFrom A_t_roundAt A_t_roundTimes x_t_newMany x_t_rounds x_t_itFrom x_t_itTimes x_t_writtenNow x_t_picturesNow x_t_usedNow x_t_chosen x_t_fearOfChosen A_t_leastFrom A_t_rowNow x_t_changesNow x_t_left0 A_t_bornOf A_t_trainsTo A_t_trainAt x_t_trainMany x_t_leastTries x_t_firstTrained x_t_isKept, iA cI 260 A_t_said v_t_said, iA cB 260 A_t_tape v_t_tape, iA cI 260 A_t_waitsAt w24]) (rest := []) C hK hP hD hS hA hl mf_X12_190 (c_X12_opens hc29) [0, 3] 0 12 rfl rfl rfl rfl rfl rfl rfl rfl rfl rfl (Nat.le_of_ble_eq_true rfl) ⟨Nat.le_of_ble_eq_true rfl, Nat.le_of_ble_eq_true rfl⟩ ⟨Nat.le_refl _, Nat.le_refl _⟩ dX12_readsFactor_12 ?_
        intro H locs hP hD hS
        refine lv_if_ne (tgt := 0) hx hb dX12_readsFactor_15 (by decide) (fun q => ?_) (fun q => ?_)
        · have hf := if_f q hf
          exact ih_0 v_t_said w24 x_t_codeMany w25 x_t_number0 w26 w27 w28 _ _ ls (lv_sub hl [0] rfl) hP hD hS hf
        · have hf := if_t q hf
          refine lv_iconst (v := 0) hx hb dX12_readsFactor_18 (by decide) ?_
          obtain ⟨rfl, rfl, rfl, rfl, rfl, rfl, rfl, rfl, rfl⟩ := ev9 hf
          exact x_zret C hr hlk (Or.inl rfl) hP hD hS dX12_readsFactor_19
  exact hb_0 FU v_t_said v_t_waitsAt x_t_codeMany x_t_fault x_t_number0 x_t_open x_t_place0 x_t_waiting _ _ ls (lv_sub hl [0] rfl) hP hD hS hf
def f_X12_hasOpenSum_b2 (v_t_waitsAt : (Nat → Int32)) (x_t_waiting : Int32) : Nat → Int32 → Option (Int32)
  | 0, _ => none
  | n + 1, l2 =>
    if x_t_waiting ≤ l2 then
      some (0 : Int32)
    else
      gI 260 v_t_waitsAt l2 (fun g1 =>
      dI g1 (1048576 : Int32) (fun g2 =>
      if g2 = (14 : Int32) then
        some (1 : Int32)
      else
        f_X12_hasOpenSum_b2 v_t_waitsAt x_t_waiting n (l2 + (1 : Int32))))
def f_X12_hasOpenSum (v_t_waitsAt : (Nat → Int32)) (x_t_waiting : Int32) (a1 : Int32) : Option (Int32) :=
  f_X12_hasOpenSum_b2 v_t_waitsAt x_t_waiting FU a1
set_option maxHeartbeats 4000000 in
set_option maxRecDepth 100000 in
theorem c_X12_hasOpenSum {l : Launch} {D : va_G} {cI cB : ClassId} {A_t A_t_now A_t_aside A_t_kept A_t_rhymeOf A_t_wasRhyme A_t_wordAt A_t_tape A_t_said A_t_waitsAt A_t_saidLetter A_t_saidFrom A_t_saidHalf A_t_saidTo A_t_codes A_t_clauseOf A_t_codeFrom A_t_codeHalf A_t_codeTo A_t_stack A_t_facts A_t_newWords A_t_roundFrom A_t_roundAt A_t_roundTimes A_t_leastFrom A_t_rowNow A_t_bornOf A_t_trainsTo A_t_trainAt : Nat} {x_t_wordMany x_t_taped x_t_place0 x_t_length0 x_t_fault x_t_number0 x_t_open x_t_codeMany x_t_waiting x_t_saidMany x_t_clauses x_t_lines x_t_newMany x_t_rounds x_t_itFrom x_t_itTimes x_t_writtenNow x_t_picturesNow x_t_usedNow x_t_chosen x_t_fearOfChosen x_t_changesNow x_t_left0 x_t_trainMany x_t_leastTries x_t_firstTrained x_t_isKept a1 : Int32} {v_t_waitsAt : Nat → Int32} {o_r : Int32} (hf : f_X12_hasOpenSum v_t_waitsAt x_t_waiting a1 = some o_r) : CtI l D cI cB yX12_hasOpenSum cX12_hasOpenSum 3 (some .boolean) 0 0 [.ref A_t, .int a1] [oX12 A_t A_t_now A_t_aside A_t_kept A_t_rhymeOf A_t_wasRhyme A_t_wordAt x_t_wordMany A_t_tape x_t_taped x_t_place0 x_t_length0 x_t_fault x_t_number0 x_t_open x_t_codeMany x_t_waiting x_t_saidMany x_t_clauses A_t_said A_t_waitsAt A_t_saidLetter A_t_saidFrom A_t_saidHalf A_t_saidTo A_t_codes A_t_clauseOf A_t_codeFrom A_t_codeHalf A_t_codeTo A_t_stack A_t_facts x_t_lines A_t_newWords A_t_roundFrom A_t_roundAt A_t_roundTimes x_t_newMany x_t_rounds x_t_itFrom x_t_itTimes x_t_writtenNow x_t_picturesNow x_t_usedNow x_t_chosen x_t_fearOfChosen A_t_leastFrom A_t_rowNow x_t_changesNow x_t_left0 A_t_bornOf A_t_trainsTo A_t_trainAt x_t_trainMany x_t_leastTries x_t_firstTrained x_t_isKept, iA cI 260 A_t_waitsAt v_t_waitsAt] [oX12 A_t A_t_now A_t_aside A_t_kept A_t_rhymeOf A_t_wasRhyme A_t_wordAt x_t_wordMany A_t_tape x_t_taped x_t_place0 x_t_length0 x_t_fault x_t_number0 x_t_open x_t_codeMany x_t_waiting x_t_saidMany x_t_clauses A_t_said A_t_waitsAt A_t_saidLetter A_t_saidFrom A_t_saidHalf A_t_saidTo A_t_codes A_t_clauseOf A_t_codeFrom A_t_codeHalf A_t_codeTo A_t_stack A_t_facts x_t_lines A_t_newWords A_t_roundFrom A_t_roundAt A_t_roundTimes x_t_newMany x_t_rounds x_t_itFrom x_t_itTimes x_t_writtenNow x_t_picturesNow x_t_usedNow x_t_chosen x_t_fearOfChosen A_t_leastFrom A_t_rowNow x_t_changesNow x_t_left0 A_t_bornOf A_t_trainsTo A_t_trainAt x_t_trainMany x_t_leastTries x_t_firstTrained x_t_isKept, iA cI 260 A_t_waitsAt v_t_waitsAt] o_r := by
  refine x_startI (by decide) (Nat.le_of_ble_eq_true rfl) ?_
  intro p e s m below meth c A C hr hlk hA hK hP hD hS ls hl
  have hl : lv_has ls 3 [(0, .ref A_t), (1, .int a1)] := hl
  have hx := C.1
  have hb := C.2.1
  unfold f_X12_hasOpenSum at hf
  have hb_2 : ∀ (n_2 : Nat) (l2 : Int32) (H : Heap) (locs : List Loc) (ls : Array Slot), lv_has ls 3 [(0, .ref A_t), (2, .int l2)] → va_P D vwCl [oX12 A_t A_t_now A_t_aside A_t_kept A_t_rhymeOf A_t_wasRhyme A_t_wordAt x_t_wordMany A_t_tape x_t_taped x_t_place0 x_t_length0 x_t_fault x_t_number0 x_t_open x_t_codeMany x_t_waiting x_t_saidMany x_t_clauses A_t_said A_t_waitsAt A_t_saidLetter A_t_saidFrom A_t_saidHalf A_t_saidTo A_t_codes A_t_clauseOf A_t_codeFrom A_t_codeHalf A_t_codeTo A_t_stack A_t_facts x_t_lines A_t_newWords A_t_roundFrom A_t_roundAt A_t_roundTimes x_t_newMany x_t_rounds x_t_itFrom x_t_itTimes x_t_writtenNow x_t_picturesNow x_t_usedNow x_t_chosen x_t_fearOfChosen A_t_leastFrom A_t_rowNow x_t_changesNow x_t_left0 A_t_bornOf A_t_trainsTo A_t_trainAt x_t_trainMany x_t_leastTries x_t_firstTrained x_t_isKept, iA cI 260 A_t_waitsAt v_t_waitsAt] H → va_D A [oX12 A_t A_t_now A_t_aside A_t_kept A_t_rhymeOf A_t_wasRhyme A_t_wordAt x_t_wordMany A_t_tape x_t_taped x_t_place0 x_t_length0 x_t_fault x_t_number0 x_t_open x_t_codeMany x_t_waiting x_t_saidMany x_t_clauses A_t_said A_t_waitsAt A_t_saidLetter A_t_saidFrom A_t_saidHalf A_t_saidTo A_t_codes A_t_clauseOf A_t_codeFrom A_t_codeHalf A_t_codeTo A_t_stack A_t_facts x_t_lines A_t_newWords A_t_roundFrom A_t_roundAt A_t_roundTimes x_t_newMany x_t_rounds x_t_itFrom x_t_itTimes x_t_writtenNow x_t_picturesNow x_t_usedNow x_t_chosen x_t_fearOfChosen A_t_leastFrom A_t_rowNow x_t_changesNow x_t_left0 A_t_bornOf A_t_trainsTo A_t_trainAt x_t_trainMany x_t_leastTries x_t_firstTrained x_t_isKept, iA cI 260 A_t_waitsAt v_t_waitsAt] → va_S A s.heap H locs → f_X12_hasOpenSum_b2 v_t_waitsAt x_t_waiting n_2 l2 = some o_r → W p l e { frames := 0, cells := 0, slots := 0, locals := 0 } s m ([.ref A_t, .int a1] : List Value).toArray below meth c H locs 0 0 (MQ below (PoI D A [oX12 A_t A_t_now A_t_aside A_t_kept A_t_rhymeOf A_t_wasRhyme A_t_wordAt x_t_wordMany A_t_tape x_t_taped x_t_place0 x_t_length0 x_t_fault x_t_number0 x_t_open x_t_codeMany x_t_waiting x_t_saidMany x_t_clauses A_t_said A_t_waitsAt A_t_saidLetter A_t_saidFrom A_t_saidHalf A_t_saidTo A_t_codes A_t_clauseOf A_t_codeFrom A_t_codeHalf A_t_codeTo A_t_stack A_t_facts x_t_lines A_t_newWords A_t_roundFrom A_t_roundAt A_t_roundTimes x_t_newMany x_t_rounds x_t_itFrom x_t_itTimes x_t_writtenNow x_t_picturesNow x_t_usedNow x_t_chosen x_t_fearOfChosen A_t_leastFrom A_t_rowNow x_t_changesNow x_t_left0 A_t_bornOf A_t_trainsTo A_t_trainAt x_t_trainMany x_t_leastTries x_t_firstTrained x_t_isKept, iA cI 260 A_t_waitsAt v_t_waitsAt] o_r) ([.ref A_t, .int a1] : List Value).toArray s 0 0 A) (F0 m 2 ls []) := by
    intro n_2
    induction n_2 with
    | zero =>
      intro l2 H locs ls hl hP hD hS hf
      exact absurd hf (fun h => by rw [f_X12_hasOpenSum_b2] at h; cases h)
    | succ n_2 ih_2 =>
      intro l2 H locs ls hl hP hD hS hf
      rw [f_X12_hasOpenSum_b2] at hf
      refine lv_iload_n hx hb dX12_hasOpenSum_2 rfl (lv_at hl 1 rfl) ?_
      refine lv_aload_n hx hb dX12_hasOpenSum_3 rfl (lv_at hl 0 rfl) ?_
      refine x_get C hK hP fd_X12_180 0 rfl rfl dX12_hasOpenSum_4 ?_
      refine lv_icmp_ge (tgt := 32) hx hb dX12_hasOpenSum_7 (by decide) (fun q => ?_) (fun q => ?_)
      · have hf := if_t q hf
        refine lv_iconst (v := 0) hx hb dX12_hasOpenSum_32 (by decide) ?_
        obtain rfl := ev1 hf
        exact x_zret C hr hlk (Or.inl rfl) hP hD hS dX12_hasOpenSum_33
      · have hf := if_f q hf
        refine lv_aload_n hx hb dX12_hasOpenSum_10 rfl (lv_at hl 0 rfl) ?_
        refine x_get C hK hP fd_X12_35 0 rfl rfl dX12_hasOpenSum_11 ?_
        refine lv_iload_n hx hb dX12_hasOpenSum_14 rfl (lv_at hl 1 rfl) ?_
        obtain ⟨hi, hf⟩ := gI_e hf
        refine x_iald C hK hP 1 rfl hi dX12_hasOpenSum_15 ?_
        refine x_ldc C kc_X12_176 dX12_hasOpenSum_16 ?_
        obtain ⟨hz, hf⟩ := dI_e hf
        refine lv_idiv hx hb dX12_hasOpenSum_18 hz ?_
        refine lv_bipush (v := 14) hx hb dX12_hasOpenSum_19 (by decide) ?_
        refine lv_icmp_ne (tgt := 26) hx hb dX12_hasOpenSum_21 (by decide) (fun q => ?_) (fun q => ?_)
        · have hf := if_f q hf
          refine lv_iinc (v := (l2 + (1 : Int32))) (lv' := [(2, .int (l2 + (1 : Int32))), (0, .ref A_t)]) hx hb dX12_hasOpenSum_26 hl (k := 1) rfl rfl (by decide) rfl (fun ls hl => ?_)
          refine lv_goto (tgt := 2) hx hb dX12_hasOpenSum_29 (by decide) ?_
          exact ih_2 (l2 + (1 : Int32)) _ _ ls (lv_sub hl [1, 0] rfl) hP hD hS hf
        · have hf := if_t q hf
          refine lv_iconst (v := 1) hx hb dX12_hasOpenSum_24 (by decide) ?_
          obtain rfl := ev1 hf
          exact x_zret C hr hlk (Or.inr rfl) hP hD hS dX12_hasOpenSum_25
  refine lv_iload_n hx hb dX12_hasOpenSum_0 rfl (lv_at hl 1 rfl) ?_
  refine lv_istore_n (lv' := [(2, .int a1), (0, .ref A_t), (1, .int a1)]) hx hb dX12_hasOpenSum_1 rfl hl (by decide) rfl (fun ls hl => ?_)
  exact hb_2 FU a1 _ _ ls (lv_sub hl [1, 0] rfl) hP hD hS hf
def f_X12_readsSum_b163 (k14 : (Nat → Int32) → (Nat → Int32) → Int32 → Int32 → Int32 → Int32 → Int32 → Int32 → Int32 → Option (Int32 × (Nat → Int32) × (Nat → Int32) × Int32 × Int32 × Int32 × Int32 × Int32 × Int32)) (v_t_said : (Nat → Int32)) (v_t_waitsAt : (Nat → Int32)) (x_t_codeMany : Int32) (x_t_fault : Int32) (x_t_number0 : Int32) (x_t_open : Int32) (x_t_place0 : Int32) (x_t_waiting : Int32) (l1 : Int32) : Option (Int32 × (Nat → Int32) × (Nat → Int32) × Int32 × Int32 × Int32 × Int32 × Int32 × Int32) :=
  k14 v_t_said v_t_waitsAt x_t_codeMany x_t_fault x_t_number0 x_t_open x_t_place0 x_t_waiting l1
def f_X12_readsSum_b38 (v_t_tape : (Nat → Int32)) (x_t_length0 : Int32) (k14 : (Nat → Int32) → (Nat → Int32) → Int32 → Int32 → Int32 → Int32 → Int32 → Int32 → Int32 → Option (Int32 × (Nat → Int32) × (Nat → Int32) × Int32 × Int32 × Int32 × Int32 × Int32 × Int32)) (v_t_said : (Nat → Int32)) (v_t_waitsAt : (Nat → Int32)) (x_t_codeMany : Int32) (x_t_fault : Int32) (x_t_number0 : Int32) (x_t_open : Int32) (x_t_place0 : Int32) (x_t_waiting : Int32) (s1 : Int32) (l1 : Int32) (l2 : Int32) : Option (Int32 × (Nat → Int32) × (Nat → Int32) × Int32 × Int32 × Int32 × Int32 × Int32 × Int32) :=
  bd3 (f_X12_closesSums v_t_said v_t_waitsAt x_t_codeMany x_t_waiting s1) (fun w1 w2 w3 =>
  sI 260 v_t_waitsAt w3 ((1048576 : Int32) * l2) (fun w4 =>
  bd9 (f_X12_readsFactor w1 v_t_tape w4 w2 x_t_fault x_t_length0 x_t_number0 x_t_open (x_t_place0 + (1 : Int32)) (w3 + (1 : Int32))) (fun r5 w6 w7 w8 w9 w10 w11 w12 w13 =>
  if r5 = 0 then
    some ((0 : Int32), w6, w7, w8, w9, w10, w11, w12, w13)
  else
    f_X12_readsSum_b163 k14 w6 w7 w8 w9 w10 w11 w12 w13 l1)))
def f_X12_readsSum_b138 (v_t_said : (Nat → Int32)) (v_t_waitsAt : (Nat → Int32)) (x_t_codeMany : Int32) (x_t_fault : Int32) (x_t_number0 : Int32) (x_t_open : Int32) (x_t_place0 : Int32) (x_t_waiting : Int32) (l1 : Int32) : Option (Int32 × (Nat → Int32) × (Nat → Int32) × Int32 × Int32 × Int32 × Int32 × Int32 × Int32) :=
  bd1 (f_X12_hasOpenSum v_t_waitsAt x_t_waiting l1) (fun r1 =>
  if r1 = 0 then
    bd3 (f_X12_closesSums v_t_said v_t_waitsAt x_t_codeMany x_t_waiting (1 : Int32)) (fun w2 w3 w4 =>
    some ((1 : Int32), w2, v_t_waitsAt, w3, x_t_fault, x_t_number0, x_t_open, x_t_place0, w4))
  else
    bd2 (f_X12_wrongAt x_t_fault (1 : Int32) x_t_place0) (fun r5 w6 =>
    zI r5 (some (r5, v_t_said, v_t_waitsAt, x_t_codeMany, w6, x_t_number0, x_t_open, x_t_place0, x_t_waiting))))
def f_X12_readsSum_b14 (v_t_tape : (Nat → Int32)) (x_t_length0 : Int32) : Nat → (Nat → Int32) → (Nat → Int32) → Int32 → Int32 → Int32 → Int32 → Int32 → Int32 → Int32 → Option (Int32 × (Nat → Int32) × (Nat → Int32) × Int32 × Int32 × Int32 × Int32 × Int32 × Int32)
  | 0, _, _, _, _, _, _, _, _, _ => none
  | n + 1, v_t_said, v_t_waitsAt, x_t_codeMany, x_t_fault, x_t_number0, x_t_open, x_t_place0, x_t_waiting, l1 =>
    bd1 (f_X12_here v_t_tape x_t_length0 x_t_place0) (fun r1 =>
    bd1 (f_X12_sumSign r1) (fun r2 =>
    if r2 = (-1 : Int32) then
      bd1 (f_X12_here v_t_tape x_t_length0 x_t_place0) (fun r3 =>
      if r3 = (93 : Int32) then
        bd1 (f_X12_hasOpenSum v_t_waitsAt x_t_waiting l1) (fun r4 =>
        if r4 = 0 then
          f_X12_readsSum_b138 v_t_said v_t_waitsAt x_t_codeMany x_t_fault x_t_number0 x_t_open x_t_place0 x_t_waiting l1
        else
          bd3 (f_X12_closesSums v_t_said v_t_waitsAt x_t_codeMany x_t_waiting (1 : Int32)) (fun w5 w6 w7 =>
          f_X12_readsSum_b163 (f_X12_readsSum_b14 v_t_tape x_t_length0 n) w5 v_t_waitsAt w6 x_t_fault x_t_number0 (x_t_open - (1 : Int32)) (x_t_place0 + (1 : Int32)) (w7 - (1 : Int32)) l1))
      else
        f_X12_readsSum_b138 v_t_said v_t_waitsAt x_t_codeMany x_t_fault x_t_number0 x_t_open x_t_place0 x_t_waiting l1)
    else
      if (4 : Int32) ≤ r2 then
        f_X12_readsSum_b38 v_t_tape x_t_length0 (f_X12_readsSum_b14 v_t_tape x_t_length0 n) v_t_said v_t_waitsAt x_t_codeMany x_t_fault x_t_number0 x_t_open x_t_place0 x_t_waiting (0 : Int32) l1 r2
      else
        f_X12_readsSum_b38 v_t_tape x_t_length0 (f_X12_readsSum_b14 v_t_tape x_t_length0 n) v_t_said v_t_waitsAt x_t_codeMany x_t_fault x_t_number0 x_t_open x_t_place0 x_t_waiting (1 : Int32) l1 r2))
def f_X12_readsSum (v_t_said : (Nat → Int32)) (v_t_tape : (Nat → Int32)) (v_t_waitsAt : (Nat → Int32)) (x_t_codeMany : Int32) (x_t_fault : Int32) (x_t_length0 : Int32) (x_t_number0 : Int32) (x_t_open : Int32) (x_t_place0 : Int32) (x_t_waiting : Int32) : Option (Int32 × (Nat → Int32) × (Nat → Int32) × Int32 × Int32 × Int32 × Int32 × Int32 × Int32) :=
  bd9 (f_X12_readsFactor v_t_said v_t_tape v_t_waitsAt x_t_codeMany x_t_fault x_t_length0 x_t_number0 x_t_open x_t_place0 x_t_waiting) (fun r8 w9 w10 w11 w12 w13 w14 w15 w16 =>
  if r8 = 0 then
    some ((0 : Int32), w9, w10, w11, w12, w13, w14, w15, w16)
  else
    f_X12_readsSum_b14 v_t_tape x_t_length0 FU w9 w10 w11 w12 w13 w14 w15 w16 x_t_waiting)
set_option maxHeartbeats 4000000 in
set_option maxRecDepth 100000 in
theorem c_X12_readsSum {l : Launch} {D : va_G} {cI cB : ClassId} {A_t A_t_now A_t_aside A_t_kept A_t_rhymeOf A_t_wasRhyme A_t_wordAt A_t_tape A_t_said A_t_waitsAt A_t_saidLetter A_t_saidFrom A_t_saidHalf A_t_saidTo A_t_codes A_t_clauseOf A_t_codeFrom A_t_codeHalf A_t_codeTo A_t_stack A_t_facts A_t_newWords A_t_roundFrom A_t_roundAt A_t_roundTimes A_t_leastFrom A_t_rowNow A_t_bornOf A_t_trainsTo A_t_trainAt : Nat} {x_t_wordMany x_t_taped x_t_place0 x_t_length0 x_t_fault x_t_number0 x_t_open x_t_codeMany x_t_waiting x_t_saidMany x_t_clauses x_t_lines x_t_newMany x_t_rounds x_t_itFrom x_t_itTimes x_t_writtenNow x_t_picturesNow x_t_usedNow x_t_chosen x_t_fearOfChosen x_t_changesNow x_t_left0 x_t_trainMany x_t_leastTries x_t_firstTrained x_t_isKept : Int32} {v_t_said v_t_tape v_t_waitsAt : Nat → Int32} {o_r o_x_t_codeMany o_x_t_fault o_x_t_number0 o_x_t_open o_x_t_place0 o_x_t_waiting : Int32} {o_v_t_said o_v_t_waitsAt : Nat → Int32} (hf : f_X12_readsSum v_t_said v_t_tape v_t_waitsAt x_t_codeMany x_t_fault x_t_length0 x_t_number0 x_t_open x_t_place0 x_t_waiting = some (o_r, o_v_t_said, o_v_t_waitsAt, o_x_t_codeMany, o_x_t_fault, o_x_t_number0, o_x_t_open, o_x_t_place0, o_x_t_waiting)) : CtI l D cI cB yX12_readsSum cX12_readsSum 3 (some .boolean) 4 82 [.ref A_t] [oX12 A_t A_t_now A_t_aside A_t_kept A_t_rhymeOf A_t_wasRhyme A_t_wordAt x_t_wordMany A_t_tape x_t_taped x_t_place0 x_t_length0 x_t_fault x_t_number0 x_t_open x_t_codeMany x_t_waiting x_t_saidMany x_t_clauses A_t_said A_t_waitsAt A_t_saidLetter A_t_saidFrom A_t_saidHalf A_t_saidTo A_t_codes A_t_clauseOf A_t_codeFrom A_t_codeHalf A_t_codeTo A_t_stack A_t_facts x_t_lines A_t_newWords A_t_roundFrom A_t_roundAt A_t_roundTimes x_t_newMany x_t_rounds x_t_itFrom x_t_itTimes x_t_writtenNow x_t_picturesNow x_t_usedNow x_t_chosen x_t_fearOfChosen A_t_leastFrom A_t_rowNow x_t_changesNow x_t_left0 A_t_bornOf A_t_trainsTo A_t_trainAt x_t_trainMany x_t_leastTries x_t_firstTrained x_t_isKept, iA cI 260 A_t_said v_t_said, iA cB 260 A_t_tape v_t_tape, iA cI 260 A_t_waitsAt v_t_waitsAt] [oX12 A_t A_t_now A_t_aside A_t_kept A_t_rhymeOf A_t_wasRhyme A_t_wordAt x_t_wordMany A_t_tape x_t_taped o_x_t_place0 x_t_length0 o_x_t_fault o_x_t_number0 o_x_t_open o_x_t_codeMany o_x_t_waiting x_t_saidMany x_t_clauses A_t_said A_t_waitsAt A_t_saidLetter A_t_saidFrom A_t_saidHalf A_t_saidTo A_t_codes A_t_clauseOf A_t_codeFrom A_t_codeHalf A_t_codeTo A_t_stack A_t_facts x_t_lines A_t_newWords A_t_roundFrom A_t_roundAt A_t_roundTimes x_t_newMany x_t_rounds x_t_itFrom x_t_itTimes x_t_writtenNow x_t_picturesNow x_t_usedNow x_t_chosen x_t_fearOfChosen A_t_leastFrom A_t_rowNow x_t_changesNow x_t_left0 A_t_bornOf A_t_trainsTo A_t_trainAt x_t_trainMany x_t_leastTries x_t_firstTrained x_t_isKept, iA cI 260 A_t_said o_v_t_said, iA cB 260 A_t_tape v_t_tape, iA cI 260 A_t_waitsAt o_v_t_waitsAt] o_r := by
  refine x_startI (by decide) (Nat.le_of_ble_eq_true rfl) ?_
  intro p e s m below meth c A C hr hlk hA hK hP hD hS ls hl
  have hl : lv_has ls 3 [(0, .ref A_t)] := hl
  have hx := C.1
  have hb := C.2.1
  unfold f_X12_readsSum at hf
  have hb_138 : ∀ (v_t_said : (Nat → Int32)) (v_t_waitsAt : (Nat → Int32)) (x_t_codeMany : Int32) (x_t_fault : Int32) (x_t_number0 : Int32) (x_t_open : Int32) (x_t_place0 : Int32) (x_t_waiting : Int32) (l1 : Int32) (H : Heap) (locs : List Loc) (ls : Array Slot), lv_has ls 3 [(0, .ref A_t), (1, .int l1)] → va_P D vwCl [oX12 A_t A_t_now A_t_aside A_t_kept A_t_rhymeOf A_t_wasRhyme A_t_wordAt x_t_wordMany A_t_tape x_t_taped x_t_place0 x_t_length0 x_t_fault x_t_number0 x_t_open x_t_codeMany x_t_waiting x_t_saidMany x_t_clauses A_t_said A_t_waitsAt A_t_saidLetter A_t_saidFrom A_t_saidHalf A_t_saidTo A_t_codes A_t_clauseOf A_t_codeFrom A_t_codeHalf A_t_codeTo A_t_stack A_t_facts x_t_lines A_t_newWords A_t_roundFrom A_t_roundAt A_t_roundTimes x_t_newMany x_t_rounds x_t_itFrom x_t_itTimes x_t_writtenNow x_t_picturesNow x_t_usedNow x_t_chosen x_t_fearOfChosen A_t_leastFrom A_t_rowNow x_t_changesNow x_t_left0 A_t_bornOf A_t_trainsTo A_t_trainAt x_t_trainMany x_t_leastTries x_t_firstTrained x_t_isKept, iA cI 260 A_t_said v_t_said, iA cB 260 A_t_tape v_t_tape, iA cI 260 A_t_waitsAt v_t_waitsAt] H → va_D A [oX12 A_t A_t_now A_t_aside A_t_kept A_t_rhymeOf A_t_wasRhyme A_t_wordAt x_t_wordMany A_t_tape x_t_taped x_t_place0 x_t_length0 x_t_fault x_t_number0 x_t_open x_t_codeMany x_t_waiting x_t_saidMany x_t_clauses A_t_said A_t_waitsAt A_t_saidLetter A_t_saidFrom A_t_saidHalf A_t_saidTo A_t_codes A_t_clauseOf A_t_codeFrom A_t_codeHalf A_t_codeTo A_t_stack A_t_facts x_t_lines A_t_newWords A_t_roundFrom A_t_roundAt A_t_roundTimes x_t_newMany x_t_rounds x_t_itFrom x_t_itTimes x_t_writtenNow x_t_picturesNow x_t_usedNow x_t_chosen x_t_fearOfChosen A_t_leastFrom A_t_rowNow x_t_changesNow x_t_left0 A_t_bornOf A_t_trainsTo A_t_trainAt x_t_trainMany x_t_leastTries x_t_firstTrained x_t_isKept, iA cI 260 A_t_said v_t_said, iA cB 260 A_t_tape v_t_tape, iA cI 260 A_t_waitsAt v_t_waitsAt] → va_S A s.heap H locs → f_X12_readsSum_b138 v_t_said v_t_waitsAt x_t_codeMany x_t_fault x_t_number0 x_t_open x_t_place0 x_t_waiting l1 = some (o_r, o_v_t_said, o_v_t_waitsAt, o_x_t_codeMany, o_x_t_fault, o_x_t_number0, o_x_t_open, o_x_t_place0, o_x_t_waiting) → W p l e { frames := 4, cells := 0, slots := 0, locals := 82 } s m ([.ref A_t] : List Value).toArray below meth c H locs 0 0 (MQ below (PoI D A [oX12 A_t A_t_now A_t_aside A_t_kept A_t_rhymeOf A_t_wasRhyme A_t_wordAt x_t_wordMany A_t_tape x_t_taped o_x_t_place0 x_t_length0 o_x_t_fault o_x_t_number0 o_x_t_open o_x_t_codeMany o_x_t_waiting x_t_saidMany x_t_clauses A_t_said A_t_waitsAt A_t_saidLetter A_t_saidFrom A_t_saidHalf A_t_saidTo A_t_codes A_t_clauseOf A_t_codeFrom A_t_codeHalf A_t_codeTo A_t_stack A_t_facts x_t_lines A_t_newWords A_t_roundFrom A_t_roundAt A_t_roundTimes x_t_newMany x_t_rounds x_t_itFrom x_t_itTimes x_t_writtenNow x_t_picturesNow x_t_usedNow x_t_chosen x_t_fearOfChosen A_t_leastFrom A_t_rowNow x_t_changesNow x_t_left0 A_t_bornOf A_t_trainsTo A_t_trainAt x_t_trainMany x_t_leastTries x_t_firstTrained x_t_isKept, iA cI 260 A_t_said o_v_t_said, iA cB 260 A_t_tape v_t_tape, iA cI 260 A_t_waitsAt o_v_t_waitsAt] o_r) ([.ref A_t] : List Value).toArray s 0 0 A) (F0 m 138 ls []) := by
    intro v_t_said v_t_waitsAt x_t_codeMany x_t_fault x_t_number0 x_t_open x_t_place0 x_t_waiting l1 H locs ls hl hP hD hS hf
    unfold f_X12_readsSum_b138 at hf
    refine lv_aload_n hx hb dX12_readsSum_138 rfl (lv_at hl 0 rfl) ?_
    refine lv_iload_n hx hb dX12_readsSum_139 rfl (lv_at hl 1 rfl) ?_
    obtain ⟨r1, hc2, hf⟩ := bd1_e hf
    refine x_callVI (ws' := [oX12 A_t A_t_now A_t_aside A_t_kept A_t_rhymeOf A_t_wasRhyme A_t_wordAt x_t_wordMany A_t_tape x_t_taped x_t_place0 x_t_length0 x_t_fault x_t_number0 x_t_open x_t_codeMany x_t_waiting x_t_saidMany x_t_clauses A_t_said A_t_waitsAt A_t_saidLetter A_t_saidFrom A_t_saidHalf A_t_saidTo A_t_codes A_t_clauseOf A_t_codeFrom A_t_codeHalf A_t_codeTo A_t_stack A_t_facts x_t_lines A_t_newWords A_t_roundFrom A_t_roundAt A_t_roundTimes x_t_newMany x_t_rounds x_t_itFrom x_t_itTimes x_t_writtenNow x_t_picturesNow x_t_usedNow x_t_chosen x_t_fearOfChosen A_t_leastFrom A_t_rowNow x_t_changesNow x_t_left0 A_t_bornOf A_t_trainsTo A_t_trainAt x_t_trainMany x_t_leastTries x_t_firstTrained x_t_isKept, iA cI 260 A_t_said v_t_said, iA cB 260 A_t_tape v_t_tape, iA cI 260 A_t_waitsAt v_t_waitsAt]) (rest := []) C hK hP hD hS hA hl mf_X12_209 (c_X12_hasOpenSum hc2) [0, 3] 0 12 rfl rfl rfl rfl rfl rfl rfl rfl rfl rfl (Nat.le_of_ble_eq_true rfl) ⟨Nat.le_of_ble_eq_true rfl, Nat.le_of_ble_eq_true rfl⟩ ⟨Nat.le_refl _, Nat.le_refl _⟩ dX12_readsSum_140 ?_
    intro H locs hP hD hS
    refine lv_if_eq (tgt := 156) hx hb dX12_readsSum_143 (by decide) (fun q => ?_) (fun q => ?_)
    · have hf := if_t q hf
      refine lv_aload_n hx hb dX12_readsSum_156 rfl (lv_at hl 0 rfl) ?_
      refine lv_iconst (v := 1) hx hb dX12_readsSum_157 (by decide) ?_
      obtain ⟨w3, w4, w5, hc6, hf⟩ := bd3_e hf
      refine x_callVV (ws' := [oX12 A_t A_t_now A_t_aside A_t_kept A_t_rhymeOf A_t_wasRhyme A_t_wordAt x_t_wordMany A_t_tape x_t_taped x_t_place0 x_t_length0 x_t_fault x_t_number0 x_t_open w4 w5 x_t_saidMany x_t_clauses A_t_said A_t_waitsAt A_t_saidLetter A_t_saidFrom A_t_saidHalf A_t_saidTo A_t_codes A_t_clauseOf A_t_codeFrom A_t_codeHalf A_t_codeTo A_t_stack A_t_facts x_t_lines A_t_newWords A_t_roundFrom A_t_roundAt A_t_roundTimes x_t_newMany x_t_rounds x_t_itFrom x_t_itTimes x_t_writtenNow x_t_picturesNow x_t_usedNow x_t_chosen x_t_fearOfChosen A_t_leastFrom A_t_rowNow x_t_changesNow x_t_left0 A_t_bornOf A_t_trainsTo A_t_trainAt x_t_trainMany x_t_leastTries x_t_firstTrained x_t_isKept, iA cI 260 A_t_said w3, iA cB 260 A_t_tape v_t_tape, iA cI 260 A_t_waitsAt v_t_waitsAt]) (rest := []) C hK hP hD hS hA hl mf_X12_205 (c_X12_closesSums hc6) [0, 1, 3] 0 12 rfl rfl rfl rfl rfl rfl rfl rfl rfl rfl (Nat.le_of_ble_eq_true rfl) ⟨Nat.le_of_ble_eq_true rfl, Nat.le_of_ble_eq_true rfl⟩ ⟨Nat.le_refl _, Nat.le_refl _⟩ dX12_readsSum_158 ?_
      intro H locs hP hD hS
      refine lv_iconst (v := 1) hx hb dX12_readsSum_161 (by decide) ?_
      obtain ⟨rfl, rfl, rfl, rfl, rfl, rfl, rfl, rfl, rfl⟩ := ev9 hf
      exact x_zret C hr hlk (Or.inr rfl) hP hD hS dX12_readsSum_162
    · have hf := if_f q hf
      refine lv_aload_n hx hb dX12_readsSum_146 rfl (lv_at hl 0 rfl) ?_
      refine lv_iconst (v := 1) hx hb dX12_readsSum_147 (by decide) ?_
      refine lv_aload_n hx hb dX12_readsSum_148 rfl (lv_at hl 0 rfl) ?_
      refine x_get C hK hP fd_X12_150 0 rfl rfl dX12_readsSum_149 ?_
      obtain ⟨r7, w8, hc9, hf⟩ := bd2_e hf
      refine x_callVI (ws' := [oX12 A_t A_t_now A_t_aside A_t_kept A_t_rhymeOf A_t_wasRhyme A_t_wordAt x_t_wordMany A_t_tape x_t_taped x_t_place0 x_t_length0 w8 x_t_number0 x_t_open x_t_codeMany x_t_waiting x_t_saidMany x_t_clauses A_t_said A_t_waitsAt A_t_saidLetter A_t_saidFrom A_t_saidHalf A_t_saidTo A_t_codes A_t_clauseOf A_t_codeFrom A_t_codeHalf A_t_codeTo A_t_stack A_t_facts x_t_lines A_t_newWords A_t_roundFrom A_t_roundAt A_t_roundTimes x_t_newMany x_t_rounds x_t_itFrom x_t_itTimes x_t_writtenNow x_t_picturesNow x_t_usedNow x_t_chosen x_t_fearOfChosen A_t_leastFrom A_t_rowNow x_t_changesNow x_t_left0 A_t_bornOf A_t_trainsTo A_t_trainAt x_t_trainMany x_t_leastTries x_t_firstTrained x_t_isKept, iA cI 260 A_t_said v_t_said, iA cB 260 A_t_tape v_t_tape, iA cI 260 A_t_waitsAt v_t_waitsAt]) (rest := []) C hK hP hD hS hA hl mf_X12_163 (c_X12_wrongAt hc9) [0] 0 12 rfl rfl rfl rfl rfl rfl rfl rfl rfl rfl (Nat.le_of_ble_eq_true rfl) ⟨Nat.le_of_ble_eq_true rfl, Nat.le_of_ble_eq_true rfl⟩ ⟨Nat.le_refl _, Nat.le_refl _⟩ dX12_readsSum_152 ?_
      intro H locs hP hD hS
      obtain ⟨hz, hf⟩ := zI_e hf
      obtain ⟨rfl, rfl, rfl, rfl, rfl, rfl, rfl, rfl, rfl⟩ := ev9 hf
      exact x_zret C hr hlk hz hP hD hS dX12_readsSum_155
  have hb_14 : ∀ (n_14 : Nat) (v_t_said : (Nat → Int32)) (v_t_waitsAt : (Nat → Int32)) (x_t_codeMany : Int32) (x_t_fault : Int32) (x_t_number0 : Int32) (x_t_open : Int32) (x_t_place0 : Int32) (x_t_waiting : Int32) (l1 : Int32) (H : Heap) (locs : List Loc) (ls : Array Slot), lv_has ls 3 [(0, .ref A_t), (1, .int l1)] → va_P D vwCl [oX12 A_t A_t_now A_t_aside A_t_kept A_t_rhymeOf A_t_wasRhyme A_t_wordAt x_t_wordMany A_t_tape x_t_taped x_t_place0 x_t_length0 x_t_fault x_t_number0 x_t_open x_t_codeMany x_t_waiting x_t_saidMany x_t_clauses A_t_said A_t_waitsAt A_t_saidLetter A_t_saidFrom A_t_saidHalf A_t_saidTo A_t_codes A_t_clauseOf A_t_codeFrom A_t_codeHalf A_t_codeTo A_t_stack A_t_facts x_t_lines A_t_newWords A_t_roundFrom A_t_roundAt A_t_roundTimes x_t_newMany x_t_rounds x_t_itFrom x_t_itTimes x_t_writtenNow x_t_picturesNow x_t_usedNow x_t_chosen x_t_fearOfChosen A_t_leastFrom A_t_rowNow x_t_changesNow x_t_left0 A_t_bornOf A_t_trainsTo A_t_trainAt x_t_trainMany x_t_leastTries x_t_firstTrained x_t_isKept, iA cI 260 A_t_said v_t_said, iA cB 260 A_t_tape v_t_tape, iA cI 260 A_t_waitsAt v_t_waitsAt] H → va_D A [oX12 A_t A_t_now A_t_aside A_t_kept A_t_rhymeOf A_t_wasRhyme A_t_wordAt x_t_wordMany A_t_tape x_t_taped x_t_place0 x_t_length0 x_t_fault x_t_number0 x_t_open x_t_codeMany x_t_waiting x_t_saidMany x_t_clauses A_t_said A_t_waitsAt A_t_saidLetter A_t_saidFrom A_t_saidHalf A_t_saidTo A_t_codes A_t_clauseOf A_t_codeFrom A_t_codeHalf A_t_codeTo A_t_stack A_t_facts x_t_lines A_t_newWords A_t_roundFrom A_t_roundAt A_t_roundTimes x_t_newMany x_t_rounds x_t_itFrom x_t_itTimes x_t_writtenNow x_t_picturesNow x_t_usedNow x_t_chosen x_t_fearOfChosen A_t_leastFrom A_t_rowNow x_t_changesNow x_t_left0 A_t_bornOf A_t_trainsTo A_t_trainAt x_t_trainMany x_t_leastTries x_t_firstTrained x_t_isKept, iA cI 260 A_t_said v_t_said, iA cB 260 A_t_tape v_t_tape, iA cI 260 A_t_waitsAt v_t_waitsAt] → va_S A s.heap H locs → f_X12_readsSum_b14 v_t_tape x_t_length0 n_14 v_t_said v_t_waitsAt x_t_codeMany x_t_fault x_t_number0 x_t_open x_t_place0 x_t_waiting l1 = some (o_r, o_v_t_said, o_v_t_waitsAt, o_x_t_codeMany, o_x_t_fault, o_x_t_number0, o_x_t_open, o_x_t_place0, o_x_t_waiting) → W p l e { frames := 4, cells := 0, slots := 0, locals := 82 } s m ([.ref A_t] : List Value).toArray below meth c H locs 0 0 (MQ below (PoI D A [oX12 A_t A_t_now A_t_aside A_t_kept A_t_rhymeOf A_t_wasRhyme A_t_wordAt x_t_wordMany A_t_tape x_t_taped o_x_t_place0 x_t_length0 o_x_t_fault o_x_t_number0 o_x_t_open o_x_t_codeMany o_x_t_waiting x_t_saidMany x_t_clauses A_t_said A_t_waitsAt A_t_saidLetter A_t_saidFrom A_t_saidHalf A_t_saidTo A_t_codes A_t_clauseOf A_t_codeFrom A_t_codeHalf A_t_codeTo A_t_stack A_t_facts x_t_lines A_t_newWords A_t_roundFrom A_t_roundAt A_t_roundTimes x_t_newMany x_t_rounds x_t_itFrom x_t_itTimes x_t_writtenNow x_t_picturesNow x_t_usedNow x_t_chosen x_t_fearOfChosen A_t_leastFrom A_t_rowNow x_t_changesNow x_t_left0 A_t_bornOf A_t_trainsTo A_t_trainAt x_t_trainMany x_t_leastTries x_t_firstTrained x_t_isKept, iA cI 260 A_t_said o_v_t_said, iA cB 260 A_t_tape v_t_tape, iA cI 260 A_t_waitsAt o_v_t_waitsAt] o_r) ([.ref A_t] : List Value).toArray s 0 0 A) (F0 m 14 ls []) := by
    intro n_14
    induction n_14 with
    | zero =>
      intro v_t_said v_t_waitsAt x_t_codeMany x_t_fault x_t_number0 x_t_open x_t_place0 x_t_waiting l1 H locs ls hl hP hD hS hf
      exact absurd hf (fun h => by rw [f_X12_readsSum_b14] at h; cases h)
    | succ n_14 ih_14 =>
      have hb_163 : ∀ (v_t_said : (Nat → Int32)) (v_t_waitsAt : (Nat → Int32)) (x_t_codeMany : Int32) (x_t_fault : Int32) (x_t_number0 : Int32) (x_t_open : Int32) (x_t_place0 : Int32) (x_t_waiting : Int32) (l1 : Int32) (H : Heap) (locs : List Loc) (ls : Array Slot), lv_has ls 3 [(0, .ref A_t), (1, .int l1)] → va_P D vwCl [oX12 A_t A_t_now A_t_aside A_t_kept A_t_rhymeOf A_t_wasRhyme A_t_wordAt x_t_wordMany A_t_tape x_t_taped x_t_place0 x_t_length0 x_t_fault x_t_number0 x_t_open x_t_codeMany x_t_waiting x_t_saidMany x_t_clauses A_t_said A_t_waitsAt A_t_saidLetter A_t_saidFrom A_t_saidHalf A_t_saidTo A_t_codes A_t_clauseOf A_t_codeFrom A_t_codeHalf A_t_codeTo A_t_stack A_t_facts x_t_lines A_t_newWords A_t_roundFrom A_t_roundAt A_t_roundTimes x_t_newMany x_t_rounds x_t_itFrom x_t_itTimes x_t_writtenNow x_t_picturesNow x_t_usedNow x_t_chosen x_t_fearOfChosen A_t_leastFrom A_t_rowNow x_t_changesNow x_t_left0 A_t_bornOf A_t_trainsTo A_t_trainAt x_t_trainMany x_t_leastTries x_t_firstTrained x_t_isKept, iA cI 260 A_t_said v_t_said, iA cB 260 A_t_tape v_t_tape, iA cI 260 A_t_waitsAt v_t_waitsAt] H → va_D A [oX12 A_t A_t_now A_t_aside A_t_kept A_t_rhymeOf A_t_wasRhyme A_t_wordAt x_t_wordMany A_t_tape x_t_taped x_t_place0 x_t_length0 x_t_fault x_t_number0 x_t_open x_t_codeMany x_t_waiting x_t_saidMany x_t_clauses A_t_said A_t_waitsAt A_t_saidLetter A_t_saidFrom A_t_saidHalf A_t_saidTo A_t_codes A_t_clauseOf A_t_codeFrom A_t_codeHalf A_t_codeTo A_t_stack A_t_facts x_t_lines A_t_newWords A_t_roundFrom A_t_roundAt A_t_roundTimes x_t_newMany x_t_rounds x_t_itFrom x_t_itTimes x_t_writtenNow x_t_picturesNow x_t_usedNow x_t_chosen x_t_fearOfChosen A_t_leastFrom A_t_rowNow x_t_changesNow x_t_left0 A_t_bornOf A_t_trainsTo A_t_trainAt x_t_trainMany x_t_leastTries x_t_firstTrained x_t_isKept, iA cI 260 A_t_said v_t_said, iA cB 260 A_t_tape v_t_tape, iA cI 260 A_t_waitsAt v_t_waitsAt] → va_S A s.heap H locs → f_X12_readsSum_b163 (f_X12_readsSum_b14 v_t_tape x_t_length0 n_14) v_t_said v_t_waitsAt x_t_codeMany x_t_fault x_t_number0 x_t_open x_t_place0 x_t_waiting l1 = some (o_r, o_v_t_said, o_v_t_waitsAt, o_x_t_codeMany, o_x_t_fault, o_x_t_number0, o_x_t_open, o_x_t_place0, o_x_t_waiting) → W p l e { frames := 4, cells := 0, slots := 0, locals := 82 } s m ([.ref A_t] : List Value).toArray below meth c H locs 0 0 (MQ below (PoI D A [oX12 A_t A_t_now A_t_aside A_t_kept A_t_rhymeOf A_t_wasRhyme A_t_wordAt x_t_wordMany A_t_tape x_t_taped o_x_t_place0 x_t_length0 o_x_t_fault o_x_t_number0 o_x_t_open o_x_t_codeMany o_x_t_waiting x_t_saidMany x_t_clauses A_t_said A_t_waitsAt A_t_saidLetter A_t_saidFrom A_t_saidHalf A_t_saidTo A_t_codes A_t_clauseOf A_t_codeFrom A_t_codeHalf A_t_codeTo A_t_stack A_t_facts x_t_lines A_t_newWords A_t_roundFrom A_t_roundAt A_t_roundTimes x_t_newMany x_t_rounds x_t_itFrom x_t_itTimes x_t_writtenNow x_t_picturesNow x_t_usedNow x_t_chosen x_t_fearOfChosen A_t_leastFrom A_t_rowNow x_t_changesNow x_t_left0 A_t_bornOf A_t_trainsTo A_t_trainAt x_t_trainMany x_t_leastTries x_t_firstTrained x_t_isKept, iA cI 260 A_t_said o_v_t_said, iA cB 260 A_t_tape v_t_tape, iA cI 260 A_t_waitsAt o_v_t_waitsAt] o_r) ([.ref A_t] : List Value).toArray s 0 0 A) (F0 m 163 ls []) := by
        intro v_t_said v_t_waitsAt x_t_codeMany x_t_fault x_t_number0 x_t_open x_t_place0 x_t_waiting l1 H locs ls hl hP hD hS hf
        unfold f_X12_readsSum_b163 at hf
        refine lv_goto (tgt := 14) hx hb dX12_readsSum_163 (by decide) ?_
        exact ih_14 v_t_said v_t_waitsAt x_t_codeMany x_t_fault x_t_number0 x_t_open x_t_place0 x_t_waiting l1 _ _ ls (lv_sub hl [0, 1] rfl) hP hD hS hf
      have hb_38 : ∀ (v_t_said : (Nat → Int32)) (v_t_waitsAt : (Nat → Int32)) (x_t_codeMany : Int32) (x_t_fault : Int32) (x_t_number0 : Int32) (x_t_open : Int32) (x_t_place0 : Int32) (x_t_waiting : Int32) (s1 : Int32) (l1 : Int32) (l2 : Int32) (H : Heap) (locs : List Loc) (ls : Array Slot), lv_has ls 3 [(0, .ref A_t), (1, .int l1), (2, .int l2)] → va_P D vwCl [oX12 A_t A_t_now A_t_aside A_t_kept A_t_rhymeOf A_t_wasRhyme A_t_wordAt x_t_wordMany A_t_tape x_t_taped x_t_place0 x_t_length0 x_t_fault x_t_number0 x_t_open x_t_codeMany x_t_waiting x_t_saidMany x_t_clauses A_t_said A_t_waitsAt A_t_saidLetter A_t_saidFrom A_t_saidHalf A_t_saidTo A_t_codes A_t_clauseOf A_t_codeFrom A_t_codeHalf A_t_codeTo A_t_stack A_t_facts x_t_lines A_t_newWords A_t_roundFrom A_t_roundAt A_t_roundTimes x_t_newMany x_t_rounds x_t_itFrom x_t_itTimes x_t_writtenNow x_t_picturesNow x_t_usedNow x_t_chosen x_t_fearOfChosen A_t_leastFrom A_t_rowNow x_t_changesNow x_t_left0 A_t_bornOf A_t_trainsTo A_t_trainAt x_t_trainMany x_t_leastTries x_t_firstTrained x_t_isKept, iA cI 260 A_t_said v_t_said, iA cB 260 A_t_tape v_t_tape, iA cI 260 A_t_waitsAt v_t_waitsAt] H → va_D A [oX12 A_t A_t_now A_t_aside A_t_kept A_t_rhymeOf A_t_wasRhyme A_t_wordAt x_t_wordMany A_t_tape x_t_taped x_t_place0 x_t_length0 x_t_fault x_t_number0 x_t_open x_t_codeMany x_t_waiting x_t_saidMany x_t_clauses A_t_said A_t_waitsAt A_t_saidLetter A_t_saidFrom A_t_saidHalf A_t_saidTo A_t_codes A_t_clauseOf A_t_codeFrom A_t_codeHalf A_t_codeTo A_t_stack A_t_facts x_t_lines A_t_newWords A_t_roundFrom A_t_roundAt A_t_roundTimes x_t_newMany x_t_rounds x_t_itFrom x_t_itTimes x_t_writtenNow x_t_picturesNow x_t_usedNow x_t_chosen x_t_fearOfChosen A_t_leastFrom A_t_rowNow x_t_changesNow x_t_left0 A_t_bornOf A_t_trainsTo A_t_trainAt x_t_trainMany x_t_leastTries x_t_firstTrained x_t_isKept, iA cI 260 A_t_said v_t_said, iA cB 260 A_t_tape v_t_tape, iA cI 260 A_t_waitsAt v_t_waitsAt] → va_S A s.heap H locs → f_X12_readsSum_b38 v_t_tape x_t_length0 (f_X12_readsSum_b14 v_t_tape x_t_length0 n_14) v_t_said v_t_waitsAt x_t_codeMany x_t_fault x_t_number0 x_t_open x_t_place0 x_t_waiting s1 l1 l2 = some (o_r, o_v_t_said, o_v_t_waitsAt, o_x_t_codeMany, o_x_t_fault, o_x_t_number0, o_x_t_open, o_x_t_place0, o_x_t_waiting) → W p l e { frames := 4, cells := 0, slots := 0, locals := 82 } s m ([.ref A_t] : List Value).toArray below meth c H locs 0 0 (MQ below (PoI D A [oX12 A_t A_t_now A_t_aside A_t_kept A_t_rhymeOf A_t_wasRhyme A_t_wordAt x_t_wordMany A_t_tape x_t_taped o_x_t_place0 x_t_length0 o_x_t_fault o_x_t_number0 o_x_t_open o_x_t_codeMany o_x_t_waiting x_t_saidMany x_t_clauses A_t_said A_t_waitsAt A_t_saidLetter A_t_saidFrom A_t_saidHalf A_t_saidTo A_t_codes A_t_clauseOf A_t_codeFrom A_t_codeHalf A_t_codeTo A_t_stack A_t_facts x_t_lines A_t_newWords A_t_roundFrom A_t_roundAt A_t_roundTimes x_t_newMany x_t_rounds x_t_itFrom x_t_itTimes x_t_writtenNow x_t_picturesNow x_t_usedNow x_t_chosen x_t_fearOfChosen A_t_leastFrom A_t_rowNow x_t_changesNow x_t_left0 A_t_bornOf A_t_trainsTo A_t_trainAt x_t_trainMany x_t_leastTries x_t_firstTrained x_t_isKept, iA cI 260 A_t_said o_v_t_said, iA cB 260 A_t_tape v_t_tape, iA cI 260 A_t_waitsAt o_v_t_waitsAt] o_r) ([.ref A_t] : List Value).toArray s 0 0 A) (F0 m 38 ls [.int s1, .ref A_t]) := by
        intro v_t_said v_t_waitsAt x_t_codeMany x_t_fault x_t_number0 x_t_open x_t_place0 x_t_waiting s1 l1 l2 H locs ls hl hP hD hS hf
        unfold f_X12_readsSum_b38 at hf
        obtain ⟨w10, w11, w12, hc13, hf⟩ := bd3_e hf
        refine x_callVV (ws' := [oX12 A_t A_t_now A_t_aside A_t_kept A_t_rhymeOf A_t_wasRhyme A_t_wordAt x_t_wordMany A_t_tape x_t_taped x_t_place0 x_t_length0 x_t_fault x_t_number0 x_t_open w11 w12 x_t_saidMany x_t_clauses A_t_said A_t_waitsAt A_t_saidLetter A_t_saidFrom A_t_saidHalf A_t_saidTo A_t_codes A_t_clauseOf A_t_codeFrom A_t_codeHalf A_t_codeTo A_t_stack A_t_facts x_t_lines A_t_newWords A_t_roundFrom A_t_roundAt A_t_roundTimes x_t_newMany x_t_rounds x_t_itFrom x_t_itTimes x_t_writtenNow x_t_picturesNow x_t_usedNow x_t_chosen x_t_fearOfChosen A_t_leastFrom A_t_rowNow x_t_changesNow x_t_left0 A_t_bornOf A_t_trainsTo A_t_trainAt x_t_trainMany x_t_leastTries x_t_firstTrained x_t_isKept, iA cI 260 A_t_said w10, iA cB 260 A_t_tape v_t_tape, iA cI 260 A_t_waitsAt v_t_waitsAt]) (rest := []) C hK hP hD hS hA hl mf_X12_205 (c_X12_closesSums hc13) [0, 1, 3] 0 12 rfl rfl rfl rfl rfl rfl rfl rfl rfl rfl (Nat.le_of_ble_eq_true rfl) ⟨Nat.le_of_ble_eq_true rfl, Nat.le_of_ble_eq_true rfl⟩ ⟨Nat.le_refl _, Nat.le_refl _⟩ dX12_readsSum_38 ?_
        intro H locs hP hD hS
        refine lv_aload_n hx hb dX12_readsSum_41 rfl (lv_at hl 0 rfl) ?_
        refine x_get C hK hP fd_X12_35 0 rfl rfl dX12_readsSum_42 ?_
        refine lv_aload_n hx hb dX12_readsSum_45 rfl (lv_at hl 0 rfl) ?_
        refine x_get C hK hP fd_X12_180 0 rfl rfl dX12_readsSum_46 ?_
        refine x_ldc C kc_X12_176 dX12_readsSum_49 ?_
        refine lv_iload_n hx hb dX12_readsSum_51 rfl (lv_at hl 2 rfl) ?_
        refine lv_imul hx hb dX12_readsSum_52 ?_
        obtain ⟨hi, hf⟩ := sI_e hf
        refine x_iast (ws' := [oX12 A_t A_t_now A_t_aside A_t_kept A_t_rhymeOf A_t_wasRhyme A_t_wordAt x_t_wordMany A_t_tape x_t_taped x_t_place0 x_t_length0 x_t_fault x_t_number0 x_t_open w11 w12 x_t_saidMany x_t_clauses A_t_said A_t_waitsAt A_t_saidLetter A_t_saidFrom A_t_saidHalf A_t_saidTo A_t_codes A_t_clauseOf A_t_codeFrom A_t_codeHalf A_t_codeTo A_t_stack A_t_facts x_t_lines A_t_newWords A_t_roundFrom A_t_roundAt A_t_roundTimes x_t_newMany x_t_rounds x_t_itFrom x_t_itTimes x_t_writtenNow x_t_picturesNow x_t_usedNow x_t_chosen x_t_fearOfChosen A_t_leastFrom A_t_rowNow x_t_changesNow x_t_left0 A_t_bornOf A_t_trainsTo A_t_trainAt x_t_trainMany x_t_leastTries x_t_firstTrained x_t_isKept, iA cI 260 A_t_said w10, iA cB 260 A_t_tape v_t_tape, iA cI 260 A_t_waitsAt (upd v_t_waitsAt w12.toNatClampNeg ((1048576 : Int32) * l2))]) C hK hP hD hS 3 rfl hi rfl dX12_readsSum_53 ?_
        intro H locs hP hD hS
        refine lv_aload_n hx hb dX12_readsSum_54 rfl (lv_at hl 0 rfl) ?_
        refine lv_aload_n hx hb dX12_readsSum_55 rfl (lv_at hl 0 rfl) ?_
        refine x_get C hK hP fd_X12_180 0 rfl rfl dX12_readsSum_56 ?_
        refine lv_iconst (v := 1) hx hb dX12_readsSum_59 (by decide) ?_
        refine lv_iadd hx hb dX12_readsSum_60 ?_
        refine x_put (ws' := [oX12 A_t A_t_now A_t_aside A_t_kept A_t_rhymeOf A_t_wasRhyme A_t_wordAt x_t_wordMany A_t_tape x_t_taped x_t_place0 x_t_length0 x_t_fault x_t_number0 x_t_open w11 (w12 + (1 : Int32)) x_t_saidMany x_t_clauses A_t_said A_t_waitsAt A_t_saidLetter A_t_saidFrom A_t_saidHalf A_t_saidTo A_t_codes A_t_clauseOf A_t_codeFrom A_t_codeHalf A_t_codeTo A_t_stack A_t_facts x_t_lines A_t_newWords A_t_roundFrom A_t_roundAt A_t_roundTimes x_t_newMany x_t_rounds x_t_itFrom x_t_itTimes x_t_writtenNow x_t_picturesNow x_t_usedNow x_t_chosen x_t_fearOfChosen A_t_leastFrom A_t_rowNow x_t_changesNow x_t_left0 A_t_bornOf A_t_trainsTo A_t_trainAt x_t_trainMany x_t_leastTries x_t_firstTrained x_t_isKept, iA cI 260 A_t_said w10, iA cB 260 A_t_tape v_t_tape, iA cI 260 A_t_waitsAt (upd v_t_waitsAt w12.toNatClampNeg ((1048576 : Int32) * l2))]) C hK hP hD hS fp_X12_180 0 rfl rfl rfl (Nat.le_of_ble_eq_true rfl) rfl dX12_readsSum_61 ?_
        intro H locs hP hD hS
        refine lv_aload_n hx hb dX12_readsSum_64 rfl (lv_at hl 0 rfl) ?_
        refine lv_aload_n hx hb dX12_readsSum_65 rfl (lv_at hl 0 rfl) ?_
        refine x_get C hK hP fd_X12_150 0 rfl rfl dX12_readsSum_66 ?_
        refine lv_iconst (v := 1) hx hb dX12_readsSum_69 (by decide) ?_
        refine lv_iadd hx hb dX12_readsSum_70 ?_
        refine x_put (ws' := [oX12 A_t A_t_now A_t_aside A_t_kept A_t_rhymeOf A_t_wasRhyme A_t_wordAt x_t_wordMany A_t_tape x_t_taped (x_t_place0 + (1 : Int32)) x_t_length0 x_t_fault x_t_number0 x_t_open w11 (w12 + (1 : Int32)) x_t_saidMany x_t_clauses A_t_said A_t_waitsAt A_t_saidLetter A_t_saidFrom A_t_saidHalf A_t_saidTo A_t_codes A_t_clauseOf A_t_codeFrom A_t_codeHalf A_t_codeTo A_t_stack A_t_facts x_t_lines A_t_newWords A_t_roundFrom A_t_roundAt A_t_roundTimes x_t_newMany x_t_rounds x_t_itFrom x_t_itTimes x_t_writtenNow x_t_picturesNow x_t_usedNow x_t_chosen x_t_fearOfChosen A_t_leastFrom A_t_rowNow x_t_changesNow x_t_left0 A_t_bornOf A_t_trainsTo A_t_trainAt x_t_trainMany x_t_leastTries x_t_firstTrained x_t_isKept, iA cI 260 A_t_said w10, iA cB 260 A_t_tape v_t_tape, iA cI 260 A_t_waitsAt (upd v_t_waitsAt w12.toNatClampNeg ((1048576 : Int32) * l2))]) C hK hP hD hS fp_X12_150 0 rfl rfl rfl (Nat.le_of_ble_eq_true rfl) rfl dX12_readsSum_71 ?_
        intro H locs hP hD hS
        refine lv_aload_n hx hb dX12_readsSum_74 rfl (lv_at hl 0 rfl) ?_
        obtain ⟨r14, w15, w16, w17, w18, w19, w20, w21, w22, hc23, hf⟩ := bd9_e hf
        refine x_callVI (ws' := [oX12 A_t A_t_now A_t_aside A_t_kept A_t_rhymeOf A_t_wasRhyme A_t_wordAt x_t_wordMany A_t_tape x_t_taped w21 x_t_length0 w18 w19 w20 w17 w22 x_t_saidMany x_t_clauses A_t_said A_t_waitsAt A_t_saidLetter A_t_saidFrom A_t_saidHalf A_t_saidTo A_t_codes A_t_clauseOf A_t_codeFrom A_t_codeHalf A_t_codeTo A_t_stack A_t_facts x_t_lines A_t_newWords A_t_roundFrom A_t_roundAt A_t_roundTimes x_t_newMany x_t_rounds x_t_itFrom x_t_itTimes x_t_writtenNow x_t_picturesNow x_t_usedNow x_t_chosen x_t_fearOfChosen A_t_leastFrom A_t_rowNow x_t_changesNow x_t_left0 A_t_bornOf A_t_trainsTo A_t_trainAt x_t_trainMany x_t_leastTries x_t_firstTrained x_t_isKept, iA cI 260 A_t_said w15, iA cB 260 A_t_tape v_t_tape, iA cI 260 A_t_waitsAt w16]) (rest := []) C hK hP hD hS hA hl mf_X12_199 (c_X12_readsFactor hc23) [0, 1, 2, 3] 0 12 rfl rfl rfl rfl rfl rfl rfl rfl rfl rfl (Nat.le_of_ble_eq_true rfl) ⟨Nat.le_of_ble_eq_true rfl, Nat.le_of_ble_eq_true rfl⟩ ⟨Nat.le_refl _, Nat.le_refl _⟩ dX12_readsSum_75 ?_
        intro H locs hP hD hS
        refine lv_if_ne (tgt := 163) hx hb dX12_readsSum_78 (by decide) (fun q => ?_) (fun q => ?_)
        · have hf := if_f q hf
          exact hb_163 w15 w16 w17 w18 w19 w20 w21 w22 l1 _ _ ls (lv_sub hl [0, 1] rfl) hP hD hS hf
        · have hf := if_t q hf
          refine lv_iconst (v := 0) hx hb dX12_readsSum_81 (by decide) ?_
          obtain ⟨rfl, rfl, rfl, rfl, rfl, rfl, rfl, rfl, rfl⟩ := ev9 hf
          exact x_zret C hr hlk (Or.inl rfl) hP hD hS dX12_readsSum_82
      intro v_t_said v_t_waitsAt x_t_codeMany x_t_fault x_t_number0 x_t_open x_t_place0 x_t_waiting l1 H locs ls hl hP hD hS hf
      rw [f_X12_readsSum_b14] at hf
      refine lv_aload_n hx hb dX12_readsSum_14 rfl (lv_at hl 0 rfl) ?_
      obtain ⟨r24, hc25, hf⟩ := bd1_e hf
      refine x_callVI (ws' := [oX12 A_t A_t_now A_t_aside A_t_kept A_t_rhymeOf A_t_wasRhyme A_t_wordAt x_t_wordMany A_t_tape x_t_taped x_t_place0 x_t_length0 x_t_fault x_t_number0 x_t_open x_t_codeMany x_t_waiting x_t_saidMany x_t_clauses A_t_said A_t_waitsAt A_t_saidLetter A_t_saidFrom A_t_saidHalf A_t_saidTo A_t_codes A_t_clauseOf A_t_codeFrom A_t_codeHalf A_t_codeTo A_t_stack A_t_facts x_t_lines A_t_newWords A_t_roundFrom A_t_roundAt A_t_roundTimes x_t_newMany x_t_rounds x_t_itFrom x_t_itTimes x_t_writtenNow x_t_picturesNow x_t_usedNow x_t_chosen x_t_fearOfChosen A_t_leastFrom A_t_rowNow x_t_changesNow x_t_left0 A_t_bornOf A_t_trainsTo A_t_trainAt x_t_trainMany x_t_leastTries x_t_firstTrained x_t_isKept, iA cI 260 A_t_said v_t_said, iA cB 260 A_t_tape v_t_tape, iA cI 260 A_t_waitsAt v_t_waitsAt]) (rest := []) C hK hP hD hS hA hl mf_X12_156 (c_X12_here hc25) [0, 2] 0 12 rfl rfl rfl rfl rfl rfl rfl rfl rfl rfl (Nat.le_of_ble_eq_true rfl) ⟨Nat.le_of_ble_eq_true rfl, Nat.le_of_ble_eq_true rfl⟩ ⟨Nat.le_refl _, Nat.le_refl _⟩ dX12_readsSum_15 ?_
      intro H locs hP hD hS
      obtain ⟨r26, hc27, hf⟩ := bd1_e hf
      refine x_callSI (ws' := [oX12 A_t A_t_now A_t_aside A_t_kept A_t_rhymeOf A_t_wasRhyme A_t_wordAt x_t_wordMany A_t_tape x_t_taped x_t_place0 x_t_length0 x_t_fault x_t_number0 x_t_open x_t_codeMany x_t_waiting x_t_saidMany x_t_clauses A_t_said A_t_waitsAt A_t_saidLetter A_t_saidFrom A_t_saidHalf A_t_saidTo A_t_codes A_t_clauseOf A_t_codeFrom A_t_codeHalf A_t_codeTo A_t_stack A_t_facts x_t_lines A_t_newWords A_t_roundFrom A_t_roundAt A_t_roundTimes x_t_newMany x_t_rounds x_t_itFrom x_t_itTimes x_t_writtenNow x_t_picturesNow x_t_usedNow x_t_chosen x_t_fearOfChosen A_t_leastFrom A_t_rowNow x_t_changesNow x_t_left0 A_t_bornOf A_t_trainsTo A_t_trainAt x_t_trainMany x_t_leastTries x_t_firstTrained x_t_isKept, iA cI 260 A_t_said v_t_said, iA cB 260 A_t_tape v_t_tape, iA cI 260 A_t_waitsAt v_t_waitsAt]) (rest := []) C hK hP hD hS hA hl mf_X12_202 (c_X12_sumSign hc27) [] rfl rfl rfl rfl rfl rfl rfl rfl (Nat.le_of_ble_eq_true rfl) ⟨Nat.le_of_ble_eq_true rfl, Nat.le_of_ble_eq_true rfl⟩ ⟨Nat.le_refl _, Nat.le_refl _⟩ dX12_readsSum_18 ?_
      intro H locs hP hD hS
      refine lv_istore_n (lv' := [(2, .int r26), (0, .ref A_t), (1, .int l1)]) hx hb dX12_readsSum_21 rfl hl (by decide) rfl (fun ls hl => ?_)
      refine lv_iload_n hx hb dX12_readsSum_22 rfl (lv_at hl 0 rfl) ?_
      refine lv_iconst (v := -1) hx hb dX12_readsSum_23 (by decide) ?_
      refine lv_icmp_eq (tgt := 83) hx hb dX12_readsSum_24 (by decide) (fun q => ?_) (fun q => ?_)
      · have hf := if_t q hf
        refine lv_aload_n hx hb dX12_readsSum_83 rfl (lv_at hl 1 rfl) ?_
        obtain ⟨r28, hc29, hf⟩ := bd1_e hf
        refine x_callVI (ws' := [oX12 A_t A_t_now A_t_aside A_t_kept A_t_rhymeOf A_t_wasRhyme A_t_wordAt x_t_wordMany A_t_tape x_t_taped x_t_place0 x_t_length0 x_t_fault x_t_number0 x_t_open x_t_codeMany x_t_waiting x_t_saidMany x_t_clauses A_t_said A_t_waitsAt A_t_saidLetter A_t_saidFrom A_t_saidHalf A_t_saidTo A_t_codes A_t_clauseOf A_t_codeFrom A_t_codeHalf A_t_codeTo A_t_stack A_t_facts x_t_lines A_t_newWords A_t_roundFrom A_t_roundAt A_t_roundTimes x_t_newMany x_t_rounds x_t_itFrom x_t_itTimes x_t_writtenNow x_t_picturesNow x_t_usedNow x_t_chosen x_t_fearOfChosen A_t_leastFrom A_t_rowNow x_t_changesNow x_t_left0 A_t_bornOf A_t_trainsTo A_t_trainAt x_t_trainMany x_t_leastTries x_t_firstTrained x_t_isKept, iA cI 260 A_t_said v_t_said, iA cB 260 A_t_tape v_t_tape, iA cI 260 A_t_waitsAt v_t_waitsAt]) (rest := []) C hK hP hD hS hA hl mf_X12_156 (c_X12_here hc29) [0, 2] 0 12 rfl rfl rfl rfl rfl rfl rfl rfl rfl rfl (Nat.le_of_ble_eq_true rfl) ⟨Nat.le_of_ble_eq_true rfl, Nat.le_of_ble_eq_true rfl⟩ ⟨Nat.le_refl _, Nat.le_refl _⟩ dX12_readsSum_84 ?_
        intro H locs hP hD hS
        refine lv_bipush (v := 93) hx hb dX12_readsSum_87 (by decide) ?_
        refine lv_icmp_ne (tgt := 138) hx hb dX12_readsSum_89 (by decide) (fun q => ?_) (fun q => ?_)
        · have hf := if_f q hf
          exact hb_138 v_t_said v_t_waitsAt x_t_codeMany x_t_fault x_t_number0 x_t_open x_t_place0 x_t_waiting l1 _ _ ls (lv_sub hl [1, 2] rfl) hP hD hS hf
        · have hf := if_t q hf
          refine lv_aload_n hx hb dX12_readsSum_92 rfl (lv_at hl 1 rfl) ?_
          refine lv_iload_n hx hb dX12_readsSum_93 rfl (lv_at hl 2 rfl) ?_
          obtain ⟨r30, hc31, hf⟩ := bd1_e hf
          refine x_callVI (ws' := [oX12 A_t A_t_now A_t_aside A_t_kept A_t_rhymeOf A_t_wasRhyme A_t_wordAt x_t_wordMany A_t_tape x_t_taped x_t_place0 x_t_length0 x_t_fault x_t_number0 x_t_open x_t_codeMany x_t_waiting x_t_saidMany x_t_clauses A_t_said A_t_waitsAt A_t_saidLetter A_t_saidFrom A_t_saidHalf A_t_saidTo A_t_codes A_t_clauseOf A_t_codeFrom A_t_codeHalf A_t_codeTo A_t_stack A_t_facts x_t_lines A_t_newWords A_t_roundFrom A_t_roundAt A_t_roundTimes x_t_newMany x_t_rounds x_t_itFrom x_t_itTimes x_t_writtenNow x_t_picturesNow x_t_usedNow x_t_chosen x_t_fearOfChosen A_t_leastFrom A_t_rowNow x_t_changesNow x_t_left0 A_t_bornOf A_t_trainsTo A_t_trainAt x_t_trainMany x_t_leastTries x_t_firstTrained x_t_isKept, iA cI 260 A_t_said v_t_said, iA cB 260 A_t_tape v_t_tape, iA cI 260 A_t_waitsAt v_t_waitsAt]) (rest := []) C hK hP hD hS hA hl mf_X12_209 (c_X12_hasOpenSum hc31) [0, 3] 0 12 rfl rfl rfl rfl rfl rfl rfl rfl rfl rfl (Nat.le_of_ble_eq_true rfl) ⟨Nat.le_of_ble_eq_true rfl, Nat.le_of_ble_eq_true rfl⟩ ⟨Nat.le_refl _, Nat.le_refl _⟩ dX12_readsSum_94 ?_
          intro H locs hP hD hS
          refine lv_if_eq (tgt := 138) hx hb dX12_readsSum_97 (by decide) (fun q => ?_) (fun q => ?_)
          · have hf := if_t q hf
            exact hb_138 v_t_said v_t_waitsAt x_t_codeMany x_t_fault x_t_number0 x_t_open x_t_place0 x_t_waiting l1 _ _ ls (lv_sub hl [1, 2] rfl) hP hD hS hf
          · have hf := if_f q hf
            refine lv_aload_n hx hb dX12_readsSum_100 rfl (lv_at hl 1 rfl) ?_
            refine lv_iconst (v := 1) hx hb dX12_readsSum_101 (by decide) ?_
            obtain ⟨w32, w33, w34, hc35, hf⟩ := bd3_e hf
            refine x_callVV (ws' := [oX12 A_t A_t_now A_t_aside A_t_kept A_t_rhymeOf A_t_wasRhyme A_t_wordAt x_t_wordMany A_t_tape x_t_taped x_t_place0 x_t_length0 x_t_fault x_t_number0 x_t_open w33 w34 x_t_saidMany x_t_clauses A_t_said A_t_waitsAt A_t_saidLetter A_t_saidFrom A_t_saidHalf A_t_saidTo A_t_codes A_t_clauseOf A_t_codeFrom A_t_codeHalf A_t_codeTo A_t_stack A_t_facts x_t_lines A_t_newWords A_t_roundFrom A_t_roundAt A_t_roundTimes x_t_newMany x_t_rounds x_t_itFrom x_t_itTimes x_t_writtenNow x_t_picturesNow x_t_usedNow x_t_chosen x_t_fearOfChosen A_t_leastFrom A_t_rowNow x_t_changesNow x_t_left0 A_t_bornOf A_t_trainsTo A_t_trainAt x_t_trainMany x_t_leastTries x_t_firstTrained x_t_isKept, iA cI 260 A_t_said w32, iA cB 260 A_t_tape v_t_tape, iA cI 260 A_t_waitsAt v_t_waitsAt]) (rest := []) C hK hP hD hS hA hl mf_X12_205 (c_X12_closesSums hc35) [0, 1, 3] 0 12 rfl rfl rfl rfl rfl rfl rfl rfl rfl rfl (Nat.le_of_ble_eq_true rfl) ⟨Nat.le_of_ble_eq_true rfl, Nat.le_of_ble_eq_true rfl⟩ ⟨Nat.le_refl _, Nat.le_refl _⟩ dX12_readsSum_102 ?_
            intro H locs hP hD hS
            refine lv_aload_n hx hb dX12_readsSum_105 rfl (lv_at hl 1 rfl) ?_
            refine lv_aload_n hx hb dX12_readsSum_106 rfl (lv_at hl 1 rfl) ?_
            refine x_get C hK hP fd_X12_180 0 rfl rfl dX12_readsSum_107 ?_
            refine lv_iconst (v := 1) hx hb dX12_readsSum_110 (by decide) ?_
            refine lv_isub hx hb dX12_readsSum_111 ?_
            refine x_put (ws' := [oX12 A_t A_t_now A_t_aside A_t_kept A_t_rhymeOf A_t_wasRhyme A_t_wordAt x_t_wordMany A_t_tape x_t_taped x_t_place0 x_t_length0 x_t_fault x_t_number0 x_t_open w33 (w34 - (1 : Int32)) x_t_saidMany x_t_clauses A_t_said A_t_waitsAt A_t_saidLetter A_t_saidFrom A_t_saidHalf A_t_saidTo A_t_codes A_t_clauseOf A_t_codeFrom A_t_codeHalf A_t_codeTo A_t_stack A_t_facts x_t_lines A_t_newWords A_t_roundFrom A_t_roundAt A_t_roundTimes x_t_newMany x_t_rounds x_t_itFrom x_t_itTimes x_t_writtenNow x_t_picturesNow x_t_usedNow x_t_chosen x_t_fearOfChosen A_t_leastFrom A_t_rowNow x_t_changesNow x_t_left0 A_t_bornOf A_t_trainsTo A_t_trainAt x_t_trainMany x_t_leastTries x_t_firstTrained x_t_isKept, iA cI 260 A_t_said w32, iA cB 260 A_t_tape v_t_tape, iA cI 260 A_t_waitsAt v_t_waitsAt]) C hK hP hD hS fp_X12_180 0 rfl rfl rfl (Nat.le_of_ble_eq_true rfl) rfl dX12_readsSum_112 ?_
            intro H locs hP hD hS
            refine lv_aload_n hx hb dX12_readsSum_115 rfl (lv_at hl 1 rfl) ?_
            refine lv_aload_n hx hb dX12_readsSum_116 rfl (lv_at hl 1 rfl) ?_
            refine x_get C hK hP fd_X12_177 0 rfl rfl dX12_readsSum_117 ?_
            refine lv_iconst (v := 1) hx hb dX12_readsSum_120 (by decide) ?_
            refine lv_isub hx hb dX12_readsSum_121 ?_
            refine x_put (ws' := [oX12 A_t A_t_now A_t_aside A_t_kept A_t_rhymeOf A_t_wasRhyme A_t_wordAt x_t_wordMany A_t_tape x_t_taped x_t_place0 x_t_length0 x_t_fault x_t_number0 (x_t_open - (1 : Int32)) w33 (w34 - (1 : Int32)) x_t_saidMany x_t_clauses A_t_said A_t_waitsAt A_t_saidLetter A_t_saidFrom A_t_saidHalf A_t_saidTo A_t_codes A_t_clauseOf A_t_codeFrom A_t_codeHalf A_t_codeTo A_t_stack A_t_facts x_t_lines A_t_newWords A_t_roundFrom A_t_roundAt A_t_roundTimes x_t_newMany x_t_rounds x_t_itFrom x_t_itTimes x_t_writtenNow x_t_picturesNow x_t_usedNow x_t_chosen x_t_fearOfChosen A_t_leastFrom A_t_rowNow x_t_changesNow x_t_left0 A_t_bornOf A_t_trainsTo A_t_trainAt x_t_trainMany x_t_leastTries x_t_firstTrained x_t_isKept, iA cI 260 A_t_said w32, iA cB 260 A_t_tape v_t_tape, iA cI 260 A_t_waitsAt v_t_waitsAt]) C hK hP hD hS fp_X12_177 0 rfl rfl rfl (Nat.le_of_ble_eq_true rfl) rfl dX12_readsSum_122 ?_
            intro H locs hP hD hS
            refine lv_aload_n hx hb dX12_readsSum_125 rfl (lv_at hl 1 rfl) ?_
            refine lv_aload_n hx hb dX12_readsSum_126 rfl (lv_at hl 1 rfl) ?_
            refine x_get C hK hP fd_X12_150 0 rfl rfl dX12_readsSum_127 ?_
            refine lv_iconst (v := 1) hx hb dX12_readsSum_130 (by decide) ?_
            refine lv_iadd hx hb dX12_readsSum_131 ?_
            refine x_put (ws' := [oX12 A_t A_t_now A_t_aside A_t_kept A_t_rhymeOf A_t_wasRhyme A_t_wordAt x_t_wordMany A_t_tape x_t_taped (x_t_place0 + (1 : Int32)) x_t_length0 x_t_fault x_t_number0 (x_t_open - (1 : Int32)) w33 (w34 - (1 : Int32)) x_t_saidMany x_t_clauses A_t_said A_t_waitsAt A_t_saidLetter A_t_saidFrom A_t_saidHalf A_t_saidTo A_t_codes A_t_clauseOf A_t_codeFrom A_t_codeHalf A_t_codeTo A_t_stack A_t_facts x_t_lines A_t_newWords A_t_roundFrom A_t_roundAt A_t_roundTimes x_t_newMany x_t_rounds x_t_itFrom x_t_itTimes x_t_writtenNow x_t_picturesNow x_t_usedNow x_t_chosen x_t_fearOfChosen A_t_leastFrom A_t_rowNow x_t_changesNow x_t_left0 A_t_bornOf A_t_trainsTo A_t_trainAt x_t_trainMany x_t_leastTries x_t_firstTrained x_t_isKept, iA cI 260 A_t_said w32, iA cB 260 A_t_tape v_t_tape, iA cI 260 A_t_waitsAt v_t_waitsAt]) C hK hP hD hS fp_X12_150 0 rfl rfl rfl (Nat.le_of_ble_eq_true rfl) rfl dX12_readsSum_132 ?_
            intro H locs hP hD hS
            refine lv_goto (tgt := 163) hx hb dX12_readsSum_135 (by decide) ?_
            exact hb_163 w32 v_t_waitsAt w33 x_t_fault x_t_number0 (x_t_open - (1 : Int32)) (x_t_place0 + (1 : Int32)) (w34 - (1 : Int32)) l1 _ _ ls (lv_sub hl [1, 2] rfl) hP hD hS hf
      · have hf := if_f q hf
        refine lv_aload_n hx hb dX12_readsSum_27 rfl (lv_at hl 1 rfl) ?_
        refine lv_iload_n hx hb dX12_readsSum_28 rfl (lv_at hl 0 rfl) ?_
        refine lv_iconst (v := 4) hx hb dX12_readsSum_29 (by decide) ?_
        refine lv_icmp_ge (tgt := 37) hx hb dX12_readsSum_30 (by decide) (fun q => ?_) (fun q => ?_)
        · have hf := if_t q hf
          refine lv_iconst (v := 0) hx hb dX12_readsSum_37 (by decide) ?_
          exact hb_38 v_t_said v_t_waitsAt x_t_codeMany x_t_fault x_t_number0 x_t_open x_t_place0 x_t_waiting (0 : Int32) l1 r26 _ _ ls (lv_sub hl [1, 2, 0] rfl) hP hD hS hf
        · have hf := if_f q hf
          refine lv_iconst (v := 1) hx hb dX12_readsSum_33 (by decide) ?_
          refine lv_goto (tgt := 38) hx hb dX12_readsSum_34 (by decide) ?_
          exact hb_38 v_t_said v_t_waitsAt x_t_codeMany x_t_fault x_t_number0 x_t_open x_t_place0 x_t_waiting (1 : Int32) l1 r26 _ _ ls (lv_sub hl [1, 2, 0] rfl) hP hD hS hf
  refine lv_aload_n hx hb dX12_readsSum_0 rfl (lv_at hl 0 rfl) ?_
  refine x_get C hK hP fd_X12_180 0 rfl rfl dX12_readsSum_1 ?_
  refine lv_istore_n (lv' := [(1, .int x_t_waiting), (0, .ref A_t)]) hx hb dX12_readsSum_4 rfl hl (by decide) rfl (fun ls hl => ?_)
  refine lv_aload_n hx hb dX12_readsSum_5 rfl (lv_at hl 1 rfl) ?_
  obtain ⟨r36, w37, w38, w39, w40, w41, w42, w43, w44, hc45, hf⟩ := bd9_e hf
  refine x_callVI (ws' := [oX12 A_t A_t_now A_t_aside A_t_kept A_t_rhymeOf A_t_wasRhyme A_t_wordAt x_t_wordMany A_t_tape x_t_taped w43 x_t_length0 w40 w41 w42 w39 w44 x_t_saidMany x_t_clauses A_t_said A_t_waitsAt A_t_saidLetter A_t_saidFrom A_t_saidHalf A_t_saidTo A_t_codes A_t_clauseOf A_t_codeFrom A_t_codeHalf A_t_codeTo A_t_stack A_t_facts x_t_lines A_t_newWords A_t_roundFrom A_t_roundAt A_t_roundTimes x_t_newMany x_t_rounds x_t_itFrom x_t_itTimes x_t_writtenNow x_t_picturesNow x_t_usedNow x_t_chosen x_t_fearOfChosen A_t_leastFrom A_t_rowNow x_t_changesNow x_t_left0 A_t_bornOf A_t_trainsTo A_t_trainAt x_t_trainMany x_t_leastTries x_t_firstTrained x_t_isKept, iA cI 260 A_t_said w37, iA cB 260 A_t_tape v_t_tape, iA cI 260 A_t_waitsAt w38]) (rest := []) C hK hP hD hS hA hl mf_X12_199 (c_X12_readsFactor hc45) [0, 1, 2, 3] 0 12 rfl rfl rfl rfl rfl rfl rfl rfl rfl rfl (Nat.le_of_ble_eq_true rfl) ⟨Nat.le_of_ble_eq_true rfl, Nat.le_of_ble_eq_true rfl⟩ ⟨Nat.le_refl _, Nat.le_refl _⟩ dX12_readsSum_6 ?_
  intro H locs hP hD hS
  refine lv_if_ne (tgt := 14) hx hb dX12_readsSum_9 (by decide) (fun q => ?_) (fun q => ?_)
  · have hf := if_f q hf
    exact hb_14 FU w37 w38 w39 w40 w41 w42 w43 w44 x_t_waiting _ _ ls (lv_sub hl [1, 0] rfl) hP hD hS hf
  · have hf := if_t q hf
    refine lv_iconst (v := 0) hx hb dX12_readsSum_12 (by decide) ?_
    obtain ⟨rfl, rfl, rfl, rfl, rfl, rfl, rfl, rfl, rfl⟩ := ev9 hf
    exact x_zret C hr hlk (Or.inl rfl) hP hD hS dX12_readsSum_13
def f_X12_endsPiece_b0 (v_t_waitsAt : (Nat → Int32)) : Nat → (Nat → Int32) → Int32 → Int32 → Int32 → Option ((Nat → Int32) × Int32 × Int32 × Int32)
  | 0, _, _, _, _ => none
  | n + 1, v_t_said, x_t_codeMany, x_t_open, x_t_waiting =>
    bd1 (f_X12_waitTop v_t_waitsAt x_t_waiting) (fun r1 =>
    if r1 = (10 : Int32) then
      bd2 (f_X12_notes v_t_said x_t_codeMany (10 : Int32) (0 : Int32)) (fun w2 w3 =>
      f_X12_endsPiece_b0 v_t_waitsAt n w2 w3 (x_t_open - (1 : Int32)) (x_t_waiting - (1 : Int32)))
    else
      some (v_t_said, x_t_codeMany, x_t_open, x_t_waiting))
def f_X12_endsPiece (v_t_said : (Nat → Int32)) (v_t_waitsAt : (Nat → Int32)) (x_t_codeMany : Int32) (x_t_open : Int32) (x_t_waiting : Int32) : Option ((Nat → Int32) × Int32 × Int32 × Int32) :=
  f_X12_endsPiece_b0 v_t_waitsAt FU v_t_said x_t_codeMany x_t_open x_t_waiting
set_option maxHeartbeats 4000000 in
set_option maxRecDepth 100000 in
theorem c_X12_endsPiece {l : Launch} {D : va_G} {cI cB : ClassId} {A_t A_t_now A_t_aside A_t_kept A_t_rhymeOf A_t_wasRhyme A_t_wordAt A_t_tape A_t_said A_t_waitsAt A_t_saidLetter A_t_saidFrom A_t_saidHalf A_t_saidTo A_t_codes A_t_clauseOf A_t_codeFrom A_t_codeHalf A_t_codeTo A_t_stack A_t_facts A_t_newWords A_t_roundFrom A_t_roundAt A_t_roundTimes A_t_leastFrom A_t_rowNow A_t_bornOf A_t_trainsTo A_t_trainAt : Nat} {x_t_wordMany x_t_taped x_t_place0 x_t_length0 x_t_fault x_t_number0 x_t_open x_t_codeMany x_t_waiting x_t_saidMany x_t_clauses x_t_lines x_t_newMany x_t_rounds x_t_itFrom x_t_itTimes x_t_writtenNow x_t_picturesNow x_t_usedNow x_t_chosen x_t_fearOfChosen x_t_changesNow x_t_left0 x_t_trainMany x_t_leastTries x_t_firstTrained x_t_isKept : Int32} {v_t_said v_t_waitsAt : Nat → Int32} {o_x_t_codeMany o_x_t_open o_x_t_waiting : Int32} {o_v_t_said : Nat → Int32} (hf : f_X12_endsPiece v_t_said v_t_waitsAt x_t_codeMany x_t_open x_t_waiting = some (o_v_t_said, o_x_t_codeMany, o_x_t_open, o_x_t_waiting)) : CtV l D cI cB yX12_endsPiece cX12_endsPiece 1 1 22 [.ref A_t] [oX12 A_t A_t_now A_t_aside A_t_kept A_t_rhymeOf A_t_wasRhyme A_t_wordAt x_t_wordMany A_t_tape x_t_taped x_t_place0 x_t_length0 x_t_fault x_t_number0 x_t_open x_t_codeMany x_t_waiting x_t_saidMany x_t_clauses A_t_said A_t_waitsAt A_t_saidLetter A_t_saidFrom A_t_saidHalf A_t_saidTo A_t_codes A_t_clauseOf A_t_codeFrom A_t_codeHalf A_t_codeTo A_t_stack A_t_facts x_t_lines A_t_newWords A_t_roundFrom A_t_roundAt A_t_roundTimes x_t_newMany x_t_rounds x_t_itFrom x_t_itTimes x_t_writtenNow x_t_picturesNow x_t_usedNow x_t_chosen x_t_fearOfChosen A_t_leastFrom A_t_rowNow x_t_changesNow x_t_left0 A_t_bornOf A_t_trainsTo A_t_trainAt x_t_trainMany x_t_leastTries x_t_firstTrained x_t_isKept, iA cI 260 A_t_said v_t_said, iA cI 260 A_t_waitsAt v_t_waitsAt] [oX12 A_t A_t_now A_t_aside A_t_kept A_t_rhymeOf A_t_wasRhyme A_t_wordAt x_t_wordMany A_t_tape x_t_taped x_t_place0 x_t_length0 x_t_fault x_t_number0 o_x_t_open o_x_t_codeMany o_x_t_waiting x_t_saidMany x_t_clauses A_t_said A_t_waitsAt A_t_saidLetter A_t_saidFrom A_t_saidHalf A_t_saidTo A_t_codes A_t_clauseOf A_t_codeFrom A_t_codeHalf A_t_codeTo A_t_stack A_t_facts x_t_lines A_t_newWords A_t_roundFrom A_t_roundAt A_t_roundTimes x_t_newMany x_t_rounds x_t_itFrom x_t_itTimes x_t_writtenNow x_t_picturesNow x_t_usedNow x_t_chosen x_t_fearOfChosen A_t_leastFrom A_t_rowNow x_t_changesNow x_t_left0 A_t_bornOf A_t_trainsTo A_t_trainAt x_t_trainMany x_t_leastTries x_t_firstTrained x_t_isKept, iA cI 260 A_t_said o_v_t_said, iA cI 260 A_t_waitsAt v_t_waitsAt] := by
  refine x_startV (by decide) (Nat.le_of_ble_eq_true rfl) ?_
  intro p e s m below meth c A C hr hlk hA hK hP hD hS ls hl
  have hl : lv_has ls 1 [(0, .ref A_t)] := hl
  have hx := C.1
  have hb := C.2.1
  unfold f_X12_endsPiece at hf
  have hb_0 : ∀ (n_0 : Nat) (v_t_said : (Nat → Int32)) (x_t_codeMany : Int32) (x_t_open : Int32) (x_t_waiting : Int32) (H : Heap) (locs : List Loc) (ls : Array Slot), lv_has ls 1 [(0, .ref A_t)] → va_P D vwCl [oX12 A_t A_t_now A_t_aside A_t_kept A_t_rhymeOf A_t_wasRhyme A_t_wordAt x_t_wordMany A_t_tape x_t_taped x_t_place0 x_t_length0 x_t_fault x_t_number0 x_t_open x_t_codeMany x_t_waiting x_t_saidMany x_t_clauses A_t_said A_t_waitsAt A_t_saidLetter A_t_saidFrom A_t_saidHalf A_t_saidTo A_t_codes A_t_clauseOf A_t_codeFrom A_t_codeHalf A_t_codeTo A_t_stack A_t_facts x_t_lines A_t_newWords A_t_roundFrom A_t_roundAt A_t_roundTimes x_t_newMany x_t_rounds x_t_itFrom x_t_itTimes x_t_writtenNow x_t_picturesNow x_t_usedNow x_t_chosen x_t_fearOfChosen A_t_leastFrom A_t_rowNow x_t_changesNow x_t_left0 A_t_bornOf A_t_trainsTo A_t_trainAt x_t_trainMany x_t_leastTries x_t_firstTrained x_t_isKept, iA cI 260 A_t_said v_t_said, iA cI 260 A_t_waitsAt v_t_waitsAt] H → va_D A [oX12 A_t A_t_now A_t_aside A_t_kept A_t_rhymeOf A_t_wasRhyme A_t_wordAt x_t_wordMany A_t_tape x_t_taped x_t_place0 x_t_length0 x_t_fault x_t_number0 x_t_open x_t_codeMany x_t_waiting x_t_saidMany x_t_clauses A_t_said A_t_waitsAt A_t_saidLetter A_t_saidFrom A_t_saidHalf A_t_saidTo A_t_codes A_t_clauseOf A_t_codeFrom A_t_codeHalf A_t_codeTo A_t_stack A_t_facts x_t_lines A_t_newWords A_t_roundFrom A_t_roundAt A_t_roundTimes x_t_newMany x_t_rounds x_t_itFrom x_t_itTimes x_t_writtenNow x_t_picturesNow x_t_usedNow x_t_chosen x_t_fearOfChosen A_t_leastFrom A_t_rowNow x_t_changesNow x_t_left0 A_t_bornOf A_t_trainsTo A_t_trainAt x_t_trainMany x_t_leastTries x_t_firstTrained x_t_isKept, iA cI 260 A_t_said v_t_said, iA cI 260 A_t_waitsAt v_t_waitsAt] → va_S A s.heap H locs → f_X12_endsPiece_b0 v_t_waitsAt n_0 v_t_said x_t_codeMany x_t_open x_t_waiting = some (o_v_t_said, o_x_t_codeMany, o_x_t_open, o_x_t_waiting) → W p l e { frames := 1, cells := 0, slots := 0, locals := 22 } s m ([.ref A_t] : List Value).toArray below meth c H locs 0 0 (MQ below (PoV D A [oX12 A_t A_t_now A_t_aside A_t_kept A_t_rhymeOf A_t_wasRhyme A_t_wordAt x_t_wordMany A_t_tape x_t_taped x_t_place0 x_t_length0 x_t_fault x_t_number0 o_x_t_open o_x_t_codeMany o_x_t_waiting x_t_saidMany x_t_clauses A_t_said A_t_waitsAt A_t_saidLetter A_t_saidFrom A_t_saidHalf A_t_saidTo A_t_codes A_t_clauseOf A_t_codeFrom A_t_codeHalf A_t_codeTo A_t_stack A_t_facts x_t_lines A_t_newWords A_t_roundFrom A_t_roundAt A_t_roundTimes x_t_newMany x_t_rounds x_t_itFrom x_t_itTimes x_t_writtenNow x_t_picturesNow x_t_usedNow x_t_chosen x_t_fearOfChosen A_t_leastFrom A_t_rowNow x_t_changesNow x_t_left0 A_t_bornOf A_t_trainsTo A_t_trainAt x_t_trainMany x_t_leastTries x_t_firstTrained x_t_isKept, iA cI 260 A_t_said o_v_t_said, iA cI 260 A_t_waitsAt v_t_waitsAt]) ([.ref A_t] : List Value).toArray s 0 0 A) (F0 m 0 ls []) := by
    intro n_0
    induction n_0 with
    | zero =>
      intro v_t_said x_t_codeMany x_t_open x_t_waiting H locs ls hl hP hD hS hf
      exact absurd hf (fun h => by rw [f_X12_endsPiece_b0] at h; cases h)
    | succ n_0 ih_0 =>
      intro v_t_said x_t_codeMany x_t_open x_t_waiting H locs ls hl hP hD hS hf
      rw [f_X12_endsPiece_b0] at hf
      refine lv_aload_n hx hb dX12_endsPiece_0 rfl (lv_at hl 0 rfl) ?_
      obtain ⟨r1, hc2, hf⟩ := bd1_e hf
      refine x_callVI (ws' := [oX12 A_t A_t_now A_t_aside A_t_kept A_t_rhymeOf A_t_wasRhyme A_t_wordAt x_t_wordMany A_t_tape x_t_taped x_t_place0 x_t_length0 x_t_fault x_t_number0 x_t_open x_t_codeMany x_t_waiting x_t_saidMany x_t_clauses A_t_said A_t_waitsAt A_t_saidLetter A_t_saidFrom A_t_saidHalf A_t_saidTo A_t_codes A_t_clauseOf A_t_codeFrom A_t_codeHalf A_t_codeTo A_t_stack A_t_facts x_t_lines A_t_newWords A_t_roundFrom A_t_roundAt A_t_roundTimes x_t_newMany x_t_rounds x_t_itFrom x_t_itTimes x_t_writtenNow x_t_picturesNow x_t_usedNow x_t_chosen x_t_fearOfChosen A_t_leastFrom A_t_rowNow x_t_changesNow x_t_left0 A_t_bornOf A_t_trainsTo A_t_trainAt x_t_trainMany x_t_leastTries x_t_firstTrained x_t_isKept, iA cI 260 A_t_said v_t_said, iA cI 260 A_t_waitsAt v_t_waitsAt]) (rest := []) C hK hP hD hS hA hl mf_X12_183 (c_X12_waitTop hc2) [0, 2] 0 12 rfl rfl rfl rfl rfl rfl rfl rfl rfl rfl (Nat.le_of_ble_eq_true rfl) ⟨Nat.le_of_ble_eq_true rfl, Nat.le_of_ble_eq_true rfl⟩ ⟨Nat.le_refl _, Nat.le_refl _⟩ dX12_endsPiece_1 ?_
      intro H locs hP hD hS
      refine lv_bipush (v := 10) hx hb dX12_endsPiece_4 (by decide) ?_
      refine lv_icmp_ne (tgt := 39) hx hb dX12_endsPiece_6 (by decide) (fun q => ?_) (fun q => ?_)
      · have hf := if_f q hf
        obtain ⟨rfl, rfl, rfl, rfl⟩ := ev4 hf
        exact x_vret C hr hlk hP hD hS dX12_endsPiece_39
      · have hf := if_t q hf
        refine lv_aload_n hx hb dX12_endsPiece_9 rfl (lv_at hl 0 rfl) ?_
        refine lv_bipush (v := 10) hx hb dX12_endsPiece_10 (by decide) ?_
        refine lv_iconst (v := 0) hx hb dX12_endsPiece_12 (by decide) ?_
        obtain ⟨w3, w4, hc5, hf⟩ := bd2_e hf
        refine x_callVV (ws' := [oX12 A_t A_t_now A_t_aside A_t_kept A_t_rhymeOf A_t_wasRhyme A_t_wordAt x_t_wordMany A_t_tape x_t_taped x_t_place0 x_t_length0 x_t_fault x_t_number0 x_t_open w4 x_t_waiting x_t_saidMany x_t_clauses A_t_said A_t_waitsAt A_t_saidLetter A_t_saidFrom A_t_saidHalf A_t_saidTo A_t_codes A_t_clauseOf A_t_codeFrom A_t_codeHalf A_t_codeTo A_t_stack A_t_facts x_t_lines A_t_newWords A_t_roundFrom A_t_roundAt A_t_roundTimes x_t_newMany x_t_rounds x_t_itFrom x_t_itTimes x_t_writtenNow x_t_picturesNow x_t_usedNow x_t_chosen x_t_fearOfChosen A_t_leastFrom A_t_rowNow x_t_changesNow x_t_left0 A_t_bornOf A_t_trainsTo A_t_trainAt x_t_trainMany x_t_leastTries x_t_firstTrained x_t_isKept, iA cI 260 A_t_said w3, iA cI 260 A_t_waitsAt v_t_waitsAt]) (rest := []) C hK hP hD hS hA hl mf_X12_186 (c_X12_notes hc5) [0, 1] 0 12 rfl rfl rfl rfl rfl rfl rfl rfl rfl rfl (Nat.le_of_ble_eq_true rfl) ⟨Nat.le_of_ble_eq_true rfl, Nat.le_of_ble_eq_true rfl⟩ ⟨Nat.le_refl _, Nat.le_refl _⟩ dX12_endsPiece_13 ?_
        intro H locs hP hD hS
        refine lv_aload_n hx hb dX12_endsPiece_16 rfl (lv_at hl 0 rfl) ?_
        refine lv_aload_n hx hb dX12_endsPiece_17 rfl (lv_at hl 0 rfl) ?_
        refine x_get C hK hP fd_X12_180 0 rfl rfl dX12_endsPiece_18 ?_
        refine lv_iconst (v := 1) hx hb dX12_endsPiece_21 (by decide) ?_
        refine lv_isub hx hb dX12_endsPiece_22 ?_
        refine x_put (ws' := [oX12 A_t A_t_now A_t_aside A_t_kept A_t_rhymeOf A_t_wasRhyme A_t_wordAt x_t_wordMany A_t_tape x_t_taped x_t_place0 x_t_length0 x_t_fault x_t_number0 x_t_open w4 (x_t_waiting - (1 : Int32)) x_t_saidMany x_t_clauses A_t_said A_t_waitsAt A_t_saidLetter A_t_saidFrom A_t_saidHalf A_t_saidTo A_t_codes A_t_clauseOf A_t_codeFrom A_t_codeHalf A_t_codeTo A_t_stack A_t_facts x_t_lines A_t_newWords A_t_roundFrom A_t_roundAt A_t_roundTimes x_t_newMany x_t_rounds x_t_itFrom x_t_itTimes x_t_writtenNow x_t_picturesNow x_t_usedNow x_t_chosen x_t_fearOfChosen A_t_leastFrom A_t_rowNow x_t_changesNow x_t_left0 A_t_bornOf A_t_trainsTo A_t_trainAt x_t_trainMany x_t_leastTries x_t_firstTrained x_t_isKept, iA cI 260 A_t_said w3, iA cI 260 A_t_waitsAt v_t_waitsAt]) C hK hP hD hS fp_X12_180 0 rfl rfl rfl (Nat.le_of_ble_eq_true rfl) rfl dX12_endsPiece_23 ?_
        intro H locs hP hD hS
        refine lv_aload_n hx hb dX12_endsPiece_26 rfl (lv_at hl 0 rfl) ?_
        refine lv_aload_n hx hb dX12_endsPiece_27 rfl (lv_at hl 0 rfl) ?_
        refine x_get C hK hP fd_X12_177 0 rfl rfl dX12_endsPiece_28 ?_
        refine lv_iconst (v := 1) hx hb dX12_endsPiece_31 (by decide) ?_
        refine lv_isub hx hb dX12_endsPiece_32 ?_
        refine x_put (ws' := [oX12 A_t A_t_now A_t_aside A_t_kept A_t_rhymeOf A_t_wasRhyme A_t_wordAt x_t_wordMany A_t_tape x_t_taped x_t_place0 x_t_length0 x_t_fault x_t_number0 (x_t_open - (1 : Int32)) w4 (x_t_waiting - (1 : Int32)) x_t_saidMany x_t_clauses A_t_said A_t_waitsAt A_t_saidLetter A_t_saidFrom A_t_saidHalf A_t_saidTo A_t_codes A_t_clauseOf A_t_codeFrom A_t_codeHalf A_t_codeTo A_t_stack A_t_facts x_t_lines A_t_newWords A_t_roundFrom A_t_roundAt A_t_roundTimes x_t_newMany x_t_rounds x_t_itFrom x_t_itTimes x_t_writtenNow x_t_picturesNow x_t_usedNow x_t_chosen x_t_fearOfChosen A_t_leastFrom A_t_rowNow x_t_changesNow x_t_left0 A_t_bornOf A_t_trainsTo A_t_trainAt x_t_trainMany x_t_leastTries x_t_firstTrained x_t_isKept, iA cI 260 A_t_said w3, iA cI 260 A_t_waitsAt v_t_waitsAt]) C hK hP hD hS fp_X12_177 0 rfl rfl rfl (Nat.le_of_ble_eq_true rfl) rfl dX12_endsPiece_33 ?_
        intro H locs hP hD hS
        refine lv_goto (tgt := 0) hx hb dX12_endsPiece_36 (by decide) ?_
        exact ih_0 w3 w4 (x_t_open - (1 : Int32)) (x_t_waiting - (1 : Int32)) _ _ ls (lv_sub hl [0] rfl) hP hD hS hf
  exact hb_0 FU v_t_said x_t_codeMany x_t_open x_t_waiting _ _ ls (lv_sub hl [0] rfl) hP hD hS hf
def f_X12_lands_b22 (v_t_waitsAt : (Nat → Int32)) (x_t_codeMany : Int32) (a1 : Int32) (k0 : (Nat → Int32) → Int32 → Option ((Nat → Int32) × Int32)) (v_t_said : (Nat → Int32)) (x_t_waiting : Int32) : Option ((Nat → Int32) × Int32) :=
  gI 260 v_t_waitsAt (x_t_waiting - (1 : Int32)) (fun g1 =>
  rI g1 (1048576 : Int32) (fun g2 =>
  gI 260 v_t_said g2 (fun g3 =>
  dI g3 (1048576 : Int32) (fun g4 =>
  sI 260 v_t_said g2 (((1048576 : Int32) * g4) + x_t_codeMany) (fun w5 =>
  k0 w5 (x_t_waiting - (1 : Int32)))))))
def f_X12_lands_b73 (v_t_said : (Nat → Int32)) (x_t_waiting : Int32) : Option ((Nat → Int32) × Int32) :=
  some (v_t_said, x_t_waiting)
def f_X12_lands_b0 (v_t_waitsAt : (Nat → Int32)) (x_t_codeMany : Int32) (a1 : Int32) : Nat → (Nat → Int32) → Int32 → Option ((Nat → Int32) × Int32)
  | 0, _, _ => none
  | n + 1, v_t_said, x_t_waiting =>
    bd1 (f_X12_waitTop v_t_waitsAt x_t_waiting) (fun r1 =>
    if r1 = (11 : Int32) then
      f_X12_lands_b22 v_t_waitsAt x_t_codeMany a1 (f_X12_lands_b0 v_t_waitsAt x_t_codeMany a1 n) v_t_said x_t_waiting
    else
      if a1 = 0 then
        f_X12_lands_b73 v_t_said x_t_waiting
      else
        bd1 (f_X12_waitTop v_t_waitsAt x_t_waiting) (fun r2 =>
        if r2 = (12 : Int32) then
          f_X12_lands_b22 v_t_waitsAt x_t_codeMany a1 (f_X12_lands_b0 v_t_waitsAt x_t_codeMany a1 n) v_t_said x_t_waiting
        else
          f_X12_lands_b73 v_t_said x_t_waiting))
def f_X12_lands (v_t_said : (Nat → Int32)) (v_t_waitsAt : (Nat → Int32)) (x_t_codeMany : Int32) (x_t_waiting : Int32) (a1 : Int32) : Option ((Nat → Int32) × Int32) :=
  f_X12_lands_b0 v_t_waitsAt x_t_codeMany a1 FU v_t_said x_t_waiting
set_option maxHeartbeats 4000000 in
set_option maxRecDepth 100000 in
theorem c_X12_lands {l : Launch} {D : va_G} {cI cB : ClassId} {A_t A_t_now A_t_aside A_t_kept A_t_rhymeOf A_t_wasRhyme A_t_wordAt A_t_tape A_t_said A_t_waitsAt A_t_saidLetter A_t_saidFrom A_t_saidHalf A_t_saidTo A_t_codes A_t_clauseOf A_t_codeFrom A_t_codeHalf A_t_codeTo A_t_stack A_t_facts A_t_newWords A_t_roundFrom A_t_roundAt A_t_roundTimes A_t_leastFrom A_t_rowNow A_t_bornOf A_t_trainsTo A_t_trainAt : Nat} {x_t_wordMany x_t_taped x_t_place0 x_t_length0 x_t_fault x_t_number0 x_t_open x_t_codeMany x_t_waiting x_t_saidMany x_t_clauses x_t_lines x_t_newMany x_t_rounds x_t_itFrom x_t_itTimes x_t_writtenNow x_t_picturesNow x_t_usedNow x_t_chosen x_t_fearOfChosen x_t_changesNow x_t_left0 x_t_trainMany x_t_leastTries x_t_firstTrained x_t_isKept a1 : Int32} {v_t_said v_t_waitsAt : Nat → Int32} {o_x_t_waiting : Int32} {o_v_t_said : Nat → Int32} (hf : f_X12_lands v_t_said v_t_waitsAt x_t_codeMany x_t_waiting a1 = some (o_v_t_said, o_x_t_waiting)) : CtV l D cI cB yX12_lands cX12_lands 3 1 20 [.ref A_t, .int a1] [oX12 A_t A_t_now A_t_aside A_t_kept A_t_rhymeOf A_t_wasRhyme A_t_wordAt x_t_wordMany A_t_tape x_t_taped x_t_place0 x_t_length0 x_t_fault x_t_number0 x_t_open x_t_codeMany x_t_waiting x_t_saidMany x_t_clauses A_t_said A_t_waitsAt A_t_saidLetter A_t_saidFrom A_t_saidHalf A_t_saidTo A_t_codes A_t_clauseOf A_t_codeFrom A_t_codeHalf A_t_codeTo A_t_stack A_t_facts x_t_lines A_t_newWords A_t_roundFrom A_t_roundAt A_t_roundTimes x_t_newMany x_t_rounds x_t_itFrom x_t_itTimes x_t_writtenNow x_t_picturesNow x_t_usedNow x_t_chosen x_t_fearOfChosen A_t_leastFrom A_t_rowNow x_t_changesNow x_t_left0 A_t_bornOf A_t_trainsTo A_t_trainAt x_t_trainMany x_t_leastTries x_t_firstTrained x_t_isKept, iA cI 260 A_t_said v_t_said, iA cI 260 A_t_waitsAt v_t_waitsAt] [oX12 A_t A_t_now A_t_aside A_t_kept A_t_rhymeOf A_t_wasRhyme A_t_wordAt x_t_wordMany A_t_tape x_t_taped x_t_place0 x_t_length0 x_t_fault x_t_number0 x_t_open x_t_codeMany o_x_t_waiting x_t_saidMany x_t_clauses A_t_said A_t_waitsAt A_t_saidLetter A_t_saidFrom A_t_saidHalf A_t_saidTo A_t_codes A_t_clauseOf A_t_codeFrom A_t_codeHalf A_t_codeTo A_t_stack A_t_facts x_t_lines A_t_newWords A_t_roundFrom A_t_roundAt A_t_roundTimes x_t_newMany x_t_rounds x_t_itFrom x_t_itTimes x_t_writtenNow x_t_picturesNow x_t_usedNow x_t_chosen x_t_fearOfChosen A_t_leastFrom A_t_rowNow x_t_changesNow x_t_left0 A_t_bornOf A_t_trainsTo A_t_trainAt x_t_trainMany x_t_leastTries x_t_firstTrained x_t_isKept, iA cI 260 A_t_said o_v_t_said, iA cI 260 A_t_waitsAt v_t_waitsAt] := by
  refine x_startV (by decide) (Nat.le_of_ble_eq_true rfl) ?_
  intro p e s m below meth c A C hr hlk hA hK hP hD hS ls hl
  have hl : lv_has ls 3 [(0, .ref A_t), (1, .int a1)] := hl
  have hx := C.1
  have hb := C.2.1
  unfold f_X12_lands at hf
  have hb_73 : ∀ (v_t_said : (Nat → Int32)) (x_t_waiting : Int32) (H : Heap) (locs : List Loc) (ls : Array Slot), lv_has ls 3 [] → va_P D vwCl [oX12 A_t A_t_now A_t_aside A_t_kept A_t_rhymeOf A_t_wasRhyme A_t_wordAt x_t_wordMany A_t_tape x_t_taped x_t_place0 x_t_length0 x_t_fault x_t_number0 x_t_open x_t_codeMany x_t_waiting x_t_saidMany x_t_clauses A_t_said A_t_waitsAt A_t_saidLetter A_t_saidFrom A_t_saidHalf A_t_saidTo A_t_codes A_t_clauseOf A_t_codeFrom A_t_codeHalf A_t_codeTo A_t_stack A_t_facts x_t_lines A_t_newWords A_t_roundFrom A_t_roundAt A_t_roundTimes x_t_newMany x_t_rounds x_t_itFrom x_t_itTimes x_t_writtenNow x_t_picturesNow x_t_usedNow x_t_chosen x_t_fearOfChosen A_t_leastFrom A_t_rowNow x_t_changesNow x_t_left0 A_t_bornOf A_t_trainsTo A_t_trainAt x_t_trainMany x_t_leastTries x_t_firstTrained x_t_isKept, iA cI 260 A_t_said v_t_said, iA cI 260 A_t_waitsAt v_t_waitsAt] H → va_D A [oX12 A_t A_t_now A_t_aside A_t_kept A_t_rhymeOf A_t_wasRhyme A_t_wordAt x_t_wordMany A_t_tape x_t_taped x_t_place0 x_t_length0 x_t_fault x_t_number0 x_t_open x_t_codeMany x_t_waiting x_t_saidMany x_t_clauses A_t_said A_t_waitsAt A_t_saidLetter A_t_saidFrom A_t_saidHalf A_t_saidTo A_t_codes A_t_clauseOf A_t_codeFrom A_t_codeHalf A_t_codeTo A_t_stack A_t_facts x_t_lines A_t_newWords A_t_roundFrom A_t_roundAt A_t_roundTimes x_t_newMany x_t_rounds x_t_itFrom x_t_itTimes x_t_writtenNow x_t_picturesNow x_t_usedNow x_t_chosen x_t_fearOfChosen A_t_leastFrom A_t_rowNow x_t_changesNow x_t_left0 A_t_bornOf A_t_trainsTo A_t_trainAt x_t_trainMany x_t_leastTries x_t_firstTrained x_t_isKept, iA cI 260 A_t_said v_t_said, iA cI 260 A_t_waitsAt v_t_waitsAt] → va_S A s.heap H locs → f_X12_lands_b73 v_t_said x_t_waiting = some (o_v_t_said, o_x_t_waiting) → W p l e { frames := 1, cells := 0, slots := 0, locals := 20 } s m ([.ref A_t, .int a1] : List Value).toArray below meth c H locs 0 0 (MQ below (PoV D A [oX12 A_t A_t_now A_t_aside A_t_kept A_t_rhymeOf A_t_wasRhyme A_t_wordAt x_t_wordMany A_t_tape x_t_taped x_t_place0 x_t_length0 x_t_fault x_t_number0 x_t_open x_t_codeMany o_x_t_waiting x_t_saidMany x_t_clauses A_t_said A_t_waitsAt A_t_saidLetter A_t_saidFrom A_t_saidHalf A_t_saidTo A_t_codes A_t_clauseOf A_t_codeFrom A_t_codeHalf A_t_codeTo A_t_stack A_t_facts x_t_lines A_t_newWords A_t_roundFrom A_t_roundAt A_t_roundTimes x_t_newMany x_t_rounds x_t_itFrom x_t_itTimes x_t_writtenNow x_t_picturesNow x_t_usedNow x_t_chosen x_t_fearOfChosen A_t_leastFrom A_t_rowNow x_t_changesNow x_t_left0 A_t_bornOf A_t_trainsTo A_t_trainAt x_t_trainMany x_t_leastTries x_t_firstTrained x_t_isKept, iA cI 260 A_t_said o_v_t_said, iA cI 260 A_t_waitsAt v_t_waitsAt]) ([.ref A_t, .int a1] : List Value).toArray s 0 0 A) (F0 m 73 ls []) := by
    intro v_t_said x_t_waiting H locs ls hl hP hD hS hf
    unfold f_X12_lands_b73 at hf
    obtain ⟨rfl, rfl⟩ := ev2 hf
    exact x_vret C hr hlk hP hD hS dX12_lands_73
  have hb_0 : ∀ (n_0 : Nat) (v_t_said : (Nat → Int32)) (x_t_waiting : Int32) (H : Heap) (locs : List Loc) (ls : Array Slot), lv_has ls 3 [(0, .ref A_t), (1, .int a1)] → va_P D vwCl [oX12 A_t A_t_now A_t_aside A_t_kept A_t_rhymeOf A_t_wasRhyme A_t_wordAt x_t_wordMany A_t_tape x_t_taped x_t_place0 x_t_length0 x_t_fault x_t_number0 x_t_open x_t_codeMany x_t_waiting x_t_saidMany x_t_clauses A_t_said A_t_waitsAt A_t_saidLetter A_t_saidFrom A_t_saidHalf A_t_saidTo A_t_codes A_t_clauseOf A_t_codeFrom A_t_codeHalf A_t_codeTo A_t_stack A_t_facts x_t_lines A_t_newWords A_t_roundFrom A_t_roundAt A_t_roundTimes x_t_newMany x_t_rounds x_t_itFrom x_t_itTimes x_t_writtenNow x_t_picturesNow x_t_usedNow x_t_chosen x_t_fearOfChosen A_t_leastFrom A_t_rowNow x_t_changesNow x_t_left0 A_t_bornOf A_t_trainsTo A_t_trainAt x_t_trainMany x_t_leastTries x_t_firstTrained x_t_isKept, iA cI 260 A_t_said v_t_said, iA cI 260 A_t_waitsAt v_t_waitsAt] H → va_D A [oX12 A_t A_t_now A_t_aside A_t_kept A_t_rhymeOf A_t_wasRhyme A_t_wordAt x_t_wordMany A_t_tape x_t_taped x_t_place0 x_t_length0 x_t_fault x_t_number0 x_t_open x_t_codeMany x_t_waiting x_t_saidMany x_t_clauses A_t_said A_t_waitsAt A_t_saidLetter A_t_saidFrom A_t_saidHalf A_t_saidTo A_t_codes A_t_clauseOf A_t_codeFrom A_t_codeHalf A_t_codeTo A_t_stack A_t_facts x_t_lines A_t_newWords A_t_roundFrom A_t_roundAt A_t_roundTimes x_t_newMany x_t_rounds x_t_itFrom x_t_itTimes x_t_writtenNow x_t_picturesNow x_t_usedNow x_t_chosen x_t_fearOfChosen A_t_leastFrom A_t_rowNow x_t_changesNow x_t_left0 A_t_bornOf A_t_trainsTo A_t_trainAt x_t_trainMany x_t_leastTries x_t_firstTrained x_t_isKept, iA cI 260 A_t_said v_t_said, iA cI 260 A_t_waitsAt v_t_waitsAt] → va_S A s.heap H locs → f_X12_lands_b0 v_t_waitsAt x_t_codeMany a1 n_0 v_t_said x_t_waiting = some (o_v_t_said, o_x_t_waiting) → W p l e { frames := 1, cells := 0, slots := 0, locals := 20 } s m ([.ref A_t, .int a1] : List Value).toArray below meth c H locs 0 0 (MQ below (PoV D A [oX12 A_t A_t_now A_t_aside A_t_kept A_t_rhymeOf A_t_wasRhyme A_t_wordAt x_t_wordMany A_t_tape x_t_taped x_t_place0 x_t_length0 x_t_fault x_t_number0 x_t_open x_t_codeMany o_x_t_waiting x_t_saidMany x_t_clauses A_t_said A_t_waitsAt A_t_saidLetter A_t_saidFrom A_t_saidHalf A_t_saidTo A_t_codes A_t_clauseOf A_t_codeFrom A_t_codeHalf A_t_codeTo A_t_stack A_t_facts x_t_lines A_t_newWords A_t_roundFrom A_t_roundAt A_t_roundTimes x_t_newMany x_t_rounds x_t_itFrom x_t_itTimes x_t_writtenNow x_t_picturesNow x_t_usedNow x_t_chosen x_t_fearOfChosen A_t_leastFrom A_t_rowNow x_t_changesNow x_t_left0 A_t_bornOf A_t_trainsTo A_t_trainAt x_t_trainMany x_t_leastTries x_t_firstTrained x_t_isKept, iA cI 260 A_t_said o_v_t_said, iA cI 260 A_t_waitsAt v_t_waitsAt]) ([.ref A_t, .int a1] : List Value).toArray s 0 0 A) (F0 m 0 ls []) := by
    intro n_0
    induction n_0 with
    | zero =>
      intro v_t_said x_t_waiting H locs ls hl hP hD hS hf
      exact absurd hf (fun h => by rw [f_X12_lands_b0] at h; cases h)
    | succ n_0 ih_0 =>
      have hb_22 : ∀ (v_t_said : (Nat → Int32)) (x_t_waiting : Int32) (H : Heap) (locs : List Loc) (ls : Array Slot), lv_has ls 3 [(0, .ref A_t), (1, .int a1)] → va_P D vwCl [oX12 A_t A_t_now A_t_aside A_t_kept A_t_rhymeOf A_t_wasRhyme A_t_wordAt x_t_wordMany A_t_tape x_t_taped x_t_place0 x_t_length0 x_t_fault x_t_number0 x_t_open x_t_codeMany x_t_waiting x_t_saidMany x_t_clauses A_t_said A_t_waitsAt A_t_saidLetter A_t_saidFrom A_t_saidHalf A_t_saidTo A_t_codes A_t_clauseOf A_t_codeFrom A_t_codeHalf A_t_codeTo A_t_stack A_t_facts x_t_lines A_t_newWords A_t_roundFrom A_t_roundAt A_t_roundTimes x_t_newMany x_t_rounds x_t_itFrom x_t_itTimes x_t_writtenNow x_t_picturesNow x_t_usedNow x_t_chosen x_t_fearOfChosen A_t_leastFrom A_t_rowNow x_t_changesNow x_t_left0 A_t_bornOf A_t_trainsTo A_t_trainAt x_t_trainMany x_t_leastTries x_t_firstTrained x_t_isKept, iA cI 260 A_t_said v_t_said, iA cI 260 A_t_waitsAt v_t_waitsAt] H → va_D A [oX12 A_t A_t_now A_t_aside A_t_kept A_t_rhymeOf A_t_wasRhyme A_t_wordAt x_t_wordMany A_t_tape x_t_taped x_t_place0 x_t_length0 x_t_fault x_t_number0 x_t_open x_t_codeMany x_t_waiting x_t_saidMany x_t_clauses A_t_said A_t_waitsAt A_t_saidLetter A_t_saidFrom A_t_saidHalf A_t_saidTo A_t_codes A_t_clauseOf A_t_codeFrom A_t_codeHalf A_t_codeTo A_t_stack A_t_facts x_t_lines A_t_newWords A_t_roundFrom A_t_roundAt A_t_roundTimes x_t_newMany x_t_rounds x_t_itFrom x_t_itTimes x_t_writtenNow x_t_picturesNow x_t_usedNow x_t_chosen x_t_fearOfChosen A_t_leastFrom A_t_rowNow x_t_changesNow x_t_left0 A_t_bornOf A_t_trainsTo A_t_trainAt x_t_trainMany x_t_leastTries x_t_firstTrained x_t_isKept, iA cI 260 A_t_said v_t_said, iA cI 260 A_t_waitsAt v_t_waitsAt] → va_S A s.heap H locs → f_X12_lands_b22 v_t_waitsAt x_t_codeMany a1 (f_X12_lands_b0 v_t_waitsAt x_t_codeMany a1 n_0) v_t_said x_t_waiting = some (o_v_t_said, o_x_t_waiting) → W p l e { frames := 1, cells := 0, slots := 0, locals := 20 } s m ([.ref A_t, .int a1] : List Value).toArray below meth c H locs 0 0 (MQ below (PoV D A [oX12 A_t A_t_now A_t_aside A_t_kept A_t_rhymeOf A_t_wasRhyme A_t_wordAt x_t_wordMany A_t_tape x_t_taped x_t_place0 x_t_length0 x_t_fault x_t_number0 x_t_open x_t_codeMany o_x_t_waiting x_t_saidMany x_t_clauses A_t_said A_t_waitsAt A_t_saidLetter A_t_saidFrom A_t_saidHalf A_t_saidTo A_t_codes A_t_clauseOf A_t_codeFrom A_t_codeHalf A_t_codeTo A_t_stack A_t_facts x_t_lines A_t_newWords A_t_roundFrom A_t_roundAt A_t_roundTimes x_t_newMany x_t_rounds x_t_itFrom x_t_itTimes x_t_writtenNow x_t_picturesNow x_t_usedNow x_t_chosen x_t_fearOfChosen A_t_leastFrom A_t_rowNow x_t_changesNow x_t_left0 A_t_bornOf A_t_trainsTo A_t_trainAt x_t_trainMany x_t_leastTries x_t_firstTrained x_t_isKept, iA cI 260 A_t_said o_v_t_said, iA cI 260 A_t_waitsAt v_t_waitsAt]) ([.ref A_t, .int a1] : List Value).toArray s 0 0 A) (F0 m 22 ls []) := by
        intro v_t_said x_t_waiting H locs ls hl hP hD hS hf
        unfold f_X12_lands_b22 at hf
        refine lv_aload_n hx hb dX12_lands_22 rfl (lv_at hl 0 rfl) ?_
        refine x_get C hK hP fd_X12_35 0 rfl rfl dX12_lands_23 ?_
        refine lv_aload_n hx hb dX12_lands_26 rfl (lv_at hl 0 rfl) ?_
        refine x_get C hK hP fd_X12_180 0 rfl rfl dX12_lands_27 ?_
        refine lv_iconst (v := 1) hx hb dX12_lands_30 (by decide) ?_
        refine lv_isub hx hb dX12_lands_31 ?_
        obtain ⟨hi, hf⟩ := gI_e hf
        refine x_iald C hK hP 2 rfl hi dX12_lands_32 ?_
        refine x_ldc C kc_X12_176 dX12_lands_33 ?_
        obtain ⟨hz, hf⟩ := rI_e hf
        refine lv_irem hx hb dX12_lands_35 hz ?_
        refine lv_istore_n (lv' := [(2, .int ((v_t_waitsAt (x_t_waiting - (1 : Int32)).toNatClampNeg) - (v_t_waitsAt (x_t_waiting - (1 : Int32)).toNatClampNeg) / (1048576 : Int32) * (1048576 : Int32))), (0, .ref A_t), (1, .int a1)]) hx hb dX12_lands_36 rfl hl (by decide) rfl (fun ls hl => ?_)
        refine lv_aload_n hx hb dX12_lands_37 rfl (lv_at hl 1 rfl) ?_
        refine x_get C hK hP fd_X12_32 0 rfl rfl dX12_lands_38 ?_
        refine lv_iload_n hx hb dX12_lands_41 rfl (lv_at hl 0 rfl) ?_
        refine x_ldc C kc_X12_176 dX12_lands_42 ?_
        refine lv_aload_n hx hb dX12_lands_44 rfl (lv_at hl 1 rfl) ?_
        refine x_get C hK hP fd_X12_32 0 rfl rfl dX12_lands_45 ?_
        refine lv_iload_n hx hb dX12_lands_48 rfl (lv_at hl 0 rfl) ?_
        obtain ⟨hi, hf⟩ := gI_e hf
        refine x_iald C hK hP 1 rfl hi dX12_lands_49 ?_
        refine x_ldc C kc_X12_176 dX12_lands_50 ?_
        obtain ⟨hz, hf⟩ := dI_e hf
        refine lv_idiv hx hb dX12_lands_52 hz ?_
        refine lv_imul hx hb dX12_lands_53 ?_
        refine lv_aload_n hx hb dX12_lands_54 rfl (lv_at hl 1 rfl) ?_
        refine x_get C hK hP fd_X12_173 0 rfl rfl dX12_lands_55 ?_
        refine lv_iadd hx hb dX12_lands_58 ?_
        obtain ⟨hi, hf⟩ := sI_e hf
        refine x_iast (ws' := [oX12 A_t A_t_now A_t_aside A_t_kept A_t_rhymeOf A_t_wasRhyme A_t_wordAt x_t_wordMany A_t_tape x_t_taped x_t_place0 x_t_length0 x_t_fault x_t_number0 x_t_open x_t_codeMany x_t_waiting x_t_saidMany x_t_clauses A_t_said A_t_waitsAt A_t_saidLetter A_t_saidFrom A_t_saidHalf A_t_saidTo A_t_codes A_t_clauseOf A_t_codeFrom A_t_codeHalf A_t_codeTo A_t_stack A_t_facts x_t_lines A_t_newWords A_t_roundFrom A_t_roundAt A_t_roundTimes x_t_newMany x_t_rounds x_t_itFrom x_t_itTimes x_t_writtenNow x_t_picturesNow x_t_usedNow x_t_chosen x_t_fearOfChosen A_t_leastFrom A_t_rowNow x_t_changesNow x_t_left0 A_t_bornOf A_t_trainsTo A_t_trainAt x_t_trainMany x_t_leastTries x_t_firstTrained x_t_isKept, iA cI 260 A_t_said (upd v_t_said ((v_t_waitsAt (x_t_waiting - (1 : Int32)).toNatClampNeg) - (v_t_waitsAt (x_t_waiting - (1 : Int32)).toNatClampNeg) / (1048576 : Int32) * (1048576 : Int32)).toNatClampNeg (((1048576 : Int32) * ((v_t_said ((v_t_waitsAt (x_t_waiting - (1 : Int32)).toNatClampNeg) - (v_t_waitsAt (x_t_waiting - (1 : Int32)).toNatClampNeg) / (1048576 : Int32) * (1048576 : Int32)).toNatClampNeg) / (1048576 : Int32))) + x_t_codeMany)), iA cI 260 A_t_waitsAt v_t_waitsAt]) C hK hP hD hS 1 rfl hi rfl dX12_lands_59 ?_
        intro H locs hP hD hS
        refine lv_aload_n hx hb dX12_lands_60 rfl (lv_at hl 1 rfl) ?_
        refine lv_aload_n hx hb dX12_lands_61 rfl (lv_at hl 1 rfl) ?_
        refine x_get C hK hP fd_X12_180 0 rfl rfl dX12_lands_62 ?_
        refine lv_iconst (v := 1) hx hb dX12_lands_65 (by decide) ?_
        refine lv_isub hx hb dX12_lands_66 ?_
        refine x_put (ws' := [oX12 A_t A_t_now A_t_aside A_t_kept A_t_rhymeOf A_t_wasRhyme A_t_wordAt x_t_wordMany A_t_tape x_t_taped x_t_place0 x_t_length0 x_t_fault x_t_number0 x_t_open x_t_codeMany (x_t_waiting - (1 : Int32)) x_t_saidMany x_t_clauses A_t_said A_t_waitsAt A_t_saidLetter A_t_saidFrom A_t_saidHalf A_t_saidTo A_t_codes A_t_clauseOf A_t_codeFrom A_t_codeHalf A_t_codeTo A_t_stack A_t_facts x_t_lines A_t_newWords A_t_roundFrom A_t_roundAt A_t_roundTimes x_t_newMany x_t_rounds x_t_itFrom x_t_itTimes x_t_writtenNow x_t_picturesNow x_t_usedNow x_t_chosen x_t_fearOfChosen A_t_leastFrom A_t_rowNow x_t_changesNow x_t_left0 A_t_bornOf A_t_trainsTo A_t_trainAt x_t_trainMany x_t_leastTries x_t_firstTrained x_t_isKept, iA cI 260 A_t_said (upd v_t_said ((v_t_waitsAt (x_t_waiting - (1 : Int32)).toNatClampNeg) - (v_t_waitsAt (x_t_waiting - (1 : Int32)).toNatClampNeg) / (1048576 : Int32) * (1048576 : Int32)).toNatClampNeg (((1048576 : Int32) * ((v_t_said ((v_t_waitsAt (x_t_waiting - (1 : Int32)).toNatClampNeg) - (v_t_waitsAt (x_t_waiting - (1 : Int32)).toNatClampNeg) / (1048576 : Int32) * (1048576 : Int32)).toNatClampNeg) / (1048576 : Int32))) + x_t_codeMany)), iA cI 260 A_t_waitsAt v_t_waitsAt]) C hK hP hD hS fp_X12_180 0 rfl rfl rfl (Nat.le_of_ble_eq_true rfl) rfl dX12_lands_67 ?_
        intro H locs hP hD hS
        refine lv_goto (tgt := 0) hx hb dX12_lands_70 (by decide) ?_
        exact ih_0 (upd v_t_said ((v_t_waitsAt (x_t_waiting - (1 : Int32)).toNatClampNeg) - (v_t_waitsAt (x_t_waiting - (1 : Int32)).toNatClampNeg) / (1048576 : Int32) * (1048576 : Int32)).toNatClampNeg (((1048576 : Int32) * ((v_t_said ((v_t_waitsAt (x_t_waiting - (1 : Int32)).toNatClampNeg) - (v_t_waitsAt (x_t_waiting - (1 : Int32)).toNatClampNeg) / (1048576 : Int32) * (1048576 : Int32)).toNatClampNeg) / (1048576 : Int32))) + x_t_codeMany)) (x_t_waiting - (1 : Int32)) _ _ ls (lv_sub hl [1, 2] rfl) hP hD hS hf
      intro v_t_said x_t_waiting H locs ls hl hP hD hS hf
      rw [f_X12_lands_b0] at hf
      refine lv_aload_n hx hb dX12_lands_0 rfl (lv_at hl 0 rfl) ?_
      obtain ⟨r1, hc2, hf⟩ := bd1_e hf
      refine x_callVI (ws' := [oX12 A_t A_t_now A_t_aside A_t_kept A_t_rhymeOf A_t_wasRhyme A_t_wordAt x_t_wordMany A_t_tape x_t_taped x_t_place0 x_t_length0 x_t_fault x_t_number0 x_t_open x_t_codeMany x_t_waiting x_t_saidMany x_t_clauses A_t_said A_t_waitsAt A_t_saidLetter A_t_saidFrom A_t_saidHalf A_t_saidTo A_t_codes A_t_clauseOf A_t_codeFrom A_t_codeHalf A_t_codeTo A_t_stack A_t_facts x_t_lines A_t_newWords A_t_roundFrom A_t_roundAt A_t_roundTimes x_t_newMany x_t_rounds x_t_itFrom x_t_itTimes x_t_writtenNow x_t_picturesNow x_t_usedNow x_t_chosen x_t_fearOfChosen A_t_leastFrom A_t_rowNow x_t_changesNow x_t_left0 A_t_bornOf A_t_trainsTo A_t_trainAt x_t_trainMany x_t_leastTries x_t_firstTrained x_t_isKept, iA cI 260 A_t_said v_t_said, iA cI 260 A_t_waitsAt v_t_waitsAt]) (rest := []) C hK hP hD hS hA hl mf_X12_183 (c_X12_waitTop hc2) [0, 2] 0 12 rfl rfl rfl rfl rfl rfl rfl rfl rfl rfl (Nat.le_of_ble_eq_true rfl) ⟨Nat.le_of_ble_eq_true rfl, Nat.le_of_ble_eq_true rfl⟩ ⟨Nat.le_refl _, Nat.le_refl _⟩ dX12_lands_1 ?_
      intro H locs hP hD hS
      refine lv_bipush (v := 11) hx hb dX12_lands_4 (by decide) ?_
      refine lv_icmp_eq (tgt := 22) hx hb dX12_lands_6 (by decide) (fun q => ?_) (fun q => ?_)
      · have hf := if_t q hf
        exact hb_22 v_t_said x_t_waiting _ _ ls (lv_sub hl [0, 1] rfl) hP hD hS hf
      · have hf := if_f q hf
        refine lv_iload_n hx hb dX12_lands_9 rfl (lv_at hl 1 rfl) ?_
        refine lv_if_eq (tgt := 73) hx hb dX12_lands_10 (by decide) (fun q => ?_) (fun q => ?_)
        · have hf := if_t q hf
          exact hb_73 v_t_said x_t_waiting _ _ ls (lv_sub hl [] rfl) hP hD hS hf
        · have hf := if_f q hf
          refine lv_aload_n hx hb dX12_lands_13 rfl (lv_at hl 0 rfl) ?_
          obtain ⟨r3, hc4, hf⟩ := bd1_e hf
          refine x_callVI (ws' := [oX12 A_t A_t_now A_t_aside A_t_kept A_t_rhymeOf A_t_wasRhyme A_t_wordAt x_t_wordMany A_t_tape x_t_taped x_t_place0 x_t_length0 x_t_fault x_t_number0 x_t_open x_t_codeMany x_t_waiting x_t_saidMany x_t_clauses A_t_said A_t_waitsAt A_t_saidLetter A_t_saidFrom A_t_saidHalf A_t_saidTo A_t_codes A_t_clauseOf A_t_codeFrom A_t_codeHalf A_t_codeTo A_t_stack A_t_facts x_t_lines A_t_newWords A_t_roundFrom A_t_roundAt A_t_roundTimes x_t_newMany x_t_rounds x_t_itFrom x_t_itTimes x_t_writtenNow x_t_picturesNow x_t_usedNow x_t_chosen x_t_fearOfChosen A_t_leastFrom A_t_rowNow x_t_changesNow x_t_left0 A_t_bornOf A_t_trainsTo A_t_trainAt x_t_trainMany x_t_leastTries x_t_firstTrained x_t_isKept, iA cI 260 A_t_said v_t_said, iA cI 260 A_t_waitsAt v_t_waitsAt]) (rest := []) C hK hP hD hS hA hl mf_X12_183 (c_X12_waitTop hc4) [0, 2] 0 12 rfl rfl rfl rfl rfl rfl rfl rfl rfl rfl (Nat.le_of_ble_eq_true rfl) ⟨Nat.le_of_ble_eq_true rfl, Nat.le_of_ble_eq_true rfl⟩ ⟨Nat.le_refl _, Nat.le_refl _⟩ dX12_lands_14 ?_
          intro H locs hP hD hS
          refine lv_bipush (v := 12) hx hb dX12_lands_17 (by decide) ?_
          refine lv_icmp_ne (tgt := 73) hx hb dX12_lands_19 (by decide) (fun q => ?_) (fun q => ?_)
          · have hf := if_f q hf
            exact hb_73 v_t_said x_t_waiting _ _ ls (lv_sub hl [] rfl) hP hD hS hf
          · have hf := if_t q hf
            exact hb_22 v_t_said x_t_waiting _ _ ls (lv_sub hl [0, 1] rfl) hP hD hS hf
  exact hb_0 FU v_t_said x_t_waiting _ _ ls (lv_sub hl [0, 1] rfl) hP hD hS hf
def f_X12_jumps (v_t_said : (Nat → Int32)) (v_t_waitsAt : (Nat → Int32)) (x_t_codeMany : Int32) (x_t_place0 : Int32) (x_t_waiting : Int32) (a1 : Int32) : Option ((Nat → Int32) × (Nat → Int32) × Int32 × Int32 × Int32) :=
  sI 260 v_t_waitsAt x_t_waiting (((1048576 : Int32) * a1) + x_t_codeMany) (fun w1 =>
  bd2 (f_X12_notes v_t_said x_t_codeMany a1 (0 : Int32)) (fun w2 w3 =>
  some (w2, w1, w3, (x_t_place0 + (1 : Int32)), (x_t_waiting + (1 : Int32)))))
set_option maxHeartbeats 4000000 in
set_option maxRecDepth 100000 in
theorem c_X12_jumps {l : Launch} {D : va_G} {cI cB : ClassId} {A_t A_t_now A_t_aside A_t_kept A_t_rhymeOf A_t_wasRhyme A_t_wordAt A_t_tape A_t_said A_t_waitsAt A_t_saidLetter A_t_saidFrom A_t_saidHalf A_t_saidTo A_t_codes A_t_clauseOf A_t_codeFrom A_t_codeHalf A_t_codeTo A_t_stack A_t_facts A_t_newWords A_t_roundFrom A_t_roundAt A_t_roundTimes A_t_leastFrom A_t_rowNow A_t_bornOf A_t_trainsTo A_t_trainAt : Nat} {x_t_wordMany x_t_taped x_t_place0 x_t_length0 x_t_fault x_t_number0 x_t_open x_t_codeMany x_t_waiting x_t_saidMany x_t_clauses x_t_lines x_t_newMany x_t_rounds x_t_itFrom x_t_itTimes x_t_writtenNow x_t_picturesNow x_t_usedNow x_t_chosen x_t_fearOfChosen x_t_changesNow x_t_left0 x_t_trainMany x_t_leastTries x_t_firstTrained x_t_isKept a1 : Int32} {v_t_said v_t_waitsAt : Nat → Int32} {o_x_t_codeMany o_x_t_place0 o_x_t_waiting : Int32} {o_v_t_said o_v_t_waitsAt : Nat → Int32} (hf : f_X12_jumps v_t_said v_t_waitsAt x_t_codeMany x_t_place0 x_t_waiting a1 = some (o_v_t_said, o_v_t_waitsAt, o_x_t_codeMany, o_x_t_place0, o_x_t_waiting)) : CtV l D cI cB yX12_jumps cX12_jumps 2 1 22 [.ref A_t, .int a1] [oX12 A_t A_t_now A_t_aside A_t_kept A_t_rhymeOf A_t_wasRhyme A_t_wordAt x_t_wordMany A_t_tape x_t_taped x_t_place0 x_t_length0 x_t_fault x_t_number0 x_t_open x_t_codeMany x_t_waiting x_t_saidMany x_t_clauses A_t_said A_t_waitsAt A_t_saidLetter A_t_saidFrom A_t_saidHalf A_t_saidTo A_t_codes A_t_clauseOf A_t_codeFrom A_t_codeHalf A_t_codeTo A_t_stack A_t_facts x_t_lines A_t_newWords A_t_roundFrom A_t_roundAt A_t_roundTimes x_t_newMany x_t_rounds x_t_itFrom x_t_itTimes x_t_writtenNow x_t_picturesNow x_t_usedNow x_t_chosen x_t_fearOfChosen A_t_leastFrom A_t_rowNow x_t_changesNow x_t_left0 A_t_bornOf A_t_trainsTo A_t_trainAt x_t_trainMany x_t_leastTries x_t_firstTrained x_t_isKept, iA cI 260 A_t_said v_t_said, iA cI 260 A_t_waitsAt v_t_waitsAt] [oX12 A_t A_t_now A_t_aside A_t_kept A_t_rhymeOf A_t_wasRhyme A_t_wordAt x_t_wordMany A_t_tape x_t_taped o_x_t_place0 x_t_length0 x_t_fault x_t_number0 x_t_open o_x_t_codeMany o_x_t_waiting x_t_saidMany x_t_clauses A_t_said A_t_waitsAt A_t_saidLetter A_t_saidFrom A_t_saidHalf A_t_saidTo A_t_codes A_t_clauseOf A_t_codeFrom A_t_codeHalf A_t_codeTo A_t_stack A_t_facts x_t_lines A_t_newWords A_t_roundFrom A_t_roundAt A_t_roundTimes x_t_newMany x_t_rounds x_t_itFrom x_t_itTimes x_t_writtenNow x_t_picturesNow x_t_usedNow x_t_chosen x_t_fearOfChosen A_t_leastFrom A_t_rowNow x_t_changesNow x_t_left0 A_t_bornOf A_t_trainsTo A_t_trainAt x_t_trainMany x_t_leastTries x_t_firstTrained x_t_isKept, iA cI 260 A_t_said o_v_t_said, iA cI 260 A_t_waitsAt o_v_t_waitsAt] := by
  refine x_startV (by decide) (Nat.le_of_ble_eq_true rfl) ?_
  intro p e s m below meth c A C hr hlk hA hK hP hD hS ls hl
  have hl : lv_has ls 2 [(0, .ref A_t), (1, .int a1)] := hl
  have hx := C.1
  have hb := C.2.1
  unfold f_X12_jumps at hf
  refine lv_aload_n hx hb dX12_jumps_0 rfl (lv_at hl 0 rfl) ?_
  refine x_get C hK hP fd_X12_35 0 rfl rfl dX12_jumps_1 ?_
  refine lv_aload_n hx hb dX12_jumps_4 rfl (lv_at hl 0 rfl) ?_
  refine x_get C hK hP fd_X12_180 0 rfl rfl dX12_jumps_5 ?_
  refine x_ldc C kc_X12_176 dX12_jumps_8 ?_
  refine lv_iload_n hx hb dX12_jumps_10 rfl (lv_at hl 1 rfl) ?_
  refine lv_imul hx hb dX12_jumps_11 ?_
  refine lv_aload_n hx hb dX12_jumps_12 rfl (lv_at hl 0 rfl) ?_
  refine x_get C hK hP fd_X12_173 0 rfl rfl dX12_jumps_13 ?_
  refine lv_iadd hx hb dX12_jumps_16 ?_
  obtain ⟨hi, hf⟩ := sI_e hf
  refine x_iast (ws' := [oX12 A_t A_t_now A_t_aside A_t_kept A_t_rhymeOf A_t_wasRhyme A_t_wordAt x_t_wordMany A_t_tape x_t_taped x_t_place0 x_t_length0 x_t_fault x_t_number0 x_t_open x_t_codeMany x_t_waiting x_t_saidMany x_t_clauses A_t_said A_t_waitsAt A_t_saidLetter A_t_saidFrom A_t_saidHalf A_t_saidTo A_t_codes A_t_clauseOf A_t_codeFrom A_t_codeHalf A_t_codeTo A_t_stack A_t_facts x_t_lines A_t_newWords A_t_roundFrom A_t_roundAt A_t_roundTimes x_t_newMany x_t_rounds x_t_itFrom x_t_itTimes x_t_writtenNow x_t_picturesNow x_t_usedNow x_t_chosen x_t_fearOfChosen A_t_leastFrom A_t_rowNow x_t_changesNow x_t_left0 A_t_bornOf A_t_trainsTo A_t_trainAt x_t_trainMany x_t_leastTries x_t_firstTrained x_t_isKept, iA cI 260 A_t_said v_t_said, iA cI 260 A_t_waitsAt (upd v_t_waitsAt x_t_waiting.toNatClampNeg (((1048576 : Int32) * a1) + x_t_codeMany))]) C hK hP hD hS 2 rfl hi rfl dX12_jumps_17 ?_
  intro H locs hP hD hS
  refine lv_aload_n hx hb dX12_jumps_18 rfl (lv_at hl 0 rfl) ?_
  refine lv_aload_n hx hb dX12_jumps_19 rfl (lv_at hl 0 rfl) ?_
  refine x_get C hK hP fd_X12_180 0 rfl rfl dX12_jumps_20 ?_
  refine lv_iconst (v := 1) hx hb dX12_jumps_23 (by decide) ?_
  refine lv_iadd hx hb dX12_jumps_24 ?_
  refine x_put (ws' := [oX12 A_t A_t_now A_t_aside A_t_kept A_t_rhymeOf A_t_wasRhyme A_t_wordAt x_t_wordMany A_t_tape x_t_taped x_t_place0 x_t_length0 x_t_fault x_t_number0 x_t_open x_t_codeMany (x_t_waiting + (1 : Int32)) x_t_saidMany x_t_clauses A_t_said A_t_waitsAt A_t_saidLetter A_t_saidFrom A_t_saidHalf A_t_saidTo A_t_codes A_t_clauseOf A_t_codeFrom A_t_codeHalf A_t_codeTo A_t_stack A_t_facts x_t_lines A_t_newWords A_t_roundFrom A_t_roundAt A_t_roundTimes x_t_newMany x_t_rounds x_t_itFrom x_t_itTimes x_t_writtenNow x_t_picturesNow x_t_usedNow x_t_chosen x_t_fearOfChosen A_t_leastFrom A_t_rowNow x_t_changesNow x_t_left0 A_t_bornOf A_t_trainsTo A_t_trainAt x_t_trainMany x_t_leastTries x_t_firstTrained x_t_isKept, iA cI 260 A_t_said v_t_said, iA cI 260 A_t_waitsAt (upd v_t_waitsAt x_t_waiting.toNatClampNeg (((1048576 : Int32) * a1) + x_t_codeMany))]) C hK hP hD hS fp_X12_180 0 rfl rfl rfl (Nat.le_of_ble_eq_true rfl) rfl dX12_jumps_25 ?_
  intro H locs hP hD hS
  refine lv_aload_n hx hb dX12_jumps_28 rfl (lv_at hl 0 rfl) ?_
  refine lv_iload_n hx hb dX12_jumps_29 rfl (lv_at hl 1 rfl) ?_
  refine lv_iconst (v := 0) hx hb dX12_jumps_30 (by decide) ?_
  obtain ⟨w1, w2, hc3, hf⟩ := bd2_e hf
  refine x_callVV (ws' := [oX12 A_t A_t_now A_t_aside A_t_kept A_t_rhymeOf A_t_wasRhyme A_t_wordAt x_t_wordMany A_t_tape x_t_taped x_t_place0 x_t_length0 x_t_fault x_t_number0 x_t_open w2 (x_t_waiting + (1 : Int32)) x_t_saidMany x_t_clauses A_t_said A_t_waitsAt A_t_saidLetter A_t_saidFrom A_t_saidHalf A_t_saidTo A_t_codes A_t_clauseOf A_t_codeFrom A_t_codeHalf A_t_codeTo A_t_stack A_t_facts x_t_lines A_t_newWords A_t_roundFrom A_t_roundAt A_t_roundTimes x_t_newMany x_t_rounds x_t_itFrom x_t_itTimes x_t_writtenNow x_t_picturesNow x_t_usedNow x_t_chosen x_t_fearOfChosen A_t_leastFrom A_t_rowNow x_t_changesNow x_t_left0 A_t_bornOf A_t_trainsTo A_t_trainAt x_t_trainMany x_t_leastTries x_t_firstTrained x_t_isKept, iA cI 260 A_t_said w1, iA cI 260 A_t_waitsAt (upd v_t_waitsAt x_t_waiting.toNatClampNeg (((1048576 : Int32) * a1) + x_t_codeMany))]) (rest := []) C hK hP hD hS hA hl mf_X12_186 (c_X12_notes hc3) [0, 1] 0 12 rfl rfl rfl rfl rfl rfl rfl rfl rfl rfl (Nat.le_of_ble_eq_true rfl) ⟨Nat.le_of_ble_eq_true rfl, Nat.le_of_ble_eq_true rfl⟩ ⟨Nat.le_refl _, Nat.le_refl _⟩ dX12_jumps_31 ?_
  intro H locs hP hD hS
  refine lv_aload_n hx hb dX12_jumps_34 rfl (lv_at hl 0 rfl) ?_
  refine lv_aload_n hx hb dX12_jumps_35 rfl (lv_at hl 0 rfl) ?_
  refine x_get C hK hP fd_X12_150 0 rfl rfl dX12_jumps_36 ?_
  refine lv_iconst (v := 1) hx hb dX12_jumps_39 (by decide) ?_
  refine lv_iadd hx hb dX12_jumps_40 ?_
  refine x_put (ws' := [oX12 A_t A_t_now A_t_aside A_t_kept A_t_rhymeOf A_t_wasRhyme A_t_wordAt x_t_wordMany A_t_tape x_t_taped (x_t_place0 + (1 : Int32)) x_t_length0 x_t_fault x_t_number0 x_t_open w2 (x_t_waiting + (1 : Int32)) x_t_saidMany x_t_clauses A_t_said A_t_waitsAt A_t_saidLetter A_t_saidFrom A_t_saidHalf A_t_saidTo A_t_codes A_t_clauseOf A_t_codeFrom A_t_codeHalf A_t_codeTo A_t_stack A_t_facts x_t_lines A_t_newWords A_t_roundFrom A_t_roundAt A_t_roundTimes x_t_newMany x_t_rounds x_t_itFrom x_t_itTimes x_t_writtenNow x_t_picturesNow x_t_usedNow x_t_chosen x_t_fearOfChosen A_t_leastFrom A_t_rowNow x_t_changesNow x_t_left0 A_t_bornOf A_t_trainsTo A_t_trainAt x_t_trainMany x_t_leastTries x_t_firstTrained x_t_isKept, iA cI 260 A_t_said w1, iA cI 260 A_t_waitsAt (upd v_t_waitsAt x_t_waiting.toNatClampNeg (((1048576 : Int32) * a1) + x_t_codeMany))]) C hK hP hD hS fp_X12_150 0 rfl rfl rfl (Nat.le_of_ble_eq_true rfl) rfl dX12_jumps_41 ?_
  intro H locs hP hD hS
  obtain ⟨rfl, rfl, rfl, rfl, rfl⟩ := ev5 hf
  exact x_vret C hr hlk hP hD hS dX12_jumps_44
def f_X12_readsCompared_b52 (v_t_tape : (Nat → Int32)) (x_t_length0 : Int32) (v_t_said : (Nat → Int32)) (v_t_waitsAt : (Nat → Int32)) (x_t_codeMany : Int32) (x_t_fault : Int32) (x_t_number0 : Int32) (x_t_open : Int32) (x_t_place0 : Int32) (x_t_waiting : Int32) (s0 : Int32) : Option (Int32 × (Nat → Int32) × (Nat → Int32) × Int32 × Int32 × Int32 × Int32 × Int32 × Int32) :=
  if s0 = (-1 : Int32) then
    bd2 (f_X12_wrongAt x_t_fault (1 : Int32) x_t_place0) (fun r16 w17 =>
    zI r16 (some (r16, v_t_said, v_t_waitsAt, x_t_codeMany, w17, x_t_number0, x_t_open, x_t_place0, x_t_waiting)))
  else
    bd9 (f_X12_readsSum v_t_said v_t_tape v_t_waitsAt x_t_codeMany x_t_fault x_t_length0 x_t_number0 x_t_open (x_t_place0 + (1 : Int32)) x_t_waiting) (fun r1 w2 w3 w4 w5 w6 w7 w8 w9 =>
    if r1 = 0 then
      some ((0 : Int32), w2, w3, w4, w5, w6, w7, w8, w9)
    else
      bd2 (f_X12_notes w2 w4 s0 (0 : Int32)) (fun w10 w11 =>
      bd4 (f_X12_endsPiece w10 w3 w11 w7 w9) (fun w12 w13 w14 w15 =>
      some ((1 : Int32), w12, w3, w13, w5, w6, w14, w8, w15))))
def f_X12_readsCompared (v_t_said : (Nat → Int32)) (v_t_tape : (Nat → Int32)) (v_t_waitsAt : (Nat → Int32)) (x_t_codeMany : Int32) (x_t_fault : Int32) (x_t_length0 : Int32) (x_t_number0 : Int32) (x_t_open : Int32) (x_t_place0 : Int32) (x_t_waiting : Int32) : Option (Int32 × (Nat → Int32) × (Nat → Int32) × Int32 × Int32 × Int32 × Int32 × Int32 × Int32) :=
  bd9 (f_X12_readsSum v_t_said v_t_tape v_t_waitsAt x_t_codeMany x_t_fault x_t_length0 x_t_number0 x_t_open x_t_place0 x_t_waiting) (fun r18 w19 w20 w21 w22 w23 w24 w25 w26 =>
  if r18 = 0 then
    some ((0 : Int32), w19, w20, w21, w22, w23, w24, w25, w26)
  else
    bd1 (f_X12_here v_t_tape x_t_length0 w25) (fun r27 =>
    if r27 = (60 : Int32) then
      f_X12_readsCompared_b52 v_t_tape x_t_length0 w19 w20 w21 w22 w23 w24 w25 w26 (7 : Int32)
    else
      bd1 (f_X12_here v_t_tape x_t_length0 w25) (fun r28 =>
      if r28 = (62 : Int32) then
        f_X12_readsCompared_b52 v_t_tape x_t_length0 w19 w20 w21 w22 w23 w24 w25 w26 (8 : Int32)
      else
        bd1 (f_X12_here v_t_tape x_t_length0 w25) (fun r29 =>
        if r29 = (61 : Int32) then
          f_X12_readsCompared_b52 v_t_tape x_t_length0 w19 w20 w21 w22 w23 w24 w25 w26 (9 : Int32)
        else
          f_X12_readsCompared_b52 v_t_tape x_t_length0 w19 w20 w21 w22 w23 w24 w25 w26 (-1 : Int32)))))
set_option maxHeartbeats 4000000 in
set_option maxRecDepth 100000 in
theorem c_X12_readsCompared {l : Launch} {D : va_G} {cI cB : ClassId} {A_t A_t_now A_t_aside A_t_kept A_t_rhymeOf A_t_wasRhyme A_t_wordAt A_t_tape A_t_said A_t_waitsAt A_t_saidLetter A_t_saidFrom A_t_saidHalf A_t_saidTo A_t_codes A_t_clauseOf A_t_codeFrom A_t_codeHalf A_t_codeTo A_t_stack A_t_facts A_t_newWords A_t_roundFrom A_t_roundAt A_t_roundTimes A_t_leastFrom A_t_rowNow A_t_bornOf A_t_trainsTo A_t_trainAt : Nat} {x_t_wordMany x_t_taped x_t_place0 x_t_length0 x_t_fault x_t_number0 x_t_open x_t_codeMany x_t_waiting x_t_saidMany x_t_clauses x_t_lines x_t_newMany x_t_rounds x_t_itFrom x_t_itTimes x_t_writtenNow x_t_picturesNow x_t_usedNow x_t_chosen x_t_fearOfChosen x_t_changesNow x_t_left0 x_t_trainMany x_t_leastTries x_t_firstTrained x_t_isKept : Int32} {v_t_said v_t_tape v_t_waitsAt : Nat → Int32} {o_r o_x_t_codeMany o_x_t_fault o_x_t_number0 o_x_t_open o_x_t_place0 o_x_t_waiting : Int32} {o_v_t_said o_v_t_waitsAt : Nat → Int32} (hf : f_X12_readsCompared v_t_said v_t_tape v_t_waitsAt x_t_codeMany x_t_fault x_t_length0 x_t_number0 x_t_open x_t_place0 x_t_waiting = some (o_r, o_v_t_said, o_v_t_waitsAt, o_x_t_codeMany, o_x_t_fault, o_x_t_number0, o_x_t_open, o_x_t_place0, o_x_t_waiting)) : CtI l D cI cB yX12_readsCompared cX12_readsCompared 2 (some .boolean) 5 104 [.ref A_t] [oX12 A_t A_t_now A_t_aside A_t_kept A_t_rhymeOf A_t_wasRhyme A_t_wordAt x_t_wordMany A_t_tape x_t_taped x_t_place0 x_t_length0 x_t_fault x_t_number0 x_t_open x_t_codeMany x_t_waiting x_t_saidMany x_t_clauses A_t_said A_t_waitsAt A_t_saidLetter A_t_saidFrom A_t_saidHalf A_t_saidTo A_t_codes A_t_clauseOf A_t_codeFrom A_t_codeHalf A_t_codeTo A_t_stack A_t_facts x_t_lines A_t_newWords A_t_roundFrom A_t_roundAt A_t_roundTimes x_t_newMany x_t_rounds x_t_itFrom x_t_itTimes x_t_writtenNow x_t_picturesNow x_t_usedNow x_t_chosen x_t_fearOfChosen A_t_leastFrom A_t_rowNow x_t_changesNow x_t_left0 A_t_bornOf A_t_trainsTo A_t_trainAt x_t_trainMany x_t_leastTries x_t_firstTrained x_t_isKept, iA cI 260 A_t_said v_t_said, iA cB 260 A_t_tape v_t_tape, iA cI 260 A_t_waitsAt v_t_waitsAt] [oX12 A_t A_t_now A_t_aside A_t_kept A_t_rhymeOf A_t_wasRhyme A_t_wordAt x_t_wordMany A_t_tape x_t_taped o_x_t_place0 x_t_length0 o_x_t_fault o_x_t_number0 o_x_t_open o_x_t_codeMany o_x_t_waiting x_t_saidMany x_t_clauses A_t_said A_t_waitsAt A_t_saidLetter A_t_saidFrom A_t_saidHalf A_t_saidTo A_t_codes A_t_clauseOf A_t_codeFrom A_t_codeHalf A_t_codeTo A_t_stack A_t_facts x_t_lines A_t_newWords A_t_roundFrom A_t_roundAt A_t_roundTimes x_t_newMany x_t_rounds x_t_itFrom x_t_itTimes x_t_writtenNow x_t_picturesNow x_t_usedNow x_t_chosen x_t_fearOfChosen A_t_leastFrom A_t_rowNow x_t_changesNow x_t_left0 A_t_bornOf A_t_trainsTo A_t_trainAt x_t_trainMany x_t_leastTries x_t_firstTrained x_t_isKept, iA cI 260 A_t_said o_v_t_said, iA cB 260 A_t_tape v_t_tape, iA cI 260 A_t_waitsAt o_v_t_waitsAt] o_r := by
  refine x_startI (by decide) (Nat.le_of_ble_eq_true rfl) ?_
  intro p e s m below meth c A C hr hlk hA hK hP hD hS ls hl
  have hl : lv_has ls 2 [(0, .ref A_t)] := hl
  have hx := C.1
  have hb := C.2.1
  unfold f_X12_readsCompared at hf
  have hb_52 : ∀ (v_t_said : (Nat → Int32)) (v_t_waitsAt : (Nat → Int32)) (x_t_codeMany : Int32) (x_t_fault : Int32) (x_t_number0 : Int32) (x_t_open : Int32) (x_t_place0 : Int32) (x_t_waiting : Int32) (s0 : Int32) (H : Heap) (locs : List Loc) (ls : Array Slot), lv_has ls 2 [(0, .ref A_t)] → va_P D vwCl [oX12 A_t A_t_now A_t_aside A_t_kept A_t_rhymeOf A_t_wasRhyme A_t_wordAt x_t_wordMany A_t_tape x_t_taped x_t_place0 x_t_length0 x_t_fault x_t_number0 x_t_open x_t_codeMany x_t_waiting x_t_saidMany x_t_clauses A_t_said A_t_waitsAt A_t_saidLetter A_t_saidFrom A_t_saidHalf A_t_saidTo A_t_codes A_t_clauseOf A_t_codeFrom A_t_codeHalf A_t_codeTo A_t_stack A_t_facts x_t_lines A_t_newWords A_t_roundFrom A_t_roundAt A_t_roundTimes x_t_newMany x_t_rounds x_t_itFrom x_t_itTimes x_t_writtenNow x_t_picturesNow x_t_usedNow x_t_chosen x_t_fearOfChosen A_t_leastFrom A_t_rowNow x_t_changesNow x_t_left0 A_t_bornOf A_t_trainsTo A_t_trainAt x_t_trainMany x_t_leastTries x_t_firstTrained x_t_isKept, iA cI 260 A_t_said v_t_said, iA cB 260 A_t_tape v_t_tape, iA cI 260 A_t_waitsAt v_t_waitsAt] H → va_D A [oX12 A_t A_t_now A_t_aside A_t_kept A_t_rhymeOf A_t_wasRhyme A_t_wordAt x_t_wordMany A_t_tape x_t_taped x_t_place0 x_t_length0 x_t_fault x_t_number0 x_t_open x_t_codeMany x_t_waiting x_t_saidMany x_t_clauses A_t_said A_t_waitsAt A_t_saidLetter A_t_saidFrom A_t_saidHalf A_t_saidTo A_t_codes A_t_clauseOf A_t_codeFrom A_t_codeHalf A_t_codeTo A_t_stack A_t_facts x_t_lines A_t_newWords A_t_roundFrom A_t_roundAt A_t_roundTimes x_t_newMany x_t_rounds x_t_itFrom x_t_itTimes x_t_writtenNow x_t_picturesNow x_t_usedNow x_t_chosen x_t_fearOfChosen A_t_leastFrom A_t_rowNow x_t_changesNow x_t_left0 A_t_bornOf A_t_trainsTo A_t_trainAt x_t_trainMany x_t_leastTries x_t_firstTrained x_t_isKept, iA cI 260 A_t_said v_t_said, iA cB 260 A_t_tape v_t_tape, iA cI 260 A_t_waitsAt v_t_waitsAt] → va_S A s.heap H locs → f_X12_readsCompared_b52 v_t_tape x_t_length0 v_t_said v_t_waitsAt x_t_codeMany x_t_fault x_t_number0 x_t_open x_t_place0 x_t_waiting s0 = some (o_r, o_v_t_said, o_v_t_waitsAt, o_x_t_codeMany, o_x_t_fault, o_x_t_number0, o_x_t_open, o_x_t_place0, o_x_t_waiting) → W p l e { frames := 5, cells := 0, slots := 0, locals := 104 } s m ([.ref A_t] : List Value).toArray below meth c H locs 0 0 (MQ below (PoI D A [oX12 A_t A_t_now A_t_aside A_t_kept A_t_rhymeOf A_t_wasRhyme A_t_wordAt x_t_wordMany A_t_tape x_t_taped o_x_t_place0 x_t_length0 o_x_t_fault o_x_t_number0 o_x_t_open o_x_t_codeMany o_x_t_waiting x_t_saidMany x_t_clauses A_t_said A_t_waitsAt A_t_saidLetter A_t_saidFrom A_t_saidHalf A_t_saidTo A_t_codes A_t_clauseOf A_t_codeFrom A_t_codeHalf A_t_codeTo A_t_stack A_t_facts x_t_lines A_t_newWords A_t_roundFrom A_t_roundAt A_t_roundTimes x_t_newMany x_t_rounds x_t_itFrom x_t_itTimes x_t_writtenNow x_t_picturesNow x_t_usedNow x_t_chosen x_t_fearOfChosen A_t_leastFrom A_t_rowNow x_t_changesNow x_t_left0 A_t_bornOf A_t_trainsTo A_t_trainAt x_t_trainMany x_t_leastTries x_t_firstTrained x_t_isKept, iA cI 260 A_t_said o_v_t_said, iA cB 260 A_t_tape v_t_tape, iA cI 260 A_t_waitsAt o_v_t_waitsAt] o_r) ([.ref A_t] : List Value).toArray s 0 0 A) (F0 m 52 ls [.int s0]) := by
    intro v_t_said v_t_waitsAt x_t_codeMany x_t_fault x_t_number0 x_t_open x_t_place0 x_t_waiting s0 H locs ls hl hP hD hS hf
    unfold f_X12_readsCompared_b52 at hf
    refine lv_istore_n (lv' := [(1, .int s0), (0, .ref A_t)]) hx hb dX12_readsCompared_52 rfl hl (by decide) rfl (fun ls hl => ?_)
    refine lv_iload_n hx hb dX12_readsCompared_53 rfl (lv_at hl 0 rfl) ?_
    refine lv_iconst (v := -1) hx hb dX12_readsCompared_54 (by decide) ?_
    refine lv_icmp_ne (tgt := 68) hx hb dX12_readsCompared_55 (by decide) (fun q => ?_) (fun q => ?_)
    · have hf := if_f q hf
      refine lv_aload_n hx hb dX12_readsCompared_68 rfl (lv_at hl 1 rfl) ?_
      refine lv_aload_n hx hb dX12_readsCompared_69 rfl (lv_at hl 1 rfl) ?_
      refine x_get C hK hP fd_X12_150 0 rfl rfl dX12_readsCompared_70 ?_
      refine lv_iconst (v := 1) hx hb dX12_readsCompared_73 (by decide) ?_
      refine lv_iadd hx hb dX12_readsCompared_74 ?_
      refine x_put (ws' := [oX12 A_t A_t_now A_t_aside A_t_kept A_t_rhymeOf A_t_wasRhyme A_t_wordAt x_t_wordMany A_t_tape x_t_taped (x_t_place0 + (1 : Int32)) x_t_length0 x_t_fault x_t_number0 x_t_open x_t_codeMany x_t_waiting x_t_saidMany x_t_clauses A_t_said A_t_waitsAt A_t_saidLetter A_t_saidFrom A_t_saidHalf A_t_saidTo A_t_codes A_t_clauseOf A_t_codeFrom A_t_codeHalf A_t_codeTo A_t_stack A_t_facts x_t_lines A_t_newWords A_t_roundFrom A_t_roundAt A_t_roundTimes x_t_newMany x_t_rounds x_t_itFrom x_t_itTimes x_t_writtenNow x_t_picturesNow x_t_usedNow x_t_chosen x_t_fearOfChosen A_t_leastFrom A_t_rowNow x_t_changesNow x_t_left0 A_t_bornOf A_t_trainsTo A_t_trainAt x_t_trainMany x_t_leastTries x_t_firstTrained x_t_isKept, iA cI 260 A_t_said v_t_said, iA cB 260 A_t_tape v_t_tape, iA cI 260 A_t_waitsAt v_t_waitsAt]) C hK hP hD hS fp_X12_150 0 rfl rfl rfl (Nat.le_of_ble_eq_true rfl) rfl dX12_readsCompared_75 ?_
      intro H locs hP hD hS
      refine lv_aload_n hx hb dX12_readsCompared_78 rfl (lv_at hl 1 rfl) ?_
      obtain ⟨r1, w2, w3, w4, w5, w6, w7, w8, w9, hc10, hf⟩ := bd9_e hf
      refine x_callVI (ws' := [oX12 A_t A_t_now A_t_aside A_t_kept A_t_rhymeOf A_t_wasRhyme A_t_wordAt x_t_wordMany A_t_tape x_t_taped w8 x_t_length0 w5 w6 w7 w4 w9 x_t_saidMany x_t_clauses A_t_said A_t_waitsAt A_t_saidLetter A_t_saidFrom A_t_saidHalf A_t_saidTo A_t_codes A_t_clauseOf A_t_codeFrom A_t_codeHalf A_t_codeTo A_t_stack A_t_facts x_t_lines A_t_newWords A_t_roundFrom A_t_roundAt A_t_roundTimes x_t_newMany x_t_rounds x_t_itFrom x_t_itTimes x_t_writtenNow x_t_picturesNow x_t_usedNow x_t_chosen x_t_fearOfChosen A_t_leastFrom A_t_rowNow x_t_changesNow x_t_left0 A_t_bornOf A_t_trainsTo A_t_trainAt x_t_trainMany x_t_leastTries x_t_firstTrained x_t_isKept, iA cI 260 A_t_said w2, iA cB 260 A_t_tape v_t_tape, iA cI 260 A_t_waitsAt w3]) (rest := []) C hK hP hD hS hA hl mf_X12_212 (c_X12_readsSum hc10) [0, 1, 2, 3] 0 12 rfl rfl rfl rfl rfl rfl rfl rfl rfl rfl (Nat.le_of_ble_eq_true rfl) ⟨Nat.le_of_ble_eq_true rfl, Nat.le_of_ble_eq_true rfl⟩ ⟨Nat.le_refl _, Nat.le_refl _⟩ dX12_readsCompared_79 ?_
      intro H locs hP hD hS
      refine lv_if_ne (tgt := 87) hx hb dX12_readsCompared_82 (by decide) (fun q => ?_) (fun q => ?_)
      · have hf := if_f q hf
        refine lv_aload_n hx hb dX12_readsCompared_87 rfl (lv_at hl 1 rfl) ?_
        refine lv_iload_n hx hb dX12_readsCompared_88 rfl (lv_at hl 0 rfl) ?_
        refine lv_iconst (v := 0) hx hb dX12_readsCompared_89 (by decide) ?_
        obtain ⟨w11, w12, hc13, hf⟩ := bd2_e hf
        refine x_callVV (ws' := [oX12 A_t A_t_now A_t_aside A_t_kept A_t_rhymeOf A_t_wasRhyme A_t_wordAt x_t_wordMany A_t_tape x_t_taped w8 x_t_length0 w5 w6 w7 w12 w9 x_t_saidMany x_t_clauses A_t_said A_t_waitsAt A_t_saidLetter A_t_saidFrom A_t_saidHalf A_t_saidTo A_t_codes A_t_clauseOf A_t_codeFrom A_t_codeHalf A_t_codeTo A_t_stack A_t_facts x_t_lines A_t_newWords A_t_roundFrom A_t_roundAt A_t_roundTimes x_t_newMany x_t_rounds x_t_itFrom x_t_itTimes x_t_writtenNow x_t_picturesNow x_t_usedNow x_t_chosen x_t_fearOfChosen A_t_leastFrom A_t_rowNow x_t_changesNow x_t_left0 A_t_bornOf A_t_trainsTo A_t_trainAt x_t_trainMany x_t_leastTries x_t_firstTrained x_t_isKept, iA cI 260 A_t_said w11, iA cB 260 A_t_tape v_t_tape, iA cI 260 A_t_waitsAt w3]) (rest := []) C hK hP hD hS hA hl mf_X12_186 (c_X12_notes hc13) [0, 1] 0 12 rfl rfl rfl rfl rfl rfl rfl rfl rfl rfl (Nat.le_of_ble_eq_true rfl) ⟨Nat.le_of_ble_eq_true rfl, Nat.le_of_ble_eq_true rfl⟩ ⟨Nat.le_refl _, Nat.le_refl _⟩ dX12_readsCompared_90 ?_
        intro H locs hP hD hS
        refine lv_aload_n hx hb dX12_readsCompared_93 rfl (lv_at hl 1 rfl) ?_
        obtain ⟨w14, w15, w16, w17, hc18, hf⟩ := bd4_e hf
        refine x_callVV (ws' := [oX12 A_t A_t_now A_t_aside A_t_kept A_t_rhymeOf A_t_wasRhyme A_t_wordAt x_t_wordMany A_t_tape x_t_taped w8 x_t_length0 w5 w6 w16 w15 w17 x_t_saidMany x_t_clauses A_t_said A_t_waitsAt A_t_saidLetter A_t_saidFrom A_t_saidHalf A_t_saidTo A_t_codes A_t_clauseOf A_t_codeFrom A_t_codeHalf A_t_codeTo A_t_stack A_t_facts x_t_lines A_t_newWords A_t_roundFrom A_t_roundAt A_t_roundTimes x_t_newMany x_t_rounds x_t_itFrom x_t_itTimes x_t_writtenNow x_t_picturesNow x_t_usedNow x_t_chosen x_t_fearOfChosen A_t_leastFrom A_t_rowNow x_t_changesNow x_t_left0 A_t_bornOf A_t_trainsTo A_t_trainAt x_t_trainMany x_t_leastTries x_t_firstTrained x_t_isKept, iA cI 260 A_t_said w14, iA cB 260 A_t_tape v_t_tape, iA cI 260 A_t_waitsAt w3]) (rest := []) C hK hP hD hS hA hl mf_X12_215 (c_X12_endsPiece hc18) [0, 1, 3] 0 12 rfl rfl rfl rfl rfl rfl rfl rfl rfl rfl (Nat.le_of_ble_eq_true rfl) ⟨Nat.le_of_ble_eq_true rfl, Nat.le_of_ble_eq_true rfl⟩ ⟨Nat.le_refl _, Nat.le_refl _⟩ dX12_readsCompared_94 ?_
        intro H locs hP hD hS
        refine lv_iconst (v := 1) hx hb dX12_readsCompared_97 (by decide) ?_
        obtain ⟨rfl, rfl, rfl, rfl, rfl, rfl, rfl, rfl, rfl⟩ := ev9 hf
        exact x_zret C hr hlk (Or.inr rfl) hP hD hS dX12_readsCompared_98
      · have hf := if_t q hf
        refine lv_iconst (v := 0) hx hb dX12_readsCompared_85 (by decide) ?_
        obtain ⟨rfl, rfl, rfl, rfl, rfl, rfl, rfl, rfl, rfl⟩ := ev9 hf
        exact x_zret C hr hlk (Or.inl rfl) hP hD hS dX12_readsCompared_86
    · have hf := if_t q hf
      refine lv_aload_n hx hb dX12_readsCompared_58 rfl (lv_at hl 1 rfl) ?_
      refine lv_iconst (v := 1) hx hb dX12_readsCompared_59 (by decide) ?_
      refine lv_aload_n hx hb dX12_readsCompared_60 rfl (lv_at hl 1 rfl) ?_
      refine x_get C hK hP fd_X12_150 0 rfl rfl dX12_readsCompared_61 ?_
      obtain ⟨r19, w20, hc21, hf⟩ := bd2_e hf
      refine x_callVI (ws' := [oX12 A_t A_t_now A_t_aside A_t_kept A_t_rhymeOf A_t_wasRhyme A_t_wordAt x_t_wordMany A_t_tape x_t_taped x_t_place0 x_t_length0 w20 x_t_number0 x_t_open x_t_codeMany x_t_waiting x_t_saidMany x_t_clauses A_t_said A_t_waitsAt A_t_saidLetter A_t_saidFrom A_t_saidHalf A_t_saidTo A_t_codes A_t_clauseOf A_t_codeFrom A_t_codeHalf A_t_codeTo A_t_stack A_t_facts x_t_lines A_t_newWords A_t_roundFrom A_t_roundAt A_t_roundTimes x_t_newMany x_t_rounds x_t_itFrom x_t_itTimes x_t_writtenNow x_t_picturesNow x_t_usedNow x_t_chosen x_t_fearOfChosen A_t_leastFrom A_t_rowNow x_t_changesNow x_t_left0 A_t_bornOf A_t_trainsTo A_t_trainAt x_t_trainMany x_t_leastTries x_t_firstTrained x_t_isKept, iA cI 260 A_t_said v_t_said, iA cB 260 A_t_tape v_t_tape, iA cI 260 A_t_waitsAt v_t_waitsAt]) (rest := []) C hK hP hD hS hA hl mf_X12_163 (c_X12_wrongAt hc21) [0] 0 12 rfl rfl rfl rfl rfl rfl rfl rfl rfl rfl (Nat.le_of_ble_eq_true rfl) ⟨Nat.le_of_ble_eq_true rfl, Nat.le_of_ble_eq_true rfl⟩ ⟨Nat.le_refl _, Nat.le_refl _⟩ dX12_readsCompared_64 ?_
      intro H locs hP hD hS
      obtain ⟨hz, hf⟩ := zI_e hf
      obtain ⟨rfl, rfl, rfl, rfl, rfl, rfl, rfl, rfl, rfl⟩ := ev9 hf
      exact x_zret C hr hlk hz hP hD hS dX12_readsCompared_67
  refine lv_aload_n hx hb dX12_readsCompared_0 rfl (lv_at hl 0 rfl) ?_
  obtain ⟨r22, w23, w24, w25, w26, w27, w28, w29, w30, hc31, hf⟩ := bd9_e hf
  refine x_callVI (ws' := [oX12 A_t A_t_now A_t_aside A_t_kept A_t_rhymeOf A_t_wasRhyme A_t_wordAt x_t_wordMany A_t_tape x_t_taped w29 x_t_length0 w26 w27 w28 w25 w30 x_t_saidMany x_t_clauses A_t_said A_t_waitsAt A_t_saidLetter A_t_saidFrom A_t_saidHalf A_t_saidTo A_t_codes A_t_clauseOf A_t_codeFrom A_t_codeHalf A_t_codeTo A_t_stack A_t_facts x_t_lines A_t_newWords A_t_roundFrom A_t_roundAt A_t_roundTimes x_t_newMany x_t_rounds x_t_itFrom x_t_itTimes x_t_writtenNow x_t_picturesNow x_t_usedNow x_t_chosen x_t_fearOfChosen A_t_leastFrom A_t_rowNow x_t_changesNow x_t_left0 A_t_bornOf A_t_trainsTo A_t_trainAt x_t_trainMany x_t_leastTries x_t_firstTrained x_t_isKept, iA cI 260 A_t_said w23, iA cB 260 A_t_tape v_t_tape, iA cI 260 A_t_waitsAt w24]) (rest := []) C hK hP hD hS hA hl mf_X12_212 (c_X12_readsSum hc31) [0, 1, 2, 3] 0 12 rfl rfl rfl rfl rfl rfl rfl rfl rfl rfl (Nat.le_of_ble_eq_true rfl) ⟨Nat.le_of_ble_eq_true rfl, Nat.le_of_ble_eq_true rfl⟩ ⟨Nat.le_refl _, Nat.le_refl _⟩ dX12_readsCompared_1 ?_
  intro H locs hP hD hS
  refine lv_if_ne (tgt := 9) hx hb dX12_readsCompared_4 (by decide) (fun q => ?_) (fun q => ?_)
  · have hf := if_f q hf
    refine lv_aload_n hx hb dX12_readsCompared_9 rfl (lv_at hl 0 rfl) ?_
    obtain ⟨r32, hc33, hf⟩ := bd1_e hf
    refine x_callVI (ws' := [oX12 A_t A_t_now A_t_aside A_t_kept A_t_rhymeOf A_t_wasRhyme A_t_wordAt x_t_wordMany A_t_tape x_t_taped w29 x_t_length0 w26 w27 w28 w25 w30 x_t_saidMany x_t_clauses A_t_said A_t_waitsAt A_t_saidLetter A_t_saidFrom A_t_saidHalf A_t_saidTo A_t_codes A_t_clauseOf A_t_codeFrom A_t_codeHalf A_t_codeTo A_t_stack A_t_facts x_t_lines A_t_newWords A_t_roundFrom A_t_roundAt A_t_roundTimes x_t_newMany x_t_rounds x_t_itFrom x_t_itTimes x_t_writtenNow x_t_picturesNow x_t_usedNow x_t_chosen x_t_fearOfChosen A_t_leastFrom A_t_rowNow x_t_changesNow x_t_left0 A_t_bornOf A_t_trainsTo A_t_trainAt x_t_trainMany x_t_leastTries x_t_firstTrained x_t_isKept, iA cI 260 A_t_said w23, iA cB 260 A_t_tape v_t_tape, iA cI 260 A_t_waitsAt w24]) (rest := []) C hK hP hD hS hA hl mf_X12_156 (c_X12_here hc33) [0, 2] 0 12 rfl rfl rfl rfl rfl rfl rfl rfl rfl rfl (Nat.le_of_ble_eq_true rfl) ⟨Nat.le_of_ble_eq_true rfl, Nat.le_of_ble_eq_true rfl⟩ ⟨Nat.le_refl _, Nat.le_refl _⟩ dX12_readsCompared_10 ?_
    intro H locs hP hD hS
    refine lv_bipush (v := 60) hx hb dX12_readsCompared_13 (by decide) ?_
    refine lv_icmp_ne (tgt := 23) hx hb dX12_readsCompared_15 (by decide) (fun q => ?_) (fun q => ?_)
    · have hf := if_f q hf
      refine lv_aload_n hx hb dX12_readsCompared_23 rfl (lv_at hl 0 rfl) ?_
      obtain ⟨r34, hc35, hf⟩ := bd1_e hf
      refine x_callVI (ws' := [oX12 A_t A_t_now A_t_aside A_t_kept A_t_rhymeOf A_t_wasRhyme A_t_wordAt x_t_wordMany A_t_tape x_t_taped w29 x_t_length0 w26 w27 w28 w25 w30 x_t_saidMany x_t_clauses A_t_said A_t_waitsAt A_t_saidLetter A_t_saidFrom A_t_saidHalf A_t_saidTo A_t_codes A_t_clauseOf A_t_codeFrom A_t_codeHalf A_t_codeTo A_t_stack A_t_facts x_t_lines A_t_newWords A_t_roundFrom A_t_roundAt A_t_roundTimes x_t_newMany x_t_rounds x_t_itFrom x_t_itTimes x_t_writtenNow x_t_picturesNow x_t_usedNow x_t_chosen x_t_fearOfChosen A_t_leastFrom A_t_rowNow x_t_changesNow x_t_left0 A_t_bornOf A_t_trainsTo A_t_trainAt x_t_trainMany x_t_leastTries x_t_firstTrained x_t_isKept, iA cI 260 A_t_said w23, iA cB 260 A_t_tape v_t_tape, iA cI 260 A_t_waitsAt w24]) (rest := []) C hK hP hD hS hA hl mf_X12_156 (c_X12_here hc35) [0, 2] 0 12 rfl rfl rfl rfl rfl rfl rfl rfl rfl rfl (Nat.le_of_ble_eq_true rfl) ⟨Nat.le_of_ble_eq_true rfl, Nat.le_of_ble_eq_true rfl⟩ ⟨Nat.le_refl _, Nat.le_refl _⟩ dX12_readsCompared_24 ?_
      intro H locs hP hD hS
      refine lv_bipush (v := 62) hx hb dX12_readsCompared_27 (by decide) ?_
      refine lv_icmp_ne (tgt := 37) hx hb dX12_readsCompared_29 (by decide) (fun q => ?_) (fun q => ?_)
      · have hf := if_f q hf
        refine lv_aload_n hx hb dX12_readsCompared_37 rfl (lv_at hl 0 rfl) ?_
        obtain ⟨r36, hc37, hf⟩ := bd1_e hf
        refine x_callVI (ws' := [oX12 A_t A_t_now A_t_aside A_t_kept A_t_rhymeOf A_t_wasRhyme A_t_wordAt x_t_wordMany A_t_tape x_t_taped w29 x_t_length0 w26 w27 w28 w25 w30 x_t_saidMany x_t_clauses A_t_said A_t_waitsAt A_t_saidLetter A_t_saidFrom A_t_saidHalf A_t_saidTo A_t_codes A_t_clauseOf A_t_codeFrom A_t_codeHalf A_t_codeTo A_t_stack A_t_facts x_t_lines A_t_newWords A_t_roundFrom A_t_roundAt A_t_roundTimes x_t_newMany x_t_rounds x_t_itFrom x_t_itTimes x_t_writtenNow x_t_picturesNow x_t_usedNow x_t_chosen x_t_fearOfChosen A_t_leastFrom A_t_rowNow x_t_changesNow x_t_left0 A_t_bornOf A_t_trainsTo A_t_trainAt x_t_trainMany x_t_leastTries x_t_firstTrained x_t_isKept, iA cI 260 A_t_said w23, iA cB 260 A_t_tape v_t_tape, iA cI 260 A_t_waitsAt w24]) (rest := []) C hK hP hD hS hA hl mf_X12_156 (c_X12_here hc37) [0, 2] 0 12 rfl rfl rfl rfl rfl rfl rfl rfl rfl rfl (Nat.le_of_ble_eq_true rfl) ⟨Nat.le_of_ble_eq_true rfl, Nat.le_of_ble_eq_true rfl⟩ ⟨Nat.le_refl _, Nat.le_refl _⟩ dX12_readsCompared_38 ?_
        intro H locs hP hD hS
        refine lv_bipush (v := 61) hx hb dX12_readsCompared_41 (by decide) ?_
        refine lv_icmp_ne (tgt := 51) hx hb dX12_readsCompared_43 (by decide) (fun q => ?_) (fun q => ?_)
        · have hf := if_f q hf
          refine lv_iconst (v := -1) hx hb dX12_readsCompared_51 (by decide) ?_
          exact hb_52 w23 w24 w25 w26 w27 w28 w29 w30 (-1 : Int32) _ _ ls (lv_sub hl [0] rfl) hP hD hS hf
        · have hf := if_t q hf
          refine lv_bipush (v := 9) hx hb dX12_readsCompared_46 (by decide) ?_
          refine lv_goto (tgt := 52) hx hb dX12_readsCompared_48 (by decide) ?_
          exact hb_52 w23 w24 w25 w26 w27 w28 w29 w30 (9 : Int32) _ _ ls (lv_sub hl [0] rfl) hP hD hS hf
      · have hf := if_t q hf
        refine lv_bipush (v := 8) hx hb dX12_readsCompared_32 (by decide) ?_
        refine lv_goto (tgt := 52) hx hb dX12_readsCompared_34 (by decide) ?_
        exact hb_52 w23 w24 w25 w26 w27 w28 w29 w30 (8 : Int32) _ _ ls (lv_sub hl [0] rfl) hP hD hS hf
    · have hf := if_t q hf
      refine lv_bipush (v := 7) hx hb dX12_readsCompared_18 (by decide) ?_
      refine lv_goto (tgt := 52) hx hb dX12_readsCompared_20 (by decide) ?_
      exact hb_52 w23 w24 w25 w26 w27 w28 w29 w30 (7 : Int32) _ _ ls (lv_sub hl [0] rfl) hP hD hS hf
  · have hf := if_t q hf
    refine lv_iconst (v := 0) hx hb dX12_readsCompared_7 (by decide) ?_
    obtain ⟨rfl, rfl, rfl, rfl, rfl, rfl, rfl, rfl, rfl⟩ := ev9 hf
    exact x_zret C hr hlk (Or.inl rfl) hP hD hS dX12_readsCompared_8
def f_X12_readsCondition_b75 (k40 : (Nat → Int32) → (Nat → Int32) → Int32 → Int32 → Int32 → Int32 → Int32 → Int32 → Option (Int32 × (Nat → Int32) × (Nat → Int32) × Int32 × Int32 × Int32 × Int32 × Int32 × Int32)) (v_t_said : (Nat → Int32)) (v_t_waitsAt : (Nat → Int32)) (x_t_codeMany : Int32) (x_t_fault : Int32) (x_t_number0 : Int32) (x_t_open : Int32) (x_t_place0 : Int32) (x_t_waiting : Int32) (s1 : Int32) : Option (Int32 × (Nat → Int32) × (Nat → Int32) × Int32 × Int32 × Int32 × Int32 × Int32 × Int32) :=
  bd6 (f_X12_opens v_t_waitsAt x_t_fault x_t_open x_t_place0 x_t_waiting s1) (fun r1 w2 w3 w4 w5 w6 =>
  if r1 = 0 then
    some ((0 : Int32), v_t_said, w2, x_t_codeMany, w3, x_t_number0, w4, w5, w6)
  else
    k40 v_t_said w2 x_t_codeMany w3 x_t_number0 w4 w5 w6)
def f_X12_readsCondition_b58 (v_t_tape : (Nat → Int32)) (x_t_length0 : Int32) (k40 : (Nat → Int32) → (Nat → Int32) → Int32 → Int32 → Int32 → Int32 → Int32 → Int32 → Option (Int32 × (Nat → Int32) × (Nat → Int32) × Int32 × Int32 × Int32 × Int32 × Int32 × Int32)) (v_t_said : (Nat → Int32)) (v_t_waitsAt : (Nat → Int32)) (x_t_codeMany : Int32) (x_t_fault : Int32) (x_t_number0 : Int32) (x_t_open : Int32) (x_t_place0 : Int32) (x_t_waiting : Int32) : Option (Int32 × (Nat → Int32) × (Nat → Int32) × Int32 × Int32 × Int32 × Int32 × Int32 × Int32) :=
  bd1 (f_X12_here v_t_tape x_t_length0 x_t_place0) (fun r1 =>
  if r1 = (33 : Int32) then
    f_X12_readsCondition_b75 k40 v_t_said v_t_waitsAt x_t_codeMany x_t_fault x_t_number0 x_t_open x_t_place0 x_t_waiting (10 : Int32)
  else
    f_X12_readsCondition_b75 k40 v_t_said v_t_waitsAt x_t_codeMany x_t_fault x_t_number0 x_t_open x_t_place0 x_t_waiting (13 : Int32))
def f_X12_readsCondition_b215 (k40 : (Nat → Int32) → (Nat → Int32) → Int32 → Int32 → Int32 → Int32 → Int32 → Int32 → Option (Int32 × (Nat → Int32) × (Nat → Int32) × Int32 × Int32 × Int32 × Int32 × Int32 × Int32)) (v_t_said : (Nat → Int32)) (v_t_waitsAt : (Nat → Int32)) (x_t_codeMany : Int32) (x_t_fault : Int32) (x_t_number0 : Int32) (x_t_open : Int32) (x_t_place0 : Int32) (x_t_waiting : Int32) (s1 : Int32) : Option (Int32 × (Nat → Int32) × (Nat → Int32) × Int32 × Int32 × Int32 × Int32 × Int32 × Int32) :=
  bd5 (f_X12_jumps v_t_said v_t_waitsAt x_t_codeMany x_t_place0 x_t_waiting s1) (fun w1 w2 w3 w4 w5 =>
  k40 w1 w2 w3 x_t_fault x_t_number0 x_t_open w4 w5)
def f_X12_readsCondition_b195 (v_t_tape : (Nat → Int32)) (x_t_length0 : Int32) (k40 : (Nat → Int32) → (Nat → Int32) → Int32 → Int32 → Int32 → Int32 → Int32 → Int32 → Option (Int32 × (Nat → Int32) × (Nat → Int32) × Int32 × Int32 × Int32 × Int32 × Int32 × Int32)) (v_t_said : (Nat → Int32)) (v_t_waitsAt : (Nat → Int32)) (x_t_codeMany : Int32) (x_t_fault : Int32) (x_t_number0 : Int32) (x_t_open : Int32) (x_t_place0 : Int32) (x_t_waiting : Int32) (s1 : Int32) : Option (Int32 × (Nat → Int32) × (Nat → Int32) × Int32 × Int32 × Int32 × Int32 × Int32 × Int32) :=
  bd2 (f_X12_lands v_t_said v_t_waitsAt x_t_codeMany x_t_waiting s1) (fun w1 w2 =>
  bd1 (f_X12_here v_t_tape x_t_length0 x_t_place0) (fun r3 =>
  if r3 = (38 : Int32) then
    f_X12_readsCondition_b215 k40 w1 v_t_waitsAt x_t_codeMany x_t_fault x_t_number0 x_t_open x_t_place0 w2 (11 : Int32)
  else
    f_X12_readsCondition_b215 k40 w1 v_t_waitsAt x_t_codeMany x_t_fault x_t_number0 x_t_open x_t_place0 w2 (12 : Int32)))
def f_X12_readsCondition_b180 (v_t_tape : (Nat → Int32)) (x_t_length0 : Int32) (k40 : (Nat → Int32) → (Nat → Int32) → Int32 → Int32 → Int32 → Int32 → Int32 → Int32 → Option (Int32 × (Nat → Int32) × (Nat → Int32) × Int32 × Int32 × Int32 × Int32 × Int32 × Int32)) (v_t_said : (Nat → Int32)) (v_t_waitsAt : (Nat → Int32)) (x_t_codeMany : Int32) (x_t_fault : Int32) (x_t_number0 : Int32) (x_t_open : Int32) (x_t_place0 : Int32) (x_t_waiting : Int32) : Option (Int32 × (Nat → Int32) × (Nat → Int32) × Int32 × Int32 × Int32 × Int32 × Int32 × Int32) :=
  bd1 (f_X12_here v_t_tape x_t_length0 x_t_place0) (fun r1 =>
  if r1 = (124 : Int32) then
    f_X12_readsCondition_b195 v_t_tape x_t_length0 k40 v_t_said v_t_waitsAt x_t_codeMany x_t_fault x_t_number0 x_t_open x_t_place0 x_t_waiting (1 : Int32)
  else
    f_X12_readsCondition_b195 v_t_tape x_t_length0 k40 v_t_said v_t_waitsAt x_t_codeMany x_t_fault x_t_number0 x_t_open x_t_place0 x_t_waiting (0 : Int32))
def f_X12_readsCondition_b92 (v_t_tape : (Nat → Int32)) (x_t_length0 : Int32) (k40 : (Nat → Int32) → (Nat → Int32) → Int32 → Int32 → Int32 → Int32 → Int32 → Int32 → Option (Int32 × (Nat → Int32) × (Nat → Int32) × Int32 × Int32 × Int32 × Int32 × Int32 × Int32)) : Nat → (Nat → Int32) → (Nat → Int32) → Int32 → Int32 → Int32 → Int32 → Int32 → Int32 → Option (Int32 × (Nat → Int32) × (Nat → Int32) × Int32 × Int32 × Int32 × Int32 × Int32 × Int32)
  | 0, _, _, _, _, _, _, _, _ => none
  | n + 1, v_t_said, v_t_waitsAt, x_t_codeMany, x_t_fault, x_t_number0, x_t_open, x_t_place0, x_t_waiting =>
    bd1 (f_X12_here v_t_tape x_t_length0 x_t_place0) (fun r1 =>
    if r1 = (41 : Int32) then
      bd2 (f_X12_lands v_t_said v_t_waitsAt x_t_codeMany x_t_waiting (1 : Int32)) (fun w6 w7 =>
      if (w7 - (1 : Int32)) = 0 then
        some ((1 : Int32), w6, v_t_waitsAt, x_t_codeMany, x_t_fault, x_t_number0, (x_t_open - (1 : Int32)), (x_t_place0 + (1 : Int32)), (w7 - (1 : Int32)))
      else
        bd4 (f_X12_endsPiece w6 v_t_waitsAt x_t_codeMany (x_t_open - (1 : Int32)) (w7 - (1 : Int32))) (fun w8 w9 w10 w11 =>
        f_X12_readsCondition_b92 v_t_tape x_t_length0 k40 n w8 v_t_waitsAt w9 x_t_fault x_t_number0 w10 (x_t_place0 + (1 : Int32)) w11))
    else
      bd1 (f_X12_here v_t_tape x_t_length0 x_t_place0) (fun r2 =>
      if r2 = (38 : Int32) then
        f_X12_readsCondition_b180 v_t_tape x_t_length0 k40 v_t_said v_t_waitsAt x_t_codeMany x_t_fault x_t_number0 x_t_open x_t_place0 x_t_waiting
      else
        bd1 (f_X12_here v_t_tape x_t_length0 x_t_place0) (fun r3 =>
        if r3 = (124 : Int32) then
          f_X12_readsCondition_b180 v_t_tape x_t_length0 k40 v_t_said v_t_waitsAt x_t_codeMany x_t_fault x_t_number0 x_t_open x_t_place0 x_t_waiting
        else
          bd2 (f_X12_wrongAt x_t_fault (1 : Int32) x_t_place0) (fun r4 w5 =>
          zI r4 (some (r4, v_t_said, v_t_waitsAt, x_t_codeMany, w5, x_t_number0, x_t_open, x_t_place0, x_t_waiting))))))
def f_X12_readsCondition_b40 (v_t_tape : (Nat → Int32)) (x_t_length0 : Int32) : Nat → (Nat → Int32) → (Nat → Int32) → Int32 → Int32 → Int32 → Int32 → Int32 → Int32 → Option (Int32 × (Nat → Int32) × (Nat → Int32) × Int32 × Int32 × Int32 × Int32 × Int32 × Int32)
  | 0, _, _, _, _, _, _, _, _ => none
  | n + 1, v_t_said, v_t_waitsAt, x_t_codeMany, x_t_fault, x_t_number0, x_t_open, x_t_place0, x_t_waiting =>
    bd1 (f_X12_here v_t_tape x_t_length0 x_t_place0) (fun r1 =>
    if r1 = (33 : Int32) then
      f_X12_readsCondition_b58 v_t_tape x_t_length0 (f_X12_readsCondition_b40 v_t_tape x_t_length0 n) v_t_said v_t_waitsAt x_t_codeMany x_t_fault x_t_number0 x_t_open x_t_place0 x_t_waiting
    else
      bd1 (f_X12_here v_t_tape x_t_length0 x_t_place0) (fun r2 =>
      if r2 = (40 : Int32) then
        f_X12_readsCondition_b58 v_t_tape x_t_length0 (f_X12_readsCondition_b40 v_t_tape x_t_length0 n) v_t_said v_t_waitsAt x_t_codeMany x_t_fault x_t_number0 x_t_open x_t_place0 x_t_waiting
      else
        bd9 (f_X12_readsCompared v_t_said v_t_tape v_t_waitsAt x_t_codeMany x_t_fault x_t_length0 x_t_number0 x_t_open x_t_place0 x_t_waiting) (fun r3 w4 w5 w6 w7 w8 w9 w10 w11 =>
        if r3 = 0 then
          some ((0 : Int32), w4, w5, w6, w7, w8, w9, w10, w11)
        else
          f_X12_readsCondition_b92 v_t_tape x_t_length0 (f_X12_readsCondition_b40 v_t_tape x_t_length0 n) FU w4 w5 w6 w7 w8 w9 w10 w11)))
def f_X12_readsCondition (v_t_said : (Nat → Int32)) (v_t_tape : (Nat → Int32)) (v_t_waitsAt : (Nat → Int32)) (x_t_codeMany : Int32) (x_t_fault : Int32) (x_t_length0 : Int32) (x_t_number0 : Int32) (x_t_open : Int32) (x_t_place0 : Int32) (x_t_waiting : Int32) : Option (Int32 × (Nat → Int32) × (Nat → Int32) × Int32 × Int32 × Int32 × Int32 × Int32 × Int32) :=
  bd1 (f_X12_here v_t_tape x_t_length0 x_t_place0) (fun r12 =>
  if r12 = (40 : Int32) then
    bd6 (f_X12_opens v_t_waitsAt x_t_fault (0 : Int32) x_t_place0 (0 : Int32) (13 : Int32)) (fun r13 w14 w15 w16 w17 w18 =>
    if r13 = 0 then
      some ((0 : Int32), v_t_said, w14, x_t_codeMany, w15, x_t_number0, w16, w17, w18)
    else
      f_X12_readsCondition_b40 v_t_tape x_t_length0 FU v_t_said w14 x_t_codeMany w15 x_t_number0 w16 w17 w18)
  else
    bd2 (f_X12_wrongAt x_t_fault (1 : Int32) x_t_place0) (fun r19 w20 =>
    zI r19 (some (r19, v_t_said, v_t_waitsAt, x_t_codeMany, w20, x_t_number0, x_t_open, x_t_place0, x_t_waiting))))
set_option maxHeartbeats 4000000 in
set_option maxRecDepth 100000 in
theorem c_X12_readsCondition {l : Launch} {D : va_G} {cI cB : ClassId} {A_t A_t_now A_t_aside A_t_kept A_t_rhymeOf A_t_wasRhyme A_t_wordAt A_t_tape A_t_said A_t_waitsAt A_t_saidLetter A_t_saidFrom A_t_saidHalf A_t_saidTo A_t_codes A_t_clauseOf A_t_codeFrom A_t_codeHalf A_t_codeTo A_t_stack A_t_facts A_t_newWords A_t_roundFrom A_t_roundAt A_t_roundTimes A_t_leastFrom A_t_rowNow A_t_bornOf A_t_trainsTo A_t_trainAt : Nat} {x_t_wordMany x_t_taped x_t_place0 x_t_length0 x_t_fault x_t_number0 x_t_open x_t_codeMany x_t_waiting x_t_saidMany x_t_clauses x_t_lines x_t_newMany x_t_rounds x_t_itFrom x_t_itTimes x_t_writtenNow x_t_picturesNow x_t_usedNow x_t_chosen x_t_fearOfChosen x_t_changesNow x_t_left0 x_t_trainMany x_t_leastTries x_t_firstTrained x_t_isKept : Int32} {v_t_said v_t_tape v_t_waitsAt : Nat → Int32} {o_r o_x_t_codeMany o_x_t_fault o_x_t_number0 o_x_t_open o_x_t_place0 o_x_t_waiting : Int32} {o_v_t_said o_v_t_waitsAt : Nat → Int32} (hf : f_X12_readsCondition v_t_said v_t_tape v_t_waitsAt x_t_codeMany x_t_fault x_t_length0 x_t_number0 x_t_open x_t_place0 x_t_waiting = some (o_r, o_v_t_said, o_v_t_waitsAt, o_x_t_codeMany, o_x_t_fault, o_x_t_number0, o_x_t_open, o_x_t_place0, o_x_t_waiting)) : CtI l D cI cB yX12_readsCondition cX12_readsCondition 1 (some .boolean) 6 125 [.ref A_t] [oX12 A_t A_t_now A_t_aside A_t_kept A_t_rhymeOf A_t_wasRhyme A_t_wordAt x_t_wordMany A_t_tape x_t_taped x_t_place0 x_t_length0 x_t_fault x_t_number0 x_t_open x_t_codeMany x_t_waiting x_t_saidMany x_t_clauses A_t_said A_t_waitsAt A_t_saidLetter A_t_saidFrom A_t_saidHalf A_t_saidTo A_t_codes A_t_clauseOf A_t_codeFrom A_t_codeHalf A_t_codeTo A_t_stack A_t_facts x_t_lines A_t_newWords A_t_roundFrom A_t_roundAt A_t_roundTimes x_t_newMany x_t_rounds x_t_itFrom x_t_itTimes x_t_writtenNow x_t_picturesNow x_t_usedNow x_t_chosen x_t_fearOfChosen A_t_leastFrom A_t_rowNow x_t_changesNow x_t_left0 A_t_bornOf A_t_trainsTo A_t_trainAt x_t_trainMany x_t_leastTries x_t_firstTrained x_t_isKept, iA cI 260 A_t_said v_t_said, iA cB 260 A_t_tape v_t_tape, iA cI 260 A_t_waitsAt v_t_waitsAt] [oX12 A_t A_t_now A_t_aside A_t_kept A_t_rhymeOf A_t_wasRhyme A_t_wordAt x_t_wordMany A_t_tape x_t_taped o_x_t_place0 x_t_length0 o_x_t_fault o_x_t_number0 o_x_t_open o_x_t_codeMany o_x_t_waiting x_t_saidMany x_t_clauses A_t_said A_t_waitsAt A_t_saidLetter A_t_saidFrom A_t_saidHalf A_t_saidTo A_t_codes A_t_clauseOf A_t_codeFrom A_t_codeHalf A_t_codeTo A_t_stack A_t_facts x_t_lines A_t_newWords A_t_roundFrom A_t_roundAt A_t_roundTimes x_t_newMany x_t_rounds x_t_itFrom x_t_itTimes x_t_writtenNow x_t_picturesNow x_t_usedNow x_t_chosen x_t_fearOfChosen A_t_leastFrom A_t_rowNow x_t_changesNow x_t_left0 A_t_bornOf A_t_trainsTo A_t_trainAt x_t_trainMany x_t_leastTries x_t_firstTrained x_t_isKept, iA cI 260 A_t_said o_v_t_said, iA cB 260 A_t_tape v_t_tape, iA cI 260 A_t_waitsAt o_v_t_waitsAt] o_r := by
  refine x_startI (by decide) (Nat.le_of_ble_eq_true rfl) ?_
  intro p e s m below meth c A C hr hlk hA hK hP hD hS ls hl
  have hl : lv_has ls 1 [(0, .ref A_t)] := hl
  have hx := C.1
  have hb := C.2.1
  unfold f_X12_readsCondition at hf
  have hb_40 : ∀ (n_40 : Nat) (v_t_said : (Nat → Int32)) (v_t_waitsAt : (Nat → Int32)) (x_t_codeMany : Int32) (x_t_fault : Int32) (x_t_number0 : Int32) (x_t_open : Int32) (x_t_place0 : Int32) (x_t_waiting : Int32) (H : Heap) (locs : List Loc) (ls : Array Slot), lv_has ls 1 [(0, .ref A_t)] → va_P D vwCl [oX12 A_t A_t_now A_t_aside A_t_kept A_t_rhymeOf A_t_wasRhyme A_t_wordAt x_t_wordMany A_t_tape x_t_taped x_t_place0 x_t_length0 x_t_fault x_t_number0 x_t_open x_t_codeMany x_t_waiting x_t_saidMany x_t_clauses A_t_said A_t_waitsAt A_t_saidLetter A_t_saidFrom A_t_saidHalf A_t_saidTo A_t_codes A_t_clauseOf A_t_codeFrom A_t_codeHalf A_t_codeTo A_t_stack A_t_facts x_t_lines A_t_newWords A_t_roundFrom A_t_roundAt A_t_roundTimes x_t_newMany x_t_rounds x_t_itFrom x_t_itTimes x_t_writtenNow x_t_picturesNow x_t_usedNow x_t_chosen x_t_fearOfChosen A_t_leastFrom A_t_rowNow x_t_changesNow x_t_left0 A_t_bornOf A_t_trainsTo A_t_trainAt x_t_trainMany x_t_leastTries x_t_firstTrained x_t_isKept, iA cI 260 A_t_said v_t_said, iA cB 260 A_t_tape v_t_tape, iA cI 260 A_t_waitsAt v_t_waitsAt] H → va_D A [oX12 A_t A_t_now A_t_aside A_t_kept A_t_rhymeOf A_t_wasRhyme A_t_wordAt x_t_wordMany A_t_tape x_t_taped x_t_place0 x_t_length0 x_t_fault x_t_number0 x_t_open x_t_codeMany x_t_waiting x_t_saidMany x_t_clauses A_t_said A_t_waitsAt A_t_saidLetter A_t_saidFrom A_t_saidHalf A_t_saidTo A_t_codes A_t_clauseOf A_t_codeFrom A_t_codeHalf A_t_codeTo A_t_stack A_t_facts x_t_lines A_t_newWords A_t_roundFrom A_t_roundAt A_t_roundTimes x_t_newMany x_t_rounds x_t_itFrom x_t_itTimes x_t_writtenNow x_t_picturesNow x_t_usedNow x_t_chosen x_t_fearOfChosen A_t_leastFrom A_t_rowNow x_t_changesNow x_t_left0 A_t_bornOf A_t_trainsTo A_t_trainAt x_t_trainMany x_t_leastTries x_t_firstTrained x_t_isKept, iA cI 260 A_t_said v_t_said, iA cB 260 A_t_tape v_t_tape, iA cI 260 A_t_waitsAt v_t_waitsAt] → va_S A s.heap H locs → f_X12_readsCondition_b40 v_t_tape x_t_length0 n_40 v_t_said v_t_waitsAt x_t_codeMany x_t_fault x_t_number0 x_t_open x_t_place0 x_t_waiting = some (o_r, o_v_t_said, o_v_t_waitsAt, o_x_t_codeMany, o_x_t_fault, o_x_t_number0, o_x_t_open, o_x_t_place0, o_x_t_waiting) → W p l e { frames := 6, cells := 0, slots := 0, locals := 125 } s m ([.ref A_t] : List Value).toArray below meth c H locs 0 0 (MQ below (PoI D A [oX12 A_t A_t_now A_t_aside A_t_kept A_t_rhymeOf A_t_wasRhyme A_t_wordAt x_t_wordMany A_t_tape x_t_taped o_x_t_place0 x_t_length0 o_x_t_fault o_x_t_number0 o_x_t_open o_x_t_codeMany o_x_t_waiting x_t_saidMany x_t_clauses A_t_said A_t_waitsAt A_t_saidLetter A_t_saidFrom A_t_saidHalf A_t_saidTo A_t_codes A_t_clauseOf A_t_codeFrom A_t_codeHalf A_t_codeTo A_t_stack A_t_facts x_t_lines A_t_newWords A_t_roundFrom A_t_roundAt A_t_roundTimes x_t_newMany x_t_rounds x_t_itFrom x_t_itTimes x_t_writtenNow x_t_picturesNow x_t_usedNow x_t_chosen x_t_fearOfChosen A_t_leastFrom A_t_rowNow x_t_changesNow x_t_left0 A_t_bornOf A_t_trainsTo A_t_trainAt x_t_trainMany x_t_leastTries x_t_firstTrained x_t_isKept, iA cI 260 A_t_said o_v_t_said, iA cB 260 A_t_tape v_t_tape, iA cI 260 A_t_waitsAt o_v_t_waitsAt] o_r) ([.ref A_t] : List Value).toArray s 0 0 A) (F0 m 40 ls []) := by
    intro n_40
    induction n_40 with
    | zero =>
      intro v_t_said v_t_waitsAt x_t_codeMany x_t_fault x_t_number0 x_t_open x_t_place0 x_t_waiting H locs ls hl hP hD hS hf
      exact absurd hf (fun h => by rw [f_X12_readsCondition_b40] at h; cases h)
    | succ n_40 ih_40 =>
      have hb_75 : ∀ (v_t_said : (Nat → Int32)) (v_t_waitsAt : (Nat → Int32)) (x_t_codeMany : Int32) (x_t_fault : Int32) (x_t_number0 : Int32) (x_t_open : Int32) (x_t_place0 : Int32) (x_t_waiting : Int32) (s1 : Int32) (H : Heap) (locs : List Loc) (ls : Array Slot), lv_has ls 1 [(0, .ref A_t)] → va_P D vwCl [oX12 A_t A_t_now A_t_aside A_t_kept A_t_rhymeOf A_t_wasRhyme A_t_wordAt x_t_wordMany A_t_tape x_t_taped x_t_place0 x_t_length0 x_t_fault x_t_number0 x_t_open x_t_codeMany x_t_waiting x_t_saidMany x_t_clauses A_t_said A_t_waitsAt A_t_saidLetter A_t_saidFrom A_t_saidHalf A_t_saidTo A_t_codes A_t_clauseOf A_t_codeFrom A_t_codeHalf A_t_codeTo A_t_stack A_t_facts x_t_lines A_t_newWords A_t_roundFrom A_t_roundAt A_t_roundTimes x_t_newMany x_t_rounds x_t_itFrom x_t_itTimes x_t_writtenNow x_t_picturesNow x_t_usedNow x_t_chosen x_t_fearOfChosen A_t_leastFrom A_t_rowNow x_t_changesNow x_t_left0 A_t_bornOf A_t_trainsTo A_t_trainAt x_t_trainMany x_t_leastTries x_t_firstTrained x_t_isKept, iA cI 260 A_t_said v_t_said, iA cB 260 A_t_tape v_t_tape, iA cI 260 A_t_waitsAt v_t_waitsAt] H → va_D A [oX12 A_t A_t_now A_t_aside A_t_kept A_t_rhymeOf A_t_wasRhyme A_t_wordAt x_t_wordMany A_t_tape x_t_taped x_t_place0 x_t_length0 x_t_fault x_t_number0 x_t_open x_t_codeMany x_t_waiting x_t_saidMany x_t_clauses A_t_said A_t_waitsAt A_t_saidLetter A_t_saidFrom A_t_saidHalf A_t_saidTo A_t_codes A_t_clauseOf A_t_codeFrom A_t_codeHalf A_t_codeTo A_t_stack A_t_facts x_t_lines A_t_newWords A_t_roundFrom A_t_roundAt A_t_roundTimes x_t_newMany x_t_rounds x_t_itFrom x_t_itTimes x_t_writtenNow x_t_picturesNow x_t_usedNow x_t_chosen x_t_fearOfChosen A_t_leastFrom A_t_rowNow x_t_changesNow x_t_left0 A_t_bornOf A_t_trainsTo A_t_trainAt x_t_trainMany x_t_leastTries x_t_firstTrained x_t_isKept, iA cI 260 A_t_said v_t_said, iA cB 260 A_t_tape v_t_tape, iA cI 260 A_t_waitsAt v_t_waitsAt] → va_S A s.heap H locs → f_X12_readsCondition_b75 (f_X12_readsCondition_b40 v_t_tape x_t_length0 n_40) v_t_said v_t_waitsAt x_t_codeMany x_t_fault x_t_number0 x_t_open x_t_place0 x_t_waiting s1 = some (o_r, o_v_t_said, o_v_t_waitsAt, o_x_t_codeMany, o_x_t_fault, o_x_t_number0, o_x_t_open, o_x_t_place0, o_x_t_waiting) → W p l e { frames := 6, cells := 0, slots := 0, locals := 125 } s m ([.ref A_t] : List Value).toArray below meth c H locs 0 0 (MQ below (PoI D A [oX12 A_t A_t_now A_t_aside A_t_kept A_t_rhymeOf A_t_wasRhyme A_t_wordAt x_t_wordMany A_t_tape x_t_taped o_x_t_place0 x_t_length0 o_x_t_fault o_x_t_number0 o_x_t_open o_x_t_codeMany o_x_t_waiting x_t_saidMany x_t_clauses A_t_said A_t_waitsAt A_t_saidLetter A_t_saidFrom A_t_saidHalf A_t_saidTo A_t_codes A_t_clauseOf A_t_codeFrom A_t_codeHalf A_t_codeTo A_t_stack A_t_facts x_t_lines A_t_newWords A_t_roundFrom A_t_roundAt A_t_roundTimes x_t_newMany x_t_rounds x_t_itFrom x_t_itTimes x_t_writtenNow x_t_picturesNow x_t_usedNow x_t_chosen x_t_fearOfChosen A_t_leastFrom A_t_rowNow x_t_changesNow x_t_left0 A_t_bornOf A_t_trainsTo A_t_trainAt x_t_trainMany x_t_leastTries x_t_firstTrained x_t_isKept, iA cI 260 A_t_said o_v_t_said, iA cB 260 A_t_tape v_t_tape, iA cI 260 A_t_waitsAt o_v_t_waitsAt] o_r) ([.ref A_t] : List Value).toArray s 0 0 A) (F0 m 75 ls [.int s1, .ref A_t]) := by
        intro v_t_said v_t_waitsAt x_t_codeMany x_t_fault x_t_number0 x_t_open x_t_place0 x_t_waiting s1 H locs ls hl hP hD hS hf
        unfold f_X12_readsCondition_b75 at hf
        obtain ⟨r1, w2, w3, w4, w5, w6, hc7, hf⟩ := bd6_e hf
        refine x_callVI (ws' := [oX12 A_t A_t_now A_t_aside A_t_kept A_t_rhymeOf A_t_wasRhyme A_t_wordAt x_t_wordMany A_t_tape x_t_taped w5 x_t_length0 w3 x_t_number0 w4 x_t_codeMany w6 x_t_saidMany x_t_clauses A_t_said A_t_waitsAt A_t_saidLetter A_t_saidFrom A_t_saidHalf A_t_saidTo A_t_codes A_t_clauseOf A_t_codeFrom A_t_codeHalf A_t_codeTo A_t_stack A_t_facts x_t_lines A_t_newWords A_t_roundFrom A_t_roundAt A_t_roundTimes x_t_newMany x_t_rounds x_t_itFrom x_t_itTimes x_t_writtenNow x_t_picturesNow x_t_usedNow x_t_chosen x_t_fearOfChosen A_t_leastFrom A_t_rowNow x_t_changesNow x_t_left0 A_t_bornOf A_t_trainsTo A_t_trainAt x_t_trainMany x_t_leastTries x_t_firstTrained x_t_isKept, iA cI 260 A_t_said v_t_said, iA cB 260 A_t_tape v_t_tape, iA cI 260 A_t_waitsAt w2]) (rest := []) C hK hP hD hS hA hl mf_X12_190 (c_X12_opens hc7) [0, 3] 0 12 rfl rfl rfl rfl rfl rfl rfl rfl rfl rfl (Nat.le_of_ble_eq_true rfl) ⟨Nat.le_of_ble_eq_true rfl, Nat.le_of_ble_eq_true rfl⟩ ⟨Nat.le_refl _, Nat.le_refl _⟩ dX12_readsCondition_75 ?_
        intro H locs hP hD hS
        refine lv_if_ne (tgt := 40) hx hb dX12_readsCondition_78 (by decide) (fun q => ?_) (fun q => ?_)
        · have hf := if_f q hf
          exact ih_40 v_t_said w2 x_t_codeMany w3 x_t_number0 w4 w5 w6 _ _ ls (lv_sub hl [0] rfl) hP hD hS hf
        · have hf := if_t q hf
          refine lv_iconst (v := 0) hx hb dX12_readsCondition_81 (by decide) ?_
          obtain ⟨rfl, rfl, rfl, rfl, rfl, rfl, rfl, rfl, rfl⟩ := ev9 hf
          exact x_zret C hr hlk (Or.inl rfl) hP hD hS dX12_readsCondition_82
      have hb_58 : ∀ (v_t_said : (Nat → Int32)) (v_t_waitsAt : (Nat → Int32)) (x_t_codeMany : Int32) (x_t_fault : Int32) (x_t_number0 : Int32) (x_t_open : Int32) (x_t_place0 : Int32) (x_t_waiting : Int32) (H : Heap) (locs : List Loc) (ls : Array Slot), lv_has ls 1 [(0, .ref A_t)] → va_P D vwCl [oX12 A_t A_t_now A_t_aside A_t_kept A_t_rhymeOf A_t_wasRhyme A_t_wordAt x_t_wordMany A_t_tape x_t_taped x_t_place0 x_t_length0 x_t_fault x_t_number0 x_t_open x_t_codeMany x_t_waiting x_t_saidMany x_t_clauses A_t_said A_t_waitsAt A_t_saidLetter A_t_saidFrom A_t_saidHalf A_t_saidTo A_t_codes A_t_clauseOf A_t_codeFrom A_t_codeHalf A_t_codeTo A_t_stack A_t_facts x_t_lines A_t_newWords A_t_roundFrom A_t_roundAt A_t_roundTimes x_t_newMany x_t_rounds x_t_itFrom x_t_itTimes x_t_writtenNow x_t_picturesNow x_t_usedNow x_t_chosen x_t_fearOfChosen A_t_leastFrom A_t_rowNow x_t_changesNow x_t_left0 A_t_bornOf A_t_trainsTo A_t_trainAt x_t_trainMany x_t_leastTries x_t_firstTrained x_t_isKept, iA cI 260 A_t_said v_t_said, iA cB 260 A_t_tape v_t_tape, iA cI 260 A_t_waitsAt v_t_waitsAt] H → va_D A [oX12 A_t A_t_now A_t_aside A_t_kept A_t_rhymeOf A_t_wasRhyme A_t_wordAt x_t_wordMany A_t_tape x_t_taped x_t_place0 x_t_length0 x_t_fault x_t_number0 x_t_open x_t_codeMany x_t_waiting x_t_saidMany x_t_clauses A_t_said A_t_waitsAt A_t_saidLetter A_t_saidFrom A_t_saidHalf A_t_saidTo A_t_codes A_t_clauseOf A_t_codeFrom A_t_codeHalf A_t_codeTo A_t_stack A_t_facts x_t_lines A_t_newWords A_t_roundFrom A_t_roundAt A_t_roundTimes x_t_newMany x_t_rounds x_t_itFrom x_t_itTimes x_t_writtenNow x_t_picturesNow x_t_usedNow x_t_chosen x_t_fearOfChosen A_t_leastFrom A_t_rowNow x_t_changesNow x_t_left0 A_t_bornOf A_t_trainsTo A_t_trainAt x_t_trainMany x_t_leastTries x_t_firstTrained x_t_isKept, iA cI 260 A_t_said v_t_said, iA cB 260 A_t_tape v_t_tape, iA cI 260 A_t_waitsAt v_t_waitsAt] → va_S A s.heap H locs → f_X12_readsCondition_b58 v_t_tape x_t_length0 (f_X12_readsCondition_b40 v_t_tape x_t_length0 n_40) v_t_said v_t_waitsAt x_t_codeMany x_t_fault x_t_number0 x_t_open x_t_place0 x_t_waiting = some (o_r, o_v_t_said, o_v_t_waitsAt, o_x_t_codeMany, o_x_t_fault, o_x_t_number0, o_x_t_open, o_x_t_place0, o_x_t_waiting) → W p l e { frames := 6, cells := 0, slots := 0, locals := 125 } s m ([.ref A_t] : List Value).toArray below meth c H locs 0 0 (MQ below (PoI D A [oX12 A_t A_t_now A_t_aside A_t_kept A_t_rhymeOf A_t_wasRhyme A_t_wordAt x_t_wordMany A_t_tape x_t_taped o_x_t_place0 x_t_length0 o_x_t_fault o_x_t_number0 o_x_t_open o_x_t_codeMany o_x_t_waiting x_t_saidMany x_t_clauses A_t_said A_t_waitsAt A_t_saidLetter A_t_saidFrom A_t_saidHalf A_t_saidTo A_t_codes A_t_clauseOf A_t_codeFrom A_t_codeHalf A_t_codeTo A_t_stack A_t_facts x_t_lines A_t_newWords A_t_roundFrom A_t_roundAt A_t_roundTimes x_t_newMany x_t_rounds x_t_itFrom x_t_itTimes x_t_writtenNow x_t_picturesNow x_t_usedNow x_t_chosen x_t_fearOfChosen A_t_leastFrom A_t_rowNow x_t_changesNow x_t_left0 A_t_bornOf A_t_trainsTo A_t_trainAt x_t_trainMany x_t_leastTries x_t_firstTrained x_t_isKept, iA cI 260 A_t_said o_v_t_said, iA cB 260 A_t_tape v_t_tape, iA cI 260 A_t_waitsAt o_v_t_waitsAt] o_r) ([.ref A_t] : List Value).toArray s 0 0 A) (F0 m 58 ls []) := by
        intro v_t_said v_t_waitsAt x_t_codeMany x_t_fault x_t_number0 x_t_open x_t_place0 x_t_waiting H locs ls hl hP hD hS hf
        unfold f_X12_readsCondition_b58 at hf
        refine lv_aload_n hx hb dX12_readsCondition_58 rfl (lv_at hl 0 rfl) ?_
        refine lv_aload_n hx hb dX12_readsCondition_59 rfl (lv_at hl 0 rfl) ?_
        obtain ⟨r8, hc9, hf⟩ := bd1_e hf
        refine x_callVI (ws' := [oX12 A_t A_t_now A_t_aside A_t_kept A_t_rhymeOf A_t_wasRhyme A_t_wordAt x_t_wordMany A_t_tape x_t_taped x_t_place0 x_t_length0 x_t_fault x_t_number0 x_t_open x_t_codeMany x_t_waiting x_t_saidMany x_t_clauses A_t_said A_t_waitsAt A_t_saidLetter A_t_saidFrom A_t_saidHalf A_t_saidTo A_t_codes A_t_clauseOf A_t_codeFrom A_t_codeHalf A_t_codeTo A_t_stack A_t_facts x_t_lines A_t_newWords A_t_roundFrom A_t_roundAt A_t_roundTimes x_t_newMany x_t_rounds x_t_itFrom x_t_itTimes x_t_writtenNow x_t_picturesNow x_t_usedNow x_t_chosen x_t_fearOfChosen A_t_leastFrom A_t_rowNow x_t_changesNow x_t_left0 A_t_bornOf A_t_trainsTo A_t_trainAt x_t_trainMany x_t_leastTries x_t_firstTrained x_t_isKept, iA cI 260 A_t_said v_t_said, iA cB 260 A_t_tape v_t_tape, iA cI 260 A_t_waitsAt v_t_waitsAt]) (rest := [.ref A_t]) C hK hP hD hS hA hl mf_X12_156 (c_X12_here hc9) [0, 2] 0 12 rfl rfl rfl rfl rfl rfl rfl rfl rfl rfl (Nat.le_of_ble_eq_true rfl) ⟨Nat.le_of_ble_eq_true rfl, Nat.le_of_ble_eq_true rfl⟩ ⟨Nat.le_refl _, Nat.le_refl _⟩ dX12_readsCondition_60 ?_
        intro H locs hP hD hS
        refine lv_bipush (v := 33) hx hb dX12_readsCondition_63 (by decide) ?_
        refine lv_icmp_ne (tgt := 73) hx hb dX12_readsCondition_65 (by decide) (fun q => ?_) (fun q => ?_)
        · have hf := if_f q hf
          refine lv_bipush (v := 13) hx hb dX12_readsCondition_73 (by decide) ?_
          exact hb_75 v_t_said v_t_waitsAt x_t_codeMany x_t_fault x_t_number0 x_t_open x_t_place0 x_t_waiting (13 : Int32) _ _ ls (lv_sub hl [0] rfl) hP hD hS hf
        · have hf := if_t q hf
          refine lv_bipush (v := 10) hx hb dX12_readsCondition_68 (by decide) ?_
          refine lv_goto (tgt := 75) hx hb dX12_readsCondition_70 (by decide) ?_
          exact hb_75 v_t_said v_t_waitsAt x_t_codeMany x_t_fault x_t_number0 x_t_open x_t_place0 x_t_waiting (10 : Int32) _ _ ls (lv_sub hl [0] rfl) hP hD hS hf
      have hb_215 : ∀ (v_t_said : (Nat → Int32)) (v_t_waitsAt : (Nat → Int32)) (x_t_codeMany : Int32) (x_t_fault : Int32) (x_t_number0 : Int32) (x_t_open : Int32) (x_t_place0 : Int32) (x_t_waiting : Int32) (s1 : Int32) (H : Heap) (locs : List Loc) (ls : Array Slot), lv_has ls 1 [(0, .ref A_t)] → va_P D vwCl [oX12 A_t A_t_now A_t_aside A_t_kept A_t_rhymeOf A_t_wasRhyme A_t_wordAt x_t_wordMany A_t_tape x_t_taped x_t_place0 x_t_length0 x_t_fault x_t_number0 x_t_open x_t_codeMany x_t_waiting x_t_saidMany x_t_clauses A_t_said A_t_waitsAt A_t_saidLetter A_t_saidFrom A_t_saidHalf A_t_saidTo A_t_codes A_t_clauseOf A_t_codeFrom A_t_codeHalf A_t_codeTo A_t_stack A_t_facts x_t_lines A_t_newWords A_t_roundFrom A_t_roundAt A_t_roundTimes x_t_newMany x_t_rounds x_t_itFrom x_t_itTimes x_t_writtenNow x_t_picturesNow x_t_usedNow x_t_chosen x_t_fearOfChosen A_t_leastFrom A_t_rowNow x_t_changesNow x_t_left0 A_t_bornOf A_t_trainsTo A_t_trainAt x_t_trainMany x_t_leastTries x_t_firstTrained x_t_isKept, iA cI 260 A_t_said v_t_said, iA cB 260 A_t_tape v_t_tape, iA cI 260 A_t_waitsAt v_t_waitsAt] H → va_D A [oX12 A_t A_t_now A_t_aside A_t_kept A_t_rhymeOf A_t_wasRhyme A_t_wordAt x_t_wordMany A_t_tape x_t_taped x_t_place0 x_t_length0 x_t_fault x_t_number0 x_t_open x_t_codeMany x_t_waiting x_t_saidMany x_t_clauses A_t_said A_t_waitsAt A_t_saidLetter A_t_saidFrom A_t_saidHalf A_t_saidTo A_t_codes A_t_clauseOf A_t_codeFrom A_t_codeHalf A_t_codeTo A_t_stack A_t_facts x_t_lines A_t_newWords A_t_roundFrom A_t_roundAt A_t_roundTimes x_t_newMany x_t_rounds x_t_itFrom x_t_itTimes x_t_writtenNow x_t_picturesNow x_t_usedNow x_t_chosen x_t_fearOfChosen A_t_leastFrom A_t_rowNow x_t_changesNow x_t_left0 A_t_bornOf A_t_trainsTo A_t_trainAt x_t_trainMany x_t_leastTries x_t_firstTrained x_t_isKept, iA cI 260 A_t_said v_t_said, iA cB 260 A_t_tape v_t_tape, iA cI 260 A_t_waitsAt v_t_waitsAt] → va_S A s.heap H locs → f_X12_readsCondition_b215 (f_X12_readsCondition_b40 v_t_tape x_t_length0 n_40) v_t_said v_t_waitsAt x_t_codeMany x_t_fault x_t_number0 x_t_open x_t_place0 x_t_waiting s1 = some (o_r, o_v_t_said, o_v_t_waitsAt, o_x_t_codeMany, o_x_t_fault, o_x_t_number0, o_x_t_open, o_x_t_place0, o_x_t_waiting) → W p l e { frames := 6, cells := 0, slots := 0, locals := 125 } s m ([.ref A_t] : List Value).toArray below meth c H locs 0 0 (MQ below (PoI D A [oX12 A_t A_t_now A_t_aside A_t_kept A_t_rhymeOf A_t_wasRhyme A_t_wordAt x_t_wordMany A_t_tape x_t_taped o_x_t_place0 x_t_length0 o_x_t_fault o_x_t_number0 o_x_t_open o_x_t_codeMany o_x_t_waiting x_t_saidMany x_t_clauses A_t_said A_t_waitsAt A_t_saidLetter A_t_saidFrom A_t_saidHalf A_t_saidTo A_t_codes A_t_clauseOf A_t_codeFrom A_t_codeHalf A_t_codeTo A_t_stack A_t_facts x_t_lines A_t_newWords A_t_roundFrom A_t_roundAt A_t_roundTimes x_t_newMany x_t_rounds x_t_itFrom x_t_itTimes x_t_writtenNow x_t_picturesNow x_t_usedNow x_t_chosen x_t_fearOfChosen A_t_leastFrom A_t_rowNow x_t_changesNow x_t_left0 A_t_bornOf A_t_trainsTo A_t_trainAt x_t_trainMany x_t_leastTries x_t_firstTrained x_t_isKept, iA cI 260 A_t_said o_v_t_said, iA cB 260 A_t_tape v_t_tape, iA cI 260 A_t_waitsAt o_v_t_waitsAt] o_r) ([.ref A_t] : List Value).toArray s 0 0 A) (F0 m 215 ls [.int s1, .ref A_t]) := by
        intro v_t_said v_t_waitsAt x_t_codeMany x_t_fault x_t_number0 x_t_open x_t_place0 x_t_waiting s1 H locs ls hl hP hD hS hf
        unfold f_X12_readsCondition_b215 at hf
        obtain ⟨w10, w11, w12, w13, w14, hc15, hf⟩ := bd5_e hf
        refine x_callVV (ws' := [oX12 A_t A_t_now A_t_aside A_t_kept A_t_rhymeOf A_t_wasRhyme A_t_wordAt x_t_wordMany A_t_tape x_t_taped w13 x_t_length0 x_t_fault x_t_number0 x_t_open w12 w14 x_t_saidMany x_t_clauses A_t_said A_t_waitsAt A_t_saidLetter A_t_saidFrom A_t_saidHalf A_t_saidTo A_t_codes A_t_clauseOf A_t_codeFrom A_t_codeHalf A_t_codeTo A_t_stack A_t_facts x_t_lines A_t_newWords A_t_roundFrom A_t_roundAt A_t_roundTimes x_t_newMany x_t_rounds x_t_itFrom x_t_itTimes x_t_writtenNow x_t_picturesNow x_t_usedNow x_t_chosen x_t_fearOfChosen A_t_leastFrom A_t_rowNow x_t_changesNow x_t_left0 A_t_bornOf A_t_trainsTo A_t_trainAt x_t_trainMany x_t_leastTries x_t_firstTrained x_t_isKept, iA cI 260 A_t_said w10, iA cB 260 A_t_tape v_t_tape, iA cI 260 A_t_waitsAt w11]) (rest := []) C hK hP hD hS hA hl mf_X12_224 (c_X12_jumps hc15) [0, 1, 3] 0 12 rfl rfl rfl rfl rfl rfl rfl rfl rfl rfl (Nat.le_of_ble_eq_true rfl) ⟨Nat.le_of_ble_eq_true rfl, Nat.le_of_ble_eq_true rfl⟩ ⟨Nat.le_refl _, Nat.le_refl _⟩ dX12_readsCondition_215 ?_
        intro H locs hP hD hS
        refine lv_goto (tgt := 40) hx hb dX12_readsCondition_218 (by decide) ?_
        exact ih_40 w10 w11 w12 x_t_fault x_t_number0 x_t_open w13 w14 _ _ ls (lv_sub hl [0] rfl) hP hD hS hf
      have hb_195 : ∀ (v_t_said : (Nat → Int32)) (v_t_waitsAt : (Nat → Int32)) (x_t_codeMany : Int32) (x_t_fault : Int32) (x_t_number0 : Int32) (x_t_open : Int32) (x_t_place0 : Int32) (x_t_waiting : Int32) (s1 : Int32) (H : Heap) (locs : List Loc) (ls : Array Slot), lv_has ls 1 [(0, .ref A_t)] → va_P D vwCl [oX12 A_t A_t_now A_t_aside A_t_kept A_t_rhymeOf A_t_wasRhyme A_t_wordAt x_t_wordMany A_t_tape x_t_taped x_t_place0 x_t_length0 x_t_fault x_t_number0 x_t_open x_t_codeMany x_t_waiting x_t_saidMany x_t_clauses A_t_said A_t_waitsAt A_t_saidLetter A_t_saidFrom A_t_saidHalf A_t_saidTo A_t_codes A_t_clauseOf A_t_codeFrom A_t_codeHalf A_t_codeTo A_t_stack A_t_facts x_t_lines A_t_newWords A_t_roundFrom A_t_roundAt A_t_roundTimes x_t_newMany x_t_rounds x_t_itFrom x_t_itTimes x_t_writtenNow x_t_picturesNow x_t_usedNow x_t_chosen x_t_fearOfChosen A_t_leastFrom A_t_rowNow x_t_changesNow x_t_left0 A_t_bornOf A_t_trainsTo A_t_trainAt x_t_trainMany x_t_leastTries x_t_firstTrained x_t_isKept, iA cI 260 A_t_said v_t_said, iA cB 260 A_t_tape v_t_tape, iA cI 260 A_t_waitsAt v_t_waitsAt] H → va_D A [oX12 A_t A_t_now A_t_aside A_t_kept A_t_rhymeOf A_t_wasRhyme A_t_wordAt x_t_wordMany A_t_tape x_t_taped x_t_place0 x_t_length0 x_t_fault x_t_number0 x_t_open x_t_codeMany x_t_waiting x_t_saidMany x_t_clauses A_t_said A_t_waitsAt A_t_saidLetter A_t_saidFrom A_t_saidHalf A_t_saidTo A_t_codes A_t_clauseOf A_t_codeFrom A_t_codeHalf A_t_codeTo A_t_stack A_t_facts x_t_lines A_t_newWords A_t_roundFrom A_t_roundAt A_t_roundTimes x_t_newMany x_t_rounds x_t_itFrom x_t_itTimes x_t_writtenNow x_t_picturesNow x_t_usedNow x_t_chosen x_t_fearOfChosen A_t_leastFrom A_t_rowNow x_t_changesNow x_t_left0 A_t_bornOf A_t_trainsTo A_t_trainAt x_t_trainMany x_t_leastTries x_t_firstTrained x_t_isKept, iA cI 260 A_t_said v_t_said, iA cB 260 A_t_tape v_t_tape, iA cI 260 A_t_waitsAt v_t_waitsAt] → va_S A s.heap H locs → f_X12_readsCondition_b195 v_t_tape x_t_length0 (f_X12_readsCondition_b40 v_t_tape x_t_length0 n_40) v_t_said v_t_waitsAt x_t_codeMany x_t_fault x_t_number0 x_t_open x_t_place0 x_t_waiting s1 = some (o_r, o_v_t_said, o_v_t_waitsAt, o_x_t_codeMany, o_x_t_fault, o_x_t_number0, o_x_t_open, o_x_t_place0, o_x_t_waiting) → W p l e { frames := 6, cells := 0, slots := 0, locals := 125 } s m ([.ref A_t] : List Value).toArray below meth c H locs 0 0 (MQ below (PoI D A [oX12 A_t A_t_now A_t_aside A_t_kept A_t_rhymeOf A_t_wasRhyme A_t_wordAt x_t_wordMany A_t_tape x_t_taped o_x_t_place0 x_t_length0 o_x_t_fault o_x_t_number0 o_x_t_open o_x_t_codeMany o_x_t_waiting x_t_saidMany x_t_clauses A_t_said A_t_waitsAt A_t_saidLetter A_t_saidFrom A_t_saidHalf A_t_saidTo A_t_codes A_t_clauseOf A_t_codeFrom A_t_codeHalf A_t_codeTo A_t_stack A_t_facts x_t_lines A_t_newWords A_t_roundFrom A_t_roundAt A_t_roundTimes x_t_newMany x_t_rounds x_t_itFrom x_t_itTimes x_t_writtenNow x_t_picturesNow x_t_usedNow x_t_chosen x_t_fearOfChosen A_t_leastFrom A_t_rowNow x_t_changesNow x_t_left0 A_t_bornOf A_t_trainsTo A_t_trainAt x_t_trainMany x_t_leastTries x_t_firstTrained x_t_isKept, iA cI 260 A_t_said o_v_t_said, iA cB 260 A_t_tape v_t_tape, iA cI 260 A_t_waitsAt o_v_t_waitsAt] o_r) ([.ref A_t] : List Value).toArray s 0 0 A) (F0 m 195 ls [.int s1, .ref A_t]) := by
        intro v_t_said v_t_waitsAt x_t_codeMany x_t_fault x_t_number0 x_t_open x_t_place0 x_t_waiting s1 H locs ls hl hP hD hS hf
        unfold f_X12_readsCondition_b195 at hf
        obtain ⟨w16, w17, hc18, hf⟩ := bd2_e hf
        refine x_callVV (ws' := [oX12 A_t A_t_now A_t_aside A_t_kept A_t_rhymeOf A_t_wasRhyme A_t_wordAt x_t_wordMany A_t_tape x_t_taped x_t_place0 x_t_length0 x_t_fault x_t_number0 x_t_open x_t_codeMany w17 x_t_saidMany x_t_clauses A_t_said A_t_waitsAt A_t_saidLetter A_t_saidFrom A_t_saidHalf A_t_saidTo A_t_codes A_t_clauseOf A_t_codeFrom A_t_codeHalf A_t_codeTo A_t_stack A_t_facts x_t_lines A_t_newWords A_t_roundFrom A_t_roundAt A_t_roundTimes x_t_newMany x_t_rounds x_t_itFrom x_t_itTimes x_t_writtenNow x_t_picturesNow x_t_usedNow x_t_chosen x_t_fearOfChosen A_t_leastFrom A_t_rowNow x_t_changesNow x_t_left0 A_t_bornOf A_t_trainsTo A_t_trainAt x_t_trainMany x_t_leastTries x_t_firstTrained x_t_isKept, iA cI 260 A_t_said w16, iA cB 260 A_t_tape v_t_tape, iA cI 260 A_t_waitsAt v_t_waitsAt]) (rest := []) C hK hP hD hS hA hl mf_X12_221 (c_X12_lands hc18) [0, 1, 3] 0 12 rfl rfl rfl rfl rfl rfl rfl rfl rfl rfl (Nat.le_of_ble_eq_true rfl) ⟨Nat.le_of_ble_eq_true rfl, Nat.le_of_ble_eq_true rfl⟩ ⟨Nat.le_refl _, Nat.le_refl _⟩ dX12_readsCondition_195 ?_
        intro H locs hP hD hS
        refine lv_aload_n hx hb dX12_readsCondition_198 rfl (lv_at hl 0 rfl) ?_
        refine lv_aload_n hx hb dX12_readsCondition_199 rfl (lv_at hl 0 rfl) ?_
        obtain ⟨r19, hc20, hf⟩ := bd1_e hf
        refine x_callVI (ws' := [oX12 A_t A_t_now A_t_aside A_t_kept A_t_rhymeOf A_t_wasRhyme A_t_wordAt x_t_wordMany A_t_tape x_t_taped x_t_place0 x_t_length0 x_t_fault x_t_number0 x_t_open x_t_codeMany w17 x_t_saidMany x_t_clauses A_t_said A_t_waitsAt A_t_saidLetter A_t_saidFrom A_t_saidHalf A_t_saidTo A_t_codes A_t_clauseOf A_t_codeFrom A_t_codeHalf A_t_codeTo A_t_stack A_t_facts x_t_lines A_t_newWords A_t_roundFrom A_t_roundAt A_t_roundTimes x_t_newMany x_t_rounds x_t_itFrom x_t_itTimes x_t_writtenNow x_t_picturesNow x_t_usedNow x_t_chosen x_t_fearOfChosen A_t_leastFrom A_t_rowNow x_t_changesNow x_t_left0 A_t_bornOf A_t_trainsTo A_t_trainAt x_t_trainMany x_t_leastTries x_t_firstTrained x_t_isKept, iA cI 260 A_t_said w16, iA cB 260 A_t_tape v_t_tape, iA cI 260 A_t_waitsAt v_t_waitsAt]) (rest := [.ref A_t]) C hK hP hD hS hA hl mf_X12_156 (c_X12_here hc20) [0, 2] 0 12 rfl rfl rfl rfl rfl rfl rfl rfl rfl rfl (Nat.le_of_ble_eq_true rfl) ⟨Nat.le_of_ble_eq_true rfl, Nat.le_of_ble_eq_true rfl⟩ ⟨Nat.le_refl _, Nat.le_refl _⟩ dX12_readsCondition_200 ?_
        intro H locs hP hD hS
        refine lv_bipush (v := 38) hx hb dX12_readsCondition_203 (by decide) ?_
        refine lv_icmp_ne (tgt := 213) hx hb dX12_readsCondition_205 (by decide) (fun q => ?_) (fun q => ?_)
        · have hf := if_f q hf
          refine lv_bipush (v := 12) hx hb dX12_readsCondition_213 (by decide) ?_
          exact hb_215 w16 v_t_waitsAt x_t_codeMany x_t_fault x_t_number0 x_t_open x_t_place0 w17 (12 : Int32) _ _ ls (lv_sub hl [0] rfl) hP hD hS hf
        · have hf := if_t q hf
          refine lv_bipush (v := 11) hx hb dX12_readsCondition_208 (by decide) ?_
          refine lv_goto (tgt := 215) hx hb dX12_readsCondition_210 (by decide) ?_
          exact hb_215 w16 v_t_waitsAt x_t_codeMany x_t_fault x_t_number0 x_t_open x_t_place0 w17 (11 : Int32) _ _ ls (lv_sub hl [0] rfl) hP hD hS hf
      have hb_180 : ∀ (v_t_said : (Nat → Int32)) (v_t_waitsAt : (Nat → Int32)) (x_t_codeMany : Int32) (x_t_fault : Int32) (x_t_number0 : Int32) (x_t_open : Int32) (x_t_place0 : Int32) (x_t_waiting : Int32) (H : Heap) (locs : List Loc) (ls : Array Slot), lv_has ls 1 [(0, .ref A_t)] → va_P D vwCl [oX12 A_t A_t_now A_t_aside A_t_kept A_t_rhymeOf A_t_wasRhyme A_t_wordAt x_t_wordMany A_t_tape x_t_taped x_t_place0 x_t_length0 x_t_fault x_t_number0 x_t_open x_t_codeMany x_t_waiting x_t_saidMany x_t_clauses A_t_said A_t_waitsAt A_t_saidLetter A_t_saidFrom A_t_saidHalf A_t_saidTo A_t_codes A_t_clauseOf A_t_codeFrom A_t_codeHalf A_t_codeTo A_t_stack A_t_facts x_t_lines A_t_newWords A_t_roundFrom A_t_roundAt A_t_roundTimes x_t_newMany x_t_rounds x_t_itFrom x_t_itTimes x_t_writtenNow x_t_picturesNow x_t_usedNow x_t_chosen x_t_fearOfChosen A_t_leastFrom A_t_rowNow x_t_changesNow x_t_left0 A_t_bornOf A_t_trainsTo A_t_trainAt x_t_trainMany x_t_leastTries x_t_firstTrained x_t_isKept, iA cI 260 A_t_said v_t_said, iA cB 260 A_t_tape v_t_tape, iA cI 260 A_t_waitsAt v_t_waitsAt] H → va_D A [oX12 A_t A_t_now A_t_aside A_t_kept A_t_rhymeOf A_t_wasRhyme A_t_wordAt x_t_wordMany A_t_tape x_t_taped x_t_place0 x_t_length0 x_t_fault x_t_number0 x_t_open x_t_codeMany x_t_waiting x_t_saidMany x_t_clauses A_t_said A_t_waitsAt A_t_saidLetter A_t_saidFrom A_t_saidHalf A_t_saidTo A_t_codes A_t_clauseOf A_t_codeFrom A_t_codeHalf A_t_codeTo A_t_stack A_t_facts x_t_lines A_t_newWords A_t_roundFrom A_t_roundAt A_t_roundTimes x_t_newMany x_t_rounds x_t_itFrom x_t_itTimes x_t_writtenNow x_t_picturesNow x_t_usedNow x_t_chosen x_t_fearOfChosen A_t_leastFrom A_t_rowNow x_t_changesNow x_t_left0 A_t_bornOf A_t_trainsTo A_t_trainAt x_t_trainMany x_t_leastTries x_t_firstTrained x_t_isKept, iA cI 260 A_t_said v_t_said, iA cB 260 A_t_tape v_t_tape, iA cI 260 A_t_waitsAt v_t_waitsAt] → va_S A s.heap H locs → f_X12_readsCondition_b180 v_t_tape x_t_length0 (f_X12_readsCondition_b40 v_t_tape x_t_length0 n_40) v_t_said v_t_waitsAt x_t_codeMany x_t_fault x_t_number0 x_t_open x_t_place0 x_t_waiting = some (o_r, o_v_t_said, o_v_t_waitsAt, o_x_t_codeMany, o_x_t_fault, o_x_t_number0, o_x_t_open, o_x_t_place0, o_x_t_waiting) → W p l e { frames := 6, cells := 0, slots := 0, locals := 125 } s m ([.ref A_t] : List Value).toArray below meth c H locs 0 0 (MQ below (PoI D A [oX12 A_t A_t_now A_t_aside A_t_kept A_t_rhymeOf A_t_wasRhyme A_t_wordAt x_t_wordMany A_t_tape x_t_taped o_x_t_place0 x_t_length0 o_x_t_fault o_x_t_number0 o_x_t_open o_x_t_codeMany o_x_t_waiting x_t_saidMany x_t_clauses A_t_said A_t_waitsAt A_t_saidLetter A_t_saidFrom A_t_saidHalf A_t_saidTo A_t_codes A_t_clauseOf A_t_codeFrom A_t_codeHalf A_t_codeTo A_t_stack A_t_facts x_t_lines A_t_newWords A_t_roundFrom A_t_roundAt A_t_roundTimes x_t_newMany x_t_rounds x_t_itFrom x_t_itTimes x_t_writtenNow x_t_picturesNow x_t_usedNow x_t_chosen x_t_fearOfChosen A_t_leastFrom A_t_rowNow x_t_changesNow x_t_left0 A_t_bornOf A_t_trainsTo A_t_trainAt x_t_trainMany x_t_leastTries x_t_firstTrained x_t_isKept, iA cI 260 A_t_said o_v_t_said, iA cB 260 A_t_tape v_t_tape, iA cI 260 A_t_waitsAt o_v_t_waitsAt] o_r) ([.ref A_t] : List Value).toArray s 0 0 A) (F0 m 180 ls []) := by
        intro v_t_said v_t_waitsAt x_t_codeMany x_t_fault x_t_number0 x_t_open x_t_place0 x_t_waiting H locs ls hl hP hD hS hf
        unfold f_X12_readsCondition_b180 at hf
        refine lv_aload_n hx hb dX12_readsCondition_180 rfl (lv_at hl 0 rfl) ?_
        refine lv_aload_n hx hb dX12_readsCondition_181 rfl (lv_at hl 0 rfl) ?_
        obtain ⟨r21, hc22, hf⟩ := bd1_e hf
        refine x_callVI (ws' := [oX12 A_t A_t_now A_t_aside A_t_kept A_t_rhymeOf A_t_wasRhyme A_t_wordAt x_t_wordMany A_t_tape x_t_taped x_t_place0 x_t_length0 x_t_fault x_t_number0 x_t_open x_t_codeMany x_t_waiting x_t_saidMany x_t_clauses A_t_said A_t_waitsAt A_t_saidLetter A_t_saidFrom A_t_saidHalf A_t_saidTo A_t_codes A_t_clauseOf A_t_codeFrom A_t_codeHalf A_t_codeTo A_t_stack A_t_facts x_t_lines A_t_newWords A_t_roundFrom A_t_roundAt A_t_roundTimes x_t_newMany x_t_rounds x_t_itFrom x_t_itTimes x_t_writtenNow x_t_picturesNow x_t_usedNow x_t_chosen x_t_fearOfChosen A_t_leastFrom A_t_rowNow x_t_changesNow x_t_left0 A_t_bornOf A_t_trainsTo A_t_trainAt x_t_trainMany x_t_leastTries x_t_firstTrained x_t_isKept, iA cI 260 A_t_said v_t_said, iA cB 260 A_t_tape v_t_tape, iA cI 260 A_t_waitsAt v_t_waitsAt]) (rest := [.ref A_t]) C hK hP hD hS hA hl mf_X12_156 (c_X12_here hc22) [0, 2] 0 12 rfl rfl rfl rfl rfl rfl rfl rfl rfl rfl (Nat.le_of_ble_eq_true rfl) ⟨Nat.le_of_ble_eq_true rfl, Nat.le_of_ble_eq_true rfl⟩ ⟨Nat.le_refl _, Nat.le_refl _⟩ dX12_readsCondition_182 ?_
        intro H locs hP hD hS
        refine lv_bipush (v := 124) hx hb dX12_readsCondition_185 (by decide) ?_
        refine lv_icmp_ne (tgt := 194) hx hb dX12_readsCondition_187 (by decide) (fun q => ?_) (fun q => ?_)
        · have hf := if_f q hf
          refine lv_iconst (v := 0) hx hb dX12_readsCondition_194 (by decide) ?_
          exact hb_195 v_t_said v_t_waitsAt x_t_codeMany x_t_fault x_t_number0 x_t_open x_t_place0 x_t_waiting (0 : Int32) _ _ ls (lv_sub hl [0] rfl) hP hD hS hf
        · have hf := if_t q hf
          refine lv_iconst (v := 1) hx hb dX12_readsCondition_190 (by decide) ?_
          refine lv_goto (tgt := 195) hx hb dX12_readsCondition_191 (by decide) ?_
          exact hb_195 v_t_said v_t_waitsAt x_t_codeMany x_t_fault x_t_number0 x_t_open x_t_place0 x_t_waiting (1 : Int32) _ _ ls (lv_sub hl [0] rfl) hP hD hS hf
      have hb_92 : ∀ (n_92 : Nat) (v_t_said : (Nat → Int32)) (v_t_waitsAt : (Nat → Int32)) (x_t_codeMany : Int32) (x_t_fault : Int32) (x_t_number0 : Int32) (x_t_open : Int32) (x_t_place0 : Int32) (x_t_waiting : Int32) (H : Heap) (locs : List Loc) (ls : Array Slot), lv_has ls 1 [(0, .ref A_t)] → va_P D vwCl [oX12 A_t A_t_now A_t_aside A_t_kept A_t_rhymeOf A_t_wasRhyme A_t_wordAt x_t_wordMany A_t_tape x_t_taped x_t_place0 x_t_length0 x_t_fault x_t_number0 x_t_open x_t_codeMany x_t_waiting x_t_saidMany x_t_clauses A_t_said A_t_waitsAt A_t_saidLetter A_t_saidFrom A_t_saidHalf A_t_saidTo A_t_codes A_t_clauseOf A_t_codeFrom A_t_codeHalf A_t_codeTo A_t_stack A_t_facts x_t_lines A_t_newWords A_t_roundFrom A_t_roundAt A_t_roundTimes x_t_newMany x_t_rounds x_t_itFrom x_t_itTimes x_t_writtenNow x_t_picturesNow x_t_usedNow x_t_chosen x_t_fearOfChosen A_t_leastFrom A_t_rowNow x_t_changesNow x_t_left0 A_t_bornOf A_t_trainsTo A_t_trainAt x_t_trainMany x_t_leastTries x_t_firstTrained x_t_isKept, iA cI 260 A_t_said v_t_said, iA cB 260 A_t_tape v_t_tape, iA cI 260 A_t_waitsAt v_t_waitsAt] H → va_D A [oX12 A_t A_t_now A_t_aside A_t_kept A_t_rhymeOf A_t_wasRhyme A_t_wordAt x_t_wordMany A_t_tape x_t_taped x_t_place0 x_t_length0 x_t_fault x_t_number0 x_t_open x_t_codeMany x_t_waiting x_t_saidMany x_t_clauses A_t_said A_t_waitsAt A_t_saidLetter A_t_saidFrom A_t_saidHalf A_t_saidTo A_t_codes A_t_clauseOf A_t_codeFrom A_t_codeHalf A_t_codeTo A_t_stack A_t_facts x_t_lines A_t_newWords A_t_roundFrom A_t_roundAt A_t_roundTimes x_t_newMany x_t_rounds x_t_itFrom x_t_itTimes x_t_writtenNow x_t_picturesNow x_t_usedNow x_t_chosen x_t_fearOfChosen A_t_leastFrom A_t_rowNow x_t_changesNow x_t_left0 A_t_bornOf A_t_trainsTo A_t_trainAt x_t_trainMany x_t_leastTries x_t_firstTrained x_t_isKept, iA cI 260 A_t_said v_t_said, iA cB 260 A_t_tape v_t_tape, iA cI 260 A_t_waitsAt v_t_waitsAt] → va_S A s.heap H locs → f_X12_readsCondition_b92 v_t_tape x_t_length0 (f_X12_readsCondition_b40 v_t_tape x_t_length0 n_40) n_92 v_t_said v_t_waitsAt x_t_codeMany x_t_fault x_t_number0 x_t_open x_t_place0 x_t_waiting = some (o_r, o_v_t_said, o_v_t_waitsAt, o_x_t_codeMany, o_x_t_fault, o_x_t_number0, o_x_t_open, o_x_t_place0, o_x_t_waiting) → W p l e { frames := 6, cells := 0, slots := 0, locals := 125 } s m ([.ref A_t] : List Value).toArray below meth c H locs 0 0 (MQ below (PoI D A [oX12 A_t A_t_now A_t_aside A_t_kept A_t_rhymeOf A_t_wasRhyme A_t_wordAt x_t_wordMany A_t_tape x_t_taped o_x_t_place0 x_t_length0 o_x_t_fault o_x_t_number0 o_x_t_open o_x_t_codeMany o_x_t_waiting x_t_saidMany x_t_clauses A_t_said A_t_waitsAt A_t_saidLetter A_t_saidFrom A_t_saidHalf A_t_saidTo A_t_codes A_t_clauseOf A_t_codeFrom A_t_codeHalf A_t_codeTo A_t_stack A_t_facts x_t_lines A_t_newWords A_t_roundFrom A_t_roundAt A_t_roundTimes x_t_newMany x_t_rounds x_t_itFrom x_t_itTimes x_t_writtenNow x_t_picturesNow x_t_usedNow x_t_chosen x_t_fearOfChosen A_t_leastFrom A_t_rowNow x_t_changesNow x_t_left0 A_t_bornOf A_t_trainsTo A_t_trainAt x_t_trainMany x_t_leastTries x_t_firstTrained x_t_isKept, iA cI 260 A_t_said o_v_t_said, iA cB 260 A_t_tape v_t_tape, iA cI 260 A_t_waitsAt o_v_t_waitsAt] o_r) ([.ref A_t] : List Value).toArray s 0 0 A) (F0 m 92 ls []) := by
        intro n_92
        induction n_92 with
        | zero =>
          intro v_t_said v_t_waitsAt x_t_codeMany x_t_fault x_t_number0 x_t_open x_t_place0 x_t_waiting H locs ls hl hP hD hS hf
          exact absurd hf (fun h => by rw [f_X12_readsCondition_b92] at h; cases h)
        | succ n_92 ih_92 =>
          intro v_t_said v_t_waitsAt x_t_codeMany x_t_fault x_t_number0 x_t_open x_t_place0 x_t_waiting H locs ls hl hP hD hS hf
          rw [f_X12_readsCondition_b92] at hf
          refine lv_aload_n hx hb dX12_readsCondition_92 rfl (lv_at hl 0 rfl) ?_
          obtain ⟨r23, hc24, hf⟩ := bd1_e hf
          refine x_callVI (ws' := [oX12 A_t A_t_now A_t_aside A_t_kept A_t_rhymeOf A_t_wasRhyme A_t_wordAt x_t_wordMany A_t_tape x_t_taped x_t_place0 x_t_length0 x_t_fault x_t_number0 x_t_open x_t_codeMany x_t_waiting x_t_saidMany x_t_clauses A_t_said A_t_waitsAt A_t_saidLetter A_t_saidFrom A_t_saidHalf A_t_saidTo A_t_codes A_t_clauseOf A_t_codeFrom A_t_codeHalf A_t_codeTo A_t_stack A_t_facts x_t_lines A_t_newWords A_t_roundFrom A_t_roundAt A_t_roundTimes x_t_newMany x_t_rounds x_t_itFrom x_t_itTimes x_t_writtenNow x_t_picturesNow x_t_usedNow x_t_chosen x_t_fearOfChosen A_t_leastFrom A_t_rowNow x_t_changesNow x_t_left0 A_t_bornOf A_t_trainsTo A_t_trainAt x_t_trainMany x_t_leastTries x_t_firstTrained x_t_isKept, iA cI 260 A_t_said v_t_said, iA cB 260 A_t_tape v_t_tape, iA cI 260 A_t_waitsAt v_t_waitsAt]) (rest := []) C hK hP hD hS hA hl mf_X12_156 (c_X12_here hc24) [0, 2] 0 12 rfl rfl rfl rfl rfl rfl rfl rfl rfl rfl (Nat.le_of_ble_eq_true rfl) ⟨Nat.le_of_ble_eq_true rfl, Nat.le_of_ble_eq_true rfl⟩ ⟨Nat.le_refl _, Nat.le_refl _⟩ dX12_readsCondition_93 ?_
          intro H locs hP hD hS
          refine lv_bipush (v := 41) hx hb dX12_readsCondition_96 (by decide) ?_
          refine lv_icmp_ne (tgt := 152) hx hb dX12_readsCondition_98 (by decide) (fun q => ?_) (fun q => ?_)
          · have hf := if_f q hf
            refine lv_aload_n hx hb dX12_readsCondition_152 rfl (lv_at hl 0 rfl) ?_
            obtain ⟨r25, hc26, hf⟩ := bd1_e hf
            refine x_callVI (ws' := [oX12 A_t A_t_now A_t_aside A_t_kept A_t_rhymeOf A_t_wasRhyme A_t_wordAt x_t_wordMany A_t_tape x_t_taped x_t_place0 x_t_length0 x_t_fault x_t_number0 x_t_open x_t_codeMany x_t_waiting x_t_saidMany x_t_clauses A_t_said A_t_waitsAt A_t_saidLetter A_t_saidFrom A_t_saidHalf A_t_saidTo A_t_codes A_t_clauseOf A_t_codeFrom A_t_codeHalf A_t_codeTo A_t_stack A_t_facts x_t_lines A_t_newWords A_t_roundFrom A_t_roundAt A_t_roundTimes x_t_newMany x_t_rounds x_t_itFrom x_t_itTimes x_t_writtenNow x_t_picturesNow x_t_usedNow x_t_chosen x_t_fearOfChosen A_t_leastFrom A_t_rowNow x_t_changesNow x_t_left0 A_t_bornOf A_t_trainsTo A_t_trainAt x_t_trainMany x_t_leastTries x_t_firstTrained x_t_isKept, iA cI 260 A_t_said v_t_said, iA cB 260 A_t_tape v_t_tape, iA cI 260 A_t_waitsAt v_t_waitsAt]) (rest := []) C hK hP hD hS hA hl mf_X12_156 (c_X12_here hc26) [0, 2] 0 12 rfl rfl rfl rfl rfl rfl rfl rfl rfl rfl (Nat.le_of_ble_eq_true rfl) ⟨Nat.le_of_ble_eq_true rfl, Nat.le_of_ble_eq_true rfl⟩ ⟨Nat.le_refl _, Nat.le_refl _⟩ dX12_readsCondition_153 ?_
            intro H locs hP hD hS
            refine lv_bipush (v := 38) hx hb dX12_readsCondition_156 (by decide) ?_
            refine lv_icmp_eq (tgt := 180) hx hb dX12_readsCondition_158 (by decide) (fun q => ?_) (fun q => ?_)
            · have hf := if_t q hf
              exact hb_180 v_t_said v_t_waitsAt x_t_codeMany x_t_fault x_t_number0 x_t_open x_t_place0 x_t_waiting _ _ ls (lv_sub hl [0] rfl) hP hD hS hf
            · have hf := if_f q hf
              refine lv_aload_n hx hb dX12_readsCondition_161 rfl (lv_at hl 0 rfl) ?_
              obtain ⟨r27, hc28, hf⟩ := bd1_e hf
              refine x_callVI (ws' := [oX12 A_t A_t_now A_t_aside A_t_kept A_t_rhymeOf A_t_wasRhyme A_t_wordAt x_t_wordMany A_t_tape x_t_taped x_t_place0 x_t_length0 x_t_fault x_t_number0 x_t_open x_t_codeMany x_t_waiting x_t_saidMany x_t_clauses A_t_said A_t_waitsAt A_t_saidLetter A_t_saidFrom A_t_saidHalf A_t_saidTo A_t_codes A_t_clauseOf A_t_codeFrom A_t_codeHalf A_t_codeTo A_t_stack A_t_facts x_t_lines A_t_newWords A_t_roundFrom A_t_roundAt A_t_roundTimes x_t_newMany x_t_rounds x_t_itFrom x_t_itTimes x_t_writtenNow x_t_picturesNow x_t_usedNow x_t_chosen x_t_fearOfChosen A_t_leastFrom A_t_rowNow x_t_changesNow x_t_left0 A_t_bornOf A_t_trainsTo A_t_trainAt x_t_trainMany x_t_leastTries x_t_firstTrained x_t_isKept, iA cI 260 A_t_said v_t_said, iA cB 260 A_t_tape v_t_tape, iA cI 260 A_t_waitsAt v_t_waitsAt]) (rest := []) C hK hP hD hS hA hl mf_X12_156 (c_X12_here hc28) [0, 2] 0 12 rfl rfl rfl rfl rfl rfl rfl rfl rfl rfl (Nat.le_of_ble_eq_true rfl) ⟨Nat.le_of_ble_eq_true rfl, Nat.le_of_ble_eq_true rfl⟩ ⟨Nat.le_refl _, Nat.le_refl _⟩ dX12_readsCondition_162 ?_
              intro H locs hP hD hS
              refine lv_bipush (v := 124) hx hb dX12_readsCondition_165 (by decide) ?_
              refine lv_icmp_eq (tgt := 180) hx hb dX12_readsCondition_167 (by decide) (fun q => ?_) (fun q => ?_)
              · have hf := if_t q hf
                exact hb_180 v_t_said v_t_waitsAt x_t_codeMany x_t_fault x_t_number0 x_t_open x_t_place0 x_t_waiting _ _ ls (lv_sub hl [0] rfl) hP hD hS hf
              · have hf := if_f q hf
                refine lv_aload_n hx hb dX12_readsCondition_170 rfl (lv_at hl 0 rfl) ?_
                refine lv_iconst (v := 1) hx hb dX12_readsCondition_171 (by decide) ?_
                refine lv_aload_n hx hb dX12_readsCondition_172 rfl (lv_at hl 0 rfl) ?_
                refine x_get C hK hP fd_X12_150 0 rfl rfl dX12_readsCondition_173 ?_
                obtain ⟨r29, w30, hc31, hf⟩ := bd2_e hf
                refine x_callVI (ws' := [oX12 A_t A_t_now A_t_aside A_t_kept A_t_rhymeOf A_t_wasRhyme A_t_wordAt x_t_wordMany A_t_tape x_t_taped x_t_place0 x_t_length0 w30 x_t_number0 x_t_open x_t_codeMany x_t_waiting x_t_saidMany x_t_clauses A_t_said A_t_waitsAt A_t_saidLetter A_t_saidFrom A_t_saidHalf A_t_saidTo A_t_codes A_t_clauseOf A_t_codeFrom A_t_codeHalf A_t_codeTo A_t_stack A_t_facts x_t_lines A_t_newWords A_t_roundFrom A_t_roundAt A_t_roundTimes x_t_newMany x_t_rounds x_t_itFrom x_t_itTimes x_t_writtenNow x_t_picturesNow x_t_usedNow x_t_chosen x_t_fearOfChosen A_t_leastFrom A_t_rowNow x_t_changesNow x_t_left0 A_t_bornOf A_t_trainsTo A_t_trainAt x_t_trainMany x_t_leastTries x_t_firstTrained x_t_isKept, iA cI 260 A_t_said v_t_said, iA cB 260 A_t_tape v_t_tape, iA cI 260 A_t_waitsAt v_t_waitsAt]) (rest := []) C hK hP hD hS hA hl mf_X12_163 (c_X12_wrongAt hc31) [0] 0 12 rfl rfl rfl rfl rfl rfl rfl rfl rfl rfl (Nat.le_of_ble_eq_true rfl) ⟨Nat.le_of_ble_eq_true rfl, Nat.le_of_ble_eq_true rfl⟩ ⟨Nat.le_refl _, Nat.le_refl _⟩ dX12_readsCondition_176 ?_
                intro H locs hP hD hS
                obtain ⟨hz, hf⟩ := zI_e hf
                obtain ⟨rfl, rfl, rfl, rfl, rfl, rfl, rfl, rfl, rfl⟩ := ev9 hf
                exact x_zret C hr hlk hz hP hD hS dX12_readsCondition_179
          · have hf := if_t q hf
            refine lv_aload_n hx hb dX12_readsCondition_101 rfl (lv_at hl 0 rfl) ?_
            refine lv_iconst (v := 1) hx hb dX12_readsCondition_102 (by decide) ?_
            obtain ⟨w32, w33, hc34, hf⟩ := bd2_e hf
            refine x_callVV (ws' := [oX12 A_t A_t_now A_t_aside A_t_kept A_t_rhymeOf A_t_wasRhyme A_t_wordAt x_t_wordMany A_t_tape x_t_taped x_t_place0 x_t_length0 x_t_fault x_t_number0 x_t_open x_t_codeMany w33 x_t_saidMany x_t_clauses A_t_said A_t_waitsAt A_t_saidLetter A_t_saidFrom A_t_saidHalf A_t_saidTo A_t_codes A_t_clauseOf A_t_codeFrom A_t_codeHalf A_t_codeTo A_t_stack A_t_facts x_t_lines A_t_newWords A_t_roundFrom A_t_roundAt A_t_roundTimes x_t_newMany x_t_rounds x_t_itFrom x_t_itTimes x_t_writtenNow x_t_picturesNow x_t_usedNow x_t_chosen x_t_fearOfChosen A_t_leastFrom A_t_rowNow x_t_changesNow x_t_left0 A_t_bornOf A_t_trainsTo A_t_trainAt x_t_trainMany x_t_leastTries x_t_firstTrained x_t_isKept, iA cI 260 A_t_said w32, iA cB 260 A_t_tape v_t_tape, iA cI 260 A_t_waitsAt v_t_waitsAt]) (rest := []) C hK hP hD hS hA hl mf_X12_221 (c_X12_lands hc34) [0, 1, 3] 0 12 rfl rfl rfl rfl rfl rfl rfl rfl rfl rfl (Nat.le_of_ble_eq_true rfl) ⟨Nat.le_of_ble_eq_true rfl, Nat.le_of_ble_eq_true rfl⟩ ⟨Nat.le_refl _, Nat.le_refl _⟩ dX12_readsCondition_103 ?_
            intro H locs hP hD hS
            refine lv_aload_n hx hb dX12_readsCondition_106 rfl (lv_at hl 0 rfl) ?_
            refine lv_aload_n hx hb dX12_readsCondition_107 rfl (lv_at hl 0 rfl) ?_
            refine x_get C hK hP fd_X12_180 0 rfl rfl dX12_readsCondition_108 ?_
            refine lv_iconst (v := 1) hx hb dX12_readsCondition_111 (by decide) ?_
            refine lv_isub hx hb dX12_readsCondition_112 ?_
            refine x_put (ws' := [oX12 A_t A_t_now A_t_aside A_t_kept A_t_rhymeOf A_t_wasRhyme A_t_wordAt x_t_wordMany A_t_tape x_t_taped x_t_place0 x_t_length0 x_t_fault x_t_number0 x_t_open x_t_codeMany (w33 - (1 : Int32)) x_t_saidMany x_t_clauses A_t_said A_t_waitsAt A_t_saidLetter A_t_saidFrom A_t_saidHalf A_t_saidTo A_t_codes A_t_clauseOf A_t_codeFrom A_t_codeHalf A_t_codeTo A_t_stack A_t_facts x_t_lines A_t_newWords A_t_roundFrom A_t_roundAt A_t_roundTimes x_t_newMany x_t_rounds x_t_itFrom x_t_itTimes x_t_writtenNow x_t_picturesNow x_t_usedNow x_t_chosen x_t_fearOfChosen A_t_leastFrom A_t_rowNow x_t_changesNow x_t_left0 A_t_bornOf A_t_trainsTo A_t_trainAt x_t_trainMany x_t_leastTries x_t_firstTrained x_t_isKept, iA cI 260 A_t_said w32, iA cB 260 A_t_tape v_t_tape, iA cI 260 A_t_waitsAt v_t_waitsAt]) C hK hP hD hS fp_X12_180 0 rfl rfl rfl (Nat.le_of_ble_eq_true rfl) rfl dX12_readsCondition_113 ?_
            intro H locs hP hD hS
            refine lv_aload_n hx hb dX12_readsCondition_116 rfl (lv_at hl 0 rfl) ?_
            refine lv_aload_n hx hb dX12_readsCondition_117 rfl (lv_at hl 0 rfl) ?_
            refine x_get C hK hP fd_X12_177 0 rfl rfl dX12_readsCondition_118 ?_
            refine lv_iconst (v := 1) hx hb dX12_readsCondition_121 (by decide) ?_
            refine lv_isub hx hb dX12_readsCondition_122 ?_
            refine x_put (ws' := [oX12 A_t A_t_now A_t_aside A_t_kept A_t_rhymeOf A_t_wasRhyme A_t_wordAt x_t_wordMany A_t_tape x_t_taped x_t_place0 x_t_length0 x_t_fault x_t_number0 (x_t_open - (1 : Int32)) x_t_codeMany (w33 - (1 : Int32)) x_t_saidMany x_t_clauses A_t_said A_t_waitsAt A_t_saidLetter A_t_saidFrom A_t_saidHalf A_t_saidTo A_t_codes A_t_clauseOf A_t_codeFrom A_t_codeHalf A_t_codeTo A_t_stack A_t_facts x_t_lines A_t_newWords A_t_roundFrom A_t_roundAt A_t_roundTimes x_t_newMany x_t_rounds x_t_itFrom x_t_itTimes x_t_writtenNow x_t_picturesNow x_t_usedNow x_t_chosen x_t_fearOfChosen A_t_leastFrom A_t_rowNow x_t_changesNow x_t_left0 A_t_bornOf A_t_trainsTo A_t_trainAt x_t_trainMany x_t_leastTries x_t_firstTrained x_t_isKept, iA cI 260 A_t_said w32, iA cB 260 A_t_tape v_t_tape, iA cI 260 A_t_waitsAt v_t_waitsAt]) C hK hP hD hS fp_X12_177 0 rfl rfl rfl (Nat.le_of_ble_eq_true rfl) rfl dX12_readsCondition_123 ?_
            intro H locs hP hD hS
            refine lv_aload_n hx hb dX12_readsCondition_126 rfl (lv_at hl 0 rfl) ?_
            refine lv_aload_n hx hb dX12_readsCondition_127 rfl (lv_at hl 0 rfl) ?_
            refine x_get C hK hP fd_X12_150 0 rfl rfl dX12_readsCondition_128 ?_
            refine lv_iconst (v := 1) hx hb dX12_readsCondition_131 (by decide) ?_
            refine lv_iadd hx hb dX12_readsCondition_132 ?_
            refine x_put (ws' := [oX12 A_t A_t_now A_t_aside A_t_kept A_t_rhymeOf A_t_wasRhyme A_t_wordAt x_t_wordMany A_t_tape x_t_taped (x_t_place0 + (1 : Int32)) x_t_length0 x_t_fault x_t_number0 (x_t_open - (1 : Int32)) x_t_codeMany (w33 - (1 : Int32)) x_t_saidMany x_t_clauses A_t_said A_t_waitsAt A_t_saidLetter A_t_saidFrom A_t_saidHalf A_t_saidTo A_t_codes A_t_clauseOf A_t_codeFrom A_t_codeHalf A_t_codeTo A_t_stack A_t_facts x_t_lines A_t_newWords A_t_roundFrom A_t_roundAt A_t_roundTimes x_t_newMany x_t_rounds x_t_itFrom x_t_itTimes x_t_writtenNow x_t_picturesNow x_t_usedNow x_t_chosen x_t_fearOfChosen A_t_leastFrom A_t_rowNow x_t_changesNow x_t_left0 A_t_bornOf A_t_trainsTo A_t_trainAt x_t_trainMany x_t_leastTries x_t_firstTrained x_t_isKept, iA cI 260 A_t_said w32, iA cB 260 A_t_tape v_t_tape, iA cI 260 A_t_waitsAt v_t_waitsAt]) C hK hP hD hS fp_X12_150 0 rfl rfl rfl (Nat.le_of_ble_eq_true rfl) rfl dX12_readsCondition_133 ?_
            intro H locs hP hD hS
            refine lv_aload_n hx hb dX12_readsCondition_136 rfl (lv_at hl 0 rfl) ?_
            refine x_get C hK hP fd_X12_180 0 rfl rfl dX12_readsCondition_137 ?_
            refine lv_if_ne (tgt := 145) hx hb dX12_readsCondition_140 (by decide) (fun q => ?_) (fun q => ?_)
            · have hf := if_f q hf
              refine lv_aload_n hx hb dX12_readsCondition_145 rfl (lv_at hl 0 rfl) ?_
              obtain ⟨w35, w36, w37, w38, hc39, hf⟩ := bd4_e hf
              refine x_callVV (ws' := [oX12 A_t A_t_now A_t_aside A_t_kept A_t_rhymeOf A_t_wasRhyme A_t_wordAt x_t_wordMany A_t_tape x_t_taped (x_t_place0 + (1 : Int32)) x_t_length0 x_t_fault x_t_number0 w37 w36 w38 x_t_saidMany x_t_clauses A_t_said A_t_waitsAt A_t_saidLetter A_t_saidFrom A_t_saidHalf A_t_saidTo A_t_codes A_t_clauseOf A_t_codeFrom A_t_codeHalf A_t_codeTo A_t_stack A_t_facts x_t_lines A_t_newWords A_t_roundFrom A_t_roundAt A_t_roundTimes x_t_newMany x_t_rounds x_t_itFrom x_t_itTimes x_t_writtenNow x_t_picturesNow x_t_usedNow x_t_chosen x_t_fearOfChosen A_t_leastFrom A_t_rowNow x_t_changesNow x_t_left0 A_t_bornOf A_t_trainsTo A_t_trainAt x_t_trainMany x_t_leastTries x_t_firstTrained x_t_isKept, iA cI 260 A_t_said w35, iA cB 260 A_t_tape v_t_tape, iA cI 260 A_t_waitsAt v_t_waitsAt]) (rest := []) C hK hP hD hS hA hl mf_X12_215 (c_X12_endsPiece hc39) [0, 1, 3] 0 12 rfl rfl rfl rfl rfl rfl rfl rfl rfl rfl (Nat.le_of_ble_eq_true rfl) ⟨Nat.le_of_ble_eq_true rfl, Nat.le_of_ble_eq_true rfl⟩ ⟨Nat.le_refl _, Nat.le_refl _⟩ dX12_readsCondition_146 ?_
              intro H locs hP hD hS
              refine lv_goto (tgt := 92) hx hb dX12_readsCondition_149 (by decide) ?_
              exact ih_92 w35 v_t_waitsAt w36 x_t_fault x_t_number0 w37 (x_t_place0 + (1 : Int32)) w38 _ _ ls (lv_sub hl [0] rfl) hP hD hS hf
            · have hf := if_t q hf
              refine lv_iconst (v := 1) hx hb dX12_readsCondition_143 (by decide) ?_
              obtain ⟨rfl, rfl, rfl, rfl, rfl, rfl, rfl, rfl, rfl⟩ := ev9 hf
              exact x_zret C hr hlk (Or.inr rfl) hP hD hS dX12_readsCondition_144
      intro v_t_said v_t_waitsAt x_t_codeMany x_t_fault x_t_number0 x_t_open x_t_place0 x_t_waiting H locs ls hl hP hD hS hf
      rw [f_X12_readsCondition_b40] at hf
      refine lv_aload_n hx hb dX12_readsCondition_40 rfl (lv_at hl 0 rfl) ?_
      obtain ⟨r40, hc41, hf⟩ := bd1_e hf
      refine x_callVI (ws' := [oX12 A_t A_t_now A_t_aside A_t_kept A_t_rhymeOf A_t_wasRhyme A_t_wordAt x_t_wordMany A_t_tape x_t_taped x_t_place0 x_t_length0 x_t_fault x_t_number0 x_t_open x_t_codeMany x_t_waiting x_t_saidMany x_t_clauses A_t_said A_t_waitsAt A_t_saidLetter A_t_saidFrom A_t_saidHalf A_t_saidTo A_t_codes A_t_clauseOf A_t_codeFrom A_t_codeHalf A_t_codeTo A_t_stack A_t_facts x_t_lines A_t_newWords A_t_roundFrom A_t_roundAt A_t_roundTimes x_t_newMany x_t_rounds x_t_itFrom x_t_itTimes x_t_writtenNow x_t_picturesNow x_t_usedNow x_t_chosen x_t_fearOfChosen A_t_leastFrom A_t_rowNow x_t_changesNow x_t_left0 A_t_bornOf A_t_trainsTo A_t_trainAt x_t_trainMany x_t_leastTries x_t_firstTrained x_t_isKept, iA cI 260 A_t_said v_t_said, iA cB 260 A_t_tape v_t_tape, iA cI 260 A_t_waitsAt v_t_waitsAt]) (rest := []) C hK hP hD hS hA hl mf_X12_156 (c_X12_here hc41) [0, 2] 0 12 rfl rfl rfl rfl rfl rfl rfl rfl rfl rfl (Nat.le_of_ble_eq_true rfl) ⟨Nat.le_of_ble_eq_true rfl, Nat.le_of_ble_eq_true rfl⟩ ⟨Nat.le_refl _, Nat.le_refl _⟩ dX12_readsCondition_41 ?_
      intro H locs hP hD hS
      refine lv_bipush (v := 33) hx hb dX12_readsCondition_44 (by decide) ?_
      refine lv_icmp_eq (tgt := 58) hx hb dX12_readsCondition_46 (by decide) (fun q => ?_) (fun q => ?_)
      · have hf := if_t q hf
        exact hb_58 v_t_said v_t_waitsAt x_t_codeMany x_t_fault x_t_number0 x_t_open x_t_place0 x_t_waiting _ _ ls (lv_sub hl [0] rfl) hP hD hS hf
      · have hf := if_f q hf
        refine lv_aload_n hx hb dX12_readsCondition_49 rfl (lv_at hl 0 rfl) ?_
        obtain ⟨r42, hc43, hf⟩ := bd1_e hf
        refine x_callVI (ws' := [oX12 A_t A_t_now A_t_aside A_t_kept A_t_rhymeOf A_t_wasRhyme A_t_wordAt x_t_wordMany A_t_tape x_t_taped x_t_place0 x_t_length0 x_t_fault x_t_number0 x_t_open x_t_codeMany x_t_waiting x_t_saidMany x_t_clauses A_t_said A_t_waitsAt A_t_saidLetter A_t_saidFrom A_t_saidHalf A_t_saidTo A_t_codes A_t_clauseOf A_t_codeFrom A_t_codeHalf A_t_codeTo A_t_stack A_t_facts x_t_lines A_t_newWords A_t_roundFrom A_t_roundAt A_t_roundTimes x_t_newMany x_t_rounds x_t_itFrom x_t_itTimes x_t_writtenNow x_t_picturesNow x_t_usedNow x_t_chosen x_t_fearOfChosen A_t_leastFrom A_t_rowNow x_t_changesNow x_t_left0 A_t_bornOf A_t_trainsTo A_t_trainAt x_t_trainMany x_t_leastTries x_t_firstTrained x_t_isKept, iA cI 260 A_t_said v_t_said, iA cB 260 A_t_tape v_t_tape, iA cI 260 A_t_waitsAt v_t_waitsAt]) (rest := []) C hK hP hD hS hA hl mf_X12_156 (c_X12_here hc43) [0, 2] 0 12 rfl rfl rfl rfl rfl rfl rfl rfl rfl rfl (Nat.le_of_ble_eq_true rfl) ⟨Nat.le_of_ble_eq_true rfl, Nat.le_of_ble_eq_true rfl⟩ ⟨Nat.le_refl _, Nat.le_refl _⟩ dX12_readsCondition_50 ?_
        intro H locs hP hD hS
        refine lv_bipush (v := 40) hx hb dX12_readsCondition_53 (by decide) ?_
        refine lv_icmp_ne (tgt := 83) hx hb dX12_readsCondition_55 (by decide) (fun q => ?_) (fun q => ?_)
        · have hf := if_f q hf
          refine lv_aload_n hx hb dX12_readsCondition_83 rfl (lv_at hl 0 rfl) ?_
          obtain ⟨r44, w45, w46, w47, w48, w49, w50, w51, w52, hc53, hf⟩ := bd9_e hf
          refine x_callVI (ws' := [oX12 A_t A_t_now A_t_aside A_t_kept A_t_rhymeOf A_t_wasRhyme A_t_wordAt x_t_wordMany A_t_tape x_t_taped w51 x_t_length0 w48 w49 w50 w47 w52 x_t_saidMany x_t_clauses A_t_said A_t_waitsAt A_t_saidLetter A_t_saidFrom A_t_saidHalf A_t_saidTo A_t_codes A_t_clauseOf A_t_codeFrom A_t_codeHalf A_t_codeTo A_t_stack A_t_facts x_t_lines A_t_newWords A_t_roundFrom A_t_roundAt A_t_roundTimes x_t_newMany x_t_rounds x_t_itFrom x_t_itTimes x_t_writtenNow x_t_picturesNow x_t_usedNow x_t_chosen x_t_fearOfChosen A_t_leastFrom A_t_rowNow x_t_changesNow x_t_left0 A_t_bornOf A_t_trainsTo A_t_trainAt x_t_trainMany x_t_leastTries x_t_firstTrained x_t_isKept, iA cI 260 A_t_said w45, iA cB 260 A_t_tape v_t_tape, iA cI 260 A_t_waitsAt w46]) (rest := []) C hK hP hD hS hA hl mf_X12_218 (c_X12_readsCompared hc53) [0, 1, 2, 3] 0 12 rfl rfl rfl rfl rfl rfl rfl rfl rfl rfl (Nat.le_of_ble_eq_true rfl) ⟨Nat.le_of_ble_eq_true rfl, Nat.le_of_ble_eq_true rfl⟩ ⟨Nat.le_refl _, Nat.le_refl _⟩ dX12_readsCondition_84 ?_
          intro H locs hP hD hS
          refine lv_if_ne (tgt := 92) hx hb dX12_readsCondition_87 (by decide) (fun q => ?_) (fun q => ?_)
          · have hf := if_f q hf
            exact hb_92 FU w45 w46 w47 w48 w49 w50 w51 w52 _ _ ls (lv_sub hl [0] rfl) hP hD hS hf
          · have hf := if_t q hf
            refine lv_iconst (v := 0) hx hb dX12_readsCondition_90 (by decide) ?_
            obtain ⟨rfl, rfl, rfl, rfl, rfl, rfl, rfl, rfl, rfl⟩ := ev9 hf
            exact x_zret C hr hlk (Or.inl rfl) hP hD hS dX12_readsCondition_91
        · have hf := if_t q hf
          exact hb_58 v_t_said v_t_waitsAt x_t_codeMany x_t_fault x_t_number0 x_t_open x_t_place0 x_t_waiting _ _ ls (lv_sub hl [0] rfl) hP hD hS hf
  refine lv_aload_n hx hb dX12_readsCondition_0 rfl (lv_at hl 0 rfl) ?_
  obtain ⟨r54, hc55, hf⟩ := bd1_e hf
  refine x_callVI (ws' := [oX12 A_t A_t_now A_t_aside A_t_kept A_t_rhymeOf A_t_wasRhyme A_t_wordAt x_t_wordMany A_t_tape x_t_taped x_t_place0 x_t_length0 x_t_fault x_t_number0 x_t_open x_t_codeMany x_t_waiting x_t_saidMany x_t_clauses A_t_said A_t_waitsAt A_t_saidLetter A_t_saidFrom A_t_saidHalf A_t_saidTo A_t_codes A_t_clauseOf A_t_codeFrom A_t_codeHalf A_t_codeTo A_t_stack A_t_facts x_t_lines A_t_newWords A_t_roundFrom A_t_roundAt A_t_roundTimes x_t_newMany x_t_rounds x_t_itFrom x_t_itTimes x_t_writtenNow x_t_picturesNow x_t_usedNow x_t_chosen x_t_fearOfChosen A_t_leastFrom A_t_rowNow x_t_changesNow x_t_left0 A_t_bornOf A_t_trainsTo A_t_trainAt x_t_trainMany x_t_leastTries x_t_firstTrained x_t_isKept, iA cI 260 A_t_said v_t_said, iA cB 260 A_t_tape v_t_tape, iA cI 260 A_t_waitsAt v_t_waitsAt]) (rest := []) C hK hP hD hS hA hl mf_X12_156 (c_X12_here hc55) [0, 2] 0 12 rfl rfl rfl rfl rfl rfl rfl rfl rfl rfl (Nat.le_of_ble_eq_true rfl) ⟨Nat.le_of_ble_eq_true rfl, Nat.le_of_ble_eq_true rfl⟩ ⟨Nat.le_refl _, Nat.le_refl _⟩ dX12_readsCondition_1 ?_
  intro H locs hP hD hS
  refine lv_bipush (v := 40) hx hb dX12_readsCondition_4 (by decide) ?_
  refine lv_icmp_eq (tgt := 19) hx hb dX12_readsCondition_6 (by decide) (fun q => ?_) (fun q => ?_)
  · have hf := if_t q hf
    refine lv_aload_n hx hb dX12_readsCondition_19 rfl (lv_at hl 0 rfl) ?_
    refine lv_iconst (v := 0) hx hb dX12_readsCondition_20 (by decide) ?_
    refine x_put (ws' := [oX12 A_t A_t_now A_t_aside A_t_kept A_t_rhymeOf A_t_wasRhyme A_t_wordAt x_t_wordMany A_t_tape x_t_taped x_t_place0 x_t_length0 x_t_fault x_t_number0 (0 : Int32) x_t_codeMany x_t_waiting x_t_saidMany x_t_clauses A_t_said A_t_waitsAt A_t_saidLetter A_t_saidFrom A_t_saidHalf A_t_saidTo A_t_codes A_t_clauseOf A_t_codeFrom A_t_codeHalf A_t_codeTo A_t_stack A_t_facts x_t_lines A_t_newWords A_t_roundFrom A_t_roundAt A_t_roundTimes x_t_newMany x_t_rounds x_t_itFrom x_t_itTimes x_t_writtenNow x_t_picturesNow x_t_usedNow x_t_chosen x_t_fearOfChosen A_t_leastFrom A_t_rowNow x_t_changesNow x_t_left0 A_t_bornOf A_t_trainsTo A_t_trainAt x_t_trainMany x_t_leastTries x_t_firstTrained x_t_isKept, iA cI 260 A_t_said v_t_said, iA cB 260 A_t_tape v_t_tape, iA cI 260 A_t_waitsAt v_t_waitsAt]) C hK hP hD hS fp_X12_177 0 rfl rfl rfl (Nat.le_of_ble_eq_true rfl) rfl dX12_readsCondition_21 ?_
    intro H locs hP hD hS
    refine lv_aload_n hx hb dX12_readsCondition_24 rfl (lv_at hl 0 rfl) ?_
    refine lv_iconst (v := 0) hx hb dX12_readsCondition_25 (by decide) ?_
    refine x_put (ws' := [oX12 A_t A_t_now A_t_aside A_t_kept A_t_rhymeOf A_t_wasRhyme A_t_wordAt x_t_wordMany A_t_tape x_t_taped x_t_place0 x_t_length0 x_t_fault x_t_number0 (0 : Int32) x_t_codeMany (0 : Int32) x_t_saidMany x_t_clauses A_t_said A_t_waitsAt A_t_saidLetter A_t_saidFrom A_t_saidHalf A_t_saidTo A_t_codes A_t_clauseOf A_t_codeFrom A_t_codeHalf A_t_codeTo A_t_stack A_t_facts x_t_lines A_t_newWords A_t_roundFrom A_t_roundAt A_t_roundTimes x_t_newMany x_t_rounds x_t_itFrom x_t_itTimes x_t_writtenNow x_t_picturesNow x_t_usedNow x_t_chosen x_t_fearOfChosen A_t_leastFrom A_t_rowNow x_t_changesNow x_t_left0 A_t_bornOf A_t_trainsTo A_t_trainAt x_t_trainMany x_t_leastTries x_t_firstTrained x_t_isKept, iA cI 260 A_t_said v_t_said, iA cB 260 A_t_tape v_t_tape, iA cI 260 A_t_waitsAt v_t_waitsAt]) C hK hP hD hS fp_X12_180 0 rfl rfl rfl (Nat.le_of_ble_eq_true rfl) rfl dX12_readsCondition_26 ?_
    intro H locs hP hD hS
    refine lv_aload_n hx hb dX12_readsCondition_29 rfl (lv_at hl 0 rfl) ?_
    refine lv_bipush (v := 13) hx hb dX12_readsCondition_30 (by decide) ?_
    obtain ⟨r56, w57, w58, w59, w60, w61, hc62, hf⟩ := bd6_e hf
    refine x_callVI (ws' := [oX12 A_t A_t_now A_t_aside A_t_kept A_t_rhymeOf A_t_wasRhyme A_t_wordAt x_t_wordMany A_t_tape x_t_taped w60 x_t_length0 w58 x_t_number0 w59 x_t_codeMany w61 x_t_saidMany x_t_clauses A_t_said A_t_waitsAt A_t_saidLetter A_t_saidFrom A_t_saidHalf A_t_saidTo A_t_codes A_t_clauseOf A_t_codeFrom A_t_codeHalf A_t_codeTo A_t_stack A_t_facts x_t_lines A_t_newWords A_t_roundFrom A_t_roundAt A_t_roundTimes x_t_newMany x_t_rounds x_t_itFrom x_t_itTimes x_t_writtenNow x_t_picturesNow x_t_usedNow x_t_chosen x_t_fearOfChosen A_t_leastFrom A_t_rowNow x_t_changesNow x_t_left0 A_t_bornOf A_t_trainsTo A_t_trainAt x_t_trainMany x_t_leastTries x_t_firstTrained x_t_isKept, iA cI 260 A_t_said v_t_said, iA cB 260 A_t_tape v_t_tape, iA cI 260 A_t_waitsAt w57]) (rest := []) C hK hP hD hS hA hl mf_X12_190 (c_X12_opens hc62) [0, 3] 0 12 rfl rfl rfl rfl rfl rfl rfl rfl rfl rfl (Nat.le_of_ble_eq_true rfl) ⟨Nat.le_of_ble_eq_true rfl, Nat.le_of_ble_eq_true rfl⟩ ⟨Nat.le_refl _, Nat.le_refl _⟩ dX12_readsCondition_32 ?_
    intro H locs hP hD hS
    refine lv_if_ne (tgt := 40) hx hb dX12_readsCondition_35 (by decide) (fun q => ?_) (fun q => ?_)
    · have hf := if_f q hf
      exact hb_40 FU v_t_said w57 x_t_codeMany w58 x_t_number0 w59 w60 w61 _ _ ls (lv_sub hl [0] rfl) hP hD hS hf
    · have hf := if_t q hf
      refine lv_iconst (v := 0) hx hb dX12_readsCondition_38 (by decide) ?_
      obtain ⟨rfl, rfl, rfl, rfl, rfl, rfl, rfl, rfl, rfl⟩ := ev9 hf
      exact x_zret C hr hlk (Or.inl rfl) hP hD hS dX12_readsCondition_39
  · have hf := if_f q hf
    refine lv_aload_n hx hb dX12_readsCondition_9 rfl (lv_at hl 0 rfl) ?_
    refine lv_iconst (v := 1) hx hb dX12_readsCondition_10 (by decide) ?_
    refine lv_aload_n hx hb dX12_readsCondition_11 rfl (lv_at hl 0 rfl) ?_
    refine x_get C hK hP fd_X12_150 0 rfl rfl dX12_readsCondition_12 ?_
    obtain ⟨r63, w64, hc65, hf⟩ := bd2_e hf
    refine x_callVI (ws' := [oX12 A_t A_t_now A_t_aside A_t_kept A_t_rhymeOf A_t_wasRhyme A_t_wordAt x_t_wordMany A_t_tape x_t_taped x_t_place0 x_t_length0 w64 x_t_number0 x_t_open x_t_codeMany x_t_waiting x_t_saidMany x_t_clauses A_t_said A_t_waitsAt A_t_saidLetter A_t_saidFrom A_t_saidHalf A_t_saidTo A_t_codes A_t_clauseOf A_t_codeFrom A_t_codeHalf A_t_codeTo A_t_stack A_t_facts x_t_lines A_t_newWords A_t_roundFrom A_t_roundAt A_t_roundTimes x_t_newMany x_t_rounds x_t_itFrom x_t_itTimes x_t_writtenNow x_t_picturesNow x_t_usedNow x_t_chosen x_t_fearOfChosen A_t_leastFrom A_t_rowNow x_t_changesNow x_t_left0 A_t_bornOf A_t_trainsTo A_t_trainAt x_t_trainMany x_t_leastTries x_t_firstTrained x_t_isKept, iA cI 260 A_t_said v_t_said, iA cB 260 A_t_tape v_t_tape, iA cI 260 A_t_waitsAt v_t_waitsAt]) (rest := []) C hK hP hD hS hA hl mf_X12_163 (c_X12_wrongAt hc65) [0] 0 12 rfl rfl rfl rfl rfl rfl rfl rfl rfl rfl (Nat.le_of_ble_eq_true rfl) ⟨Nat.le_of_ble_eq_true rfl, Nat.le_of_ble_eq_true rfl⟩ ⟨Nat.le_refl _, Nat.le_refl _⟩ dX12_readsCondition_15 ?_
    intro H locs hP hD hS
    obtain ⟨hz, hf⟩ := zI_e hf
    obtain ⟨rfl, rfl, rfl, rfl, rfl, rfl, rfl, rfl, rfl⟩ := ev9 hf
    exact x_zret C hr hlk hz hP hD hS dX12_readsCondition_18
