/-! pure: the easy calls -/
theorem RShelf.nerve {dread ink kind salt tries : Nat → Int32} {day nerve pictures told written x : Int32} {now : Nat → Int32} (h : RShelf dread ink kind salt tries day nerve pictures told written x now) {v : Int32} (hv : Rg v 99) : RShelf dread ink kind salt tries day v pictures told written x (upd now 288 v) := by
  obtain ⟨⟨T, hT, e, hn⟩, h2, h3, ⟨h4, h4r⟩, ⟨h5, h5r⟩, ⟨h6, h6r⟩, ⟨h7, h7r⟩, h8, h8r⟩ := h
  refine ⟨⟨T, hT, e, fun b hb => ?_⟩, fun b hb => ?_, fun j hj => ?_, ⟨?_, hv⟩, ⟨?_, h5r⟩, ⟨?_, h6r⟩, ⟨?_, h7r⟩, ?_, h8r⟩
  · rw [pk_un (by omega)]; exact hn b hb
  · rw [pk_un (by omega), pk_un (by omega), pk_un (by omega)]; exact h2 b hb
  · rw [pk_un (by omega), pk_un (by omega)]; exact h3 j hj
  · rw [pk_us]
  · rw [pk_un (by omega)]; exact h5
  · rw [pk_un (by omega)]; exact h6
  · rw [pk_un (by omega)]; exact h7
  · rw [pk_un (by omega)]; exact h8
theorem RShelf.x {dread ink kind salt tries : Nat → Int32} {day nerve pictures told written x : Int32} {now : Nat → Int32} (h : RShelf dread ink kind salt tries day nerve pictures told written x now) {v : Int32} (hv : Rg v 65535) : RShelf dread ink kind salt tries day nerve pictures told written v (upd now 292 v) := by
  obtain ⟨⟨T, hT, e, hn⟩, h2, h3, ⟨h4, h4r⟩, ⟨h5, h5r⟩, ⟨h6, h6r⟩, ⟨h7, h7r⟩, h8, h8r⟩ := h
  refine ⟨⟨T, hT, e, fun b hb => ?_⟩, fun b hb => ?_, fun j hj => ?_, ⟨?_, h4r⟩, ⟨?_, h5r⟩, ⟨?_, h6r⟩, ⟨?_, h7r⟩, ?_, hv⟩
  · rw [pk_un (by omega)]; exact hn b hb
  · rw [pk_un (by omega), pk_un (by omega), pk_un (by omega)]; exact h2 b hb
  · rw [pk_un (by omega), pk_un (by omega)]; exact h3 j hj
  · rw [pk_un (by omega)]; exact h4
  · rw [pk_un (by omega)]; exact h5
  · rw [pk_un (by omega)]; exact h6
  · rw [pk_un (by omega)]; exact h7
  · rw [pk_us]
theorem RShelf.ink {dread ink kind salt tries : Nat → Int32} {day nerve pictures told written x : Int32} {now : Nat → Int32} (h : RShelf dread ink kind salt tries day nerve pictures told written x now) {v : Int32} (hv : Rg v 999) {c : Nat} (hc : c < 8) : RShelf dread (upd ink c v) kind salt tries day nerve pictures told written x (upd now (24 + c) v) := by
  obtain ⟨⟨T, hT, e, hn⟩, h2, h3, ⟨h4, h4r⟩, ⟨h5, h5r⟩, ⟨h6, h6r⟩, ⟨h7, h7r⟩, h8, h8r⟩ := h
  refine ⟨⟨T, hT, e, fun b hb => ?_⟩, fun b hb => ?_, fun j hj => ?_, ⟨?_, h4r⟩, ⟨?_, h5r⟩, ⟨?_, h6r⟩, ⟨?_, h7r⟩, ?_, h8r⟩
  · rw [pk_un (by omega)]; exact hn b hb
  · rw [pk_un (j := 8 + b) (by omega), pk_un (j := 16 + b) (by omega)]
    obtain ⟨g1, g2, g3, g4, g5, g6⟩ := h2 b hb
    refine ⟨g1, g2, g3, g4, ?_⟩
    by_cases hbc : b = c
    · subst hbc
      rw [pk_us, pk_us]
      exact ⟨rfl, hv⟩
    · rw [pk_un (by omega), pk_un (by omega)]
      exact ⟨g5, g6⟩
  · rw [pk_un (by omega), pk_un (by omega)]; exact h3 j hj
  · rw [pk_un (by omega)]; exact h4
  · rw [pk_un (by omega)]; exact h5
  · rw [pk_un (by omega)]; exact h6
  · rw [pk_un (by omega)]; exact h7
  · rw [pk_un (by omega)]; exact h8
theorem one_ne : ¬ (1 : Int32) = 0 := by decide
set_option maxHeartbeats 4000000 in
theorem pm_nerve {v_t_tape_bytes : Nat → Int32} {x_t_tape_size : Int32} {v_t_rhymes_other : Nat → Int32} {v_t_shelf_dread : Nat → Int32} {v_t_shelf_ink : Nat → Int32} {v_t_shelf_kind : Nat → Int32} {v_t_shelf_salt : Nat → Int32} {v_t_shelf_tries : Nat → Int32} {x_t_shelf_day : Int32} {x_t_shelf_nerve : Int32} {x_t_shelf_pictures : Int32} {x_t_shelf_told : Int32} {x_t_shelf_written : Int32} {x_t_shelf_x : Int32} {v_t_kept_dread : Nat → Int32} {v_t_kept_ink : Nat → Int32} {v_t_kept_kind : Nat → Int32} {v_t_kept_salt : Nat → Int32} {v_t_kept_tries : Nat → Int32} {x_t_kept_day : Int32} {x_t_kept_nerve : Int32} {x_t_kept_pictures : Int32} {x_t_kept_told : Int32} {x_t_kept_written : Int32} {x_t_kept_x : Int32} {v_t_letter_words : Nat → Int32} {x_t_letter_size : Int32} {v_t_law_code : Nat → Int32} {v_t_law_letters : Nat → Int32} {v_t_law_valueFrom : Nat → Int32} {v_t_law_testFrom : Nat → Int32} {v_t_law_testEnd : Nat → Int32} {x_t_law_rules : Int32} {x_t_anyKept : Int32} {v_m_now : Nat → Int32} {v_m_kept : Nat → Int32} {v_m_rhymeOf : Nat → Int32} {v_m_wordAt : Nat → Int32} {x_m_wordMany : Int32} {v_m_tape : Nat → Int32} {x_m_taped : Int32} {v_m_codes : Nat → Int32} {v_m_clauseOf : Nat → Int32} {v_m_codeFrom : Nat → Int32} {v_m_codeHalf : Nat → Int32} {v_m_codeTo : Nat → Int32} {x_m_clauses : Int32} {x_m_isKept : Int32} (hI : Inv v_t_tape_bytes x_t_tape_size v_t_rhymes_other v_t_shelf_dread v_t_shelf_ink v_t_shelf_kind v_t_shelf_salt v_t_shelf_tries x_t_shelf_day x_t_shelf_nerve x_t_shelf_pictures x_t_shelf_told x_t_shelf_written x_t_shelf_x v_t_kept_dread v_t_kept_ink v_t_kept_kind v_t_kept_salt v_t_kept_tries x_t_kept_day x_t_kept_nerve x_t_kept_pictures x_t_kept_told x_t_kept_written x_t_kept_x v_t_letter_words x_t_letter_size v_t_law_code v_t_law_letters v_t_law_valueFrom v_t_law_testFrom v_t_law_testEnd x_t_law_rules x_t_anyKept v_m_now v_m_kept v_m_rhymeOf v_m_wordAt x_m_wordMany v_m_tape x_m_taped v_m_codes v_m_clauseOf v_m_codeFrom v_m_codeHalf v_m_codeTo x_m_clauses x_m_isKept) (a1 : Int32) : ∃ (r : Int32) (o_x_t_shelf_nerve : Int32) (o_v_m_now : Nat → Int32), f_X11_nerve x_t_shelf_nerve a1 = some (r, o_x_t_shelf_nerve) ∧ f_X12_nerve v_m_now a1 = some (r, o_v_m_now) ∧ Inv v_t_tape_bytes x_t_tape_size v_t_rhymes_other v_t_shelf_dread v_t_shelf_ink v_t_shelf_kind v_t_shelf_salt v_t_shelf_tries x_t_shelf_day o_x_t_shelf_nerve x_t_shelf_pictures x_t_shelf_told x_t_shelf_written x_t_shelf_x v_t_kept_dread v_t_kept_ink v_t_kept_kind v_t_kept_salt v_t_kept_tries x_t_kept_day x_t_kept_nerve x_t_kept_pictures x_t_kept_told x_t_kept_written x_t_kept_x v_t_letter_words x_t_letter_size v_t_law_code v_t_law_letters v_t_law_valueFrom v_t_law_testFrom v_t_law_testEnd x_t_law_rules x_t_anyKept o_v_m_now v_m_kept v_m_rhymeOf v_m_wordAt x_m_wordMany v_m_tape x_m_taped v_m_codes v_m_clauseOf v_m_codeFrom v_m_codeHalf v_m_codeTo x_m_clauses x_m_isKept := by
  obtain ⟨hT, hR, hS, hK, hL, hW⟩ := hI
  by_cases h : a1 < 0 ∨ 99 < a1
  · exact ⟨0, x_t_shelf_nerve, v_m_now, by simp [f_X11_nerve, f_within_eq, h, bd1], by simp [f_X12_nerve, f_in_eq, h, bd1], hT, hR, hS, hK, hL, hW⟩
  · have hr : Rg a1 99 := rg_of (n := 99) (by omega) (fun q => h (Or.inl q)) (fun q => h (Or.inr q))
    refine ⟨1, a1, upd v_m_now 288 a1, by simp [f_X11_nerve, f_within_eq, h, bd1], ?_, hT, hR, hS.nerve hr, hK, hL, hW⟩
    simp only [f_X12_nerve, f_in_eq, bd1, if_neg h, if_neg one_ne]
    rw [show (288 : Int32) = nI 288 from rfl, sI_n (by omega) (by omega)]
set_option maxHeartbeats 4000000 in
theorem pm_seed {v_t_tape_bytes : Nat → Int32} {x_t_tape_size : Int32} {v_t_rhymes_other : Nat → Int32} {v_t_shelf_dread : Nat → Int32} {v_t_shelf_ink : Nat → Int32} {v_t_shelf_kind : Nat → Int32} {v_t_shelf_salt : Nat → Int32} {v_t_shelf_tries : Nat → Int32} {x_t_shelf_day : Int32} {x_t_shelf_nerve : Int32} {x_t_shelf_pictures : Int32} {x_t_shelf_told : Int32} {x_t_shelf_written : Int32} {x_t_shelf_x : Int32} {v_t_kept_dread : Nat → Int32} {v_t_kept_ink : Nat → Int32} {v_t_kept_kind : Nat → Int32} {v_t_kept_salt : Nat → Int32} {v_t_kept_tries : Nat → Int32} {x_t_kept_day : Int32} {x_t_kept_nerve : Int32} {x_t_kept_pictures : Int32} {x_t_kept_told : Int32} {x_t_kept_written : Int32} {x_t_kept_x : Int32} {v_t_letter_words : Nat → Int32} {x_t_letter_size : Int32} {v_t_law_code : Nat → Int32} {v_t_law_letters : Nat → Int32} {v_t_law_valueFrom : Nat → Int32} {v_t_law_testFrom : Nat → Int32} {v_t_law_testEnd : Nat → Int32} {x_t_law_rules : Int32} {x_t_anyKept : Int32} {v_m_now : Nat → Int32} {v_m_kept : Nat → Int32} {v_m_rhymeOf : Nat → Int32} {v_m_wordAt : Nat → Int32} {x_m_wordMany : Int32} {v_m_tape : Nat → Int32} {x_m_taped : Int32} {v_m_codes : Nat → Int32} {v_m_clauseOf : Nat → Int32} {v_m_codeFrom : Nat → Int32} {v_m_codeHalf : Nat → Int32} {v_m_codeTo : Nat → Int32} {x_m_clauses : Int32} {x_m_isKept : Int32} (hI : Inv v_t_tape_bytes x_t_tape_size v_t_rhymes_other v_t_shelf_dread v_t_shelf_ink v_t_shelf_kind v_t_shelf_salt v_t_shelf_tries x_t_shelf_day x_t_shelf_nerve x_t_shelf_pictures x_t_shelf_told x_t_shelf_written x_t_shelf_x v_t_kept_dread v_t_kept_ink v_t_kept_kind v_t_kept_salt v_t_kept_tries x_t_kept_day x_t_kept_nerve x_t_kept_pictures x_t_kept_told x_t_kept_written x_t_kept_x v_t_letter_words x_t_letter_size v_t_law_code v_t_law_letters v_t_law_valueFrom v_t_law_testFrom v_t_law_testEnd x_t_law_rules x_t_anyKept v_m_now v_m_kept v_m_rhymeOf v_m_wordAt x_m_wordMany v_m_tape x_m_taped v_m_codes v_m_clauseOf v_m_codeFrom v_m_codeHalf v_m_codeTo x_m_clauses x_m_isKept) (a1 : Int32) : ∃ (r : Int32) (o_x_t_shelf_x : Int32) (o_v_m_now : Nat → Int32), f_X11_seed x_t_shelf_x a1 = some (r, o_x_t_shelf_x) ∧ f_X12_seed v_m_now a1 = some (r, o_v_m_now) ∧ Inv v_t_tape_bytes x_t_tape_size v_t_rhymes_other v_t_shelf_dread v_t_shelf_ink v_t_shelf_kind v_t_shelf_salt v_t_shelf_tries x_t_shelf_day x_t_shelf_nerve x_t_shelf_pictures x_t_shelf_told x_t_shelf_written o_x_t_shelf_x v_t_kept_dread v_t_kept_ink v_t_kept_kind v_t_kept_salt v_t_kept_tries x_t_kept_day x_t_kept_nerve x_t_kept_pictures x_t_kept_told x_t_kept_written x_t_kept_x v_t_letter_words x_t_letter_size v_t_law_code v_t_law_letters v_t_law_valueFrom v_t_law_testFrom v_t_law_testEnd x_t_law_rules x_t_anyKept o_v_m_now v_m_kept v_m_rhymeOf v_m_wordAt x_m_wordMany v_m_tape x_m_taped v_m_codes v_m_clauseOf v_m_codeFrom v_m_codeHalf v_m_codeTo x_m_clauses x_m_isKept := by
  obtain ⟨hT, hR, hS, hK, hL, hW⟩ := hI
  by_cases h : a1 < 0 ∨ 65535 < a1
  · exact ⟨0, x_t_shelf_x, v_m_now, by simp [f_X11_seed, f_within_eq, h, bd1], by simp [f_X12_seed, f_in_eq, h, bd1], hT, hR, hS, hK, hL, hW⟩
  · have hr : Rg a1 65535 := rg_of (n := 65535) (by omega) (fun q => h (Or.inl q)) (fun q => h (Or.inr q))
    refine ⟨1, a1, upd v_m_now 292 a1, by simp [f_X11_seed, f_within_eq, h, bd1], ?_, hT, hR, hS.x hr, hK, hL, hW⟩
    simp only [f_X12_seed, f_in_eq, bd1, if_neg h, if_neg one_ne]
    rw [show (292 : Int32) = nI 292 from rfl, sI_n (by omega) (by omega)]
set_option maxHeartbeats 4000000 in
theorem pm_rhyme {v_t_tape_bytes : Nat → Int32} {x_t_tape_size : Int32} {v_t_rhymes_other : Nat → Int32} {v_t_shelf_dread : Nat → Int32} {v_t_shelf_ink : Nat → Int32} {v_t_shelf_kind : Nat → Int32} {v_t_shelf_salt : Nat → Int32} {v_t_shelf_tries : Nat → Int32} {x_t_shelf_day : Int32} {x_t_shelf_nerve : Int32} {x_t_shelf_pictures : Int32} {x_t_shelf_told : Int32} {x_t_shelf_written : Int32} {x_t_shelf_x : Int32} {v_t_kept_dread : Nat → Int32} {v_t_kept_ink : Nat → Int32} {v_t_kept_kind : Nat → Int32} {v_t_kept_salt : Nat → Int32} {v_t_kept_tries : Nat → Int32} {x_t_kept_day : Int32} {x_t_kept_nerve : Int32} {x_t_kept_pictures : Int32} {x_t_kept_told : Int32} {x_t_kept_written : Int32} {x_t_kept_x : Int32} {v_t_letter_words : Nat → Int32} {x_t_letter_size : Int32} {v_t_law_code : Nat → Int32} {v_t_law_letters : Nat → Int32} {v_t_law_valueFrom : Nat → Int32} {v_t_law_testFrom : Nat → Int32} {v_t_law_testEnd : Nat → Int32} {x_t_law_rules : Int32} {x_t_anyKept : Int32} {v_m_now : Nat → Int32} {v_m_kept : Nat → Int32} {v_m_rhymeOf : Nat → Int32} {v_m_wordAt : Nat → Int32} {x_m_wordMany : Int32} {v_m_tape : Nat → Int32} {x_m_taped : Int32} {v_m_codes : Nat → Int32} {v_m_clauseOf : Nat → Int32} {v_m_codeFrom : Nat → Int32} {v_m_codeHalf : Nat → Int32} {v_m_codeTo : Nat → Int32} {x_m_clauses : Int32} {x_m_isKept : Int32} (hI : Inv v_t_tape_bytes x_t_tape_size v_t_rhymes_other v_t_shelf_dread v_t_shelf_ink v_t_shelf_kind v_t_shelf_salt v_t_shelf_tries x_t_shelf_day x_t_shelf_nerve x_t_shelf_pictures x_t_shelf_told x_t_shelf_written x_t_shelf_x v_t_kept_dread v_t_kept_ink v_t_kept_kind v_t_kept_salt v_t_kept_tries x_t_kept_day x_t_kept_nerve x_t_kept_pictures x_t_kept_told x_t_kept_written x_t_kept_x v_t_letter_words x_t_letter_size v_t_law_code v_t_law_letters v_t_law_valueFrom v_t_law_testFrom v_t_law_testEnd x_t_law_rules x_t_anyKept v_m_now v_m_kept v_m_rhymeOf v_m_wordAt x_m_wordMany v_m_tape x_m_taped v_m_codes v_m_clauseOf v_m_codeFrom v_m_codeHalf v_m_codeTo x_m_clauses x_m_isKept) (a1 : Int32) : ∃ (r : Int32), f_X11_rhyme v_t_rhymes_other a1 = some r ∧ f_X12_rhyme v_m_rhymeOf a1 = some r ∧ Inv v_t_tape_bytes x_t_tape_size v_t_rhymes_other v_t_shelf_dread v_t_shelf_ink v_t_shelf_kind v_t_shelf_salt v_t_shelf_tries x_t_shelf_day x_t_shelf_nerve x_t_shelf_pictures x_t_shelf_told x_t_shelf_written x_t_shelf_x v_t_kept_dread v_t_kept_ink v_t_kept_kind v_t_kept_salt v_t_kept_tries x_t_kept_day x_t_kept_nerve x_t_kept_pictures x_t_kept_told x_t_kept_written x_t_kept_x v_t_letter_words x_t_letter_size v_t_law_code v_t_law_letters v_t_law_valueFrom v_t_law_testFrom v_t_law_testEnd x_t_law_rules x_t_anyKept v_m_now v_m_kept v_m_rhymeOf v_m_wordAt x_m_wordMany v_m_tape x_m_taped v_m_codes v_m_clauseOf v_m_codeFrom v_m_codeHalf v_m_codeTo x_m_clauses x_m_isKept := by
  have hI0 := hI
  obtain ⟨hT, ⟨g, hg⟩, hS, hK, hL, hW⟩ := hI
  by_cases h : a1 < 0 ∨ 15 < a1
  · exact ⟨-1, by simp [f_X11_rhyme, f_X11_rhyme_b22, f_within_eq, h, bd1], by simp [f_X12_rhyme, f_X12_isWord, f_in_eq, h, bd1, zI_0, f_X12_rhyme_b17], hI0⟩
  · obtain ⟨w, hw, rfl⟩ := rg_of (n := 15) (by omega) (fun q => h (Or.inl q)) (fun q => h (Or.inr q))
    obtain ⟨g1, g2, g3, g4⟩ := hg w (by omega)
    refine ⟨nI (g w), ?_, ?_, hI0⟩
    · simp only [f_X11_rhyme, f_X11_rhyme_b22, f_within_eq, bd1, if_neg h, if_neg one_ne, f_X4_of]
      rw [and15 w (by omega), gI_n (by omega) (by omega), g3]
    · simp only [f_X12_rhyme, f_X12_isWord, f_X12_rhyme_b17, f_in_eq, bd1, if_neg h, if_neg one_ne, zI_1]
      rw [gI_n (by omega) (by omega), g4]
set_option maxHeartbeats 4000000 in
theorem pm_ink {v_t_tape_bytes : Nat → Int32} {x_t_tape_size : Int32} {v_t_rhymes_other : Nat → Int32} {v_t_shelf_dread : Nat → Int32} {v_t_shelf_ink : Nat → Int32} {v_t_shelf_kind : Nat → Int32} {v_t_shelf_salt : Nat → Int32} {v_t_shelf_tries : Nat → Int32} {x_t_shelf_day : Int32} {x_t_shelf_nerve : Int32} {x_t_shelf_pictures : Int32} {x_t_shelf_told : Int32} {x_t_shelf_written : Int32} {x_t_shelf_x : Int32} {v_t_kept_dread : Nat → Int32} {v_t_kept_ink : Nat → Int32} {v_t_kept_kind : Nat → Int32} {v_t_kept_salt : Nat → Int32} {v_t_kept_tries : Nat → Int32} {x_t_kept_day : Int32} {x_t_kept_nerve : Int32} {x_t_kept_pictures : Int32} {x_t_kept_told : Int32} {x_t_kept_written : Int32} {x_t_kept_x : Int32} {v_t_letter_words : Nat → Int32} {x_t_letter_size : Int32} {v_t_law_code : Nat → Int32} {v_t_law_letters : Nat → Int32} {v_t_law_valueFrom : Nat → Int32} {v_t_law_testFrom : Nat → Int32} {v_t_law_testEnd : Nat → Int32} {x_t_law_rules : Int32} {x_t_anyKept : Int32} {v_m_now : Nat → Int32} {v_m_kept : Nat → Int32} {v_m_rhymeOf : Nat → Int32} {v_m_wordAt : Nat → Int32} {x_m_wordMany : Int32} {v_m_tape : Nat → Int32} {x_m_taped : Int32} {v_m_codes : Nat → Int32} {v_m_clauseOf : Nat → Int32} {v_m_codeFrom : Nat → Int32} {v_m_codeHalf : Nat → Int32} {v_m_codeTo : Nat → Int32} {x_m_clauses : Int32} {x_m_isKept : Int32} (hI : Inv v_t_tape_bytes x_t_tape_size v_t_rhymes_other v_t_shelf_dread v_t_shelf_ink v_t_shelf_kind v_t_shelf_salt v_t_shelf_tries x_t_shelf_day x_t_shelf_nerve x_t_shelf_pictures x_t_shelf_told x_t_shelf_written x_t_shelf_x v_t_kept_dread v_t_kept_ink v_t_kept_kind v_t_kept_salt v_t_kept_tries x_t_kept_day x_t_kept_nerve x_t_kept_pictures x_t_kept_told x_t_kept_written x_t_kept_x v_t_letter_words x_t_letter_size v_t_law_code v_t_law_letters v_t_law_valueFrom v_t_law_testFrom v_t_law_testEnd x_t_law_rules x_t_anyKept v_m_now v_m_kept v_m_rhymeOf v_m_wordAt x_m_wordMany v_m_tape x_m_taped v_m_codes v_m_clauseOf v_m_codeFrom v_m_codeHalf v_m_codeTo x_m_clauses x_m_isKept) (a1 : Int32) (a2 : Int32) : ∃ (r : Int32) (o_v_t_shelf_ink : Nat → Int32) (o_v_m_now : Nat → Int32), f_X11_ink v_t_shelf_ink x_t_shelf_told a1 a2 = some (r, o_v_t_shelf_ink) ∧ f_X12_ink v_m_now a1 a2 = some (r, o_v_m_now) ∧ Inv v_t_tape_bytes x_t_tape_size v_t_rhymes_other v_t_shelf_dread o_v_t_shelf_ink v_t_shelf_kind v_t_shelf_salt v_t_shelf_tries x_t_shelf_day x_t_shelf_nerve x_t_shelf_pictures x_t_shelf_told x_t_shelf_written x_t_shelf_x v_t_kept_dread v_t_kept_ink v_t_kept_kind v_t_kept_salt v_t_kept_tries x_t_kept_day x_t_kept_nerve x_t_kept_pictures x_t_kept_told x_t_kept_written x_t_kept_x v_t_letter_words x_t_letter_size v_t_law_code v_t_law_letters v_t_law_valueFrom v_t_law_testFrom v_t_law_testEnd x_t_law_rules x_t_anyKept o_v_m_now v_m_kept v_m_rhymeOf v_m_wordAt x_m_wordMany v_m_tape x_m_taped v_m_codes v_m_clauseOf v_m_codeFrom v_m_codeHalf v_m_codeTo x_m_clauses x_m_isKept := by
  have hI0 := hI
  obtain ⟨hT, hR, hS, hK, hL, hW⟩ := hI
  obtain ⟨⟨T, hT2, e, hn⟩, hS2⟩ := id hS
  subst e
  rcases tI_cases T a1 with h0 | ⟨b, hb, rfl, hb1, h1⟩
  · exact ⟨0, v_t_shelf_ink, v_m_now, by simp [f_X11_ink, f_X11_ink_b22, f_isTold8 hT2, h0, bd1], by simp [f_X12_ink, f_X12_ink_b19, f_isTold12 hn, h0, bd1], hI0⟩
  · by_cases h : a2 < 0 ∨ 999 < a2
    · exact ⟨0, v_t_shelf_ink, v_m_now, by simp [f_X11_ink, f_X11_ink_b22, f_isTold8 hT2, h1, bd1, f_within_eq, h], by simp [f_X12_ink, f_X12_ink_b19, f_isTold12 hn, h1, bd1, f_in_eq, h], hI0⟩
    · have hr : Rg a2 999 := rg_of (n := 999) (by omega) (fun q => h (Or.inl q)) (fun q => h (Or.inr q))
      refine ⟨1, upd v_t_shelf_ink b a2, upd v_m_now (24 + b) a2, ?_, ?_, hT, hR, hS.ink hr hb, hK, hL, hW⟩
      · simp only [f_X11_ink, f_isTold8 hT2, h1, bd1, f_within_eq, if_neg h, if_neg one_ne, f_X8_setInk]
        rw [and7 b hb, sI_n (by omega) (by omega)]
      · simp only [f_X12_ink, f_isTold12 hn, h1, bd1, f_in_eq, if_neg h, if_neg one_ne]
        rw [show (24 : Int32) = nI 24 from rfl, nI_add, sI_n (by omega) (by omega)]
