/-! pure: keep, undo, count, bottle, pressed -/
theorem RShelf.cong {dread ink kind salt tries dread' ink' kind' salt' tries' : Nat → Int32} {day nerve pictures told written x : Int32} {now now' : Nat → Int32} (h : RShelf dread ink kind salt tries day nerve pictures told written x now)
    (h1 : ∀ j, j < 128 → dread' j = dread j) (h2 : ∀ j, j < 8 → ink' j = ink j) (h3 : ∀ j, j < 8 → kind' j = kind j) (h4 : ∀ j, j < 8 → salt' j = salt j) (h5 : ∀ j, j < 128 → tries' j = tries j) (hn : ∀ k, k < 293 → now' k = now k) : RShelf dread' ink' kind' salt' tries' day nerve pictures told written x now' := by
  obtain ⟨⟨T, hT, e, hn0⟩, g2, g3, ⟨g4, g4r⟩, ⟨g5, g5r⟩, ⟨g6, g6r⟩, ⟨g7, g7r⟩, g8, g8r⟩ := h
  refine ⟨⟨T, hT, e, fun b hb => ?_⟩, fun b hb => ?_, fun j hj => ?_, ⟨?_, g4r⟩, ⟨?_, g5r⟩, ⟨?_, g6r⟩, ⟨?_, g7r⟩, ?_, g8r⟩
  · rw [hn b (by omega)]; exact hn0 b hb
  · rw [h3 b hb, h4 b hb, h2 b hb, hn _ (by omega), hn _ (by omega), hn _ (by omega)]; exact g2 b hb
  · rw [h1 j hj, h5 j hj, hn _ (by omega), hn _ (by omega)]; exact g3 j hj
  · rw [hn _ (by omega)]; exact g4
  · rw [hn _ (by omega)]; exact g5
  · rw [hn _ (by omega)]; exact g6
  · rw [hn _ (by omega)]; exact g7
  · rw [hn _ (by omega)]; exact g8
theorem cI_8 {ρ : Type} {f g : Nat → Int32} {K : (Nat → Int32) → Option ρ} : cI 8 8 f g 0 0 8 K = K (va_cpy f g 0 0 8) := by
  unfold cI
  rw [if_pos (by decide)]
  rfl
theorem cI_128 {ρ : Type} {f g : Nat → Int32} {K : (Nat → Int32) → Option ρ} : cI 128 128 f g 0 0 128 K = K (va_cpy f g 0 0 128) := by
  unfold cI
  rw [if_pos (by decide)]
  rfl
theorem cpy_in {f g : Nat → Int32} {n j : Nat} (h : j < n) : va_cpy f g 0 0 n j = f j := by
  rw [pk_cpy_in (Nat.zero_le j) (by omega)]
  congr 1
  omega
theorem f_copies12 (f t : Nat → Int32) : f_X12_copies f t = some (fa_fill f t 293) := by
  unfold f_X12_copies
  have h0 : t = fa_fill f t 0 := (fa_fill_0 f t).symm
  have key := loop0 (fun n a i => f_X12_copies_b2 f n a i) (fa_fill f t) 293 (by omega) (some (fa_fill f t 293)) (fun n k hk => ?_) (fun n => ?_)
  · rw [← h0] at key; exact key
  · show f_X12_copies_b2 f (n + 1) _ _ = f_X12_copies_b2 f n _ _
    rw [f_X12_copies_b2, if_neg (by rw [show (293 : Int32) = nI 293 from rfl, nle (by omega) (by omega)]; omega), gI_n hk (by omega), sI_n hk (by omega), fa_fill_succ]
  · show f_X12_copies_b2 f (n + 1) _ _ = _
    rw [f_X12_copies_b2, if_pos (by decide)]
set_option maxHeartbeats 4000000 in
theorem pm_keep {v_t_tape_bytes : Nat → Int32} {x_t_tape_size : Int32} {v_t_rhymes_other : Nat → Int32} {v_t_shelf_dread : Nat → Int32} {v_t_shelf_ink : Nat → Int32} {v_t_shelf_kind : Nat → Int32} {v_t_shelf_salt : Nat → Int32} {v_t_shelf_tries : Nat → Int32} {x_t_shelf_day : Int32} {x_t_shelf_nerve : Int32} {x_t_shelf_pictures : Int32} {x_t_shelf_told : Int32} {x_t_shelf_written : Int32} {x_t_shelf_x : Int32} {v_t_kept_dread : Nat → Int32} {v_t_kept_ink : Nat → Int32} {v_t_kept_kind : Nat → Int32} {v_t_kept_salt : Nat → Int32} {v_t_kept_tries : Nat → Int32} {x_t_kept_day : Int32} {x_t_kept_nerve : Int32} {x_t_kept_pictures : Int32} {x_t_kept_told : Int32} {x_t_kept_written : Int32} {x_t_kept_x : Int32} {v_t_letter_words : Nat → Int32} {x_t_letter_size : Int32} {v_t_law_code : Nat → Int32} {v_t_law_letters : Nat → Int32} {v_t_law_valueFrom : Nat → Int32} {v_t_law_testFrom : Nat → Int32} {v_t_law_testEnd : Nat → Int32} {x_t_law_rules : Int32} {x_t_anyKept : Int32} {v_m_now : Nat → Int32} {v_m_kept : Nat → Int32} {v_m_rhymeOf : Nat → Int32} {v_m_wordAt : Nat → Int32} {x_m_wordMany : Int32} {v_m_tape : Nat → Int32} {x_m_taped : Int32} {v_m_codes : Nat → Int32} {v_m_clauseOf : Nat → Int32} {v_m_codeFrom : Nat → Int32} {v_m_codeHalf : Nat → Int32} {v_m_codeTo : Nat → Int32} {x_m_clauses : Int32} {x_m_isKept : Int32} (hI : Inv v_t_tape_bytes x_t_tape_size v_t_rhymes_other v_t_shelf_dread v_t_shelf_ink v_t_shelf_kind v_t_shelf_salt v_t_shelf_tries x_t_shelf_day x_t_shelf_nerve x_t_shelf_pictures x_t_shelf_told x_t_shelf_written x_t_shelf_x v_t_kept_dread v_t_kept_ink v_t_kept_kind v_t_kept_salt v_t_kept_tries x_t_kept_day x_t_kept_nerve x_t_kept_pictures x_t_kept_told x_t_kept_written x_t_kept_x v_t_letter_words x_t_letter_size v_t_law_code v_t_law_letters v_t_law_valueFrom v_t_law_testFrom v_t_law_testEnd x_t_law_rules x_t_anyKept v_m_now v_m_kept v_m_rhymeOf v_m_wordAt x_m_wordMany v_m_tape x_m_taped v_m_codes v_m_clauseOf v_m_codeFrom v_m_codeHalf v_m_codeTo x_m_clauses x_m_isKept) : ∃ (r : Int32) (o_v_t_kept_dread : Nat → Int32) (o_v_t_kept_ink : Nat → Int32) (o_v_t_kept_kind : Nat → Int32) (o_v_t_kept_salt : Nat → Int32) (o_v_t_kept_tries : Nat → Int32) (o_x_t_anyKept : Int32) (o_x_t_kept_day : Int32) (o_x_t_kept_nerve : Int32) (o_x_t_kept_pictures : Int32) (o_x_t_kept_told : Int32) (o_x_t_kept_written : Int32) (o_x_t_kept_x : Int32) (o_v_m_kept : Nat → Int32) (o_x_m_isKept : Int32), f_X11_keep v_t_kept_dread v_t_kept_ink v_t_kept_kind v_t_kept_salt v_t_kept_tries v_t_shelf_dread v_t_shelf_ink v_t_shelf_kind v_t_shelf_salt v_t_shelf_tries x_t_anyKept x_t_kept_day x_t_kept_nerve x_t_kept_pictures x_t_kept_told x_t_kept_written x_t_kept_x x_t_shelf_day x_t_shelf_nerve x_t_shelf_pictures x_t_shelf_told x_t_shelf_written x_t_shelf_x = some (r, o_v_t_kept_dread, o_v_t_kept_ink, o_v_t_kept_kind, o_v_t_kept_salt, o_v_t_kept_tries, o_x_t_anyKept, o_x_t_kept_day, o_x_t_kept_nerve, o_x_t_kept_pictures, o_x_t_kept_told, o_x_t_kept_written, o_x_t_kept_x) ∧ f_X12_keep v_m_kept v_m_now x_m_isKept = some (r, o_v_m_kept, o_x_m_isKept) ∧ Inv v_t_tape_bytes x_t_tape_size v_t_rhymes_other v_t_shelf_dread v_t_shelf_ink v_t_shelf_kind v_t_shelf_salt v_t_shelf_tries x_t_shelf_day x_t_shelf_nerve x_t_shelf_pictures x_t_shelf_told x_t_shelf_written x_t_shelf_x o_v_t_kept_dread o_v_t_kept_ink o_v_t_kept_kind o_v_t_kept_salt o_v_t_kept_tries o_x_t_kept_day o_x_t_kept_nerve o_x_t_kept_pictures o_x_t_kept_told o_x_t_kept_written o_x_t_kept_x v_t_letter_words x_t_letter_size v_t_law_code v_t_law_letters v_t_law_valueFrom v_t_law_testFrom v_t_law_testEnd x_t_law_rules o_x_t_anyKept v_m_now o_v_m_kept v_m_rhymeOf v_m_wordAt x_m_wordMany v_m_tape x_m_taped v_m_codes v_m_clauseOf v_m_codeFrom v_m_codeHalf v_m_codeTo x_m_clauses o_x_m_isKept := by
  obtain ⟨hT, hR, hS, hK, hL, hW⟩ := hI
  have hd : x_t_shelf_day = v_m_now 291 := hS.2.2.2.2.2.2.1.1
  have hc := hS.cong (dread' := va_cpy v_t_shelf_dread v_t_kept_dread 0 0 128) (ink' := va_cpy v_t_shelf_ink v_t_kept_ink 0 0 8) (kind' := va_cpy v_t_shelf_kind v_t_kept_kind 0 0 8) (salt' := va_cpy v_t_shelf_salt v_t_kept_salt 0 0 8) (tries' := va_cpy v_t_shelf_tries v_t_kept_tries 0 0 128) (now' := fa_fill v_m_now v_m_kept 293) (fun j hj => cpy_in hj) (fun j hj => cpy_in hj) (fun j hj => cpy_in hj) (fun j hj => cpy_in hj) (fun j hj => cpy_in hj) (fun k hk => fa_fill_in hk)
  refine ⟨x_t_shelf_day, _, _, _, _, _, 1, _, _, _, _, _, _, _, 1, ?_, ?_, hT, hR, hS, Or.inr ⟨rfl, rfl, hc⟩, hL, hW⟩
  · simp only [f_X11_keep, f_X8_copyFrom, cI_8, cI_128, bd11]
  · simp only [f_X12_keep, f_copies12, bd1]
    rw [show (291 : Int32) = nI 291 from rfl, gI_n (by omega) (by omega), hd]
set_option maxHeartbeats 4000000 in
theorem pm_undo {v_t_tape_bytes : Nat → Int32} {x_t_tape_size : Int32} {v_t_rhymes_other : Nat → Int32} {v_t_shelf_dread : Nat → Int32} {v_t_shelf_ink : Nat → Int32} {v_t_shelf_kind : Nat → Int32} {v_t_shelf_salt : Nat → Int32} {v_t_shelf_tries : Nat → Int32} {x_t_shelf_day : Int32} {x_t_shelf_nerve : Int32} {x_t_shelf_pictures : Int32} {x_t_shelf_told : Int32} {x_t_shelf_written : Int32} {x_t_shelf_x : Int32} {v_t_kept_dread : Nat → Int32} {v_t_kept_ink : Nat → Int32} {v_t_kept_kind : Nat → Int32} {v_t_kept_salt : Nat → Int32} {v_t_kept_tries : Nat → Int32} {x_t_kept_day : Int32} {x_t_kept_nerve : Int32} {x_t_kept_pictures : Int32} {x_t_kept_told : Int32} {x_t_kept_written : Int32} {x_t_kept_x : Int32} {v_t_letter_words : Nat → Int32} {x_t_letter_size : Int32} {v_t_law_code : Nat → Int32} {v_t_law_letters : Nat → Int32} {v_t_law_valueFrom : Nat → Int32} {v_t_law_testFrom : Nat → Int32} {v_t_law_testEnd : Nat → Int32} {x_t_law_rules : Int32} {x_t_anyKept : Int32} {v_m_now : Nat → Int32} {v_m_kept : Nat → Int32} {v_m_rhymeOf : Nat → Int32} {v_m_wordAt : Nat → Int32} {x_m_wordMany : Int32} {v_m_tape : Nat → Int32} {x_m_taped : Int32} {v_m_codes : Nat → Int32} {v_m_clauseOf : Nat → Int32} {v_m_codeFrom : Nat → Int32} {v_m_codeHalf : Nat → Int32} {v_m_codeTo : Nat → Int32} {x_m_clauses : Int32} {x_m_isKept : Int32} (hI : Inv v_t_tape_bytes x_t_tape_size v_t_rhymes_other v_t_shelf_dread v_t_shelf_ink v_t_shelf_kind v_t_shelf_salt v_t_shelf_tries x_t_shelf_day x_t_shelf_nerve x_t_shelf_pictures x_t_shelf_told x_t_shelf_written x_t_shelf_x v_t_kept_dread v_t_kept_ink v_t_kept_kind v_t_kept_salt v_t_kept_tries x_t_kept_day x_t_kept_nerve x_t_kept_pictures x_t_kept_told x_t_kept_written x_t_kept_x v_t_letter_words x_t_letter_size v_t_law_code v_t_law_letters v_t_law_valueFrom v_t_law_testFrom v_t_law_testEnd x_t_law_rules x_t_anyKept v_m_now v_m_kept v_m_rhymeOf v_m_wordAt x_m_wordMany v_m_tape x_m_taped v_m_codes v_m_clauseOf v_m_codeFrom v_m_codeHalf v_m_codeTo x_m_clauses x_m_isKept) : ∃ (r : Int32) (o_v_t_shelf_dread : Nat → Int32) (o_v_t_shelf_ink : Nat → Int32) (o_v_t_shelf_kind : Nat → Int32) (o_v_t_shelf_salt : Nat → Int32) (o_v_t_shelf_tries : Nat → Int32) (o_x_t_shelf_day : Int32) (o_x_t_shelf_nerve : Int32) (o_x_t_shelf_pictures : Int32) (o_x_t_shelf_told : Int32) (o_x_t_shelf_written : Int32) (o_x_t_shelf_x : Int32) (o_v_m_now : Nat → Int32), f_X11_undo v_t_kept_dread v_t_kept_ink v_t_kept_kind v_t_kept_salt v_t_kept_tries v_t_shelf_dread v_t_shelf_ink v_t_shelf_kind v_t_shelf_salt v_t_shelf_tries x_t_anyKept x_t_kept_day x_t_kept_nerve x_t_kept_pictures x_t_kept_told x_t_kept_written x_t_kept_x x_t_shelf_day x_t_shelf_nerve x_t_shelf_pictures x_t_shelf_told x_t_shelf_written x_t_shelf_x = some (r, o_v_t_shelf_dread, o_v_t_shelf_ink, o_v_t_shelf_kind, o_v_t_shelf_salt, o_v_t_shelf_tries, o_x_t_shelf_day, o_x_t_shelf_nerve, o_x_t_shelf_pictures, o_x_t_shelf_told, o_x_t_shelf_written, o_x_t_shelf_x) ∧ f_X12_undo v_m_kept v_m_now x_m_isKept = some (r, o_v_m_now) ∧ Inv v_t_tape_bytes x_t_tape_size v_t_rhymes_other o_v_t_shelf_dread o_v_t_shelf_ink o_v_t_shelf_kind o_v_t_shelf_salt o_v_t_shelf_tries o_x_t_shelf_day o_x_t_shelf_nerve o_x_t_shelf_pictures o_x_t_shelf_told o_x_t_shelf_written o_x_t_shelf_x v_t_kept_dread v_t_kept_ink v_t_kept_kind v_t_kept_salt v_t_kept_tries x_t_kept_day x_t_kept_nerve x_t_kept_pictures x_t_kept_told x_t_kept_written x_t_kept_x v_t_letter_words x_t_letter_size v_t_law_code v_t_law_letters v_t_law_valueFrom v_t_law_testFrom v_t_law_testEnd x_t_law_rules x_t_anyKept o_v_m_now v_m_kept v_m_rhymeOf v_m_wordAt x_m_wordMany v_m_tape x_m_taped v_m_codes v_m_clauseOf v_m_codeFrom v_m_codeHalf v_m_codeTo x_m_clauses x_m_isKept := by
  have hI0 := hI
  obtain ⟨hT, hR, hS, hK, hL, hW⟩ := hI
  rcases hK with ⟨rfl, rfl⟩ | ⟨rfl, rfl, hk⟩
  · exact ⟨0, _, _, _, _, _, _, _, _, _, _, _, _, by simp [f_X11_undo], by simp [f_X12_undo], hI0⟩
  · have hc := hk.cong (dread' := va_cpy v_t_kept_dread v_t_shelf_dread 0 0 128) (ink' := va_cpy v_t_kept_ink v_t_shelf_ink 0 0 8) (kind' := va_cpy v_t_kept_kind v_t_shelf_kind 0 0 8) (salt' := va_cpy v_t_kept_salt v_t_shelf_salt 0 0 8) (tries' := va_cpy v_t_kept_tries v_t_shelf_tries 0 0 128) (now' := fa_fill v_m_kept v_m_now 293) (fun j hj => cpy_in hj) (fun j hj => cpy_in hj) (fun j hj => cpy_in hj) (fun j hj => cpy_in hj) (fun j hj => cpy_in hj) (fun k hk => fa_fill_in hk)
    refine ⟨1, _, _, _, _, _, _, _, _, _, _, _, _, ?_, ?_, hT, hR, hc, Or.inr ⟨rfl, rfl, hk⟩, hL, hW⟩
    · simp only [f_X11_undo, if_neg one_ne, f_X8_copyFrom, cI_8, cI_128, bd11]
    · simp only [f_X12_undo, if_neg one_ne, f_copies12, bd1]
theorem told_bits : ∀ T, T < 256 → bitsI (fun b => decide (T / 2 ^ b % 2 = 1)) 8 = nI T := by decide +kernel
theorem f_toldSet12 {T : Nat} {now : Nat → Int32} (hT : T < 256) (hn : ∀ b, b < 8 → now b = nI (T / 2 ^ b % 2)) : f_X12_toldSet now = some (nI T) := by
  unfold f_X12_toldSet
  rw [← told_bits T hT]
  refine loop0 (fun n a i => f_X12_toldSet_b4 now n a i) (bitsI (fun b => decide (T / 2 ^ b % 2 = 1))) 8 (by omega) _ (fun n k hk => ?_) (fun n => ?_)
  · show f_X12_toldSet_b4 now (n + 1) _ _ = f_X12_toldSet_b4 now n _ _
    rw [f_X12_toldSet_b4, if_neg (by rw [show (8 : Int32) = nI 8 from rfl, nle (by omega) (by omega)]; omega), f_isTold12 hn, tI_in hk]
    simp only [bd1, f_X12_toldSet_b24, bitsI]
    rcases Nat.mod_two_eq_zero_or_one (T / 2 ^ k) with e | e
    · simp [e, show nI 0 = 0 from rfl]
    · simp [e, show ¬ nI 1 = 0 by decide]
  · show f_X12_toldSet_b4 now (n + 1) _ _ = _
    rw [f_X12_toldSet_b4, if_pos (by decide)]
set_option maxHeartbeats 4000000 in
theorem pm_count {v_t_tape_bytes : Nat → Int32} {x_t_tape_size : Int32} {v_t_rhymes_other : Nat → Int32} {v_t_shelf_dread : Nat → Int32} {v_t_shelf_ink : Nat → Int32} {v_t_shelf_kind : Nat → Int32} {v_t_shelf_salt : Nat → Int32} {v_t_shelf_tries : Nat → Int32} {x_t_shelf_day : Int32} {x_t_shelf_nerve : Int32} {x_t_shelf_pictures : Int32} {x_t_shelf_told : Int32} {x_t_shelf_written : Int32} {x_t_shelf_x : Int32} {v_t_kept_dread : Nat → Int32} {v_t_kept_ink : Nat → Int32} {v_t_kept_kind : Nat → Int32} {v_t_kept_salt : Nat → Int32} {v_t_kept_tries : Nat → Int32} {x_t_kept_day : Int32} {x_t_kept_nerve : Int32} {x_t_kept_pictures : Int32} {x_t_kept_told : Int32} {x_t_kept_written : Int32} {x_t_kept_x : Int32} {v_t_letter_words : Nat → Int32} {x_t_letter_size : Int32} {v_t_law_code : Nat → Int32} {v_t_law_letters : Nat → Int32} {v_t_law_valueFrom : Nat → Int32} {v_t_law_testFrom : Nat → Int32} {v_t_law_testEnd : Nat → Int32} {x_t_law_rules : Int32} {x_t_anyKept : Int32} {v_m_now : Nat → Int32} {v_m_kept : Nat → Int32} {v_m_rhymeOf : Nat → Int32} {v_m_wordAt : Nat → Int32} {x_m_wordMany : Int32} {v_m_tape : Nat → Int32} {x_m_taped : Int32} {v_m_codes : Nat → Int32} {v_m_clauseOf : Nat → Int32} {v_m_codeFrom : Nat → Int32} {v_m_codeHalf : Nat → Int32} {v_m_codeTo : Nat → Int32} {x_m_clauses : Int32} {x_m_isKept : Int32} (hI : Inv v_t_tape_bytes x_t_tape_size v_t_rhymes_other v_t_shelf_dread v_t_shelf_ink v_t_shelf_kind v_t_shelf_salt v_t_shelf_tries x_t_shelf_day x_t_shelf_nerve x_t_shelf_pictures x_t_shelf_told x_t_shelf_written x_t_shelf_x v_t_kept_dread v_t_kept_ink v_t_kept_kind v_t_kept_salt v_t_kept_tries x_t_kept_day x_t_kept_nerve x_t_kept_pictures x_t_kept_told x_t_kept_written x_t_kept_x v_t_letter_words x_t_letter_size v_t_law_code v_t_law_letters v_t_law_valueFrom v_t_law_testFrom v_t_law_testEnd x_t_law_rules x_t_anyKept v_m_now v_m_kept v_m_rhymeOf v_m_wordAt x_m_wordMany v_m_tape x_m_taped v_m_codes v_m_clauseOf v_m_codeFrom v_m_codeHalf v_m_codeTo x_m_clauses x_m_isKept) (a1 : Int32) : ∃ (r : Int32), f_X11_count x_t_law_rules x_t_letter_size x_t_shelf_day x_t_shelf_nerve x_t_shelf_pictures x_t_shelf_told x_t_shelf_written x_t_shelf_x x_t_tape_size a1 = some r ∧ f_X12_count v_m_now x_m_clauses x_m_taped x_m_wordMany a1 = some r ∧ Inv v_t_tape_bytes x_t_tape_size v_t_rhymes_other v_t_shelf_dread v_t_shelf_ink v_t_shelf_kind v_t_shelf_salt v_t_shelf_tries x_t_shelf_day x_t_shelf_nerve x_t_shelf_pictures x_t_shelf_told x_t_shelf_written x_t_shelf_x v_t_kept_dread v_t_kept_ink v_t_kept_kind v_t_kept_salt v_t_kept_tries x_t_kept_day x_t_kept_nerve x_t_kept_pictures x_t_kept_told x_t_kept_written x_t_kept_x v_t_letter_words x_t_letter_size v_t_law_code v_t_law_letters v_t_law_valueFrom v_t_law_testFrom v_t_law_testEnd x_t_law_rules x_t_anyKept v_m_now v_m_kept v_m_rhymeOf v_m_wordAt x_m_wordMany v_m_tape x_m_taped v_m_codes v_m_clauseOf v_m_codeFrom v_m_codeHalf v_m_codeTo x_m_clauses x_m_isKept := by
  have hI0 := hI
  obtain ⟨⟨tn, tt, ht1, rfl, rfl, ht4⟩, hR, hS, hK, ⟨ln, lw, hl1, rfl, rfl, hl4⟩, ⟨rn, hr1, rfl, rfl, hr4⟩⟩ := hI
  obtain ⟨⟨T, hT2, rfl, hn⟩, hb2, hd3, ⟨rfl, -⟩, ⟨rfl, -⟩, ⟨rfl, -⟩, ⟨rfl, -⟩, rfl, -⟩ := hS
  have hs : ∀ (T : Option Int32) (Q : Prop), (∃ r, T = some r) → Q → ∃ r, T = some r ∧ T = some r ∧ Q := fun T Q ⟨r, h⟩ q => ⟨r, h, h, q⟩
  simp only [f_X11_count, f_X12_count, f_toldSet12 hT2 hn, bd1]
  rw [show (291 : Int32) = nI 291 from rfl, show (288 : Int32) = nI 288 from rfl, show (289 : Int32) = nI 289 from rfl, show (290 : Int32) = nI 290 from rfl, show (292 : Int32) = nI 292 from rfl, gI_n (by omega) (by omega), gI_n (by omega) (by omega), gI_n (by omega) (by omega), gI_n (by omega) (by omega), gI_n (by omega) (by omega)]
  refine hs _ _ ?_ hI0
  repeat' split
  all_goals exact ⟨_, rfl⟩
/-- a row of an array is filled -/
def rfl_ (v : Nat → Int32) (o k : Nat) (f : Nat → Int32) : Nat → Int32 := fun j => if o ≤ j ∧ j < o + k then f (j - o) else v j
theorem rfl_0 (v : Nat → Int32) (o : Nat) (f : Nat → Int32) : rfl_ v o 0 f = v := by
  funext j
  unfold rfl_
  rw [if_neg (by omega)]
theorem rfl_s (v : Nat → Int32) (o k : Nat) (f : Nat → Int32) : upd (rfl_ v o k f) (o + k) (f k) = rfl_ v o (k + 1) f := by
  funext j
  unfold upd rfl_
  by_cases h : j = o + k
  · subst h
    rw [if_pos rfl, if_pos (by omega)]
    congr 1
    omega
  · rw [if_neg h]
    by_cases h2 : o ≤ j ∧ j < o + k
    · rw [if_pos h2, if_pos (by omega)]
    · rw [if_neg h2, if_neg (by omega)]
theorem rfl_in {v : Nat → Int32} {o k j : Nat} {f : Nat → Int32} (h : o ≤ j) (h2 : j < o + k) : rfl_ v o k f j = f (j - o) := by unfold rfl_; rw [if_pos ⟨h, h2⟩]
theorem rfl_out {v : Nat → Int32} {o k j : Nat} {f : Nat → Int32} (h : j < o ∨ o + k ≤ j) : rfl_ v o k f j = v j := by unfold rfl_; rw [if_neg (by omega)]
theorem f_setTries8 {v : Nat → Int32} {b w : Nat} (hb : b < 8) (hw : w < 16) (x : Int32) : f_X8_setTries v (nI b) (nI w) x = some (upd v (16 * b + w) x) := by
  unfold f_X8_setTries
  rw [and7 b hb, and15 w hw, show (16 : Int32) = nI 16 from rfl, pk_mul, nI_add, sI_n (by omega) (by omega), Nat.mul_comm b 16]
theorem f_setDread8 {v : Nat → Int32} {b w : Nat} (hb : b < 8) (hw : w < 16) (x : Int32) : f_X8_setDread v (nI b) (nI w) x = some (upd v (16 * b + w) (bnd x)) := by
  unfold f_X8_setDread
  rw [f_bounded_eq]
  simp only [bd1]
  rw [and7 b hb, and15 w hw, show (16 : Int32) = nI 16 from rfl, pk_mul, nI_add, sI_n (by omega) (by omega), Nat.mul_comm b 16]
  rfl
theorem f_cleanse8 {ink salt tries : Nat → Int32} {b : Nat} (hb : b < 8) : f_X8_cleanse ink salt tries (nI b) = some (upd ink b 999, upd salt b 0, rfl_ tries (16 * b) 16 (fun _ => 0)) := by
  unfold f_X8_cleanse f_X8_setSalt f_X8_setInk
  rw [and7 b hb, sI_n (by omega) (by omega), sI_n (by omega) (by omega)]
  rw [bd1_s, bd1_s]
  have key := loop0 (fun n a i => f_X8_cleanse_b16 (nI b) n (upd ink b 999) (upd salt b 0) a i) (fun k => rfl_ tries (16 * b) k (fun _ => 0)) 16 (by omega) (some (upd ink b 999, upd salt b 0, rfl_ tries (16 * b) 16 (fun _ => 0))) (fun n k hk => ?_) (fun n => ?_)
  · have h0 : rfl_ tries (16 * b) 0 (fun _ => 0) = tries := rfl_0 _ _ _
    rw [h0] at key; exact key
  · show f_X8_cleanse_b16 (nI b) (n + 1) _ _ _ _ = f_X8_cleanse_b16 (nI b) n _ _ _ _
    rw [f_X8_cleanse_b16, if_neg (by rw [show (16 : Int32) = nI 16 from rfl, nle (by omega) (by omega)]; omega), f_setTries8 hb hk]
    simp only [bd1]
    rw [rfl_s tries (16 * b) k (fun _ => 0)]
  · show f_X8_cleanse_b16 (nI b) (n + 1) _ _ _ _ = _
    rw [f_X8_cleanse_b16, if_pos (by decide)]
theorem bnd_0 : bnd 0 = 0 := by decide
theorem f_putNew8 {dread ink kind salt tries : Nat → Int32} {told kd : Int32} {b : Nat} (hb : b < 8) : f_X8_putNew dread ink kind salt tries told (nI b) kd = some (rfl_ dread (16 * b) 16 (fun _ => 0), upd ink b 999, upd kind b kd, upd salt b 0, rfl_ tries (16 * b) 16 (fun _ => 0), told ||| ((1 : Int32) <<< (nI b &&& 31))) := by
  unfold f_X8_putNew f_X8_setKind
  rw [and7 b hb, sI_n (by omega) (by omega), f_cleanse8 hb]
  rw [bd1_s, bd3_s]
  have key := loop0 (fun n a i => f_X8_putNew_b28 (nI b) n a (upd ink b 999) (upd kind b kd) (upd salt b 0) (rfl_ tries (16 * b) 16 (fun _ => 0)) (told ||| ((1 : Int32) <<< (nI b &&& 31))) i) (fun k => rfl_ dread (16 * b) k (fun _ => 0)) 16 (by omega) (some (rfl_ dread (16 * b) 16 (fun _ => 0), upd ink b 999, upd kind b kd, upd salt b 0, rfl_ tries (16 * b) 16 (fun _ => 0), told ||| ((1 : Int32) <<< (nI b &&& 31)))) (fun n k hk => ?_) (fun n => ?_)
  · have h0 : rfl_ dread (16 * b) 0 (fun _ => 0) = dread := rfl_0 _ _ _
    rw [h0] at key; exact key
  · show f_X8_putNew_b28 (nI b) (n + 1) _ _ _ _ _ _ _ = f_X8_putNew_b28 (nI b) n _ _ _ _ _ _ _
    rw [f_X8_putNew_b28, if_neg (by rw [show (16 : Int32) = nI 16 from rfl, nle (by omega) (by omega)]; omega), f_setDread8 hb hk, bnd_0]
    simp only [bd1]
    rw [rfl_s dread (16 * b) k (fun _ => 0)]
  · show f_X8_putNew_b28 (nI b) (n + 1) _ _ _ _ _ _ _ = _
    rw [f_X8_putNew_b28, if_pos (by decide)]
/-- the reference's array with a bottle made new -/
def nwB (now : Nat → Int32) (b : Nat) : Nat → Int32 := rfl_ (rfl_ (upd (upd now (16 + b) 0) (24 + b) 999) (32 + 16 * b) 16 (fun _ => 0)) (160 + 16 * b) 16 (fun _ => 0)
theorem rfl_swap {v : Nat → Int32} {o p k l i : Nat} {f h : Nat → Int32} {x : Int32} (hi : i < p ∨ p + l ≤ i) (ho : o + k = i) (hx : f k = x) (hd : o + k < p ∨ p + l ≤ o) : upd (rfl_ (rfl_ v o k f) p l h) i x = rfl_ (rfl_ v o (k + 1) f) p l h := by
  subst ho; subst hx
  funext j
  unfold upd rfl_
  by_cases hj : j = o + k
  · subst hj
    rw [if_pos rfl, if_neg (by omega), if_pos (by omega)]
    congr 1; omega
  · rw [if_neg hj]
    by_cases h2 : p ≤ j ∧ j < p + l
    · rw [if_pos h2, if_pos h2]
    · rw [if_neg h2, if_neg h2]
      by_cases h3 : o ≤ j ∧ j < o + k
      · rw [if_pos h3, if_pos (by omega)]
      · rw [if_neg h3, if_neg (by omega)]
theorem f_becomesNew12 {now : Nat → Int32} {b : Nat} (hb : b < 8) : f_X12_becomesNew now (nI b) = some (nwB now b) := by
  unfold f_X12_becomesNew
  rw [show (16 : Int32) + nI b = nI (16 + b) from nI_add 16 b, show (24 : Int32) + nI b = nI (24 + b) from nI_add 24 b, sI_n (by omega) (by omega), sI_n (by omega) (by omega)]
  have key := loop0 (fun n a i => f_X12_becomesNew_b24 (nI b) n a i) (fun k => rfl_ (rfl_ (upd (upd now (16 + b) 0) (24 + b) 999) (32 + 16 * b) k (fun _ => 0)) (160 + 16 * b) k (fun _ => 0)) 16 (by omega) (some (nwB now b)) (fun n k hk => ?_) (fun n => ?_)
  · simp only [rfl_0] at key; exact key
  · show f_X12_becomesNew_b24 (nI b) (n + 1) _ _ = f_X12_becomesNew_b24 (nI b) n _ _
    rw [f_X12_becomesNew_b24, if_neg (by rw [show (16 : Int32) = nI 16 from rfl, nle (by omega) (by omega)]; omega), show (16 : Int32) = nI 16 from rfl, show (32 : Int32) = nI 32 from rfl, show (160 : Int32) = nI 160 from rfl, pk_mul, nI_add, nI_add, nI_add, nI_add, sI_n (by omega) (by omega), sI_n (by omega) (by omega)]
    rw [rfl_swap (by omega) rfl rfl (by omega), rfl_s _ (160 + 16 * b) k (fun _ => 0)]
  · show f_X12_becomesNew_b24 (nI b) (n + 1) _ _ = _
    rw [f_X12_becomesNew_b24, if_pos (by decide)]
    rfl
theorem or_told : ∀ T, T < 256 → ∀ b, b < 8 → ∃ T', T' < 256 ∧ nI T ||| ((1 : Int32) <<< (nI b &&& 31)) = nI T' ∧ ∀ c, c < 8 → T' / 2 ^ c % 2 = if c = b then 1 else T / 2 ^ c % 2 := by
  intro T hT b hb
  have key : ∀ T, T < 256 → ∀ b, b < 8 → nI T ||| ((1 : Int32) <<< (nI b &&& 31)) = nI (T ||| 2 ^ b) ∧ T ||| 2 ^ b < 256 ∧ ∀ c, c < 8 → (T ||| 2 ^ b) / 2 ^ c % 2 = if c = b then 1 else T / 2 ^ c % 2 := by decide +kernel
  obtain ⟨k1, k2, k3⟩ := key T hT b hb
  exact ⟨T ||| 2 ^ b, k2, k1, k3⟩
theorem rg0 (n : Nat) : Rg 0 n := ⟨0, Nat.zero_le _, rfl⟩
theorem nwB_at {now : Nat → Int32} {b k : Nat} (h : k ≠ 16 + b) (h2 : k ≠ 24 + b) (h3 : ¬ (32 + 16 * b ≤ k ∧ k < 48 + 16 * b)) (h4 : ¬ (160 + 16 * b ≤ k ∧ k < 176 + 16 * b)) : nwB now b k = now k := by
  unfold nwB
  rw [rfl_out (by omega), rfl_out (by omega), pk_un h2, pk_un h]
/-- a shelf with one bottle made new; the reference likewise -/
theorem RShelf.new {dread ink kind salt tries : Nat → Int32} {day nerve pictures told written x : Int32} {now : Nat → Int32} (h : RShelf dread ink kind salt tries day nerve pictures told written x now) {b : Nat} (hb : b < 8) : RShelf (rfl_ dread (16 * b) 16 (fun _ => 0)) (upd ink b 999) kind (upd salt b 0) (rfl_ tries (16 * b) 16 (fun _ => 0)) day nerve pictures told written x (nwB now b) := by
  obtain ⟨⟨T, hT, e, hn⟩, h2, h3, ⟨h4, h4r⟩, ⟨h5, h5r⟩, ⟨h6, h6r⟩, ⟨h7, h7r⟩, h8, h8r⟩ := h
  refine ⟨⟨T, hT, e, fun c hc => ?_⟩, fun c hc => ?_, fun j hj => ?_, ⟨?_, h4r⟩, ⟨?_, h5r⟩, ⟨?_, h6r⟩, ⟨?_, h7r⟩, ?_, h8r⟩
  · rw [nwB_at (by omega) (by omega) (by omega) (by omega)]; exact hn c hc
  · obtain ⟨g1, g2, g3, g4, g5, g6⟩ := h2 c hc
    rw [nwB_at (k := 8 + c) (by omega) (by omega) (by omega) (by omega)]
    refine ⟨g1, g2, ?_⟩
    by_cases hcb : c = b
    · subst hcb
      unfold nwB
      rw [rfl_out (j := 16 + c) (by omega), rfl_out (j := 16 + c) (by omega), pk_un (j := 16 + c) (by omega), rfl_out (j := 24 + c) (by omega), rfl_out (j := 24 + c) (by omega), pk_us, pk_us, pk_us, pk_us]
      exact ⟨rfl, rg0 _, rfl, ⟨999, by omega, rfl⟩⟩
    · rw [nwB_at (k := 16 + c) (by omega) (by omega) (by omega) (by omega), nwB_at (k := 24 + c) (by omega) (by omega) (by omega) (by omega), pk_un hcb, pk_un hcb]
      exact ⟨g3, g4, g5, g6⟩
  · obtain ⟨g1, g2, g3, g4⟩ := h3 j hj
    by_cases hin : 16 * b ≤ j ∧ j < 16 * b + 16
    · rw [rfl_in hin.1 hin.2, rfl_in hin.1 hin.2]
      unfold nwB
      rw [rfl_out (j := 32 + j) (by omega), rfl_in (j := 32 + j) (by omega) (by omega), rfl_in (j := 160 + j) (by omega) (by omega)]
      exact ⟨rfl, rg0 _, rfl, rg0 _⟩
    · rw [rfl_out (by omega), rfl_out (by omega), nwB_at (by omega) (by omega) (by omega) (by omega), nwB_at (by omega) (by omega) (by omega) (by omega)]
      exact ⟨g1, g2, g3, g4⟩
  · rw [nwB_at (by omega) (by omega) (by omega) (by omega)]; exact h4
  · rw [nwB_at (by omega) (by omega) (by omega) (by omega)]; exact h5
  · rw [nwB_at (by omega) (by omega) (by omega) (by omega)]; exact h6
  · rw [nwB_at (by omega) (by omega) (by omega) (by omega)]; exact h7
  · rw [nwB_at (by omega) (by omega) (by omega) (by omega)]; exact h8
theorem RShelf.tell {dread ink kind salt tries : Nat → Int32} {day nerve pictures told written x : Int32} {now : Nat → Int32} (h : RShelf dread ink kind salt tries day nerve pictures told written x now) {b : Nat} (hb : b < 8) {kd : Int32} (hk : Rg kd 4) : RShelf dread ink (upd kind b kd) salt tries day nerve pictures (told ||| ((1 : Int32) <<< (nI b &&& 31))) written x (upd (upd now b 1) (8 + b) kd) := by
  obtain ⟨⟨T, hT, e, hn⟩, h2, h3, ⟨h4, h4r⟩, ⟨h5, h5r⟩, ⟨h6, h6r⟩, ⟨h7, h7r⟩, h8, h8r⟩ := h
  obtain ⟨T', t1, t2, t3⟩ := or_told T hT b hb
  refine ⟨⟨T', t1, by rw [e]; exact t2, fun c hc => ?_⟩, fun c hc => ?_, fun j hj => ?_, ⟨?_, h4r⟩, ⟨?_, h5r⟩, ⟨?_, h6r⟩, ⟨?_, h7r⟩, ?_, h8r⟩
  · rw [pk_un (by omega), t3 c hc]
    by_cases hcb : c = b
    · subst hcb; rw [pk_us, if_pos rfl]; rfl
    · rw [pk_un hcb, if_neg hcb]; exact hn c hc
  · obtain ⟨g1, g2, g3, g4, g5, g6⟩ := h2 c hc
    rw [pk_un (j := 16 + c) (by omega), pk_un (j := 16 + c) (by omega), pk_un (j := 24 + c) (by omega), pk_un (j := 24 + c) (by omega)]
    by_cases hcb : c = b
    · subst hcb; rw [pk_us, pk_us]; exact ⟨rfl, hk, g3, g4, g5, g6⟩
    · rw [pk_un hcb, pk_un (by omega), pk_un (by omega)]; exact ⟨g1, g2, g3, g4, g5, g6⟩
  · rw [pk_un (by omega), pk_un (by omega), pk_un (by omega), pk_un (by omega)]; exact h3 j hj
  · rw [pk_un (by omega), pk_un (by omega)]; exact h4
  · rw [pk_un (by omega), pk_un (by omega)]; exact h5
  · rw [pk_un (by omega), pk_un (by omega)]; exact h6
  · rw [pk_un (by omega), pk_un (by omega)]; exact h7
  · rw [pk_un (by omega), pk_un (by omega)]; exact h8
set_option maxHeartbeats 4000000 in
theorem pm_bottle {v_t_tape_bytes : Nat → Int32} {x_t_tape_size : Int32} {v_t_rhymes_other : Nat → Int32} {v_t_shelf_dread : Nat → Int32} {v_t_shelf_ink : Nat → Int32} {v_t_shelf_kind : Nat → Int32} {v_t_shelf_salt : Nat → Int32} {v_t_shelf_tries : Nat → Int32} {x_t_shelf_day : Int32} {x_t_shelf_nerve : Int32} {x_t_shelf_pictures : Int32} {x_t_shelf_told : Int32} {x_t_shelf_written : Int32} {x_t_shelf_x : Int32} {v_t_kept_dread : Nat → Int32} {v_t_kept_ink : Nat → Int32} {v_t_kept_kind : Nat → Int32} {v_t_kept_salt : Nat → Int32} {v_t_kept_tries : Nat → Int32} {x_t_kept_day : Int32} {x_t_kept_nerve : Int32} {x_t_kept_pictures : Int32} {x_t_kept_told : Int32} {x_t_kept_written : Int32} {x_t_kept_x : Int32} {v_t_letter_words : Nat → Int32} {x_t_letter_size : Int32} {v_t_law_code : Nat → Int32} {v_t_law_letters : Nat → Int32} {v_t_law_valueFrom : Nat → Int32} {v_t_law_testFrom : Nat → Int32} {v_t_law_testEnd : Nat → Int32} {x_t_law_rules : Int32} {x_t_anyKept : Int32} {v_m_now : Nat → Int32} {v_m_kept : Nat → Int32} {v_m_rhymeOf : Nat → Int32} {v_m_wordAt : Nat → Int32} {x_m_wordMany : Int32} {v_m_tape : Nat → Int32} {x_m_taped : Int32} {v_m_codes : Nat → Int32} {v_m_clauseOf : Nat → Int32} {v_m_codeFrom : Nat → Int32} {v_m_codeHalf : Nat → Int32} {v_m_codeTo : Nat → Int32} {x_m_clauses : Int32} {x_m_isKept : Int32} (hI : Inv v_t_tape_bytes x_t_tape_size v_t_rhymes_other v_t_shelf_dread v_t_shelf_ink v_t_shelf_kind v_t_shelf_salt v_t_shelf_tries x_t_shelf_day x_t_shelf_nerve x_t_shelf_pictures x_t_shelf_told x_t_shelf_written x_t_shelf_x v_t_kept_dread v_t_kept_ink v_t_kept_kind v_t_kept_salt v_t_kept_tries x_t_kept_day x_t_kept_nerve x_t_kept_pictures x_t_kept_told x_t_kept_written x_t_kept_x v_t_letter_words x_t_letter_size v_t_law_code v_t_law_letters v_t_law_valueFrom v_t_law_testFrom v_t_law_testEnd x_t_law_rules x_t_anyKept v_m_now v_m_kept v_m_rhymeOf v_m_wordAt x_m_wordMany v_m_tape x_m_taped v_m_codes v_m_clauseOf v_m_codeFrom v_m_codeHalf v_m_codeTo x_m_clauses x_m_isKept) (a1 : Int32) (a2 : Int32) : ∃ (r : Int32) (o_v_t_shelf_dread : Nat → Int32) (o_v_t_shelf_ink : Nat → Int32) (o_v_t_shelf_kind : Nat → Int32) (o_v_t_shelf_salt : Nat → Int32) (o_v_t_shelf_tries : Nat → Int32) (o_x_t_shelf_told : Int32) (o_v_m_now : Nat → Int32), f_X11_bottle v_t_shelf_dread v_t_shelf_ink v_t_shelf_kind v_t_shelf_salt v_t_shelf_tries x_t_shelf_told a1 a2 = some (r, o_v_t_shelf_dread, o_v_t_shelf_ink, o_v_t_shelf_kind, o_v_t_shelf_salt, o_v_t_shelf_tries, o_x_t_shelf_told) ∧ f_X12_bottle v_m_now a1 a2 = some (r, o_v_m_now) ∧ Inv v_t_tape_bytes x_t_tape_size v_t_rhymes_other o_v_t_shelf_dread o_v_t_shelf_ink o_v_t_shelf_kind o_v_t_shelf_salt o_v_t_shelf_tries x_t_shelf_day x_t_shelf_nerve x_t_shelf_pictures o_x_t_shelf_told x_t_shelf_written x_t_shelf_x v_t_kept_dread v_t_kept_ink v_t_kept_kind v_t_kept_salt v_t_kept_tries x_t_kept_day x_t_kept_nerve x_t_kept_pictures x_t_kept_told x_t_kept_written x_t_kept_x v_t_letter_words x_t_letter_size v_t_law_code v_t_law_letters v_t_law_valueFrom v_t_law_testFrom v_t_law_testEnd x_t_law_rules x_t_anyKept o_v_m_now v_m_kept v_m_rhymeOf v_m_wordAt x_m_wordMany v_m_tape x_m_taped v_m_codes v_m_clauseOf v_m_codeFrom v_m_codeHalf v_m_codeTo x_m_clauses x_m_isKept := by
  have hI0 := hI
  obtain ⟨hT, hR, hS, hK, hL, hW⟩ := hI
  by_cases h : a1 < 0 ∨ 7 < a1
  · exact ⟨0, _, _, _, _, _, _, _, by simp [f_X11_bottle, f_X11_bottle_b19, f_within_eq, h, bd1], by simp [f_X12_bottle, f_X12_bottle_b19, f_in_eq, h, bd1], hI0⟩
  · by_cases h2 : a2 < 0 ∨ 4 < a2
    · exact ⟨0, _, _, _, _, _, _, _, by simp [f_X11_bottle, f_X11_bottle_b19, f_within_eq, h, h2, bd1], by simp [f_X12_bottle, f_X12_bottle_b19, f_in_eq, h, h2, bd1], hI0⟩
    · obtain ⟨b, hb, rfl⟩ := rg_of (n := 7) (by omega) (fun q => h (Or.inl q)) (fun q => h (Or.inr q))
      have hb : b < 8 := by omega
      have hk : Rg a2 4 := rg_of (n := 4) (by omega) (fun q => h2 (Or.inl q)) (fun q => h2 (Or.inr q))
      refine ⟨1, _, _, _, _, _, _, _, ?_, ?_, hT, hR, (hS.new hb).tell hb hk, hK, hL, hW⟩
      · simp only [f_X11_bottle, f_within_eq, bd1, if_neg h, if_neg h2, if_neg one_ne, f_putNew8 hb, bd6]
      · simp only [f_X12_bottle, f_in_eq, bd1, if_neg h, if_neg h2, if_neg one_ne, f_becomesNew12 hb]
        rw [show (0 : Int32) + nI b = nI b from by rw [show (0 : Int32) = nI 0 from rfl, nI_add, Nat.zero_add], show (8 : Int32) + nI b = nI (8 + b) from nI_add 8 b, sI_n (by omega) (by omega), sI_n (by omega) (by omega)]
