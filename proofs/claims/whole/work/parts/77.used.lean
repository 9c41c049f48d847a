/-! pure: used -/
theorem bI_nz : ¬ bI true = 0 := one_ne
section US
variable {kind salt : Nat → Int32} {nerve told : Int32} {other rhymeOf words wordAt : Nat → Int32} {g w : Nat → Nat} {n : Nat}
variable {code letters valueFrom testFrom testEnd codes clauseOf codeFrom codeHalf codeTo : Nat → Int32} {rules clauses : Int32}
theorem day_one (hg : ∀ w, w < 16 → g w < 16 ∧ g (g w) = w ∧ other w = nI (g w) ∧ rhymeOf w = nI (g w)) (hW : RLaw code letters valueFrom testFrom testEnd rules codes clauseOf codeFrom codeHalf codeTo clauses) (hn : n ≤ 48) (hw : ∀ i, i < n → w i < 16 ∧ words i = nI (w i) ∧ wordAt i = nI (w i))
    (dread ink tries F st : Nat → Int32) (day pictures written x h rf cf mu pi wr : Int32) (G now st2 : Nat → Int32) (ch fe mu2 pi2 wr2 : Int32) (hS : RShelf dread ink kind salt tries day nerve pictures told written x now) (hl : ¬ (9999 : Int32) ≤ day) :
    ∃ dread' ink' tries' F' st' pictures' written' x' h' rf' cf' mu' pi' wr' G' now' st2' ch' fe' mu2' pi2' wr2', f_X7_writeDays dread ink kind other salt tries code F letters st testEnd testFrom valueFrom words day nerve pictures told written x h rf rules cf mu pi wr (nI n) 1 = some (dread', ink', tries', F', st', day + 1, pictures', written', x', h', rf', cf', mu', pi', wr') ∧ f_X12_dayGoes clauseOf codeFrom codeHalf codeTo codes G now rhymeOf st2 wordAt ch clauses fe pi2 mu2 (nI n) wr2 = some (G', now', st2', ch', fe', pi2', mu2', wr2') ∧ RShelf dread' ink' kind salt tries' (day + 1) nerve pictures' told written' x' now' := by
  obtain ⟨m, hm⟩ : ∃ m, FU = m + 2 := ⟨99998, rfl⟩
  obtain ⟨dk, hdk, edk⟩ := hS.2.2.2.2.2.2.1.2
  obtain ⟨dread', ink', tries', F', st', pictures', written', x', h', rf', cf', mu', pi', wr', G', now', st2', ch', fe', mu2', pi2', wr2', k1, k2, k3, -⟩ := day_sim hg hW hn hw (nI 1) (nI 0) (f_X7_writeDays_b18 kind other salt code letters testEnd testFrom valueFrom words nerve told rules (nI n) (nI 1) (m + 1)) n 0 FU FU dread ink tries F st day pictures written x h rf cf 0 0 0 G now st2 ch fe mu2 pi2 wr2 (by omega) (FU_gt (by omega)) (FU_gt (by omega)) hS
  have hdk2 : dk + 1 ≤ 9999 := by
    rw [edk, show (9999 : Int32) = nI 9999 from rfl, nle (by omega) (by omega)] at hl
    omega
  have k1' : f_X7_writeDays_b37 kind other salt code letters testEnd testFrom valueFrom words nerve told rules (nI n) (nI 1) (f_X7_writeDays_b18 kind other salt code letters testEnd testFrom valueFrom words nerve told rules (nI n) (nI 1) (m + 1)) FU dread ink tries F st day pictures written x h rf cf 0 0 0 (nI 0) 0 = _ := k1
  refine ⟨dread', ink', tries', F', st', pictures', written', x', h', rf', cf', mu', pi', wr', G', upd now' 291 (day + 1), st2', ch', fe', mu2', pi2', wr2', ?_, k2, k3.uDay ⟨dk + 1, hdk2, by rw [edk, nI_1]⟩⟩
  show f_X7_writeDays_b18 kind other salt code letters testEnd testFrom valueFrom words nerve told rules (nI n) (nI 1) FU dread ink tries F st day pictures written x h rf cf 0 0 0 (nI 0) = _
  rw [hm, f_X7_writeDays_b18, if_neg (by decide), if_neg hl, k1', f_X7_writeDays_b18, if_pos (by decide)]
  rfl
theorem used_stuck (hg : ∀ w, w < 16 → g w < 16 ∧ g (g w) = w ∧ other w = nI (g w) ∧ rhymeOf w = nI (g w)) {b v N : Nat} (hb : b < 8) (hv : v < 16) (hN : N ≤ 60) {dread ink tries : Nat → Int32} {day pictures written x : Int32} {now : Nat → Int32} (hS : RShelf dread ink kind salt tries day nerve pictures told written x now) (hl : (9999 : Int32) ≤ day) (hbr : bear now g b v = false) :
    ∀ d k m1 (F st : Nat → Int32) (h rf cf mu pi wr : Int32), k + d = N → d + 1 < m1 → ∃ o, f_X11_used_b74 other (nI b) (nI v) (nI N) (f_X11_used_b47 code letters testEnd testFrom valueFrom words other rules (nI n) (nI b) (nI v) (nI N) m1) F st dread ink kind salt tries h rf cf mu pi wr day nerve pictures told written x (nI k) = some (-2, o) := by
  intro d
  induction d with
  | zero =>
    intro k m1 F st h rf cf mu pi wr hk h1
    obtain ⟨m1, rfl⟩ : ∃ m, m1 = m + 1 := ⟨m1 - 1, by omega⟩
    unfold f_X11_used_b74
    rw [f_bears8 (SQ.of hS hg) hb hv, bd1_s, hbr, if_pos bI_0, nI_1, f_X11_used_b47, if_pos (by rw [nlt (by omega) (by omega)]; omega)]
    exact ⟨_, rfl⟩
  | succ d ih =>
    intro k m1 F st h rf cf mu pi wr hk h1
    obtain ⟨m1, rfl⟩ : ∃ m, m1 = m + 1 := ⟨m1 - 1, by omega⟩
    have hwd : f_X7_writeDays dread ink kind other salt tries code F letters st testEnd testFrom valueFrom words day nerve pictures told written x h rf rules cf mu pi wr (nI n) 1 = some (dread, ink, tries, F, st, day, pictures, written, x, h, rf, cf, 0, 0, 0) := by
      obtain ⟨m, hm⟩ : ∃ m, FU = m + 1 := ⟨99999, rfl⟩
      show f_X7_writeDays_b18 kind other salt code letters testEnd testFrom valueFrom words nerve told rules (nI n) (nI 1) FU dread ink tries F st day pictures written x h rf cf 0 0 0 (nI 0) = _
      rw [hm, f_X7_writeDays_b18, if_neg (by decide), if_pos hl]
      rfl
    unfold f_X11_used_b74
    rw [f_bears8 (SQ.of hS hg) hb hv, bd1_s, hbr, if_pos bI_0, nI_1, f_X11_used_b47, if_neg (by rw [nlt (by omega) (by omega)]; omega), if_neg (by rw [show (0 : Int32) = nI 0 from rfl, nle (by omega) (by omega)]; omega), hwd, bd15_s]
    exact ih (k + 1) m1 F st h rf cf 0 0 0 (by omega) (by omega)
theorem usedl_sim (hg : ∀ w, w < 16 → g w < 16 ∧ g (g w) = w ∧ other w = nI (g w) ∧ rhymeOf w = nI (g w)) (hW : RLaw code letters valueFrom testFrom testEnd rules codes clauseOf codeFrom codeHalf codeTo clauses) (hn : n ≤ 48) (hw : ∀ i, i < n → w i < 16 ∧ words i = nI (w i) ∧ wordAt i = nI (w i)) {b v N : Nat} (hb : b < 8) (hv : v < 16) (hN : N ≤ 60) (aside : Nat → Int32) :
    ∀ d k m1 m2 (dread ink tries F st : Nat → Int32) (day pictures written x h rf cf mu pi wr : Int32) (G now st2 : Nat → Int32) (ch fe mu2 pi2 wr2 : Int32), k + d = N → d + 1 < m1 → d < m2 → RShelf dread ink kind salt tries day nerve pictures told written x now →
    ∃ r o x1 x2 x3 x4 x5 x6 x7 x8, f_X11_used_b74 other (nI b) (nI v) (nI N) (f_X11_used_b47 code letters testEnd testFrom valueFrom words other rules (nI n) (nI b) (nI v) (nI N) m1) F st dread ink kind salt tries h rf cf mu pi wr day nerve pictures told written x (nI k) = some (r, o) ∧ f_X12_used_b41 clauseOf codeFrom codeHalf codeTo codes rhymeOf wordAt clauses (nI n) (nI b) (nI v) (nI N) m2 aside G now st2 ch fe pi2 mu2 wr2 (nI k) = some (r, aside, x1, fa_fill aside x2 293, x3, x4, x5, x6, x7, x8) := by
  intro d
  induction d with
  | zero =>
    intro k m1 m2 dread ink tries F st day pictures written x h rf cf mu pi wr G now st2 ch fe mu2 pi2 wr2 hk h1 h2 hS
    obtain ⟨m1, rfl⟩ : ∃ m, m1 = m + 1 := ⟨m1 - 1, by omega⟩
    obtain ⟨m2, rfl⟩ : ∃ m, m2 = m + 1 := ⟨m2 - 1, by omega⟩
    have hQ := SQ.of hS hg
    unfold f_X11_used_b74
    rw [f_bears8 hQ hb hv, bd1_s, f_X12_used_b41, f_bears12 hQ hb hv, bd1_s]
    unfold f_X12_used_b83
    rw [f_bears12 hQ hb hv, bd1_s, f_copies12, bd1_s]
    cases hbr : bear now g b v with
    | false =>
      rw [if_pos bI_0, nI_1, f_X11_used_b47, if_pos (by rw [nlt (by omega) (by omega)]; omega), if_pos bI_0, if_pos (by rw [nle (by omega) (by omega)]; omega), if_pos bI_0]
      exact ⟨_, _, _, _, _, _, _, _, _, _, rfl, rfl⟩
    | true =>
      rw [if_neg bI_nz, if_neg bI_nz, if_neg bI_nz]
      exact ⟨_, _, _, _, _, _, _, _, _, _, rfl, rfl⟩
  | succ d ih =>
    intro k m1 m2 dread ink tries F st day pictures written x h rf cf mu pi wr G now st2 ch fe mu2 pi2 wr2 hk h1 h2 hS
    obtain ⟨m1, rfl⟩ : ∃ m, m1 = m + 1 := ⟨m1 - 1, by omega⟩
    obtain ⟨m2, rfl⟩ : ∃ m, m2 = m + 1 := ⟨m2 - 1, by omega⟩
    have hQ := SQ.of hS hg
    have hd : now 291 = day := hS.2.2.2.2.2.2.1.1.symm
    cases hbr : bear now g b v with
    | true =>
      unfold f_X11_used_b74
      rw [f_bears8 hQ hb hv, bd1_s, f_X12_used_b41, f_bears12 hQ hb hv, bd1_s]
      unfold f_X12_used_b83
      rw [f_bears12 hQ hb hv, bd1_s, f_copies12, bd1_s, hbr, if_neg bI_nz, if_neg bI_nz, if_neg bI_nz]
      exact ⟨_, _, _, _, _, _, _, _, _, _, rfl, rfl⟩
    | false =>
      by_cases hl : (9999 : Int32) ≤ day
      · obtain ⟨o, ho⟩ := used_stuck (code := code) (letters := letters) (valueFrom := valueFrom) (testFrom := testFrom) (testEnd := testEnd) (rules := rules) (words := words) (n := n) hg hb hv hN hS hl hbr (d + 1) k (m1 + 1) F st h rf cf mu pi wr (by omega) (by omega)
        rw [ho, f_X12_used_b41, f_bears12 hQ hb hv, bd1_s]
        unfold f_X12_used_b83
        rw [f_bears12 hQ hb hv, bd1_s, f_copies12, bd1_s, hbr, if_pos bI_0, if_neg (by rw [nle (by omega) (by omega)]; omega), gI_c (c := 291) (k := 291) rfl (by omega) (by omega), hd, if_pos hl, if_pos bI_0]
        exact ⟨_, _, _, _, _, _, _, _, _, _, rfl, rfl⟩
      · obtain ⟨dread', ink', tries', F', st', pictures', written', x', h', rf', cf', mu', pi', wr', G', now', st2', ch', fe', mu2', pi2', wr2', k1, k2, k3⟩ := day_one hg hW hn hw dread ink tries F st day pictures written x h rf cf mu pi wr G now st2 ch fe mu2 pi2 wr2 hS hl
        obtain ⟨r, o, x1, x2, x3, x4, x5, x6, x7, x8, q1, q2⟩ := ih (k + 1) m1 m2 dread' ink' tries' F' st' (day + 1) pictures' written' x' h' rf' cf' mu' pi' wr' G' now' st2' ch' fe' mu2' pi2' wr2' (by omega) (by omega) (by omega) k3
        refine ⟨r, o, x1, x2, x3, x4, x5, x6, x7, x8, ?_, ?_⟩
        · unfold f_X11_used_b74
          rw [f_bears8 hQ hb hv, bd1_s, hbr, if_pos bI_0, nI_1, f_X11_used_b47, if_neg (by rw [nlt (by omega) (by omega)]; omega), if_neg (by rw [show (0 : Int32) = nI 0 from rfl, nle (by omega) (by omega)]; omega), k1, bd15_s]
          exact q1
        · rw [f_X12_used_b41, f_bears12 hQ hb hv, bd1_s, hbr, if_pos bI_0, if_neg (by rw [nle (by omega) (by omega)]; omega), gI_c (c := 291) (k := 291) rfl (by omega) (by omega), hd, if_neg hl, k2, bd8_s, nI_1]
          exact q2
end US
set_option maxHeartbeats 4000000 in
theorem pm_used {v_t_tape_bytes : Nat → Int32} {x_t_tape_size : Int32} {v_t_rhymes_other : Nat → Int32} {v_t_shelf_dread : Nat → Int32} {v_t_shelf_ink : Nat → Int32} {v_t_shelf_kind : Nat → Int32} {v_t_shelf_salt : Nat → Int32} {v_t_shelf_tries : Nat → Int32} {x_t_shelf_day : Int32} {x_t_shelf_nerve : Int32} {x_t_shelf_pictures : Int32} {x_t_shelf_told : Int32} {x_t_shelf_written : Int32} {x_t_shelf_x : Int32} {v_t_kept_dread : Nat → Int32} {v_t_kept_ink : Nat → Int32} {v_t_kept_kind : Nat → Int32} {v_t_kept_salt : Nat → Int32} {v_t_kept_tries : Nat → Int32} {x_t_kept_day : Int32} {x_t_kept_nerve : Int32} {x_t_kept_pictures : Int32} {x_t_kept_told : Int32} {x_t_kept_written : Int32} {x_t_kept_x : Int32} {v_t_letter_words : Nat → Int32} {x_t_letter_size : Int32} {v_t_law_code : Nat → Int32} {v_t_law_letters : Nat → Int32} {v_t_law_valueFrom : Nat → Int32} {v_t_law_testFrom : Nat → Int32} {v_t_law_testEnd : Nat → Int32} {x_t_law_rules : Int32} {x_t_anyKept : Int32} {v_m_now : Nat → Int32} {v_m_kept : Nat → Int32} {v_m_rhymeOf : Nat → Int32} {v_m_wordAt : Nat → Int32} {x_m_wordMany : Int32} {v_m_tape : Nat → Int32} {x_m_taped : Int32} {v_m_codes : Nat → Int32} {v_m_clauseOf : Nat → Int32} {v_m_codeFrom : Nat → Int32} {v_m_codeHalf : Nat → Int32} {v_m_codeTo : Nat → Int32} {x_m_clauses : Int32} {x_m_isKept : Int32} {v_t_law_facts : Nat → Int32} {v_t_law_stack : Nat → Int32} {v_t_trial_dread : Nat → Int32} {v_t_trial_ink : Nat → Int32} {v_t_trial_kind : Nat → Int32} {v_t_trial_salt : Nat → Int32} {v_t_trial_tries : Nat → Int32} {x_t_law_height : Int32} {x_t_law_refused : Int32} {x_t_scribe_chosenFear : Int32} {x_t_scribe_madeUsed : Int32} {x_t_scribe_pictures : Int32} {x_t_scribe_written : Int32} {x_t_trial_day : Int32} {x_t_trial_nerve : Int32} {x_t_trial_pictures : Int32} {x_t_trial_told : Int32} {x_t_trial_written : Int32} {x_t_trial_x : Int32} {v_m_aside : Nat → Int32} {v_m_facts : Nat → Int32} {v_m_stack : Nat → Int32} {x_m_chosen : Int32} {x_m_fearOfChosen : Int32} {x_m_picturesNow : Int32} {x_m_usedNow : Int32} {x_m_writtenNow : Int32} (hI : Inv v_t_tape_bytes x_t_tape_size v_t_rhymes_other v_t_shelf_dread v_t_shelf_ink v_t_shelf_kind v_t_shelf_salt v_t_shelf_tries x_t_shelf_day x_t_shelf_nerve x_t_shelf_pictures x_t_shelf_told x_t_shelf_written x_t_shelf_x v_t_kept_dread v_t_kept_ink v_t_kept_kind v_t_kept_salt v_t_kept_tries x_t_kept_day x_t_kept_nerve x_t_kept_pictures x_t_kept_told x_t_kept_written x_t_kept_x v_t_letter_words x_t_letter_size v_t_law_code v_t_law_letters v_t_law_valueFrom v_t_law_testFrom v_t_law_testEnd x_t_law_rules x_t_anyKept v_m_now v_m_kept v_m_rhymeOf v_m_wordAt x_m_wordMany v_m_tape x_m_taped v_m_codes v_m_clauseOf v_m_codeFrom v_m_codeHalf v_m_codeTo x_m_clauses x_m_isKept) (a1 : Int32) (a2 : Int32) (a3 : Int32) : ∃ (r : Int32) (o_v_t_law_facts : Nat → Int32) (o_v_t_law_stack : Nat → Int32) (o_v_t_trial_dread : Nat → Int32) (o_v_t_trial_ink : Nat → Int32) (o_v_t_trial_kind : Nat → Int32) (o_v_t_trial_salt : Nat → Int32) (o_v_t_trial_tries : Nat → Int32) (o_x_t_law_height : Int32) (o_x_t_law_refused : Int32) (o_x_t_scribe_chosenFear : Int32) (o_x_t_scribe_madeUsed : Int32) (o_x_t_scribe_pictures : Int32) (o_x_t_scribe_written : Int32) (o_x_t_trial_day : Int32) (o_x_t_trial_nerve : Int32) (o_x_t_trial_pictures : Int32) (o_x_t_trial_told : Int32) (o_x_t_trial_written : Int32) (o_x_t_trial_x : Int32) (o_v_m_aside : Nat → Int32) (o_v_m_facts : Nat → Int32) (o_v_m_now : Nat → Int32) (o_v_m_stack : Nat → Int32) (o_x_m_chosen : Int32) (o_x_m_fearOfChosen : Int32) (o_x_m_picturesNow : Int32) (o_x_m_usedNow : Int32) (o_x_m_writtenNow : Int32), f_X11_used v_t_law_code v_t_law_facts v_t_law_letters v_t_law_stack v_t_law_testEnd v_t_law_testFrom v_t_law_valueFrom v_t_letter_words v_t_rhymes_other v_t_shelf_dread v_t_shelf_ink v_t_shelf_kind v_t_shelf_salt v_t_shelf_tries v_t_trial_dread v_t_trial_ink v_t_trial_kind v_t_trial_salt v_t_trial_tries x_t_law_height x_t_law_refused x_t_law_rules x_t_letter_size x_t_scribe_chosenFear x_t_scribe_madeUsed x_t_scribe_pictures x_t_scribe_written x_t_shelf_day x_t_shelf_nerve x_t_shelf_pictures x_t_shelf_told x_t_shelf_written x_t_shelf_x x_t_trial_day x_t_trial_nerve x_t_trial_pictures x_t_trial_told x_t_trial_written x_t_trial_x a1 a2 a3 = some (r, o_v_t_law_facts, o_v_t_law_stack, o_v_t_trial_dread, o_v_t_trial_ink, o_v_t_trial_kind, o_v_t_trial_salt, o_v_t_trial_tries, o_x_t_law_height, o_x_t_law_refused, o_x_t_scribe_chosenFear, o_x_t_scribe_madeUsed, o_x_t_scribe_pictures, o_x_t_scribe_written, o_x_t_trial_day, o_x_t_trial_nerve, o_x_t_trial_pictures, o_x_t_trial_told, o_x_t_trial_written, o_x_t_trial_x) ∧ f_X12_used v_m_aside v_m_clauseOf v_m_codeFrom v_m_codeHalf v_m_codeTo v_m_codes v_m_facts v_m_now v_m_rhymeOf v_m_stack v_m_wordAt x_m_chosen x_m_clauses x_m_fearOfChosen x_m_picturesNow x_m_usedNow x_m_wordMany x_m_writtenNow a1 a2 a3 = some (r, o_v_m_aside, o_v_m_facts, o_v_m_now, o_v_m_stack, o_x_m_chosen, o_x_m_fearOfChosen, o_x_m_picturesNow, o_x_m_usedNow, o_x_m_writtenNow) ∧ Inv v_t_tape_bytes x_t_tape_size v_t_rhymes_other v_t_shelf_dread v_t_shelf_ink v_t_shelf_kind v_t_shelf_salt v_t_shelf_tries x_t_shelf_day x_t_shelf_nerve x_t_shelf_pictures x_t_shelf_told x_t_shelf_written x_t_shelf_x v_t_kept_dread v_t_kept_ink v_t_kept_kind v_t_kept_salt v_t_kept_tries x_t_kept_day x_t_kept_nerve x_t_kept_pictures x_t_kept_told x_t_kept_written x_t_kept_x v_t_letter_words x_t_letter_size v_t_law_code v_t_law_letters v_t_law_valueFrom v_t_law_testFrom v_t_law_testEnd x_t_law_rules x_t_anyKept o_v_m_now v_m_kept v_m_rhymeOf v_m_wordAt x_m_wordMany v_m_tape x_m_taped v_m_codes v_m_clauseOf v_m_codeFrom v_m_codeHalf v_m_codeTo x_m_clauses x_m_isKept := by
  have hI0 := hI
  obtain ⟨hT, ⟨g, hg⟩, hS, hK, ⟨n, w, hn, rfl, rfl, hw⟩, hW⟩ := hI
  obtain ⟨T, hT2, eT, hnn⟩ := hS.1
  have no : ∀ P Q : Prop, P → Q → P ∧ Q := fun _ _ => And.intro
  rcases tI_cases T a1 with t1 | ⟨b, hb, eb, -, t1⟩
  · exact ⟨_, _, _, _, _, _, _, _, _, _, _, _, _, _, _, _, _, _, _, _, _, _, _, _, _, _, _, _, _, by unfold f_X11_used; rw [eT, f_isTold8 hT2, bd1_s, t1, if_pos rfl]; rfl, by unfold f_X12_used; rw [f_isTold12 hnn, bd1_s, t1, if_pos rfl]; rfl, hI0⟩
  subst eb
  by_cases h : a2 < 0 ∨ 15 < a2
  · exact ⟨_, _, _, _, _, _, _, _, _, _, _, _, _, _, _, _, _, _, _, _, _, _, _, _, _, _, _, _, _, by unfold f_X11_used; rw [eT, f_isTold8 hT2, bd1_s, t1, if_neg one_ne, f_within_eq, if_pos h, bd1_s, if_pos rfl]; rfl, by unfold f_X12_used f_X12_isWord; rw [f_isTold12 hnn, bd1_s, t1, if_neg one_ne, f_in_eq, if_pos h, bd1_s, zI_0, bd1_s, if_pos rfl]; rfl, hI0⟩
  obtain ⟨v, hv, rfl⟩ := rg_of (n := 15) (a := a2) (by omega) (fun q => h (Or.inl q)) (fun q => h (Or.inr q))
  by_cases h3 : a3 < 1 ∨ 60 < a3
  · exact ⟨_, _, _, _, _, _, _, _, _, _, _, _, _, _, _, _, _, _, _, _, _, _, _, _, _, _, _, _, _, by unfold f_X11_used; rw [eT, f_isTold8 hT2, bd1_s, t1, if_neg one_ne, f_within_eq, if_neg h, bd1_s, if_neg one_ne, f_within_eq, if_pos h3, bd1_s, if_pos rfl]; rfl, by unfold f_X12_used f_X12_isWord; rw [f_isTold12 hnn, bd1_s, t1, if_neg one_ne, f_in_eq, if_neg h, bd1_s, zI_1, bd1_s, if_neg one_ne, f_in_eq, if_pos h3, bd1_s, if_pos rfl]; rfl, hI0⟩
  obtain ⟨N, hN, rfl⟩ := rg_of (n := 60) (a := a3) (by omega) (fun q => h3 (Or.inl (by rw [fa_lt] at q ⊢; have : (0 : Int32).toInt = 0 := rfl; have : (1 : Int32).toInt = 1 := rfl; omega))) (fun q => h3 (Or.inr q))
  have hSc := hS.cpy (d2 := v_t_trial_dread) (i2 := v_t_trial_ink) (k2 := v_t_trial_kind) (s2 := v_t_trial_salt) (t2 := v_t_trial_tries)
  obtain ⟨m, hm⟩ : ∃ m, FU = m + 1 := ⟨99999, rfl⟩
  have hmv : m = 99999 := by have : FU = 100000 := rfl; omega
  obtain ⟨r, ⟨o1, o2, o3, o4, o5, o6, o7, o8, o9, o10, o11, o12, o13, o14, o15, o16, o17, o18, o19⟩, x1, x2, x3, x4, x5, x6, x7, x8, q1, q2⟩ := usedl_sim hg hW hn hw hb (show v < 16 by omega) hN (fa_fill v_m_now v_m_aside 293) N 0 m FU (va_cpy v_t_shelf_dread v_t_trial_dread 0 0 128) (va_cpy v_t_shelf_ink v_t_trial_ink 0 0 8) (va_cpy v_t_shelf_tries v_t_trial_tries 0 0 128) v_t_law_facts v_t_law_stack x_t_shelf_day x_t_shelf_pictures x_t_shelf_written x_t_shelf_x x_t_law_height x_t_law_refused x_t_scribe_chosenFear x_t_scribe_madeUsed x_t_scribe_pictures x_t_scribe_written v_m_facts v_m_now v_m_stack x_m_chosen x_m_fearOfChosen x_m_usedNow x_m_picturesNow x_m_writtenNow (by omega) (by omega) (FU_gt (by omega)) hSc
  refine ⟨r, o1, o2, o3, o4, o5, o6, o7, o8, o9, o10, o11, o12, o13, o14, o15, o16, o17, o18, o19, fa_fill v_m_now v_m_aside 293, x1, fa_fill (fa_fill v_m_now v_m_aside 293) x2 293, x3, x4, x5, x6, x7, x8, ?_, ?_, hT, ⟨g, hg⟩, hS.cong (fun j hj => rfl) (fun j hj => rfl) (fun j hj => rfl) (fun j hj => rfl) (fun j hj => rfl) (fun k hk => by rw [fa_fill_in hk, fa_fill_in hk]), hK, ⟨n, w, hn, rfl, rfl, hw⟩, hW⟩
  · unfold f_X11_used
    rw [eT, f_isTold8 hT2, bd1_s, t1, if_neg one_ne, f_within_eq, if_neg h, bd1_s, if_neg one_ne, f_within_eq, if_neg h3, bd1_s, if_neg one_ne, f_copy8, bd11_s, hm, f_X11_used_b47, if_neg (by rw [show (0 : Int32) = nI 0 from rfl, nlt (by omega) (by omega)]; omega), if_pos (by decide), ← eT]
    exact q1
  · unfold f_X12_used f_X12_isWord
    rw [f_isTold12 hnn, bd1_s, t1, if_neg one_ne, f_in_eq, if_neg h, bd1_s, zI_1, bd1_s, if_neg one_ne, f_in_eq, if_neg h3, bd1_s, if_neg one_ne, f_copies12, bd1_s]
    exact q2
