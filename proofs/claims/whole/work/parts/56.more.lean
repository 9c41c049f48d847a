/-! pure: pressed, borne, check, feed -/
theorem lt_16 : (16 : Int32) = nI 16 := rfl
theorem ge16 {k : Nat} (hk : k < 16) : ¬ (16 : Int32) ≤ nI k := by rw [lt_16, nle (by omega) (by omega)]; omega
theorem ge8 {k : Nat} (hk : k < 8) : ¬ (8 : Int32) ≤ nI k := by rw [show (8 : Int32) = nI 8 from rfl, nle (by omega) (by omega)]; omega
def lcg (s : Nat) : Nat → Nat
  | 0 => s
  | n + 1 => (25173 * lcg s n + 13849) % 65536
theorem lcg_lt {s : Nat} (hs : s < 65536) : ∀ n, lcg s n < 65536
  | 0 => hs
  | n + 1 => Nat.mod_lt _ (by omega)
theorem f_fol8 (k : Nat) : f_X8_followerOf (nI k) = some (nI ((25173 * k + 13849) % 65536)) := by
  unfold f_X8_followerOf
  rw [show (25173 : Int32) = nI 25173 from rfl, show (13849 : Int32) = nI 13849 from rfl, pk_mul, nI_add, nx_mod]
theorem f_lot12 {k : Nat} (hk : k < 65536) : f_X12_nextLot (nI k) = some (nI ((25173 * k + 13849) % 65536)) := by
  unfold f_X12_nextLot
  rw [show (25173 : Int32) = nI 25173 from rfl, show (13849 : Int32) = nI 13849 from rfl, pk_mul, nI_add, rI_n (by decide), show (65536 : Int32) = nI 65536 from rfl, pk_rem (by omega) (by omega) (by omega)]
theorem r10 {ρ : Type} {k : Nat} {K : Int32 → Option ρ} (hk : k < 65536) : rI (nI k) 10 K = K (nI (k % 10)) := by
  rw [rI_n (by decide), show (10 : Int32) = nI 10 from rfl, pk_rem (by omega) (by omega) (by omega)]
def pv (s w : Nat) : Nat := 10 * (lcg s (2 * w + 1) % 10) + lcg s (2 * w + 2) % 10
theorem pv_lt (s w : Nat) : pv s w < 100 := by
  unfold pv
  have h1 := Nat.mod_lt (lcg s (2 * w + 1)) (show 0 < 10 by omega)
  have h2 := Nat.mod_lt (lcg s (2 * w + 2)) (show 0 < 10 by omega)
  omega
theorem bnd_in : ∀ k, k < 100 → bnd (nI k) = nI k := by decide +kernel
theorem f_press8 {dread ink salt tries : Nat → Int32} {b s : Nat} (hb : b < 8) (hs : s < 65536) : f_X8_press dread ink salt tries (nI b) (nI s) = some (rfl_ dread (16 * b) 16 (fun w => nI (pv s w)), upd ink b 999, upd salt b 0, rfl_ tries (16 * b) 16 (fun _ => 0)) := by
  unfold f_X8_press
  rw [f_cleanse8 hb, bd3_s]
  have key := loop0 (fun n (a : (Nat → Int32) × Int32) i => f_X8_press_b10 (nI b) n a.1 (upd ink b 999) (upd salt b 0) (rfl_ tries (16 * b) 16 (fun _ => 0)) a.2 i) (fun k => (rfl_ dread (16 * b) k (fun w => nI (pv s w)), nI (lcg s (2 * k)))) 16 (by omega) (some (rfl_ dread (16 * b) 16 (fun w => nI (pv s w)), upd ink b 999, upd salt b 0, rfl_ tries (16 * b) 16 (fun _ => 0))) (fun n k hk => ?_) (fun n => ?_)
  · have h0 : rfl_ dread (16 * b) 0 (fun w => nI (pv s w)) = dread := rfl_0 _ _ _
    rw [h0] at key; exact key
  · show f_X8_press_b10 (nI b) (n + 1) _ _ _ _ _ _ = f_X8_press_b10 (nI b) n _ _ _ _ _ _
    rw [f_X8_press_b10, if_neg (ge16 hk), f_fol8, bd1_s, r10 (Nat.mod_lt _ (by omega)), f_fol8, bd1_s, r10 (Nat.mod_lt _ (by omega)), show (10 : Int32) = nI 10 from rfl, pk_mul, nI_add, f_setDread8 hb hk, bd1_s]
    have e : (10 * ((25173 * lcg s (2 * k) + 13849) % 65536 % 10) + (25173 * ((25173 * lcg s (2 * k) + 13849) % 65536) + 13849) % 65536 % 10) = pv s k := rfl
    rw [e, bnd_in _ (pv_lt s k), rfl_s dread (16 * b) k (fun w => nI (pv s w))]
    rfl
  · show f_X8_press_b10 (nI b) (n + 1) _ _ _ _ _ _ = _
    rw [f_X8_press_b10, if_pos (by decide)]
theorem f_press12 {now : Nat → Int32} {b s : Nat} (hb : b < 8) (hs : s < 65536) : f_X12_pressed_b30 (nI b) FU now (nI s) 0 = some (sumI (fun w => nI (pv s w)) 16, rfl_ now (32 + 16 * b) 16 (fun w => nI (pv s w))) := by
  have key := loop0 (fun n (a : (Nat → Int32) × Int32) i => f_X12_pressed_b30 (nI b) n a.1 a.2 i) (fun k => (rfl_ now (32 + 16 * b) k (fun w => nI (pv s w)), nI (lcg s (2 * k)))) 16 (by omega) (some (sumI (fun w => nI (pv s w)) 16, rfl_ now (32 + 16 * b) 16 (fun w => nI (pv s w)))) (fun n k hk => ?_) (fun n => ?_)
  · have h0 : rfl_ now (32 + 16 * b) 0 (fun w => nI (pv s w)) = now := rfl_0 _ _ _
    rw [h0] at key; exact key
  · show f_X12_pressed_b30 (nI b) (n + 1) _ _ _ = f_X12_pressed_b30 (nI b) n _ _ _
    rw [f_X12_pressed_b30, if_neg (ge16 hk), f_lot12 (lcg_lt hs _), bd1_s, r10 (Nat.mod_lt _ (by omega)), f_lot12 (Nat.mod_lt _ (by omega)), bd1_s, r10 (Nat.mod_lt _ (by omega)), show (10 : Int32) = nI 10 from rfl, lt_16, show (32 : Int32) = nI 32 from rfl, pk_mul, pk_mul, nI_add, nI_add, nI_add, sI_n (by omega) (by omega)]
    have e : (10 * ((25173 * lcg s (2 * k) + 13849) % 65536 % 10) + (25173 * ((25173 * lcg s (2 * k) + 13849) % 65536) + 13849) % 65536 % 10) = pv s k := rfl
    rw [e, rfl_s now (32 + 16 * b) k (fun w => nI (pv s w))]
    rfl
  · show f_X12_pressed_b30 (nI b) (n + 1) _ _ _ = _
    rw [f_X12_pressed_b30, if_pos (by decide), f_sum12 hb, bd1_s]
    have e : sumI (fun w => rfl_ now (32 + 16 * b) 16 (fun w => nI (pv s w)) (32 + (16 * b + w))) 16 = sumI (fun w => nI (pv s w)) 16 := by
      apply sumI_cong
      intro w hw
      rw [rfl_in (by omega) (by omega), show 32 + (16 * b + w) - (32 + 16 * b) = w by omega]
    rw [e]
theorem RShelf.row {dread ink kind salt tries : Nat → Int32} {day nerve pictures told written x : Int32} {now : Nat → Int32} (h : RShelf dread ink kind salt tries day nerve pictures told written x now) {b : Nat} (hb : b < 8) {f : Nat → Int32} (hf : ∀ w, w < 16 → Rg (f w) 99) : RShelf (rfl_ dread (16 * b) 16 f) ink kind salt tries day nerve pictures told written x (rfl_ now (32 + 16 * b) 16 f) := by
  obtain ⟨⟨T, hT, e, hn⟩, h2, h3, ⟨h4, h4r⟩, ⟨h5, h5r⟩, ⟨h6, h6r⟩, ⟨h7, h7r⟩, h8, h8r⟩ := h
  refine ⟨⟨T, hT, e, fun c hc => ?_⟩, fun c hc => ?_, fun j hj => ?_, ⟨?_, h4r⟩, ⟨?_, h5r⟩, ⟨?_, h6r⟩, ⟨?_, h7r⟩, ?_, h8r⟩
  · rw [rfl_out (by omega)]; exact hn c hc
  · rw [rfl_out (by omega), rfl_out (by omega), rfl_out (by omega)]; exact h2 c hc
  · obtain ⟨g1, g2, g3, g4⟩ := h3 j hj
    rw [rfl_out (j := 160 + j) (by omega)]
    by_cases hin : 16 * b ≤ j ∧ j < 16 * b + 16
    · rw [rfl_in hin.1 hin.2, rfl_in (j := 32 + j) (by omega) (by omega)]
      have e2 : 32 + j - (32 + 16 * b) = j - 16 * b := by omega
      rw [e2]
      exact ⟨rfl, hf _ (by omega), g3, g4⟩
    · rw [rfl_out (by omega), rfl_out (by omega)]
      exact ⟨g1, g2, g3, g4⟩
  · rw [rfl_out (by omega)]; exact h4
  · rw [rfl_out (by omega)]; exact h5
  · rw [rfl_out (by omega)]; exact h6
  · rw [rfl_out (by omega)]; exact h7
  · rw [rfl_out (by omega)]; exact h8
set_option maxHeartbeats 4000000 in
theorem pm_pressed {v_t_tape_bytes : Nat → Int32} {x_t_tape_size : Int32} {v_t_rhymes_other : Nat → Int32} {v_t_shelf_dread : Nat → Int32} {v_t_shelf_ink : Nat → Int32} {v_t_shelf_kind : Nat → Int32} {v_t_shelf_salt : Nat → Int32} {v_t_shelf_tries : Nat → Int32} {x_t_shelf_day : Int32} {x_t_shelf_nerve : Int32} {x_t_shelf_pictures : Int32} {x_t_shelf_told : Int32} {x_t_shelf_written : Int32} {x_t_shelf_x : Int32} {v_t_kept_dread : Nat → Int32} {v_t_kept_ink : Nat → Int32} {v_t_kept_kind : Nat → Int32} {v_t_kept_salt : Nat → Int32} {v_t_kept_tries : Nat → Int32} {x_t_kept_day : Int32} {x_t_kept_nerve : Int32} {x_t_kept_pictures : Int32} {x_t_kept_told : Int32} {x_t_kept_written : Int32} {x_t_kept_x : Int32} {v_t_letter_words : Nat → Int32} {x_t_letter_size : Int32} {v_t_law_code : Nat → Int32} {v_t_law_letters : Nat → Int32} {v_t_law_valueFrom : Nat → Int32} {v_t_law_testFrom : Nat → Int32} {v_t_law_testEnd : Nat → Int32} {x_t_law_rules : Int32} {x_t_anyKept : Int32} {v_m_now : Nat → Int32} {v_m_kept : Nat → Int32} {v_m_rhymeOf : Nat → Int32} {v_m_wordAt : Nat → Int32} {x_m_wordMany : Int32} {v_m_tape : Nat → Int32} {x_m_taped : Int32} {v_m_codes : Nat → Int32} {v_m_clauseOf : Nat → Int32} {v_m_codeFrom : Nat → Int32} {v_m_codeHalf : Nat → Int32} {v_m_codeTo : Nat → Int32} {x_m_clauses : Int32} {x_m_isKept : Int32} (hI : Inv v_t_tape_bytes x_t_tape_size v_t_rhymes_other v_t_shelf_dread v_t_shelf_ink v_t_shelf_kind v_t_shelf_salt v_t_shelf_tries x_t_shelf_day x_t_shelf_nerve x_t_shelf_pictures x_t_shelf_told x_t_shelf_written x_t_shelf_x v_t_kept_dread v_t_kept_ink v_t_kept_kind v_t_kept_salt v_t_kept_tries x_t_kept_day x_t_kept_nerve x_t_kept_pictures x_t_kept_told x_t_kept_written x_t_kept_x v_t_letter_words x_t_letter_size v_t_law_code v_t_law_letters v_t_law_valueFrom v_t_law_testFrom v_t_law_testEnd x_t_law_rules x_t_anyKept v_m_now v_m_kept v_m_rhymeOf v_m_wordAt x_m_wordMany v_m_tape x_m_taped v_m_codes v_m_clauseOf v_m_codeFrom v_m_codeHalf v_m_codeTo x_m_clauses x_m_isKept) (a1 : Int32) (a2 : Int32) : ∃ (r : Int32) (o_v_t_shelf_dread : Nat → Int32) (o_v_t_shelf_ink : Nat → Int32) (o_v_t_shelf_salt : Nat → Int32) (o_v_t_shelf_tries : Nat → Int32) (o_v_m_now : Nat → Int32), f_X11_pressed v_t_shelf_dread v_t_shelf_ink v_t_shelf_salt v_t_shelf_tries x_t_shelf_told a1 a2 = some (r, o_v_t_shelf_dread, o_v_t_shelf_ink, o_v_t_shelf_salt, o_v_t_shelf_tries) ∧ f_X12_pressed v_m_now a1 a2 = some (r, o_v_m_now) ∧ Inv v_t_tape_bytes x_t_tape_size v_t_rhymes_other o_v_t_shelf_dread o_v_t_shelf_ink v_t_shelf_kind o_v_t_shelf_salt o_v_t_shelf_tries x_t_shelf_day x_t_shelf_nerve x_t_shelf_pictures x_t_shelf_told x_t_shelf_written x_t_shelf_x v_t_kept_dread v_t_kept_ink v_t_kept_kind v_t_kept_salt v_t_kept_tries x_t_kept_day x_t_kept_nerve x_t_kept_pictures x_t_kept_told x_t_kept_written x_t_kept_x v_t_letter_words x_t_letter_size v_t_law_code v_t_law_letters v_t_law_valueFrom v_t_law_testFrom v_t_law_testEnd x_t_law_rules x_t_anyKept o_v_m_now v_m_kept v_m_rhymeOf v_m_wordAt x_m_wordMany v_m_tape x_m_taped v_m_codes v_m_clauseOf v_m_codeFrom v_m_codeHalf v_m_codeTo x_m_clauses x_m_isKept := by
  have hI0 := hI
  obtain ⟨hT, hR, hS, hK, hL, hW⟩ := hI
  obtain ⟨⟨T, hT2, e, hn⟩, hS2⟩ := id hS
  subst e
  rcases tI_cases T a1 with h0 | ⟨b, hb, rfl, hb1, h1⟩
  · exact ⟨-1, _, _, _, _, _, by simp [f_X11_pressed, f_X11_pressed_b21, f_isTold8 hT2, h0, bd1], by simp [f_X12_pressed, f_X12_pressed_b18, f_isTold12 hn, h0, bd1], hI0⟩
  · by_cases h : a2 < 0 ∨ 65535 < a2
    · exact ⟨-1, _, _, _, _, _, by simp [f_X11_pressed, f_X11_pressed_b21, f_isTold8 hT2, h1, bd1, f_within_eq, h], by simp [f_X12_pressed, f_X12_pressed_b18, f_isTold12 hn, h1, bd1, f_in_eq, h], hI0⟩
    · obtain ⟨s, hs, rfl⟩ := rg_of (n := 65535) (by omega) (fun q => h (Or.inl q)) (fun q => h (Or.inr q))
      have hs : s < 65536 := by omega
      have hS3 := ((hS.new hb).row hb (f := fun w => nI (pv s w)) (fun w _ => ⟨pv s w, by have := pv_lt s w; omega, rfl⟩)).cong (dread' := rfl_ v_t_shelf_dread (16 * b) 16 (fun w => nI (pv s w))) (ink' := upd v_t_shelf_ink b 999) (kind' := v_t_shelf_kind) (salt' := upd v_t_shelf_salt b 0) (tries' := rfl_ v_t_shelf_tries (16 * b) 16 (fun _ => 0)) (now' := rfl_ (nwB v_m_now b) (32 + 16 * b) 16 (fun w => nI (pv s w)))
        (fun j _ => by
          by_cases hin : 16 * b ≤ j ∧ j < 16 * b + 16
          · rw [rfl_in hin.1 hin.2, rfl_in hin.1 hin.2]
          · rw [rfl_out (by omega), rfl_out (by omega), rfl_out (by omega)]) (fun _ _ => rfl) (fun _ _ => rfl) (fun _ _ => rfl) (fun _ _ => rfl) (fun _ _ => rfl)
      refine ⟨sumI (fun w => nI (pv s w)) 16, _, _, _, _, _, ?_, ?_, hT, hR, hS3, hK, hL, hW⟩
      · unfold f_X11_pressed
        rw [f_isTold8 hT2, h1, bd1_s, if_neg one_ne, f_within_eq, if_neg h, bd1_s, if_neg one_ne, f_press8 hb hs, bd4_s, f_sum8 hb, bd1_s]
        have e : sumI (fun w => rfl_ v_t_shelf_dread (16 * b) 16 (fun w => nI (pv s w)) (16 * b + w)) 16 = sumI (fun w => nI (pv s w)) 16 := by
          apply sumI_cong
          intro w hw
          rw [rfl_in (by omega) (by omega), show 16 * b + w - 16 * b = w by omega]
        rw [e]
      · unfold f_X12_pressed
        rw [f_isTold12 hn, h1, bd1_s, if_neg one_ne, f_in_eq, if_neg h, bd1_s, if_neg one_ne, f_becomesNew12 hb, bd1_s, f_press12 hb hs]
/-! borne -/
def sm (f : Nat → Nat) : Nat → Nat
  | 0 => 0
  | n + 1 => sm f n + f n
theorem sm_cong {f g : Nat → Nat} : ∀ n, (∀ k, k < n → f k = g k) → sm f n = sm g n
  | 0, _ => rfl
  | n + 1, h => by rw [sm, sm, sm_cong n (fun k hk => h k (by omega)), h n (by omega)]
theorem sm_add (f g : Nat → Nat) : ∀ n, sm (fun k => f k + g k) n = sm f n + sm g n
  | 0 => rfl
  | n + 1 => by rw [sm, sm, sm, sm_add f g n]; omega
theorem sm_0 : ∀ n, sm (fun _ => 0) n = 0
  | 0 => rfl
  | n + 1 => by rw [sm, sm_0 n]
theorem sm_swap (F : Nat → Nat → Nat) (m : Nat) : ∀ n, sm (fun i => sm (F i) m) n = sm (fun j => sm (fun i => F i j) n) m
  | 0 => by rw [sm]; exact (sm_0 m).symm
  | n + 1 => by
    rw [sm, sm_swap F m n, ← sm_add]
    rfl
theorem sm_one {c : Nat → Nat} {a : Nat} : ∀ n, sm (fun v => if v = a then c v else 0) n = if a < n then c a else 0
  | 0 => rfl
  | n + 1 => by
    rw [sm, sm_one n]
    by_cases h : n = a
    · subst h
      rw [if_neg (by omega), if_pos rfl, if_pos (by omega)]; omega
    · rw [if_neg h]
      by_cases h2 : a < n
      · rw [if_pos h2, if_pos (by omega), Nat.add_zero]
      · rw [if_neg h2, if_neg (by omega)]
theorem sm_le {f : Nat → Nat} : ∀ n, (∀ k, k < n → f k ≤ 1) → sm f n ≤ n
  | 0, _ => Nat.le_refl 0
  | n + 1, h => by
    have h1 := sm_le n (fun k hk => h k (by omega))
    have h2 := h n (by omega)
    rw [sm]; omega
theorem twos_count {g : Nat → Nat} (hg : ∀ w, w < 16 → g w < 16 ∧ g (g w) = w) : sm (fun w => if g w = w then 0 else 1) 16 = 2 * sm (fun w => if w < g w then 1 else 0) 16 := by
  have h1 : sm (fun w => if g w = w then 0 else 1) 16 = sm (fun w => if w < g w then 1 else 0) 16 + sm (fun w => if g w < w then 1 else 0) 16 := by
    rw [← sm_add]
    apply sm_cong
    intro w hw
    rcases Nat.lt_trichotomy w (g w) with h | h | h
    · rw [if_neg (by omega), if_pos h, if_neg (by omega)]
    · rw [if_pos h.symm, if_neg (by omega), if_neg (by omega)]
    · rw [if_neg (by omega), if_neg (by omega), if_pos h]
  have h2 : sm (fun w => if w < g w then 1 else 0) 16 = sm (fun w => sm (fun v => if v = g w then (if w < v then 1 else 0) else 0) 16) 16 := by
    apply sm_cong
    intro w hw
    rw [sm_one, if_pos (hg w hw).1]
  have h3 : sm (fun w => if g w < w then 1 else 0) 16 = sm (fun w => sm (fun v => if v = g w then (if v < w then 1 else 0) else 0) 16) 16 := by
    apply sm_cong
    intro w hw
    rw [sm_one, if_pos (hg w hw).1]
  have h4 : sm (fun w => sm (fun v => if v = g w then (if v < w then 1 else 0) else 0) 16) 16 = sm (fun w => sm (fun v => if v = g w then (if w < v then 1 else 0) else 0) 16) 16 := by
    rw [sm_swap (fun w v => if v = g w then (if v < w then 1 else 0) else 0) 16 16]
    apply sm_cong
    intro v hv
    apply sm_cong
    intro w hw
    by_cases e : v = g w
    · have e2 : w = g v := by rw [e]; exact (hg w hw).2.symm
      rw [if_pos e, if_pos e2]
    · rw [if_neg e, if_neg]
      intro e2
      exact e (by rw [e2]; exact (hg v hv).2.symm)
  rw [h1, h3, h4, ← h2]
  omega
theorem f_twos4 {other : Nat → Int32} {g : Nat → Nat} (hg : ∀ w, w < 16 → g w < 16 ∧ g (g w) = w ∧ other w = nI (g w)) : f_X4_twos other = some (nI (sm (fun w => if w < g w then 1 else 0) 16)) := by
  unfold f_X4_twos
  refine loop0 (fun n a i => f_X4_twos_b4 other n a i) (fun k => nI (sm (fun w => if g w = w then 0 else 1) k)) 16 (by omega) _ (fun n k hk => ?_) (fun n => ?_)
  · show f_X4_twos_b4 other (n + 1) _ _ = f_X4_twos_b4 other n _ _
    obtain ⟨g1, g2, g3⟩ := hg k hk
    rw [f_X4_twos_b4, if_neg (ge16 hk), gI_n hk (by omega), g3]
    simp only [f_X4_twos_b26, sm, neq (show g k < 2 ^ 31 by omega) (show k < 2 ^ 31 by omega)]
    by_cases e : g k = k
    · rw [if_pos e, if_pos e, show (0 : Int32) = nI 0 from rfl, nI_add]
    · rw [if_neg e, if_neg e, nI_1]
  · show f_X4_twos_b4 other (n + 1) _ _ = _
    rw [f_X4_twos_b4, if_pos (by decide), dI_n (by decide), twos_count (fun w hw => ⟨(hg w hw).1, (hg w hw).2.1⟩), show (2 : Int32) = nI 2 from rfl]
    have hle := sm_le (f := fun w => if w < g w then 1 else 0) 16 (fun k _ => by split <;> omega)
    rw [pk_div (by omega) (by omega) (by omega), Nat.mul_div_cancel_left _ (by omega)]
/-- and over told bottles -/
def andI (t : Nat → Bool) (f : Nat → Int32) : Nat → Int32
  | 0 => 65535
  | k + 1 => if t k then andI t f k &&& f k else andI t f k
theorem andI_mask (t : Nat → Bool) (f : Nat → Int32) : ∀ k, andI t f k &&& 65535 = andI t f k
  | 0 => by rw [andI]; decide
  | k + 1 => by
    have ih := andI_mask t f k
    rw [andI]
    split
    · apply b_ext
      intro i hi
      have h1 : bt (andI t f k &&& 65535) i = bt (andI t f k) i := by rw [ih]
      rw [b_and] at h1
      rw [b_and, b_and]
      cases h2 : bt (andI t f k) i <;> cases h3 : bt (f k) i <;> cases h4 : bt 65535 i <;> simp_all
    · exact ih
section BN
variable {dread kind salt : Nat → Int32} {nerve : Int32} {other now rhymeOf : Nat → Int32} {g : Nat → Nat} {T : Nat}
def tl (T : Nat) (b : Nat) : Bool := decide (T / 2 ^ b % 2 = 1)
theorem tI_tl {b : Nat} (hb : b < 8) : tI T (nI b) = bI (tl T b) := by
  rw [tI_in hb]
  unfold tl bI
  rcases Nat.mod_two_eq_zero_or_one (T / 2 ^ b) with e | e <;> simp [e] <;> rfl
theorem f_all8 (h : SQ dread kind salt nerve other now rhymeOf g) (hT : T < 256) : f_X8_wordsBorneByAll dread kind other salt nerve (nI T) = some (andI (tl T) (fun b => bitsI (bear now g b) 16) 8) := by
  unfold f_X8_wordsBorneByAll
  refine loop0 (fun n a i => f_X8_wordsBorneByAll_b5 dread kind other salt nerve (nI T) n a i) (andI (tl T) (fun b => bitsI (bear now g b) 16)) 8 (by omega) _ (fun n k hk => ?_) (fun n => ?_)
  · show f_X8_wordsBorneByAll_b5 dread kind other salt nerve (nI T) (n + 1) _ _ = f_X8_wordsBorneByAll_b5 dread kind other salt nerve (nI T) n _ _
    rw [f_X8_wordsBorneByAll_b5, if_neg (ge8 hk), f_isTold8 hT, bd1_s, tI_tl hk, f_wb8 h hk, bd1_s]
    simp only [f_X8_wordsBorneByAll_b30, bI_eq0, andI]
    cases tl T k
    · simp [andI_mask]
    · simp
  · show f_X8_wordsBorneByAll_b5 dread kind other salt nerve (nI T) (n + 1) _ _ = _
    rw [f_X8_wordsBorneByAll_b5, if_pos (by decide)]
theorem f_none8 (h : SQ dread kind salt nerve other now rhymeOf g) (hT : T < 256) : f_X8_wordsBorneByNone dread kind other salt nerve (nI T) = some (andI (tl T) (fun b => bitsI (bear now g b) 16 ^^^ (-1)) 8) := by
  unfold f_X8_wordsBorneByNone
  refine loop0 (fun n a i => f_X8_wordsBorneByNone_b5 dread kind other salt nerve (nI T) n a i) (andI (tl T) (fun b => bitsI (bear now g b) 16 ^^^ (-1))) 8 (by omega) _ (fun n k hk => ?_) (fun n => ?_)
  · show f_X8_wordsBorneByNone_b5 dread kind other salt nerve (nI T) (n + 1) _ _ = f_X8_wordsBorneByNone_b5 dread kind other salt nerve (nI T) n _ _
    rw [f_X8_wordsBorneByNone_b5, if_neg (ge8 hk), f_isTold8 hT, bd1_s, tI_tl hk, f_wb8 h hk, bd1_s]
    simp only [f_X8_wordsBorneByNone_b32, bI_eq0, andI]
    cases tl T k
    · simp [andI_mask]
    · simp
  · show f_X8_wordsBorneByNone_b5 dread kind other salt nerve (nI T) (n + 1) _ _ = _
    rw [f_X8_wordsBorneByNone_b5, if_pos (by decide)]
theorem f_borne12 (h : SQ dread kind salt nerve other now rhymeOf g) (hn : ∀ b, b < 8 → now b = nI (T / 2 ^ b % 2)) (a : Int32) : f_X12_borne_b23 now rhymeOf a FU 65535 65535 0 0 = some (if a = 0 then andI (tl T) (fun b => bitsI (bear now g b) 16) 8 else if a = 1 then andI (tl T) (fun b => bitsI (bear now g b) 16 ^^^ (-1)) 8 else nI (sm (fun w => if w < g w then 1 else 0) 16)) := by
  refine loop0 (fun n (x : Int32 × Int32) i => f_X12_borne_b23 now rhymeOf a n x.1 x.2 0 i) (fun k => (andI (tl T) (fun b => bitsI (bear now g b) 16) k, andI (tl T) (fun b => bitsI (bear now g b) 16 ^^^ (-1)) k)) 8 (by omega) _ (fun n k hk => ?_) (fun n => ?_)
  · show f_X12_borne_b23 now rhymeOf a (n + 1) _ _ _ _ = f_X12_borne_b23 now rhymeOf a n _ _ _ _
    rw [f_X12_borne_b23, if_neg (ge8 hk), f_isTold12 hn, bd1_s, tI_tl hk, f_wb12 h hk, bd1_s, bd1_s]
    simp only [f_X12_borne_b62, bI_eq0, andI]
    cases tl T k <;> simp
  · show f_X12_borne_b23 now rhymeOf a (n + 1) _ _ _ _ = _
    rw [f_X12_borne_b23, if_pos (by decide)]
    refine loop0 (fun n x i => f_X12_borne_b71 rhymeOf a n (andI (tl T) (fun b => bitsI (bear now g b) 16) 8) (andI (tl T) (fun b => bitsI (bear now g b) 16 ^^^ (-1)) 8) x i) (fun k => nI (sm (fun w => if w < g w then 1 else 0) k)) 16 (by omega) _ (fun n k hk => ?_) (fun n => ?_)
    · show f_X12_borne_b71 rhymeOf a (n + 1) _ _ _ _ = f_X12_borne_b71 rhymeOf a n _ _ _ _
      obtain ⟨g1, -, g3⟩ := h.2.2.2 k hk
      rw [f_X12_borne_b71, if_neg (ge16 hk), gI_n hk (by omega), g3]
      simp only [f_X12_borne_b96, sm, nle (show g k < 2 ^ 31 by omega) (show k < 2 ^ 31 by omega)]
      by_cases e : g k ≤ k
      · rw [if_pos e, if_neg (by omega), Nat.add_zero]
      · rw [if_neg e, if_pos (by omega), nI_1]
    · show f_X12_borne_b71 rhymeOf a (n + 1) _ _ _ _ = _
      rw [f_X12_borne_b71, if_pos (by decide)]
      simp only [f_X12_borne_b121]
      split
      · rfl
      · split <;> rfl
end BN
theorem lt3 {a : Int32} (c0 : ¬ a = 0) (c1 : ¬ a = 1) (c2 : ¬ a = 2) : a < 0 ∨ 2 < a := by
  by_cases q : a < 0
  · exact Or.inl q
  · refine Or.inr ?_
    by_cases q2 : (2 : Int32) < a
    · exact q2
    · exfalso
      obtain ⟨k, hk, rfl⟩ := rg_of (n := 2) (by omega) q q2
      rcases (show k = 0 ∨ k = 1 ∨ k = 2 by omega) with rfl | rfl | rfl
      · exact c0 rfl
      · exact c1 rfl
      · exact c2 rfl
set_option maxHeartbeats 4000000 in
theorem pm_borne {v_t_tape_bytes : Nat → Int32} {x_t_tape_size : Int32} {v_t_rhymes_other : Nat → Int32} {v_t_shelf_dread : Nat → Int32} {v_t_shelf_ink : Nat → Int32} {v_t_shelf_kind : Nat → Int32} {v_t_shelf_salt : Nat → Int32} {v_t_shelf_tries : Nat → Int32} {x_t_shelf_day : Int32} {x_t_shelf_nerve : Int32} {x_t_shelf_pictures : Int32} {x_t_shelf_told : Int32} {x_t_shelf_written : Int32} {x_t_shelf_x : Int32} {v_t_kept_dread : Nat → Int32} {v_t_kept_ink : Nat → Int32} {v_t_kept_kind : Nat → Int32} {v_t_kept_salt : Nat → Int32} {v_t_kept_tries : Nat → Int32} {x_t_kept_day : Int32} {x_t_kept_nerve : Int32} {x_t_kept_pictures : Int32} {x_t_kept_told : Int32} {x_t_kept_written : Int32} {x_t_kept_x : Int32} {v_t_letter_words : Nat → Int32} {x_t_letter_size : Int32} {v_t_law_code : Nat → Int32} {v_t_law_letters : Nat → Int32} {v_t_law_valueFrom : Nat → Int32} {v_t_law_testFrom : Nat → Int32} {v_t_law_testEnd : Nat → Int32} {x_t_law_rules : Int32} {x_t_anyKept : Int32} {v_m_now : Nat → Int32} {v_m_kept : Nat → Int32} {v_m_rhymeOf : Nat → Int32} {v_m_wordAt : Nat → Int32} {x_m_wordMany : Int32} {v_m_tape : Nat → Int32} {x_m_taped : Int32} {v_m_codes : Nat → Int32} {v_m_clauseOf : Nat → Int32} {v_m_codeFrom : Nat → Int32} {v_m_codeHalf : Nat → Int32} {v_m_codeTo : Nat → Int32} {x_m_clauses : Int32} {x_m_isKept : Int32} (hI : Inv v_t_tape_bytes x_t_tape_size v_t_rhymes_other v_t_shelf_dread v_t_shelf_ink v_t_shelf_kind v_t_shelf_salt v_t_shelf_tries x_t_shelf_day x_t_shelf_nerve x_t_shelf_pictures x_t_shelf_told x_t_shelf_written x_t_shelf_x v_t_kept_dread v_t_kept_ink v_t_kept_kind v_t_kept_salt v_t_kept_tries x_t_kept_day x_t_kept_nerve x_t_kept_pictures x_t_kept_told x_t_kept_written x_t_kept_x v_t_letter_words x_t_letter_size v_t_law_code v_t_law_letters v_t_law_valueFrom v_t_law_testFrom v_t_law_testEnd x_t_law_rules x_t_anyKept v_m_now v_m_kept v_m_rhymeOf v_m_wordAt x_m_wordMany v_m_tape x_m_taped v_m_codes v_m_clauseOf v_m_codeFrom v_m_codeHalf v_m_codeTo x_m_clauses x_m_isKept) (a1 : Int32) : ∃ (r : Int32), f_X11_borne v_t_rhymes_other v_t_shelf_dread v_t_shelf_kind v_t_shelf_salt x_t_shelf_nerve x_t_shelf_told a1 = some r ∧ f_X12_borne v_m_now v_m_rhymeOf a1 = some r ∧ Inv v_t_tape_bytes x_t_tape_size v_t_rhymes_other v_t_shelf_dread v_t_shelf_ink v_t_shelf_kind v_t_shelf_salt v_t_shelf_tries x_t_shelf_day x_t_shelf_nerve x_t_shelf_pictures x_t_shelf_told x_t_shelf_written x_t_shelf_x v_t_kept_dread v_t_kept_ink v_t_kept_kind v_t_kept_salt v_t_kept_tries x_t_kept_day x_t_kept_nerve x_t_kept_pictures x_t_kept_told x_t_kept_written x_t_kept_x v_t_letter_words x_t_letter_size v_t_law_code v_t_law_letters v_t_law_valueFrom v_t_law_testFrom v_t_law_testEnd x_t_law_rules x_t_anyKept v_m_now v_m_kept v_m_rhymeOf v_m_wordAt x_m_wordMany v_m_tape x_m_taped v_m_codes v_m_clauseOf v_m_codeFrom v_m_codeHalf v_m_codeTo x_m_clauses x_m_isKept := by
  have hI0 := hI
  obtain ⟨hT, ⟨g, hg⟩, hS, hK, hL, hW⟩ := hI
  have hQ := SQ.of hS hg
  obtain ⟨⟨T, hT2, rfl, hn⟩, -⟩ := hS
  have ht := f_twos4 (other := v_t_rhymes_other) (g := g) (fun w hw => ⟨(hg w hw).1, (hg w hw).2.1, (hg w hw).2.2.1⟩)
  unfold f_X11_borne f_X12_borne
  rw [f_all8 hQ hT2, f_none8 hQ hT2, ht, f_in_eq, bd1_s, bd1_s, bd1_s, bd1_s, f_borne12 hQ hn]
  by_cases c0 : a1 = 0
  · subst c0
    exact ⟨_, by rw [if_pos rfl], by simp, hI0⟩
  by_cases c1 : a1 = 1
  · subst c1
    exact ⟨_, by rw [if_neg c0, if_pos rfl], by simp, hI0⟩
  by_cases c2 : a1 = 2
  · subst c2
    exact ⟨_, by rw [if_neg c0, if_neg c1, if_pos rfl], by simp, hI0⟩
  · have h3 := lt3 c0 c1 c2
    exact ⟨-1, by rw [if_neg c0, if_neg c1, if_neg c2], by simp [h3], hI0⟩
