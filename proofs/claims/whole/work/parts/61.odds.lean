/-! pure: forgery -/
theorem loopG {α β : Type} (L : Nat → α → Int32 → Option β) (a : Nat → α) (p : Nat → Bool) (N : Nat) (hN : N < 99999) {a0 : α} (h0 : a 0 = a0) (yes no : Option β)
    (hstep : ∀ n k, k < N → p k = true → L (n + 1) (a k) (nI k) = L n (a (k + 1)) (nI k + 1)) (hout : ∀ n k, k < N → p k = false → L (n + 1) (a k) (nI k) = no) (hexit : ∀ n, allN p N = true → L (n + 1) (a N) (nI N) = yes) : L FU a0 0 = if allN p N then yes else no := by
  rw [← h0]
  by_cases hall : allN p N = true
  · rw [if_pos hall]
    have hp := allN_iff.mp hall
    exact loop0 L a N hN yes (fun n k hk => hstep n k hk (hp k hk)) (fun n => hexit n hall)
  · rw [if_neg hall]
    obtain ⟨j, hj, hpj⟩ : ∃ j, j < N ∧ p j = false := by
      by_cases hx : ∃ j, j < N ∧ p j = false
      · exact hx
      · exfalso
        apply hall
        rw [allN_iff]
        intro k hk
        cases e : p k
        · exact absurd ⟨k, hk, e⟩ hx
        · rfl
    have key : ∀ n k, k ≤ j → N - k < n → L n (a k) (nI k) = no := by
      intro n
      induction n with
      | zero => intro k _ h; omega
      | succ n ih =>
        intro k hk hn
        cases e : p k with
        | false => exact hout n k (by omega) e
        | true =>
          rw [hstep n k (by omega) e, nI_1]
          have : k ≠ j := fun q => by subst q; rw [e] at hpj; cases hpj
          exact ih (k + 1) (by omega) (by omega)
    exact key FU 0 (Nat.zero_le j) (FU_gt (by omega))
theorem gcd_step {a b : Nat} : Nat.gcd a b = Nat.gcd b (a % b) := by rw [Nat.gcd_comm a b, Nat.gcd_rec b a, Nat.gcd_comm]
theorem f_cd5 : ∀ (m a b c n : Nat), a < 2 ^ 31 → b < 2 ^ 31 → b < 2 ^ m → c + 2 * m + 1 ≤ 100 → 2 * m + 1 < n → f_X5_commonDivisor_b7 n (nI a) (nI b) (nI c) = some (nI (Nat.gcd a b))
  | 0, a, b, c, n + 1, _, _, hb, hc, _ => by
    have e : b = 0 := by omega
    subst e
    rw [f_X5_commonDivisor_b7, if_neg (by rw [show (100 : Int32) = nI 100 from rfl, nle (by omega) (by omega)]; omega), if_pos (show nI 0 = 0 from rfl), Nat.gcd_zero_right]; rfl
  | m + 1, a, b, c, n + 2, ha, hb31, hb, hc, hn => by
    have lim : ∀ c, c < 100 → ¬ (100 : Int32) ≤ nI c := fun c hc => by rw [show (100 : Int32) = nI 100 from rfl, nle (by omega) (by omega)]; omega
    rcases Nat.eq_zero_or_pos b with e | e
    · subst e
      rw [f_X5_commonDivisor_b7, if_neg (lim c (by omega)), if_pos (show nI 0 = 0 from rfl), Nat.gcd_zero_right]; rfl
    · have hr : a % b < b := Nat.mod_lt _ e
      rw [f_X5_commonDivisor_b7, if_neg (lim c (by omega)), if_neg (nI_ne0 e hb31), rI_n (nI_ne0 e hb31), pk_rem ha e hb31, nI_1, gcd_step]
      rcases Nat.eq_zero_or_pos (a % b) with e2 | e2
      · rw [e2, f_X5_commonDivisor_b7, if_neg (lim (c + 1) (by omega)), if_pos (show nI 0 = 0 from rfl), Nat.gcd_zero_right]; rfl
      · have hr2 : b % (a % b) < a % b := Nat.mod_lt _ e2
        have h4 : b % (a % b) ≤ b - a % b := by
          have h5 := Nat.mod_add_div b (a % b)
          have h6 : 0 < b / (a % b) := Nat.div_pos (by omega) e2
          have h7 : a % b * 1 ≤ a % b * (b / (a % b)) := Nat.mul_le_mul_left _ h6
          omega
        rw [f_X5_commonDivisor_b7, if_neg (lim (c + 1) (by omega)), if_neg (nI_ne0 e2 (by omega)), rI_n (nI_ne0 e2 (by omega)), pk_rem hb31 e2 (by omega), nI_1, gcd_step]
        have h2 : 2 ^ (m + 1) = 2 * 2 ^ m := by rw [Nat.pow_succ]; omega
        exact f_cd5 m _ _ (c + 1 + 1) n (by omega) (by omega) (by omega) (by omega) (by omega)
theorem f_gcd12 : ∀ (m a b n : Nat), a < 2 ^ 31 → b < 2 ^ 31 → b < 2 ^ m → 2 * m + 1 < n → f_X12_gcd_b4 n (nI a) (nI b) = some (nI (Nat.gcd a b))
  | 0, a, b, n + 1, _, _, hb, _ => by
    have e : b = 0 := by omega
    subst e
    rw [f_X12_gcd_b4, if_pos (show nI 0 = 0 from rfl), Nat.gcd_zero_right]
  | m + 1, a, b, n + 2, ha, hb31, hb, hn => by
    rcases Nat.eq_zero_or_pos b with e | e
    · subst e
      rw [f_X12_gcd_b4, if_pos (show nI 0 = 0 from rfl), Nat.gcd_zero_right]
    · have hr : a % b < b := Nat.mod_lt _ e
      rw [f_X12_gcd_b4, if_neg (nI_ne0 e hb31), rI_n (nI_ne0 e hb31), pk_rem ha e hb31, gcd_step]
      rcases Nat.eq_zero_or_pos (a % b) with e2 | e2
      · rw [e2, f_X12_gcd_b4, if_pos (show nI 0 = 0 from rfl), Nat.gcd_zero_right]
      · have hr2 : b % (a % b) < a % b := Nat.mod_lt _ e2
        have h4 : b % (a % b) ≤ b - a % b := by
          have h5 := Nat.mod_add_div b (a % b)
          have h6 : 0 < b / (a % b) := Nat.div_pos (by omega) e2
          have h7 : a % b * 1 ≤ a % b * (b / (a % b)) := Nat.mul_le_mul_left _ h6
          omega
        rw [f_X12_gcd_b4, if_neg (nI_ne0 e2 (by omega)), rI_n (nI_ne0 e2 (by omega)), pk_rem hb31 e2 (by omega), gcd_step]
        have h2 : 2 ^ (m + 1) = 2 * 2 ^ m := by rw [Nat.pow_succ]; omega
        exact f_gcd12 m _ _ n (by omega) (by omega) (by omega) (by omega)
theorem f_cd {a b : Nat} (ha : a < 2 ^ 31) (hb : b < 2 ^ 31) : f_X5_commonDivisor (nI a) (nI b) = some (nI (Nat.gcd a b)) := f_cd5 31 a b 0 FU ha hb hb (by omega) (FU_gt (by omega))
theorem f_gcd {a b : Nat} (ha : a < 2 ^ 31) (hb : b < 2 ^ 31) : f_X12_gcd (nI a) (nI b) = some (nI (Nat.gcd a b)) := f_gcd12 31 a b FU ha hb hb (FU_gt (by omega))
/-- the odds, cut down -/
def odI (a2 : Int32) (s l : Nat) : Int32 := if a2 - a2 / 2 * 2 = 0 then nI s / nI (Nat.gcd s l) else nI l / nI (Nat.gcd s l)
theorem f_od5 {a2 : Int32} {s l : Nat} (hs : s < 2 ^ 31) (hl : l < 2 ^ 31) (hl0 : 0 < l) : f_X5_odds_b80 a2 (nI s) (nI l) = some (odI a2 s l) := by
  have hg : 0 < Nat.gcd s l := Nat.gcd_pos_of_pos_right _ hl0
  have hg2 : Nat.gcd s l ≤ l := Nat.gcd_le_right _ hl0
  have hn : ¬ nI (Nat.gcd s l) ≤ 0 := by rw [show (0 : Int32) = nI 0 from rfl, nle (by omega) (by omega)]; omega
  unfold f_X5_odds_b80 f_X5_odds_b102 f_X5_odds_b118 odI
  rw [f_cd hs hl, bd1_s, rI_n (by decide)]
  split
  · rw [dI_n (nI_ne0 hg (by omega))]
  · rw [dI_n (nI_ne0 hg (by omega))]
theorem f_od12 {a2 x : Int32} {s l : Nat} (hs : s < 2 ^ 31) (hl : l < 2 ^ 31) (hl0 : 0 < l) : f_X12_forgery_b115 a2 x (nI s) (nI l) = some (odI a2 s l, x) := by
  have hg : 0 < Nat.gcd s l := Nat.gcd_pos_of_pos_right _ hl0
  have hg2 : Nat.gcd s l ≤ l := Nat.gcd_le_right _ hl0
  unfold f_X12_forgery_b115 f_X12_forgery_b143 odI
  rw [f_gcd hl hs, bd1_s, rI_n (by decide), Nat.gcd_comm l s]
  split
  · rw [dI_n (nI_ne0 hg (by omega))]
  · rw [dI_n (nI_ne0 hg (by omega))]
def prN (f : Nat → Nat) : Nat → Nat
  | 0 => 1
  | k + 1 => prN f k * f k
theorem prN_le {f : Nat → Nat} (h : ∀ k, f k ≤ 10) : ∀ n, prN f n ≤ 10 ^ n
  | 0 => Nat.le_refl 1
  | n + 1 => by rw [prN, Nat.pow_succ]; exact Nat.mul_le_mul (prN_le h n) (h n)
def odS (t : Nat → Nat) (k : Nat) : Int32 × Int32 × Int32 := (nI (10 ^ k), nI (prN (fun i => if t i ≤ 10 then t i else 0) k), nI (prN (fun i => 10 - t i) k))
theorem odS_s {t : Nat → Nat} {k : Nat} (h : t k ≤ 10) : odS t (k + 1) = (nI (10 ^ k) * 10, nI (prN (fun i => if t i ≤ 10 then t i else 0) k) * nI (t k), nI (prN (fun i => 10 - t i) k) * ((10 : Int32) - nI (t k))) := by
  unfold odS
  rw [prN, prN, if_pos h, show (10 : Int32) = nI 10 from rfl, pk_sub h, pk_mul, pk_mul, pk_mul, Nat.pow_succ]
def odA (a2 : Int32) (t : Nat → Nat) (k : Nat) : Int32 := if (2 : Int32) ≤ a2 then odI a2 (10 ^ k - prN (fun i => 10 - t i) k) (10 ^ k) else odI a2 (prN (fun i => if t i ≤ 10 then t i else 0) k) (10 ^ k)
set_option maxHeartbeats 4000000 in
theorem pm_forgery {v_t_tape_bytes : Nat → Int32} {x_t_tape_size : Int32} {v_t_rhymes_other : Nat → Int32} {v_t_shelf_dread : Nat → Int32} {v_t_shelf_ink : Nat → Int32} {v_t_shelf_kind : Nat → Int32} {v_t_shelf_salt : Nat → Int32} {v_t_shelf_tries : Nat → Int32} {x_t_shelf_day : Int32} {x_t_shelf_nerve : Int32} {x_t_shelf_pictures : Int32} {x_t_shelf_told : Int32} {x_t_shelf_written : Int32} {x_t_shelf_x : Int32} {v_t_kept_dread : Nat → Int32} {v_t_kept_ink : Nat → Int32} {v_t_kept_kind : Nat → Int32} {v_t_kept_salt : Nat → Int32} {v_t_kept_tries : Nat → Int32} {x_t_kept_day : Int32} {x_t_kept_nerve : Int32} {x_t_kept_pictures : Int32} {x_t_kept_told : Int32} {x_t_kept_written : Int32} {x_t_kept_x : Int32} {v_t_letter_words : Nat → Int32} {x_t_letter_size : Int32} {v_t_law_code : Nat → Int32} {v_t_law_letters : Nat → Int32} {v_t_law_valueFrom : Nat → Int32} {v_t_law_testFrom : Nat → Int32} {v_t_law_testEnd : Nat → Int32} {x_t_law_rules : Int32} {x_t_anyKept : Int32} {v_m_now : Nat → Int32} {v_m_kept : Nat → Int32} {v_m_rhymeOf : Nat → Int32} {v_m_wordAt : Nat → Int32} {x_m_wordMany : Int32} {v_m_tape : Nat → Int32} {x_m_taped : Int32} {v_m_codes : Nat → Int32} {v_m_clauseOf : Nat → Int32} {v_m_codeFrom : Nat → Int32} {v_m_codeHalf : Nat → Int32} {v_m_codeTo : Nat → Int32} {x_m_clauses : Int32} {x_m_isKept : Int32} (hI : Inv v_t_tape_bytes x_t_tape_size v_t_rhymes_other v_t_shelf_dread v_t_shelf_ink v_t_shelf_kind v_t_shelf_salt v_t_shelf_tries x_t_shelf_day x_t_shelf_nerve x_t_shelf_pictures x_t_shelf_told x_t_shelf_written x_t_shelf_x v_t_kept_dread v_t_kept_ink v_t_kept_kind v_t_kept_salt v_t_kept_tries x_t_kept_day x_t_kept_nerve x_t_kept_pictures x_t_kept_told x_t_kept_written x_t_kept_x v_t_letter_words x_t_letter_size v_t_law_code v_t_law_letters v_t_law_valueFrom v_t_law_testFrom v_t_law_testEnd x_t_law_rules x_t_anyKept v_m_now v_m_kept v_m_rhymeOf v_m_wordAt x_m_wordMany v_m_tape x_m_taped v_m_codes v_m_clauseOf v_m_codeFrom v_m_codeHalf v_m_codeTo x_m_clauses x_m_isKept) (a1 : Int32) (a2 : Int32) : ∃ (r : Int32) (o_x_t_tape_size : Int32) (o_x_m_taped : Int32), f_X11_forgery v_t_tape_bytes x_t_tape_size a1 a2 = some (r, o_x_t_tape_size) ∧ f_X12_forgery v_m_tape x_m_taped a1 a2 = some (r, o_x_m_taped) ∧ Inv v_t_tape_bytes o_x_t_tape_size v_t_rhymes_other v_t_shelf_dread v_t_shelf_ink v_t_shelf_kind v_t_shelf_salt v_t_shelf_tries x_t_shelf_day x_t_shelf_nerve x_t_shelf_pictures x_t_shelf_told x_t_shelf_written x_t_shelf_x v_t_kept_dread v_t_kept_ink v_t_kept_kind v_t_kept_salt v_t_kept_tries x_t_kept_day x_t_kept_nerve x_t_kept_pictures x_t_kept_told x_t_kept_written x_t_kept_x v_t_letter_words x_t_letter_size v_t_law_code v_t_law_letters v_t_law_valueFrom v_t_law_testFrom v_t_law_testEnd x_t_law_rules x_t_anyKept v_m_now v_m_kept v_m_rhymeOf v_m_wordAt x_m_wordMany v_m_tape o_x_m_taped v_m_codes v_m_clauseOf v_m_codeFrom v_m_codeHalf v_m_codeTo x_m_clauses x_m_isKept := by
  have hI0 := hI
  obtain ⟨⟨n, t, hn, rfl, rfl, ht⟩, hR, hS, hK, hL, hW⟩ := hI
  by_cases h : a1 < 1 ∨ 9 < a1
  · exact ⟨-1, _, _, by simp [f_X11_forgery, f_X11_forgery_b30, f_within_eq, h, bd1], by simp [f_X12_forgery, f_X12_forgery_b27, f_in_eq, h, bd1], hI0⟩
  by_cases h2 : a2 < 0 ∨ 3 < a2
  · exact ⟨-1, _, _, by simp [f_X11_forgery, f_X11_forgery_b30, f_within_eq, h, h2, bd1], by simp [f_X12_forgery, f_X12_forgery_b27, f_in_eq, h, h2, bd1], hI0⟩
  obtain ⟨k, hk, rfl⟩ := rg_of (n := 9) (a := a1) (by omega) (fun q => h (Or.inl (by rw [fa_lt] at q ⊢; have : (0 : Int32).toInt = 0 := rfl; have : (1 : Int32).toInt = 1 := rfl; omega))) (fun q => h (Or.inr q))
  by_cases hkn : k ≤ n
  · have e2 : nI k ≤ nI n := by rw [nle (by omega) (by omega)]; exact hkn
    have hb : ∀ i, i < k → v_t_tape_bytes i = nI (t i) ∧ v_m_tape i &&& 255 = nI (t i) ∧ t i < 256 := fun i hi => ⟨(ht i (by omega)).2.1, (ht i (by omega)).2.2, (ht i (by omega)).1⟩
    have c10 : ∀ i, i < k → (nI (t i) ≤ (10 : Int32) ↔ t i ≤ 10) := fun i hi => by rw [show (10 : Int32) = nI 10 from rfl, nle (by have := (hb i hi).2.2; omega) (by omega)]
    have p10 : 10 ^ k ≤ 10 ^ 9 := Nat.pow_le_pow_right (by omega) hk
    have p0 : 0 < 10 ^ k := Nat.pow_pos (by omega)
    have hP : prN (fun i => if t i ≤ 10 then t i else 0) k ≤ 10 ^ k := prN_le (fun i => by split <;> omega) k
    have hQ : prN (fun i => 10 - t i) k ≤ 10 ^ k := prN_le (fun i => by omega) k
    refine ⟨if allN (fun i => decide (t i ≤ 10)) k then odA a2 t k else -3, 0, 0, ?_, ?_, RTape.empty, hR, hS, hK, hL, hW⟩
    · unfold f_X11_forgery
      rw [f_within_eq, if_neg h, bd1_s, if_neg one_ne, f_within_eq, if_neg h2, bd1_s, if_neg one_ne, f_has9 n k hn (by omega), if_pos hkn, bd1_s, if_neg one_ne]
      have key : f_X5_odds v_t_tape_bytes (nI n) (nI k) a2 = if allN (fun i => decide (t i ≤ 10)) k then some (odA a2 t k) else some (-3) := by
        unfold f_X5_odds
        refine loopG (fun m (x : Int32 × Int32 × Int32) i => f_X5_odds_b11 v_t_tape_bytes (nI n) (nI k) a2 m x.1 x.2.1 x.2.2 i) (odS t) (fun i => decide (t i ≤ 10)) k (by omega) (a0 := ((1 : Int32), (1 : Int32), (1 : Int32))) rfl _ _ (fun m j hj hp => ?_) (fun m j hj hp => ?_) (fun m _ => ?_)
        · show f_X5_odds_b11 _ _ _ _ (m + 1) _ _ _ _ = f_X5_odds_b11 _ _ _ _ m _ _ _ _
          have hp2 : t j ≤ 10 := of_decide_eq_true hp
          rw [f_X5_odds_b11, if_neg (by rw [nle (by omega) (by omega)]; omega), f_at9 hn (by omega), bd1_s, (hb j hj).1, if_pos ((c10 j hj).mpr hp2), odS_s hp2]; rfl
        · show f_X5_odds_b11 _ _ _ _ (m + 1) _ _ _ _ = _
          have hp2 : ¬ t j ≤ 10 := of_decide_eq_false hp
          rw [f_X5_odds_b11, if_neg (by rw [nle (by omega) (by omega)]; omega), f_at9 hn (by omega), bd1_s, (hb j hj).1, if_neg (by rw [c10 j hj]; exact hp2)]
        · show f_X5_odds_b11 _ _ _ _ (m + 1) _ _ _ _ = _
          rw [f_X5_odds_b11, if_pos (by rw [nle (by omega) (by omega)]; omega)]
          unfold odA odS
          simp only []
          rw [pk_sub hQ, f_od5 (by omega) (by omega) p0, f_od5 (by omega) (by omega) p0]
          split <;> rfl
      rw [key]
      split <;> rfl
    · unfold f_X12_forgery
      rw [f_in_eq, if_neg h, bd1_s, if_neg one_ne, f_in_eq, if_neg h2, bd1_s, if_neg one_ne, if_pos e2]
      have key : f_X12_forgery_b45 v_m_tape (nI k) a2 FU 0 1 1 1 0 = if allN (fun i => decide (t i ≤ 10)) k then some (odA a2 t k, 0) else some (-3, 0) := by
        refine loopG (fun m (x : Int32 × Int32 × Int32) i => f_X12_forgery_b45 v_m_tape (nI k) a2 m 0 x.1 x.2.1 x.2.2 i) (odS t) (fun i => decide (t i ≤ 10)) k (by omega) (a0 := ((1 : Int32), (1 : Int32), (1 : Int32))) rfl _ _ (fun m j hj hp => ?_) (fun m j hj hp => ?_) (fun m _ => ?_)
        · show f_X12_forgery_b45 _ _ _ (m + 1) _ _ _ _ _ = f_X12_forgery_b45 _ _ _ m _ _ _ _ _
          have hp2 : t j ≤ 10 := of_decide_eq_true hp
          rw [f_X12_forgery_b45, if_neg (by rw [nle (by omega) (by omega)]; omega), f_oct12 (by omega), bd1_s, bd1_s, bd1_s, (hb j hj).2.1, if_pos ((c10 j hj).mpr hp2), odS_s hp2]; rfl
        · show f_X12_forgery_b45 _ _ _ (m + 1) _ _ _ _ _ = _
          have hp2 : ¬ t j ≤ 10 := of_decide_eq_false hp
          rw [f_X12_forgery_b45, if_neg (by rw [nle (by omega) (by omega)]; omega), f_oct12 (by omega), bd1_s, (hb j hj).2.1, if_neg (by rw [c10 j hj]; exact hp2)]
        · show f_X12_forgery_b45 _ _ _ (m + 1) _ _ _ _ _ = _
          rw [f_X12_forgery_b45, if_pos (by rw [nle (by omega) (by omega)]; omega)]
          unfold odA odS
          simp only []
          rw [pk_sub hQ, f_od12 (by omega) (by omega) p0, f_od12 (by omega) (by omega) p0]
          split <;> rfl
      rw [key]
      split <;> rfl
  · have e2 : ¬ nI k ≤ nI n := by rw [nle (by omega) (by omega)]; exact hkn
    exact ⟨-1, _, _, by simp [f_X11_forgery, f_X11_forgery_b30, f_within_eq, h, h2, bd1, f_has9 n k hn (by omega), hkn], by simp [f_X12_forgery, f_X12_forgery_b27, f_in_eq, h, h2, bd1, e2], hI0⟩
