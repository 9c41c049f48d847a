/-! pure: the law is asked -/
section LU
variable {code letters valueFrom testFrom testEnd codes clauseOf codeFrom codeHalf codeTo : Nat → Int32} {rules clauses : Int32}
theorem holds_sim (hW : RLaw code letters valueFrom testFrom testEnd rules codes clauseOf codeFrom codeHalf codeTo clauses) {F G : Nat → Int32} (hFG : ∀ j, j < 10 → F j = G j) (st : Nat → Int32) (h rf : Int32) (st2 : Nat → Int32) :
    ∃ c : Bool, (∃ st' h' rf', f_X1_opens code F letters st testEnd testFrom h rf rules = some (bI (!c), st', h', rf')) ∧ ∃ st2', f_X12_holdsAny clauseOf codeHalf codeTo codes G st2 clauses 120 = some (bI c, st2') := by
  obtain ⟨n, hn, rfl, rfl, hr⟩ := hW
  have key : ∀ d k m1 m2 (st : Nat → Int32) (h rf : Int32) (st2 : Nat → Int32), k + d = n → d < m1 → d < m2 → ∃ c : Bool, (∃ st' h' rf', f_X1_opens_b2 code F letters testEnd testFrom (nI n) m1 st h rf (nI k) = some (bI (!c), st', h', rf')) ∧ ∃ st2', f_X12_holdsAny_b2 clauseOf codeHalf codeTo codes G (nI n) 120 m2 st2 (nI k) = some (bI c, st2') := by
    intro d
    induction d with
    | zero =>
      intro k m1 m2 st h rf st2 hk h1 h2
      obtain ⟨m1, rfl⟩ : ∃ m, m1 = m + 1 := ⟨m1 - 1, by omega⟩
      obtain ⟨m2, rfl⟩ : ∃ m, m2 = m + 1 := ⟨m2 - 1, by omega⟩
      refine ⟨false, ⟨st, h, rf, ?_⟩, st2, ?_⟩
      · rw [f_X1_opens_b2, if_pos (by rw [nle (by omega) (by omega)]; omega)]; rfl
      · rw [f_X12_holdsAny_b2, if_pos (by rw [nle (by omega) (by omega)]; omega)]; rfl
    | succ d ih =>
      intro k m1 m2 st h rf st2 hk h1 h2
      obtain ⟨m1, rfl⟩ : ∃ m, m1 = m + 1 := ⟨m1 - 1, by omega⟩
      obtain ⟨m2, rfl⟩ : ∃ m, m2 = m + 1 := ⟨m2 - 1, by omega⟩
      obtain ⟨hl, ⟨g, ⟨g1, g2, g3⟩, g4⟩, -⟩ := hr k (by omega)
      have hnk : ¬ nI n ≤ nI k := by rw [nle (by omega) (by omega)]; omega
      rw [f_X1_opens_b2, if_neg hnk, if_neg (ge16 (by omega)), gI_n (f := letters) (by omega) (by omega), f_X12_holdsAny_b2, if_neg hnk, gI_n (f := clauseOf) (by omega) (by omega), ← hl]
      unfold f_X1_opens_b48 f_X12_holdsAny_b42
      by_cases hx : letters k = 120
      · obtain ⟨st', h', rf', e1⟩ := g2 F st h rf
        obtain ⟨st2', e2⟩ := g3 G st2
        rw [if_pos hx, if_pos hx, gI_n (by omega) (by omega), gI_n (by omega) (by omega), gI_n (by omega) (by omega), gI_n (by omega) (by omega), e1, bd4_s, e2, bd2_s, ← g1 F G hFG]
        rcases g4 F with e | e
        · rw [e, if_pos rfl, if_neg (by decide), nI_1]
          exact ih (k + 1) m1 m2 st' h' rf' st2' (by omega) (by omega) (by omega)
        · rw [e, if_neg one_ne, if_pos rfl]
          exact ⟨true, ⟨st', h', rf', rfl⟩, st2', rfl⟩
      · rw [if_neg hx, if_neg hx, nI_1]
        exact ih (k + 1) m1 m2 st h rf st2 (by omega) (by omega) (by omega)
  exact key n 0 FU FU st h rf st2 (by omega) (FU_gt (by omega)) (FU_gt (by omega))
theorem bound_eq {r : Int32} {k : Nat} (hk : k < 2 ^ 31) : mxI 0 (mnI r (nI k)) = (if 0 ≤ r then (if r ≤ nI k then r else nI k) else 0) ∧ Rg (mxI 0 (mnI r (nI k))) k := by
  unfold mxI mnI
  by_cases h1 : nI k < r
  · have h2 : ¬ r ≤ nI k := (fa_of_lt h1).2.1
    have h3 : (0 : Int32) ≤ r := by
      have := nI_pos (n := k) hk
      rw [fa_lt] at h1 this
      rw [fa_le]
      have e0 : (0 : Int32).toInt = 0 := rfl
      omega
    rw [if_pos h1, if_pos h3, if_neg h2]
    by_cases h4 : (0 : Int32) < nI k
    · rw [if_pos h4]; exact ⟨rfl, k, Nat.le_refl k, rfl⟩
    · have e : k = 0 := by rw [show (0 : Int32) = nI 0 from rfl, nlt (by omega) hk] at h4; omega
      subst e
      rw [if_neg h4]; exact ⟨rfl, 0, Nat.le_refl 0, rfl⟩
  · have h2 : r ≤ nI k := fa_of_nlt h1
    rw [if_neg h1, if_pos h2]
    by_cases h3 : (0 : Int32) < r
    · rw [if_pos h3, if_pos (fa_of_lt h3).1]
      obtain ⟨j, hj, e⟩ := rg_of (n := k) (a := r) hk ((fa_of_lt h3).2.2.1) h1
      exact ⟨rfl, j, hj, e⟩
    · rw [if_neg h3]
      refine ⟨?_, 0, Nat.zero_le k, rfl⟩
      by_cases h4 : (0 : Int32) ≤ r
      · rw [if_pos h4]
        rcases fa_three 0 r with q | q | q
        · exact absurd q h3
        · exact q
        · exact absurd h4 (fa_of_lt q).2.1
      · rw [if_neg h4]
theorem value_sim (hW : RLaw code letters valueFrom testFrom testEnd rules codes clauseOf codeFrom codeHalf codeTo clauses) {F G : Nat → Int32} (hFG : ∀ j, j < 10 → F j = G j) {a : Int32} (ha : ¬ a = 120) {most w0 : Nat} (hm : most < 2 ^ 31) (hw : w0 ≤ most) (st : Nat → Int32) (h rf : Int32) (st2 : Nat → Int32) :
    ∃ v : Nat, v ≤ most ∧ (∃ st' h' rf', f_X1_valueBy code F letters st testEnd testFrom valueFrom h rf rules a (nI most) (nI w0) = some (nI v, st', h', rf')) ∧ ∃ st2', f_X12_byLaw clauseOf codeFrom codeHalf codeTo codes G st2 clauses a (nI most) (nI w0) = some (nI v, st2') := by
  obtain ⟨n, hn, rfl, rfl, hr⟩ := hW
  have key : ∀ d k m1 m2 (st : Nat → Int32) (h rf : Int32) (st2 : Nat → Int32), k + d = n → d < m1 → d < m2 → ∃ v : Nat, v ≤ most ∧ (∃ st' h' rf', f_X1_valueBy_b3 code F letters testEnd testFrom valueFrom (nI n) a (nI most) (nI w0) m1 st h rf (nI k) = some (nI v, st', h', rf')) ∧ ∃ st2', f_X12_byLaw_b3 clauseOf codeFrom codeHalf codeTo codes G (nI n) a (nI most) (nI w0) m2 st2 (nI k) = some (nI v, st2') := by
    intro d
    induction d with
    | zero =>
      intro k m1 m2 st h rf st2 hk h1 h2
      obtain ⟨m1, rfl⟩ : ∃ m, m1 = m + 1 := ⟨m1 - 1, by omega⟩
      obtain ⟨m2, rfl⟩ : ∃ m, m2 = m + 1 := ⟨m2 - 1, by omega⟩
      refine ⟨w0, hw, ⟨st, h, rf, ?_⟩, st2, ?_⟩
      · rw [f_X1_valueBy_b3, if_pos (by rw [nle (by omega) (by omega)]; omega)]; rfl
      · rw [f_X12_byLaw_b3, if_pos (by rw [nle (by omega) (by omega)]; omega)]
    | succ d ih =>
      intro k m1 m2 st h rf st2 hk h1 h2
      obtain ⟨m1, rfl⟩ : ∃ m, m1 = m + 1 := ⟨m1 - 1, by omega⟩
      obtain ⟨m2, rfl⟩ : ∃ m, m2 = m + 1 := ⟨m2 - 1, by omega⟩
      obtain ⟨hl, ⟨g, ⟨g1, g2, g3⟩, g4⟩, hv⟩ := hr k (by omega)
      have hnk : ¬ nI n ≤ nI k := by rw [nle (by omega) (by omega)]; omega
      rw [f_X1_valueBy_b3, if_neg hnk, if_neg (ge16 (by omega)), gI_n (f := letters) (by omega) (by omega), f_X12_byLaw_b3, if_neg hnk, gI_n (f := clauseOf) (by omega) (by omega), ← hl]
      unfold f_X1_valueBy_b74 f_X12_byLaw_b90 f_X12_byLaw_b89
      by_cases hx : letters k = a
      · obtain ⟨st', h', rf', e1⟩ := g2 F st h rf
        obtain ⟨st2', e2⟩ := g3 G st2
        rw [if_pos hx, if_pos hx, gI_n (by omega) (by omega), gI_n (by omega) (by omega), gI_n (by omega) (by omega), gI_n (by omega) (by omega), e1, bd4_s, e2, bd2_s, ← g1 F G hFG]
        rcases g4 F with e | e
        · rw [e, if_pos rfl, if_neg (by decide), nI_1]
          exact ih (k + 1) m1 m2 st' h' rf' st2' (by omega) (by omega) (by omega)
        · obtain ⟨u, u1, u2, u3⟩ := hv (by rw [hx]; exact ha)
          obtain ⟨st'', h'', rf'', e3⟩ := u2 F st' h' rf'
          obtain ⟨st2'', e4⟩ := u3 G st2'
          obtain ⟨b1, j, hj, b2⟩ := bound_eq (r := u F) (k := most) hm
          rw [e, if_neg one_ne, if_pos rfl, gI_n (by omega) (by omega), gI_n (by omega) (by omega), gI_n (by omega) (by omega), gI_n (by omega) (by omega), e3, bd4_s, e4, bd2_s, f_bounded_eq, bd1_s, ← u1 F G hFG]
          refine ⟨j, hj, ⟨st'', h'', rf'', by rw [b2]⟩, st2'', ?_⟩
          rw [← b2, b1]
          split
          · split <;> rfl
          · rfl
      · rw [if_neg hx, if_neg hx, nI_1]
        exact ih (k + 1) m1 m2 st h rf st2 (by omega) (by omega) (by omega)
  exact key n 0 FU FU st h rf st2 (by omega) (FU_gt (by omega)) (FU_gt (by omega))
end LU
