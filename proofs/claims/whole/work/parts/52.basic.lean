/-! pure: loops, arrays, small numbers -/
theorem gI_n {ρ : Type} {n k : Nat} {f : Nat → Int32} {K : Int32 → Option ρ} (h : k < n) (hn : n < 2 ^ 31) : gI n f (nI k) K = K (f k) := by
  unfold gI
  rw [if_neg (nI_in h hn), nI_clamp (by omega)]
theorem sI_n {ρ : Type} {n k : Nat} {f : Nat → Int32} {x : Int32} {K : (Nat → Int32) → Option ρ} (h : k < n) (hn : n < 2 ^ 31) : sI n f (nI k) x K = K (upd f k x) := by
  unfold sI
  rw [if_neg (nI_in h hn), nI_clamp (by omega)]
theorem dI_n {ρ : Type} {x y : Int32} {K : Int32 → Option ρ} (h : ¬ y = 0) : dI x y K = K (x / y) := by
  unfold dI
  rw [if_neg h]
theorem rI_n {ρ : Type} {x y : Int32} {K : Int32 → Option ρ} (h : ¬ y = 0) : rI x y K = K (x - x / y * y) := by
  unfold rI
  rw [if_neg h]
theorem zI_0 {ρ : Type} {K : Option ρ} : zI 0 K = K := by unfold zI; rw [if_pos (Or.inl rfl)]
theorem zI_1 {ρ : Type} {K : Option ρ} : zI 1 K = K := by unfold zI; rw [if_pos (Or.inr rfl)]
theorem FU_gt {n : Nat} (h : n < 100000) : n < FU := h
/-- a loop that counts up to N -/
theorem loopN {α β : Type} (L : Nat → α → Int32 → Option β) (a : Nat → α) (N : Nat) (r : Option β)
    (hstep : ∀ n k, k < N → L (n + 1) (a k) (nI k) = L n (a (k + 1)) (nI k + 1)) (hexit : ∀ n, L (n + 1) (a N) (nI N) = r) : ∀ n k, k ≤ N → N - k < n → L n (a k) (nI k) = r := by
  intro n
  induction n with
  | zero => intro k _ h; omega
  | succ n ih =>
    intro k hk hn
    rcases Nat.lt_or_ge k N with h | h
    · rw [hstep n k h, nI_1]
      exact ih (k + 1) h (by omega)
    · have e : k = N := by omega
      subst e
      exact hexit n
theorem loop0 {α β : Type} (L : Nat → α → Int32 → Option β) (a : Nat → α) (N : Nat) (hN : N < 99999) (r : Option β)
    (hstep : ∀ n k, k < N → L (n + 1) (a k) (nI k) = L n (a (k + 1)) (nI k + 1)) (hexit : ∀ n, L (n + 1) (a N) (nI N) = r) : L FU (a 0) 0 = r :=
  loopN L a N r hstep hexit FU 0 (Nat.zero_le N) (FU_gt (by omega))
/-- a loop that counts up to N and may end at any place: 'some' is its answer there -/
theorem loopE {α β : Type} (L : Nat → α → Int32 → Option β) (a : Nat → α) (N : Nat) (e : Nat → Option (Option β)) (r : Option β) (ans : Nat → Option β)
    (hans0 : ans N = r) (hansS : ∀ k, k < N → ans k = (e k).getD (ans (k + 1)))
    (hstep : ∀ n k, k < N → e k = none → L (n + 1) (a k) (nI k) = L n (a (k + 1)) (nI k + 1)) (hout : ∀ n k x, k < N → e k = some x → L (n + 1) (a k) (nI k) = x) (hexit : ∀ n, L (n + 1) (a N) (nI N) = r) :
    ∀ n k, k ≤ N → N - k < n → L n (a k) (nI k) = ans k := by
  intro n
  induction n with
  | zero => intro k _ h; omega
  | succ n ih =>
    intro k hk hn
    rcases Nat.lt_or_ge k N with h | h
    · rw [hansS k h]
      cases he : e k with
      | none =>
        rw [hstep n k h he, nI_1]
        exact ih (k + 1) h (by omega)
      | some x => rw [hout n k x h he]; rfl
    · have e : k = N := by omega
      subst e
      rw [hexit n, hans0]
theorem nlt {a b : Nat} (ha : a < 2 ^ 31) (hb : b < 2 ^ 31) : (nI a < nI b) = (a < b) := propext (nI_ltI ha hb)
theorem nle {a b : Nat} (ha : a < 2 ^ 31) (hb : b < 2 ^ 31) : (nI a ≤ nI b) = (a ≤ b) := propext (nI_leI ha hb)
theorem neq {a b : Nat} (ha : a < 2 ^ 31) (hb : b < 2 ^ 31) : (nI a = nI b) = (a = b) := propext (nI_eq ha hb)
theorem rg_of {a : Int32} {n : Nat} (hn : n < 2 ^ 31) (h1 : ¬ a < 0) (h2 : ¬ nI n < a) : ∃ k : Nat, k ≤ n ∧ a = nI k := by
  obtain ⟨j, hj, rfl⟩ := nI_of h1
  rw [nlt hn hj] at h2
  exact ⟨j, by omega, rfl⟩
theorem and7 : ∀ b, b < 8 → nI b &&& 7 = nI b := by decide +kernel
theorem and15 : ∀ b, b < 16 → nI b &&& 15 = nI b := by decide +kernel
theorem f_within_eq (a b c : Int32) : f_X11_within a b c = some (if a < b ∨ c < a then 0 else 1) := by
  unfold f_X11_within f_X11_within_b14 f_X11_within_b15
  by_cases h1 : a < b
  · simp [h1, zI_0]
  · by_cases h2 : c < a
    · simp [h1, h2, zI_0]
    · simp [h1, h2, zI_1]
theorem f_in_eq (a b c : Int32) : f_X12_in a b c = some (if a < b ∨ c < a then 0 else 1) := by
  unfold f_X12_in f_X12_in_b14 f_X12_in_b15
  by_cases h1 : a < b
  · simp [h1, zI_0]
  · by_cases h2 : c < a
    · simp [h1, h2, zI_0]
    · simp [h1, h2, zI_1]
def bnd (x : Int32) : Int32 := mxI 0 (mnI x 99)
theorem f_bounded_eq (x m : Int32) : f_X11_bounded x m = some (mxI 0 (mnI x m)) := by
  unfold f_X11_bounded
  rfl
theorem f_limit_eq (x : Int32) : f_X12_limit x = some (bnd x) := by
  unfold f_X12_limit f_X12_min f_X12_max f_X12_min_b10 f_X12_max_b10 bnd mxI mnI
  by_cases h1 : x ≤ 99
  · have h2 : ¬ (99 : Int32) < x := fun h => absurd h1 (fa_of_lt h).2.1
    by_cases h3 : (0 : Int32) ≤ x
    · by_cases h4 : (0 : Int32) < x
      · simp [h1, h2, h3, h4, bd1]
      · have : x = 0 := by rcases fa_three x 0 with h | h | h; exact absurd h3 (fa_of_lt h).2.1; exact h; exact absurd h h4
        subst this
        simp [bd1]
    · have h4 : ¬ (0 : Int32) < x := fun h => h3 (fa_of_lt h).1
      simp [h1, h2, h3, h4, bd1]
  · have h2 : (99 : Int32) < x := fa_of_nle h1
    simp [h1, h2, bd1]
/-! told -/
def tI (T : Nat) (a : Int32) : Int32 := if a < 0 ∨ 7 < a then 0 else nI (T / 2 ^ a.toNatClampNeg % 2)
theorem shr_bit : ∀ T, T < 256 → ∀ b, b < 8 → ((nI T >>> (nI b &&& 31)) &&& 1) = nI (T / 2 ^ b % 2) := by decide +kernel
theorem tI_in {T b : Nat} (hb : b < 8) : tI T (nI b) = nI (T / 2 ^ b % 2) := by
  unfold tI
  rw [if_neg, nI_clamp (by omega)]
  rintro (h | h)
  · exact nI_pos (by omega) h
  · rw [show (7 : Int32) = nI 7 from rfl, nlt (by omega) (by omega)] at h
    omega
theorem tI_out {T : Nat} {a : Int32} (h : a < 0 ∨ 7 < a) : tI T a = 0 := by unfold tI; rw [if_pos h]
theorem tI_cases (T : Nat) (a : Int32) : tI T a = 0 ∨ (∃ b, b < 8 ∧ a = nI b ∧ T / 2 ^ b % 2 = 1 ∧ tI T a = 1) := by
  by_cases h : a < 0 ∨ 7 < a
  · exact Or.inl (tI_out h)
  · have h1 : ¬ a < 0 := fun q => h (Or.inl q)
    have h2 : ¬ nI 7 < a := fun q => h (Or.inr q)
    obtain ⟨b, hb, rfl⟩ := rg_of (by omega) h1 h2
    rw [tI_in (by omega)]
    rcases Nat.mod_two_eq_zero_or_one (T / 2 ^ b) with e | e
    · rw [e]; exact Or.inl rfl
    · rw [e]; exact Or.inr ⟨b, by omega, rfl, e, rfl⟩
theorem f_isTold8 {T : Nat} (hT : T < 256) (a : Int32) : f_X8_isTold (nI T) a = some (tI T a) := by
  unfold f_X8_isTold f_X8_isTold_b25 f_X8_isTold_b26
  by_cases h1 : a < 0
  · rw [if_pos h1, zI_0, tI_out (Or.inl h1)]
  · rw [if_neg h1]
    by_cases h2 : (8 : Int32) ≤ a
    · rw [if_pos h2, zI_0, tI_out (Or.inr (by rw [fa_le] at h2; rw [fa_lt]; exact h2))]
    · rw [if_neg h2]
      have h3 : ¬ nI 7 < a := fun q => h2 (by rw [fa_lt] at q; rw [fa_le]; exact q)
      obtain ⟨b, hb, rfl⟩ := rg_of (by omega) h1 h3
      rw [shr_bit T hT b (by omega), tI_in (by omega)]
      rcases Nat.mod_two_eq_zero_or_one (T / 2 ^ b) with e | e
      · rw [e, if_pos (show nI 0 = 0 from rfl), zI_0]; rfl
      · rw [e, if_neg (by decide), zI_1]; rfl
theorem f_isTold12 {T : Nat} {now : Nat → Int32} (hn : ∀ b, b < 8 → now b = nI (T / 2 ^ b % 2)) (a : Int32) : f_X12_isTold now a = some (tI T a) := by
  unfold f_X12_isTold f_X12_isTold_b26 f_X12_isTold_b27
  rw [f_in_eq]
  by_cases h : a < 0 ∨ 7 < a
  · simp [bd1, h, zI_0, tI_out h]
  · have h1 : ¬ a < 0 := fun q => h (Or.inl q)
    have h2 : ¬ nI 7 < a := fun q => h (Or.inr q)
    simp only [bd1, if_neg h, if_neg (show ¬ (1 : Int32) = 0 by decide)]
    obtain ⟨b, hb, rfl⟩ := rg_of (by omega) h1 h2
    rw [show (0 : Int32) = nI 0 from rfl, nI_add, Nat.zero_add, gI_n (by omega) (by omega), hn b (by omega), tI_in (by omega)]
    rcases Nat.mod_two_eq_zero_or_one (T / 2 ^ b) with e | e
    · rw [e, if_neg (by decide)]; exact zI_0
    · rw [e, if_pos (show nI 1 = 1 from rfl), zI_1]; rfl
