/-! pure: the fewest changes -/
def minF (z : Nat) (f : Nat → Nat) : Nat → Nat
  | 0 => z
  | k + 1 => min (minF z f k) (f k)
theorem minF_le {z : Nat} {f : Nat → Nat} : ∀ k, minF z f k ≤ z ∧ (∀ b, b < k → minF z f k ≤ f b) ∧ (minF z f k = z ∨ ∃ b, b < k ∧ minF z f k = f b)
  | 0 => ⟨Nat.le_refl z, fun b hb => by omega, Or.inl rfl⟩
  | k + 1 => by
    obtain ⟨h1, h2, h3⟩ := minF_le (z := z) (f := f) k
    rw [minF]
    refine ⟨by omega, fun b hb => ?_, ?_⟩
    · by_cases e : b = k
      · subst e; omega
      · have := h2 b (by omega); omega
    · rcases Nat.lt_or_ge (f k) (minF z f k) with q | q
      · exact Or.inr ⟨k, by omega, by omega⟩
      · rcases h3 with h3 | ⟨b, hb, h3⟩
        · exact Or.inl (by omega)
        · exact Or.inr ⟨b, by omega, by omega⟩
theorem minF_cong {z : Nat} {f g : Nat → Nat} : ∀ k, (∀ b, b < k → f b = g b) → minF z f k = minF z g k
  | 0, _ => rfl
  | k + 1, h => by rw [minF, minF, minF_cong k (fun b hb => h b (by omega)), h k (by omega)]
/-- minimum from another start -/
theorem minF_z {z y : Nat} {f g : Nat → Nat} {k b0 : Nat} (hb : b0 < k) (hf : f b0 ≤ y) (hfz : f b0 ≤ z) (h : ∀ b, b < k → g b = f b ∨ (f b0 ≤ g b ∧ f b0 ≤ f b)) (hg : g b0 = f b0) : minF y g k = minF z f k := by
  obtain ⟨h1, h2, h3⟩ := minF_le (z := z) (f := f) k
  obtain ⟨g1, g2, g3⟩ := minF_le (z := y) (f := g) k
  have a1 := h2 b0 hb
  have a2 := g2 b0 hb
  rcases h3 with h3 | ⟨b, hbk, h3⟩
  · rcases g3 with g3 | ⟨c, hc, g3⟩
    · omega
    · have q := h c hc; have := h2 c hc; omega
  · rcases g3 with g3 | ⟨c, hc, g3⟩
    · have q := h b hbk; have := g2 b hbk; omega
    · have q := h b hbk; have q2 := h c hc; have := g2 b hbk; have := h2 c hc; omega
section DP
variable (n : Nat) (br : Nat → Nat → Bool)
def smB (br : Nat → Nat → Bool) (i : Nat) : Bool := !allN (fun b => !br i b) 8
theorem smB_iff {br : Nat → Nat → Bool} {i : Nat} : smB br i = true ↔ ∃ b, b < 8 ∧ br i b = true := by
  unfold smB
  constructor
  · intro h
    by_cases hx : ∃ b, b < 8 ∧ br i b = true
    · exact hx
    · rw [allN_iff.mpr (fun b hb => ?_)] at h
      · cases h
      · cases e : br i b
        · rfl
        · exact absurd ⟨b, hb, e⟩ hx
  · rintro ⟨b, hb, h⟩
    rw [allN_false hb (by rw [h]; rfl)]; rfl
def rD (n : Nat) (br : Nat → Nat → Bool) : Nat → Nat → Nat
  | 0, _ => 0
  | m + 1, b => if smB br (n - (m + 1)) then (if br (n - (m + 1)) b then min (rD n br m b) (minF 1000000 (rD n br m) 8 + 1) else 1000000) else rD n br m b
def rL (n : Nat) (br : Nat → Nat → Bool) (m : Nat) : Nat := minF 1000000 (rD n br m) 8
theorem rD_s (m b : Nat) : rD n br (m + 1) b = if smB br (n - (m + 1)) then (if br (n - (m + 1)) b then min (rD n br m b) (rL n br m + 1) else 1000000) else rD n br m b := rfl
theorem rL_le : ∀ m, rL n br m ≤ m
  | 0 => (minF_le 8).2.1 0 (by omega)
  | m + 1 => by
    have ih := rL_le m
    have hm := (minF_le (z := 1000000) (f := rD n br (m + 1)) 8).2.1
    cases e : smB br (n - (m + 1)) with
    | true =>
      obtain ⟨b, hb, hbr⟩ := smB_iff.mp e
      have h2 := hm b hb
      rw [rD_s, e, hbr, if_pos rfl, if_pos rfl] at h2
      show minF 1000000 (rD n br (m + 1)) 8 ≤ m + 1
      omega
    | false =>
      have : rL n br (m + 1) = rL n br m := minF_cong 8 (fun b _ => by rw [rD_s, e, if_neg (by decide)])
      omega
/-- what the class's cell holds -/
def cv (n : Nat) (br : Nat → Nat → Bool) (m b : Nat) : Nat := if br (n - m) b then rD n br m b else 1000
/-- the class's least of the cells -/
theorem cv_min {m : Nat} (hm : m + 1 ≤ 48) (e : smB br (n - (m + 1)) = true) : minF 1000 (cv n br (m + 1)) 8 = rL n br (m + 1) := by
  obtain ⟨b, hb, hbr⟩ := smB_iff.mp e
  have hl := rL_le n br m
  have hv : rD n br (m + 1) b ≤ 48 := by rw [rD_s, e, hbr, if_pos rfl, if_pos rfl]; omega
  refine minF_z hb (by omega) (by omega) (fun c hc => ?_) (by unfold cv; rw [hbr, if_pos rfl])
  unfold cv
  cases ec : br (n - (m + 1)) c with
  | true => rw [if_pos rfl]; exact Or.inl rfl
  | false =>
    rw [if_neg (by decide), rD_s, e, ec, if_pos rfl, if_neg (by decide)]
    rw [rD_s] at hv
    exact Or.inr ⟨by rw [rD_s]; omega, by rw [rD_s]; omega⟩
/-- the next place at which some bottle bears the word, seen from the end -/
def nxM (n : Nat) (br : Nat → Nat → Bool) : Nat → Nat
  | 0 => 0
  | m + 1 => if smB br (n - (m + 1)) then m + 1 else nxM n br m
theorem nxM_ok : ∀ m, nxM n br m ≤ m ∧ (∀ b, rD n br m b = rD n br (nxM n br m) b) ∧ (nxM n br m = 0 ∨ smB br (n - nxM n br m) = true)
  | 0 => ⟨Nat.le_refl 0, fun b => rfl, Or.inl rfl⟩
  | m + 1 => by
    obtain ⟨h1, h2, h3⟩ := nxM_ok m
    rw [nxM]
    cases e : smB br (n - (m + 1)) with
    | true => rw [if_pos rfl]; exact ⟨Nat.le_refl _, fun b => rfl, Or.inr e⟩
    | false =>
      rw [if_neg (by decide)]
      exact ⟨by omega, fun b => by rw [rD_s, e, if_neg (by decide)]; exact h2 b, h3⟩
/-- the costs seen from bottle c, 8 for none -/
def fc (f : Nat → Nat) (c b : Nat) : Nat := f b + if c = 8 ∨ c = b then 0 else 1
theorem fc_min {f : Nat → Nat} {c : Nat} (hc : c < 8) (hz : minF 1000000 f 8 < 999999) : minF 1000000 (fc f c) 8 = min (f c) (minF 1000000 f 8 + 1) := by
  obtain ⟨h1, h2, h3⟩ := minF_le (z := 1000000) (f := f) 8
  obtain ⟨g1, g2, g3⟩ := minF_le (z := 1000000) (f := fc f c) 8
  have gc := g2 c hc
  have ec : fc f c c = f c := by unfold fc; rw [if_pos (Or.inr rfl)]; rfl
  have up : ∀ b, fc f c b ≤ f b + 1 := fun b => by unfold fc; split <;> omega
  have lo : ∀ b, b < 8 → (b = c ∧ fc f c b = f c) ∨ fc f c b = f b + 1 := fun b _ => by
    unfold fc
    by_cases e : c = b
    · subst e; rw [if_pos (Or.inr rfl)]; exact Or.inl ⟨rfl, rfl⟩
    · rw [if_neg (by omega)]; exact Or.inr rfl
  rcases h3 with h3 | ⟨b, hb, h3⟩
  · omega
  · have q1 := g2 b hb
    have q2 := up b
    rcases g3 with g3 | ⟨d, hd, g3⟩
    · omega
    · have q3 := lo d hd
      have q4 := h2 d hd
      omega
theorem fc_8 {f : Nat → Nat} : minF 1000000 (fc f 8) 8 = minF 1000000 f 8 := minF_cong 8 (fun b _ => by unfold fc; rw [if_pos (Or.inl rfl)]; rfl)
/-- the first of the least -/
def fs8 (f : Nat → Nat) : Nat := fa_first (fun b => decide (f b = minF 1000000 f 8)) 8
theorem fs8_ok {f : Nat → Nat} (h : minF 1000000 f 8 < 1000000) : fs8 f < 8 ∧ f (fs8 f) = minF 1000000 f 8 ∧ ∀ b, b < fs8 f → f b ≠ minF 1000000 f 8 := by
  obtain ⟨h1, h2, h3⟩ := minF_le (z := 1000000) (f := f) 8
  have hlt : fs8 f < 8 := by
    rcases Nat.lt_or_ge (fs8 f) 8 with q | q
    · exact q
    · rcases h3 with h3 | ⟨b, hb, h3⟩
      · omega
      · have := fa_first_no (fun b => decide (f b = minF 1000000 f 8)) 8 b (Nat.lt_of_lt_of_le hb q)
        rw [decide_eq_false_iff_not] at this
        exact absurd h3.symm this
  exact ⟨hlt, of_decide_eq_true (fa_first_yes (fun b => decide (f b = minF 1000000 f 8)) 8 hlt), fun b hb => of_decide_eq_false (fa_first_no (fun b => decide (f b = minF 1000000 f 8)) 8 b hb)⟩
/-- the bottle before place i -/
def fw (n : Nat) (br : Nat → Nat → Bool) : Nat → Nat
  | 0 => 8
  | i + 1 => if smB br i then fs8 (fc (rD n br (n - i)) (fw n br i)) else fw n br i
/-- changes made before place i -/
def fg (n : Nat) (br : Nat → Nat → Bool) : Nat → Nat
  | 0 => 0
  | i + 1 => if smB br i then fg n br i + (if fw n br i = 8 ∨ fw n br i = fs8 (fc (rD n br (n - i)) (fw n br i)) then 0 else 1) else fg n br i
/-- what is still to come, seen from before place i -/
def fR (n : Nat) (br : Nat → Nat → Bool) (i : Nat) : Nat := minF 1000000 (fc (rD n br (n - i)) (fw n br i)) 8
theorem fR_le {i : Nat} (hn : n ≤ 48) : fR n br i ≤ 49 := by
  have hl := rL_le n br (n - i)
  obtain ⟨g1, g2, g3⟩ := minF_le (z := 1000000) (f := fc (rD n br (n - i)) (fw n br i)) 8
  obtain ⟨h1, h2, h3⟩ := minF_le (z := 1000000) (f := rD n br (n - i)) 8
  have hl2 : minF 1000000 (rD n br (n - i)) 8 ≤ n - i := hl
  rcases h3 with h3 | ⟨b, hb, h3⟩
  · omega
  · have q := g2 b hb
    have : fc (rD n br (n - i)) (fw n br i) b ≤ rD n br (n - i) b + 1 := by unfold fc; split <;> omega
    unfold fR
    omega
/-- one step forward -/
theorem fw_step (hn : n ≤ 48) {i : Nat} (hi : i < n) (e : smB br i = true) : fw n br (i + 1) < 8 ∧ br i (fw n br (i + 1)) = true ∧ rD n br (n - i) (fw n br (i + 1)) = fR n br (i + 1) ∧ fc (rD n br (n - i)) (fw n br i) (fw n br (i + 1)) = fR n br i ∧ ∀ b, b < fw n br (i + 1) → fc (rD n br (n - i)) (fw n br i) b ≠ fR n br i := by
  have hR := fR_le n br (i := i) hn
  have efw : fw n br (i + 1) = fs8 (fc (rD n br (n - i)) (fw n br i)) := by rw [fw, e, if_pos rfl]
  obtain ⟨s1, s2, s3⟩ := fs8_ok (f := fc (rD n br (n - i)) (fw n br i)) (by unfold fR at hR; omega)
  rw [← efw] at s1 s2 s3
  have hs2 : fc (rD n br (n - i)) (fw n br i) (fw n br (i + 1)) = fR n br i := s2
  have hv : rD n br (n - i) (fw n br (i + 1)) ≤ 49 := by unfold fc at hs2; omega
  obtain ⟨m, hm⟩ : ∃ m, n - i = m + 1 := ⟨n - i - 1, by omega⟩
  have ei : n - (m + 1) = i := by omega
  have hbr : br i (fw n br (i + 1)) = true := by
    cases ec : br i (fw n br (i + 1)) with
    | true => rfl
    | false =>
      rw [hm, rD_s, ei, e, ec, if_pos rfl, if_neg (by decide)] at hv
      omega
  refine ⟨s1, hbr, ?_, hs2, s3⟩
  have hl := rL_le n br m
  show _ = minF 1000000 (fc (rD n br (n - (i + 1))) (fw n br (i + 1))) 8
  rw [show n - (i + 1) = m by omega, fc_min s1 (by show rL n br m < 999999; omega), hm, rD_s, ei, e, hbr, if_pos rfl, if_pos rfl]
  rfl
theorem fw_le (hn : n ≤ 48) : ∀ i, i ≤ n → fw n br i ≤ 8
  | 0, _ => Nat.le_refl 8
  | i + 1, h => by
    cases e : smB br i with
    | true => have := (fw_step n br hn (show i < n by omega) e).1; omega
    | false => rw [fw, e, if_neg (by decide)]; exact fw_le hn i (by omega)
theorem fR_skip {i : Nat} (hi : i < n) (e : smB br i = false) : fR n br (i + 1) = fR n br i := by
  obtain ⟨m, hm⟩ : ∃ m, n - i = m + 1 := ⟨n - i - 1, by omega⟩
  unfold fR
  rw [fw, e, if_neg (by decide), show n - (i + 1) = m by omega, hm]
  exact minF_cong 8 (fun b _ => by unfold fc; rw [rD_s, show n - (m + 1) = i by omega, e, if_neg (show ¬ (false = true) by decide)])
theorem fg_sum (hn : n ≤ 48) : ∀ i, i ≤ n → fg n br i + fR n br i = rL n br n
  | 0, _ => by
    unfold fR
    rw [fg, fw, fc_8, Nat.sub_zero, Nat.zero_add]; rfl
  | i + 1, h => by
    have ih := fg_sum hn i (by omega)
    rw [fg]
    cases e : smB br i with
    | false => rw [if_neg (by decide), fR_skip n br (by omega) e]; exact ih
    | true =>
      obtain ⟨h1, h2, h3, h4, h5⟩ := fw_step n br hn (show i < n by omega) e
      have efw : fw n br (i + 1) = fs8 (fc (rD n br (n - i)) (fw n br i)) := by rw [fw, e, if_pos rfl]
      rw [if_pos rfl, ← efw]
      unfold fc at h4
      omega
theorem fg_end (hn : n ≤ 48) : fg n br n = rL n br n := by
  have h := fg_sum n br hn n (Nat.le_refl n)
  have h0 : fR n br n = 0 := by
    unfold fR
    rw [Nat.sub_self]
    have hle := fw_le n br hn n (Nat.le_refl n)
    obtain ⟨g1, g2, g3⟩ := minF_le (z := 1000000) (f := fc (rD n br 0) (fw n br n)) 8
    rcases Nat.lt_or_ge (fw n br n) 8 with q | q
    · have := g2 _ q
      have e2 : fc (rD n br 0) (fw n br n) (fw n br n) = 0 := by unfold fc; rw [if_pos (Or.inr rfl), rD]
      omega
    · have := g2 0 (by omega)
      have e2 : fc (rD n br 0) (fw n br n) 0 = 0 := by unfold fc; rw [if_pos (Or.inl (by omega)), rD]
      omega
  omega
end DP
