/-! pure: guard -/
theorem nz_iff {x : Int32} : ¬ x = 0 ↔ ∃ i, i < 32 ∧ bt x i = true := by
  constructor
  · intro h
    by_cases hx : ∃ i, i < 32 ∧ bt x i = true
    · exact hx
    · exfalso
      apply h
      apply b_ext
      intro i hi
      rw [b_0]
      cases e : bt x i
      · rfl
      · exact absurd ⟨i, hi, e⟩ hx
  · rintro ⟨i, -, h⟩ e
    rw [e, b_0] at h
    cases h
def sep (r s x : Int32) : Bool := decide (¬ (r ^^^ s) &&& x = 0)
theorem sep_iff {r s x : Int32} : sep r s x = true ↔ ∃ i, i < 32 ∧ (bt r i ^^ bt s i) = true ∧ bt x i = true := by
  unfold sep
  rw [decide_eq_true_eq, nz_iff]
  constructor
  · rintro ⟨i, hi, h⟩
    rw [b_and, b_xor, Bool.and_eq_true] at h
    exact ⟨i, hi, h⟩
  · rintro ⟨i, hi, h⟩
    exact ⟨i, hi, by rw [b_and, b_xor, Bool.and_eq_true]; exact h⟩
/-- a mask tells all told bottles apart -/
def apB (T : Nat) (row : Nat → Int32) (x : Int32) : Bool := allN (fun b => allN (fun c => !(tl T b && tl T c) || sep (row b) (row c) x) b) 8
theorem apB_iff {T : Nat} {row : Nat → Int32} {x : Int32} : apB T row x = true ↔ ∀ b, b < 8 → ∀ c, c < b → tl T b = true → tl T c = true → sep (row b) (row c) x = true := by
  unfold apB
  rw [allN_iff]
  constructor
  · intro h b hb c hc h1 h2
    have h3 := allN_iff.mp (h b hb) c hc
    rw [h1, h2] at h3
    simpa using h3
  · intro h b hb
    rw [allN_iff]
    intro c hc
    cases h1 : tl T b
    · rfl
    · cases h2 : tl T c
      · rfl
      · rw [h b hb c hc h1 h2]; rfl
theorem f_guards12 {T : Nat} {now bornOf row : Nat → Int32} (hnn : ∀ b, b < 8 → now b = nI (T / 2 ^ b % 2)) (hbo : ∀ b, b < 8 → tl T b = true → bornOf b = row b) (x : Int32) : f_X12_guards bornOf now x = some (bI (apB T row x)) := by
  unfold f_X12_guards apB
  have inner : ∀ (K : Int32 → Option Int32) b, b < 8 → f_X12_guards_b10 bornOf now x K FU (nI b) 0 = if allN (fun c => !(tl T b && tl T c) || sep (row b) (row c) x) b then K (nI b + 1) else some 0 := by
    intro K b hb
    refine loopA (fun m i => f_X12_guards_b10 bornOf now x K m (nI b) i) (fun c => !(tl T b && tl T c) || sep (row b) (row c) x) b (K (nI b + 1)) (some 0) (by omega) (fun m c hc hp => ?_) (fun m c hc hp => ?_) (fun m => ?_)
    · show f_X12_guards_b10 _ _ _ _ (m + 1) _ _ = f_X12_guards_b10 _ _ _ _ m _ _
      rw [f_X12_guards_b10, if_neg (by rw [nle (by omega) (by omega)]; omega), f_isTold12 hnn, bd1_s, f_isTold12 hnn, bd1_s, tI_tl hb, tI_tl (show c < 8 by omega), ite_bI, ite_bI, gI_n (by omega) (by omega), gI_n (by omega) (by omega)]
      simp only [f_X12_guards_b51]
      cases h1 : tl T b with
      | false => rfl
      | true =>
        cases h2 : tl T c with
        | false => rfl
        | true =>
          rw [h1, h2] at hp
          rw [hbo b hb h1, hbo c (by omega) h2, if_pos rfl, if_pos rfl, if_neg]
          exact of_decide_eq_true (by simpa [sep] using hp)
    · show f_X12_guards_b10 _ _ _ _ (m + 1) _ _ = _
      rw [f_X12_guards_b10, if_neg (by rw [nle (by omega) (by omega)]; omega), f_isTold12 hnn, bd1_s, f_isTold12 hnn, bd1_s, tI_tl hb, tI_tl (show c < 8 by omega), ite_bI, ite_bI, gI_n (by omega) (by omega), gI_n (by omega) (by omega)]
      cases h1 : tl T b with
      | false => rw [h1] at hp; cases hp
      | true =>
        cases h2 : tl T c with
        | false => rw [h1, h2] at hp; cases hp
        | true =>
          rw [h1, h2] at hp
          rw [hbo b hb h1, hbo c (by omega) h2, if_pos rfl, if_pos rfl, if_pos]
          simpa [sep] using hp
    · show f_X12_guards_b10 _ _ _ _ (m + 1) _ _ = _
      rw [f_X12_guards_b10, if_pos (by rw [nle (by omega) (by omega)]; omega)]
  rw [loopA (fun m i => f_X12_guards_b2 bornOf now x m i) (fun b => allN (fun c => !(tl T b && tl T c) || sep (row b) (row c) x) b) 8 (some 1) (some 0) (by omega) (fun m b hb hp => ?_) (fun m b hb hp => ?_) (fun m => ?_)]
  · cases allN (fun b => allN (fun c => !(tl T b && tl T c) || sep (row b) (row c) x) b) 8 <;> rfl
  · show f_X12_guards_b2 _ _ _ (m + 1) _ = f_X12_guards_b2 _ _ _ m _
    rw [f_X12_guards_b2, if_neg (ge8 hb), inner _ b hb, if_pos hp]
  · show f_X12_guards_b2 _ _ _ (m + 1) _ = _
    rw [f_X12_guards_b2, if_neg (ge8 hb), inner _ b hb, if_neg (by rw [hp]; decide)]
  · show f_X12_guards_b2 _ _ _ (m + 1) _ = _
    rw [f_X12_guards_b2, if_pos (by decide)]
theorem f_tell5 {borne : Nat → Int32} {m : Nat} (hm : m ≤ 8) (x : Int32) : f_X5_tellApart borne (nI m) x = some (bI (allN (fun i => allN (fun j => sep (borne i) (borne j) x) i) m)) := by
  unfold f_X5_tellApart
  have inner : ∀ (K : Int32 → Option Int32) b, b < 8 → f_X5_tellApart_b18 borne x K FU (nI b) 0 = if allN (fun c => sep (borne b) (borne c) x) b then K (nI b + 1) else some 0 := by
    intro K b hb
    refine loopA (fun m i => f_X5_tellApart_b18 borne x K m (nI b) i) (fun c => sep (borne b) (borne c) x) b (K (nI b + 1)) (some 0) (by omega) (fun m c hc hp => ?_) (fun m c hc hp => ?_) (fun m => ?_)
    · show f_X5_tellApart_b18 _ _ _ (m + 1) _ _ = f_X5_tellApart_b18 _ _ _ m _ _
      rw [f_X5_tellApart_b18, if_neg (by rw [nle (by omega) (by omega)]; omega), gI_n (by omega) (by omega), gI_n (by omega) (by omega), if_neg]
      exact of_decide_eq_true hp
    · show f_X5_tellApart_b18 _ _ _ (m + 1) _ _ = _
      rw [f_X5_tellApart_b18, if_neg (by rw [nle (by omega) (by omega)]; omega), gI_n (by omega) (by omega), gI_n (by omega) (by omega), if_pos]
      simpa [sep] using hp
    · show f_X5_tellApart_b18 _ _ _ (m + 1) _ _ = _
      rw [f_X5_tellApart_b18, if_pos (by rw [nle (by omega) (by omega)]; omega)]
  rw [loopA (fun n i => f_X5_tellApart_b2 borne (nI m) x n i) (fun i => allN (fun j => sep (borne i) (borne j) x) i) m (some 1) (some 0) (by omega) (fun n b hb hp => ?_) (fun n b hb hp => ?_) (fun n => ?_)]
  · cases allN (fun i => allN (fun j => sep (borne i) (borne j) x) i) m <;> rfl
  · show f_X5_tellApart_b2 _ _ _ (n + 1) _ = f_X5_tellApart_b2 _ _ _ n _
    rw [f_X5_tellApart_b2, if_neg (by rw [nle (by omega) (by omega)]; omega), if_neg (ge8 (by omega)), inner _ b (by omega), if_pos hp]
  · show f_X5_tellApart_b2 _ _ _ (n + 1) _ = _
    rw [f_X5_tellApart_b2, if_neg (by rw [nle (by omega) (by omega)]; omega), if_neg (ge8 (by omega)), inner _ b (by omega), if_neg (by rw [hp]; decide)]
  · show f_X5_tellApart_b2 _ _ _ (n + 1) _ = _
    rw [f_X5_tellApart_b2, if_pos (by rw [nle (by omega) (by omega)]; omega)]; rfl
theorem cnt_up (p : Nat → Bool) {b : Nat} : ∀ {c}, b ≤ c → fa_cnt p b ≤ fa_cnt p c
  | 0, h => by have e : b = 0 := by omega
               subst e; exact Nat.le_refl _
  | c + 1, h => by
    rcases Nat.eq_or_lt_of_le h with e | e
    · subst e; exact Nat.le_refl _
    · have ih := cnt_up p (b := b) (c := c) (by omega)
      rw [fa_cnt]; omega
theorem cnt_lt {p : Nat → Bool} {b c : Nat} (h : b < c) (hp : p b = true) : fa_cnt p b < fa_cnt p c := by
  have h1 := cnt_up p (show b + 1 ≤ c from h)
  rw [fa_cnt_yes hp] at h1
  omega
theorem cnt_sur {p : Nat → Bool} : ∀ {k i : Nat}, i < fa_cnt p k → ∃ b, b < k ∧ p b = true ∧ fa_cnt p b = i
  | 0, i, h => by rw [fa_cnt] at h; omega
  | k + 1, i, h => by
    cases e : p k with
    | false =>
      rw [fa_cnt_no e] at h
      obtain ⟨b, hb, h1, h2⟩ := cnt_sur h
      exact ⟨b, by omega, h1, h2⟩
    | true =>
      rw [fa_cnt_yes e] at h
      by_cases ei : i = fa_cnt p k
      · exact ⟨k, by omega, e, ei.symm⟩
      · obtain ⟨b, hb, h1, h2⟩ := cnt_sur (p := p) (k := k) (i := i) (by omega)
        exact ⟨b, by omega, h1, h2⟩
/-- the rows laid side by side -/
def fb (T : Nat) (row v : Nat → Int32) : Nat → Nat → Int32
  | 0 => v
  | k + 1 => if tl T k then upd (fb T row v k) (fa_cnt (tl T) k) (row k) else fb T row v k
theorem fb_at {T : Nat} {row v : Nat → Int32} : ∀ k b, b < k → tl T b = true → fb T row v k (fa_cnt (tl T) b) = row b
  | 0, b, h, _ => by omega
  | k + 1, b, h, hb => by
    rw [fb]
    by_cases e : b = k
    · subst e
      rw [if_pos hb, pk_us]
    · have ih := fb_at (T := T) (row := row) (v := v) k b (by omega) hb
      have h2 := cnt_lt (p := tl T) (show b < k by omega) hb
      split
      · rw [pk_un (by omega)]; exact ih
      · exact ih
theorem tell_ap {T : Nat} {row v : Nat → Int32} (x : Int32) : allN (fun i => allN (fun j => sep (fb T row v 8 i) (fb T row v 8 j) x) i) (fa_cnt (tl T) 8) = apB T row x := by
  have h : allN (fun i => allN (fun j => sep (fb T row v 8 i) (fb T row v 8 j) x) i) (fa_cnt (tl T) 8) = true ↔ apB T row x = true := by
    rw [apB_iff, allN_iff]
    constructor
    · intro h b hb c hc h1 h2
      have h3 := allN_iff.mp (h _ (cnt_lt (p := tl T) hb h1)) _ (cnt_lt (p := tl T) hc h2)
      rw [fb_at 8 b hb h1, fb_at 8 c (by omega) h2] at h3
      exact h3
    · intro h i hi
      rw [allN_iff]
      intro j hj
      obtain ⟨b, hb, h1, rfl⟩ := cnt_sur hi
      obtain ⟨c, hc, h2, rfl⟩ := cnt_sur (p := tl T) (k := 8) (i := j) (by omega)
      rw [fb_at 8 b hb h1, fb_at 8 c hc h2]
      refine h b hb c ?_ h1 h2
      rcases Nat.lt_or_ge c b with q | q
      · exact q
      · have := cnt_up (tl T) q
        omega
  cases e : apB T row x with
  | true => exact h.mpr e
  | false =>
    cases e2 : allN (fun i => allN (fun j => sep (fb T row v 8 i) (fb T row v 8 j) x) i) (fa_cnt (tl T) 8) with
    | true => rw [h.mp e2] at e; cases e
    | false => rfl
/-- few words are enough -/
theorem few {T : Nat} {row : Nat → Int32} (hfull : apB T row (nI 65535) = true) : ∀ k, k ≤ 8 → ∃ M, M < 65536 ∧ pcN 16 M ≤ fa_cnt (tl T) k - 1 ∧ ∀ b, b < k → ∀ c, c < b → tl T b = true → tl T c = true → sep (row b) (row c) (nI M) = true
  | 0, _ => ⟨0, by omega, by rw [show pcN 16 0 = 0 by decide]; exact Nat.zero_le _, fun b hb => by omega⟩
  | k + 1, hk => by
    obtain ⟨M, hM, hp, hs⟩ := few hfull k (by omega)
    cases ht : tl T k with
    | false =>
      refine ⟨M, hM, by rw [fa_cnt_no ht]; exact hp, fun b hb c hc h1 h2 => ?_⟩
      by_cases e : b = k
      · subst e; rw [ht] at h1; cases h1
      · exact hs b (by omega) c hc h1 h2
    | true =>
      by_cases hc : ∃ c, c < k ∧ tl T c = true ∧ sep (row k) (row c) (nI M) = false
      · obtain ⟨c, hck, hct, hcs⟩ := hc
        have hag : ∀ i, i < 32 → bt (nI M) i = true → bt (row k) i = bt (row c) i := by
          intro i hi hm
          cases e : (bt (row k) i ^^ bt (row c) i) with
          | true => rw [sep_iff.mpr ⟨i, hi, e, hm⟩] at hcs; cases hcs
          | false => revert e; cases bt (row k) i <;> cases bt (row c) i <;> simp
        obtain ⟨w, hw, hwd, hw16⟩ := sep_iff.mp (apB_iff.mp hfull k (by omega) c hck ht hct)
        have hw16' : w < 16 := by
          rw [show (nI 65535) = (65535 : Int32) from rfl, b_65535] at hw16
          exact of_decide_eq_true hw16
        have hwM : M.testBit w = false := by
          cases e : M.testBit w with
          | false => rfl
          | true =>
            have := hag w hw (by rw [bt_nat M hw]; exact e)
            rw [this] at hwd; simp at hwd
        have hbt : ∀ i, (M ||| 2 ^ w).testBit i = (M.testBit i || decide (w = i)) := fun i => by rw [Nat.testBit_or, Nat.testBit_two_pow]
        have hup : ∀ r s, sep r s (nI M) = true → sep r s (nI (M ||| 2 ^ w)) = true := by
          intro r s h
          obtain ⟨i, hi, h1, h2⟩ := sep_iff.mp h
          rw [bt_nat M hi] at h2
          exact sep_iff.mpr ⟨i, hi, h1, by rw [bt_nat _ hi, hbt, h2]; rfl⟩
        have hkn : sep (row k) (row c) (nI (M ||| 2 ^ w)) = true := sep_iff.mpr ⟨w, hw, hwd, by rw [bt_nat _ hw, hbt]; simp⟩
        have hpc : pcN 16 (M ||| 2 ^ w) = pcN 16 M + 1 := by
          rw [pcN_cnt, pcN_cnt]
          have := cnt_set (p := fun i => M.testBit i) (q := fun i => (M ||| 2 ^ w).testBit i) (i := w) hwM (by simp only [hbt]; simp) (fun j hj => by simp only [hbt]; rw [decide_eq_false (fun e => hj e.symm)]; simp) 16
          rw [if_pos hw16'] at this
          exact this
        have hc1 : 0 < fa_cnt (tl T) k := by have := cnt_lt (p := tl T) hck hct; omega
        refine ⟨M ||| 2 ^ w, Nat.or_lt_two_pow (n := 16) hM (Nat.pow_lt_pow_right (by omega) hw16'), by rw [fa_cnt_yes ht, hpc]; omega, fun b hb d hd h1 h2 => ?_⟩
        by_cases e : b = k
        · subst e
          by_cases e2 : d = c
          · subst e2; exact hkn
          · have hdc : sep (row c) (row d) (nI M) = true := by
              rcases Nat.lt_or_ge d c with q | q
              · exact hs c hck d q hct h2
              · have := hs d (by omega) c (by omega) h2 hct
                obtain ⟨i, hi, h1, h2⟩ := sep_iff.mp this
                exact sep_iff.mpr ⟨i, hi, by rw [Bool.xor_comm]; exact h1, h2⟩
            obtain ⟨i, hi, h3, h4⟩ := sep_iff.mp hdc
            refine hup _ _ (sep_iff.mpr ⟨i, hi, ?_, h4⟩)
            rw [hag i hi h4]; exact h3
        · exact hup _ _ (hs b (by omega) d hd h1 h2)
      · refine ⟨M, hM, by rw [fa_cnt_yes ht]; omega, fun b hb c hcb h1 h2 => ?_⟩
        by_cases e : b = k
        · subst e
          cases e3 : sep (row b) (row c) (nI M) with
          | true => rfl
          | false => exact absurd ⟨c, hcb, h2, e3⟩ hc
        · exact hs b (by omega) c hcb h1 h2
/-- y is the best guard -/
def Bst (ap : Nat → Bool) (y : Nat) : Prop := y < 65536 ∧ ap y = true ∧ ∀ z, z < 65536 → ap z = true → pcN 16 y < pcN 16 z ∨ (pcN 16 y = pcN 16 z ∧ y ≤ z)
theorem Bst.uniq {ap : Nat → Bool} {x y : Nat} (hx : Bst ap x) (hy : Bst ap y) : x = y := by
  have h1 := hx.2.2 y hy.1 hy.2.1
  have h2 := hy.2.2 x hx.1 hx.2.1
  omega
def FgR (ap : Nat → Bool) (s : Nat) (r : Int32) : Prop := (r = -2 ∧ ∀ y, y < 65536 → pcN 16 y = s → ap y = false) ∨ (∃ y, y < 65536 ∧ r = nI y ∧ pcN 16 y = s ∧ ap y = true ∧ ∀ z, z < y → pcN 16 z = s → ap z = false)
theorem f_fgl {ap : Nat → Bool} {borne : Nat → Int32} {m : Int32} (hap : ∀ x, x < 65536 → f_X5_tellApart borne m (nI x) = some (bI (ap x))) {s : Nat} : ∀ n x l3, n + l3 = FU → l3 ≤ x → l3 ≤ 65536 → x < 262144 → (x < 65536 → 0 < x ∧ pcN 16 x = s) → (∀ z, z < 65536 → z < x → pcN 16 z = s → ap z = false) → ∃ r, f_X5_firstGuards_b8 borne m n (nI x) (nI l3) = some r ∧ FgR ap s r := by
  have hFU : FU = 100000 := rfl
  intro n
  induction n with
  | zero => intro x l3 h1 _ h3; omega
  | succ n ih =>
    intro x l3 h1 h2 h3 h4 h5 h6
    rw [f_X5_firstGuards_b8]
    by_cases c1 : (65535 : Int32) < nI l3
    · rw [if_pos c1]
      rw [show (65535 : Int32) = nI 65535 from rfl, nlt (by omega) (by omega)] at c1
      exact ⟨-2, rfl, Or.inl ⟨rfl, fun y hy hs => h6 y hy (by omega) hs⟩⟩
    rw [if_neg c1]
    by_cases c2 : (65535 : Int32) < nI x
    · rw [if_pos c2]
      rw [show (65535 : Int32) = nI 65535 from rfl, nlt (by omega) (by omega)] at c2
      exact ⟨-2, rfl, Or.inl ⟨rfl, fun y hy hs => h6 y hy (by omega) hs⟩⟩
    rw [if_neg c2]
    have hx : x < 65536 := by
      rw [show (65535 : Int32) = nI 65535 from rfl, nlt (by omega) (by omega)] at c2
      omega
    obtain ⟨hx0, hxs⟩ := h5 hx
    rw [hap x hx, bd1_s, ite_bI]
    cases e : ap x with
    | true => exact ⟨nI x, rfl, Or.inr ⟨x, hx, rfl, hxs, e, fun z hz hs => h6 z (by omega) hz hs⟩⟩
    | false =>
      obtain ⟨g1, g2, g3, g4⟩ := gN_ok hx0 hx
      obtain ⟨-, -, -, -, -, -, hl, -⟩ := pg_of hx0 hx
      have hle := lowN_le x
      have hne : ¬ (nI x &&& (-nI x)) = 0 := by rw [low_I hx]; exact nI_ne0 hl (by omega)
      rw [if_neg (by decide), if_neg hne, dI_n hne, gos_I hx0 hx, nI_1]
      refine ih (gN x) (l3 + 1) (by omega) (by omega) (by omega) g2 (fun q => ⟨by omega, by rw [g3 q]; exact hxs⟩) (fun z hz hzx hzs => ?_)
      rcases Nat.lt_trichotomy z x with q | q | q
      · exact h6 z hz q hzs
      · subst q; exact e
      · have := g4 z hz q (by rw [hzs, hxs])
        omega
theorem f_fg5 {ap : Nat → Bool} {borne : Nat → Int32} {m : Int32} (hap : ∀ x, x < 65536 → f_X5_tellApart borne m (nI x) = some (bI (ap x))) {s : Nat} (hs : s < 8) : ∃ r, f_X5_firstGuards borne m (nI s) = some r ∧ FgR ap s r := by
  have hst : ∀ s, s < 8 → ((1 : Int32) <<< (nI s &&& 31)) - 1 = nI (2 ^ s - 1) := by decide +kernel
  unfold f_X5_firstGuards
  rw [hst s hs]
  have hpow : 2 ^ s ≤ 2 ^ 7 := Nat.pow_le_pow_right (by omega) (by omega)
  have hpos : 0 < 2 ^ s := Nat.pow_pos (by omega)
  rcases Nat.eq_zero_or_pos s with e | e
  · subst e
    obtain ⟨n, hn⟩ : ∃ n, FU = n + 1 := ⟨99999, rfl⟩
    rw [hn, f_X5_firstGuards_b8, if_neg (by decide), if_neg (by decide), hap 0 (by omega), bd1_s, ite_bI]
    cases e : ap 0 with
    | true => exact ⟨nI 0, rfl, Or.inr ⟨0, by omega, rfl, by decide, e, fun z hz => by omega⟩⟩
    | false =>
      rw [if_neg (by decide), if_pos (by decide)]
      refine ⟨-2, rfl, Or.inl ⟨rfl, fun y hy hs => ?_⟩⟩
      have h6 := pc_max 16 y hy
      rw [hs] at h6
      have : y = 0 := by simp at h6; omega
      subst this; exact e
  · have h2 : 2 ^ 1 ≤ 2 ^ s := Nat.pow_le_pow_right (by omega) e
    refine f_fgl hap FU (2 ^ s - 1) 0 (Nat.add_zero _) (Nat.zero_le _) (by omega) (by omega) (fun _ => ⟨by omega, pc_ones 16 s (by omega)⟩) (fun z hz hzx hzs => ?_)
    have h6 := pc_min 16 z
    rw [hzs] at h6
    omega
theorem f_few5 {ap : Nat → Bool} {borne : Nat → Int32} {m : Int32} (hap : ∀ x, x < 65536 → f_X5_tellApart borne m (nI x) = some (bI (ap x))) (hex : ∃ M, M < 65536 ∧ pcN 16 M ≤ 7 ∧ ap M = true) : ∃ y, f_X5_fewestGuards_b68 FU borne m 0 = some (nI y, borne, m) ∧ Bst ap y := by
  have key : ∀ n s, s ≤ 8 → 8 - s < n → (∀ y, y < 65536 → pcN 16 y < s → ap y = false) → ∃ y, f_X5_fewestGuards_b68 n borne m (nI s) = some (nI y, borne, m) ∧ Bst ap y := by
    intro n
    induction n with
    | zero => intro s _ h; omega
    | succ n ih =>
      intro s hs hn h
      rcases Nat.lt_or_ge s 8 with q | q
      · obtain ⟨r, hr, hR⟩ := f_fg5 hap q
        rw [f_X5_fewestGuards_b68, if_neg (ge8 q), hr, bd1_s]
        rcases hR with ⟨rfl, h2⟩ | ⟨y, hy, rfl, h2, h3, h4⟩
        · rw [if_pos rfl, nI_1]
          refine ih (s + 1) (by omega) (by omega) (fun y hy hys => ?_)
          by_cases e : pcN 16 y = s
          · exact h2 y hy e
          · exact h y hy (by omega)
        · rw [if_neg (fun e => by have h9 := nI_pos (n := y) (by omega); rw [e] at h9; exact h9 (by decide))]
          refine ⟨y, rfl, hy, h3, fun z hz haz => ?_⟩
          rcases Nat.lt_trichotomy (pcN 16 z) s with q1 | q1 | q1
          · rw [h z hz q1] at haz; cases haz
          · refine Or.inr ⟨by omega, ?_⟩
            rcases Nat.lt_or_ge z y with q2 | q2
            · rw [h4 z q2 q1] at haz; cases haz
            · exact q2
          · exact Or.inl (by omega)
      · obtain ⟨M, hM, hp, ha⟩ := hex
        rw [h M hM (by omega)] at ha; cases ha
  exact key FU 0 (by omega) (FU_gt (by omega)) (fun y _ h => by omega)
/-- the best from the end -/
def bD (ap : Nat → Bool) : Nat → Nat
  | 0 => 65535
  | m + 1 => if pcN 16 (bD ap m) < pcN 16 (65534 - m) then bD ap m else if ap (65534 - m) then 65534 - m else bD ap m
theorem bD_ok {ap : Nat → Bool} (h : ap 65535 = true) : ∀ m, m ≤ 65535 → bD ap m < 65536 ∧ 65535 - m ≤ bD ap m ∧ ap (bD ap m) = true ∧ ∀ z, z < 65536 → 65535 - m ≤ z → ap z = true → pcN 16 (bD ap m) < pcN 16 z ∨ (pcN 16 (bD ap m) = pcN 16 z ∧ bD ap m ≤ z)
  | 0, _ => ⟨by rw [bD]; omega, by rw [bD]; omega, by rw [bD]; exact h, fun z hz h2 _ => by
      have e : z = 65535 := by omega
      subst e
      rw [bD]; exact Or.inr ⟨rfl, Nat.le_refl _⟩⟩
  | m + 1, hm => by
    obtain ⟨h1, h2, h3, h4⟩ := bD_ok h m (by omega)
    rw [bD]
    by_cases c1 : pcN 16 (bD ap m) < pcN 16 (65534 - m)
    · rw [if_pos c1]
      refine ⟨h1, by omega, h3, fun z hz hz2 haz => ?_⟩
      by_cases e : z = 65534 - m
      · subst e; exact Or.inl c1
      · exact h4 z hz (by omega) haz
    · rw [if_neg c1]
      cases e2 : ap (65534 - m) with
      | true =>
        rw [if_pos rfl]
        refine ⟨by omega, by omega, e2, fun z hz hz2 haz => ?_⟩
        by_cases e : z = 65534 - m
        · subst e; exact Or.inr ⟨rfl, Nat.le_refl _⟩
        · have := h4 z hz (by omega) haz
          omega
      | false =>
        rw [if_neg (by decide)]
        refine ⟨h1, by omega, h3, fun z hz hz2 haz => ?_⟩
        by_cases e : z = 65534 - m
        · subst e; rw [e2] at haz; cases haz
        · exact h4 z hz (by omega) haz
theorem pc_16 (x : Nat) : f_X12_bits (nI x) = some (nI (pcN 16 x)) := by rw [f_bits12, pc_bt]
theorem f_guardl12 {ap : Nat → Bool} {bornOf now : Nat → Int32} (hap : ∀ x, x < 65536 → f_X12_guards bornOf now (nI x) = some (bI (ap x))) (h1 : ap 65535 = true) (a1 : Int32) : ∃ y, f_X12_guard_b67 now a1 FU bornOf 65535 65534 = some (if a1 = 0 then nI (pcN 16 y) else nI y, bornOf) ∧ Bst ap y := by
  refine ⟨bD ap 65535, ?_, ?_⟩
  · refine loopDD (fun m x i => f_X12_guard_b67 now a1 m bornOf x i) (fun k => nI (bD ap (65535 - k))) 65535 (by omega) (a0 := (65535 : Int32)) (i0 := 65534) (by decide) (by show nI (bD ap (65535 - 65535)) = 65535; rw [Nat.sub_self]; rfl) _ (fun m k hk => ?_) (fun m => ?_)
    · show f_X12_guard_b67 _ _ (m + 1) _ _ _ = f_X12_guard_b67 _ _ m _ _ _
      obtain ⟨j, hj⟩ : ∃ j, 65535 - k = j + 1 := ⟨65534 - k, by omega⟩
      rw [show 65535 - (k + 1) = j by omega, hj, bD, show 65534 - j = k by omega]
      have b1 := (bD_ok h1 j (by omega)).1
      have p1 := pcN_le 16 (bD ap j)
      have p2 := pcN_le 16 k
      rw [f_X12_guard_b67, if_neg (nI_pos (by omega)), pc_16, bd1_s, pc_16, bd1_s, ite_nlt (by omega) (by omega), hap k (by omega), bd1_s, ite_bI]
      simp only [f_X12_guard_b92]
      split
      · rfl
      · cases ap k <;> rfl
    · show f_X12_guard_b67 _ _ (m + 1) _ _ _ = _
      rw [f_X12_guard_b67, if_pos (by decide), pc_16, bd1_s, Nat.sub_zero]
      simp only [f_X12_guard_b110]
      split <;> rfl
  · obtain ⟨q1, q2, q3, q4⟩ := bD_ok h1 65535 (Nat.le_refl _)
    exact ⟨q1, q3, fun z hz haz => q4 z hz (by omega) haz⟩
/-- the reference's rows -/
def fr (T : Nat) (row v : Nat → Int32) : Nat → Nat → Int32
  | 0 => v
  | k + 1 => upd (fr T row v k) k (if tl T k then row k else 0)
theorem fr_at {T : Nat} {row v : Nat → Int32} : ∀ k b, b < k → tl T b = true → fr T row v k b = row b
  | 0, b, h, _ => by omega
  | k + 1, b, h, hb => by
    rw [fr]
    by_cases e : b = k
    · subst e
      rw [pk_us, if_pos hb]
    · rw [pk_un e]
      exact fr_at k b (by omega) hb
def gdA (a1 : Int32) (y : Nat) : Int32 := if a1 = 0 then nI (pcN 16 y) else nI y
set_option maxHeartbeats 4000000 in
theorem pm_guard {v_t_tape_bytes : Nat → Int32} {x_t_tape_size : Int32} {v_t_rhymes_other : Nat → Int32} {v_t_shelf_dread : Nat → Int32} {v_t_shelf_ink : Nat → Int32} {v_t_shelf_kind : Nat → Int32} {v_t_shelf_salt : Nat → Int32} {v_t_shelf_tries : Nat → Int32} {x_t_shelf_day : Int32} {x_t_shelf_nerve : Int32} {x_t_shelf_pictures : Int32} {x_t_shelf_told : Int32} {x_t_shelf_written : Int32} {x_t_shelf_x : Int32} {v_t_kept_dread : Nat → Int32} {v_t_kept_ink : Nat → Int32} {v_t_kept_kind : Nat → Int32} {v_t_kept_salt : Nat → Int32} {v_t_kept_tries : Nat → Int32} {x_t_kept_day : Int32} {x_t_kept_nerve : Int32} {x_t_kept_pictures : Int32} {x_t_kept_told : Int32} {x_t_kept_written : Int32} {x_t_kept_x : Int32} {v_t_letter_words : Nat → Int32} {x_t_letter_size : Int32} {v_t_law_code : Nat → Int32} {v_t_law_letters : Nat → Int32} {v_t_law_valueFrom : Nat → Int32} {v_t_law_testFrom : Nat → Int32} {v_t_law_testEnd : Nat → Int32} {x_t_law_rules : Int32} {x_t_anyKept : Int32} {v_m_now : Nat → Int32} {v_m_kept : Nat → Int32} {v_m_rhymeOf : Nat → Int32} {v_m_wordAt : Nat → Int32} {x_m_wordMany : Int32} {v_m_tape : Nat → Int32} {x_m_taped : Int32} {v_m_codes : Nat → Int32} {v_m_clauseOf : Nat → Int32} {v_m_codeFrom : Nat → Int32} {v_m_codeHalf : Nat → Int32} {v_m_codeTo : Nat → Int32} {x_m_clauses : Int32} {x_m_isKept : Int32} {v_t_riddles_borne : Nat → Int32} {x_t_riddles_bottles : Int32} {v_m_bornOf : Nat → Int32} (hI : Inv v_t_tape_bytes x_t_tape_size v_t_rhymes_other v_t_shelf_dread v_t_shelf_ink v_t_shelf_kind v_t_shelf_salt v_t_shelf_tries x_t_shelf_day x_t_shelf_nerve x_t_shelf_pictures x_t_shelf_told x_t_shelf_written x_t_shelf_x v_t_kept_dread v_t_kept_ink v_t_kept_kind v_t_kept_salt v_t_kept_tries x_t_kept_day x_t_kept_nerve x_t_kept_pictures x_t_kept_told x_t_kept_written x_t_kept_x v_t_letter_words x_t_letter_size v_t_law_code v_t_law_letters v_t_law_valueFrom v_t_law_testFrom v_t_law_testEnd x_t_law_rules x_t_anyKept v_m_now v_m_kept v_m_rhymeOf v_m_wordAt x_m_wordMany v_m_tape x_m_taped v_m_codes v_m_clauseOf v_m_codeFrom v_m_codeHalf v_m_codeTo x_m_clauses x_m_isKept) (a1 : Int32) : ∃ (r : Int32) (o_v_t_riddles_borne : Nat → Int32) (o_x_t_riddles_bottles : Int32) (o_v_m_bornOf : Nat → Int32), f_X11_guard v_t_rhymes_other v_t_riddles_borne v_t_shelf_dread v_t_shelf_kind v_t_shelf_salt x_t_riddles_bottles x_t_shelf_nerve x_t_shelf_told a1 = some (r, o_v_t_riddles_borne, o_x_t_riddles_bottles) ∧ f_X12_guard v_m_bornOf v_m_now v_m_rhymeOf a1 = some (r, o_v_m_bornOf) ∧ Inv v_t_tape_bytes x_t_tape_size v_t_rhymes_other v_t_shelf_dread v_t_shelf_ink v_t_shelf_kind v_t_shelf_salt v_t_shelf_tries x_t_shelf_day x_t_shelf_nerve x_t_shelf_pictures x_t_shelf_told x_t_shelf_written x_t_shelf_x v_t_kept_dread v_t_kept_ink v_t_kept_kind v_t_kept_salt v_t_kept_tries x_t_kept_day x_t_kept_nerve x_t_kept_pictures x_t_kept_told x_t_kept_written x_t_kept_x v_t_letter_words x_t_letter_size v_t_law_code v_t_law_letters v_t_law_valueFrom v_t_law_testFrom v_t_law_testEnd x_t_law_rules x_t_anyKept v_m_now v_m_kept v_m_rhymeOf v_m_wordAt x_m_wordMany v_m_tape x_m_taped v_m_codes v_m_clauseOf v_m_codeFrom v_m_codeHalf v_m_codeTo x_m_clauses x_m_isKept := by
  have hI0 := hI
  obtain ⟨hT, ⟨g, hg⟩, hS, hK, hL, hW⟩ := hI
  have hQ := SQ.of hS hg
  obtain ⟨⟨T, hT2, rfl, hnn⟩, hb2, -⟩ := hS
  by_cases h : a1 < 0 ∨ 1 < a1
  · exact ⟨-1, v_t_riddles_borne, x_t_riddles_bottles, v_m_bornOf, by simp [f_X11_guard, f_within_eq, h, bd1], by simp [f_X12_guard, f_in_eq, h, bd1], hI0⟩
  have hc8 := fa_cnt_le (tl T) 8
  have hapc : ∀ x, x < 65536 → f_X5_tellApart (fb T (fun b => bitsI (bear v_m_now g b) 16) v_t_riddles_borne 8) (nI (fa_cnt (tl T) 8)) (nI x) = some (bI (apB T (fun b => bitsI (bear v_m_now g b) 16) (nI x))) := fun x _ => by rw [f_tell5 hc8, tell_ap]
  have hapr : ∀ x, x < 65536 → f_X12_guards (fr T (fun b => bitsI (bear v_m_now g b) 16) v_m_bornOf 8) v_m_now (nI x) = some (bI (apB T (fun b => bitsI (bear v_m_now g b) 16) (nI x))) := fun x _ => f_guards12 hnn (fun b hb ht => fr_at 8 b hb ht) (nI x)
  have hcl : f_X5_fewestGuards v_t_shelf_dread v_t_shelf_kind v_t_rhymes_other v_t_shelf_salt v_t_riddles_borne x_t_shelf_nerve (nI T) x_t_riddles_bottles = if apB T (fun b => bitsI (bear v_m_now g b) 16) (nI 65535) then f_X5_fewestGuards_b68 FU (fb T (fun b => bitsI (bear v_m_now g b) 16) v_t_riddles_borne 8) (nI (fa_cnt (tl T) 8)) 0 else some (-2, fb T (fun b => bitsI (bear v_m_now g b) 16) v_t_riddles_borne 8, nI (fa_cnt (tl T) 8)) := by
    unfold f_X5_fewestGuards
    refine loopNN (fun m (x : (Nat → Int32) × Int32) i => f_X5_fewestGuards_b7 v_t_shelf_dread v_t_shelf_kind v_t_rhymes_other v_t_shelf_salt x_t_shelf_nerve (nI T) m x.1 x.2 i) (fun k => (fb T (fun b => bitsI (bear v_m_now g b) 16) v_t_riddles_borne k, nI (fa_cnt (tl T) k))) 0 8 (by omega) (by omega) (a0 := (v_t_riddles_borne, (0 : Int32))) (i0 := 0) rfl rfl _ (fun m k _ hk => ?_) (fun m => ?_)
    · show f_X5_fewestGuards_b7 _ _ _ _ _ _ (m + 1) _ _ _ = f_X5_fewestGuards_b7 _ _ _ _ _ _ m _ _ _
      have hck := fa_cnt_le (tl T) k
      rw [f_X5_fewestGuards_b7, if_neg (ge8 hk), f_isTold8 hT2, bd1_s, tI_tl hk, ite_bI, f_wb8 hQ hk, bd1_s]
      simp only [f_X5_fewestGuards_b48]
      rw [and7 _ (by omega), sI_n (by omega) (by omega), fb]
      cases e : tl T k with
      | true => rw [if_pos rfl, if_pos rfl, fa_cnt_yes e, nI_1]
      | false => rw [if_neg (by decide), if_neg (by decide), fa_cnt_no e]
    · show f_X5_fewestGuards_b7 _ _ _ _ _ _ (m + 1) _ _ _ = _
      rw [f_X5_fewestGuards_b7, if_pos (by decide)]
      show bd1 (f_X5_tellApart (fb T (fun b => bitsI (bear v_m_now g b) 16) v_t_riddles_borne 8) (nI (fa_cnt (tl T) 8)) (nI 65535)) _ = _
      rw [hapc 65535 (by omega), bd1_s, ite_bI]
  have hrf : f_X12_guard_b13 v_m_now v_m_rhymeOf a1 FU v_m_bornOf 0 = if apB T (fun b => bitsI (bear v_m_now g b) 16) (nI 65535) then f_X12_guard_b67 v_m_now a1 FU (fr T (fun b => bitsI (bear v_m_now g b) 16) v_m_bornOf 8) 65535 65534 else some (-2, fr T (fun b => bitsI (bear v_m_now g b) 16) v_m_bornOf 8) := by
    refine loopNN (fun m x i => f_X12_guard_b13 v_m_now v_m_rhymeOf a1 m x i) (fr T (fun b => bitsI (bear v_m_now g b) 16) v_m_bornOf) 0 8 (by omega) (by omega) (a0 := v_m_bornOf) (i0 := 0) rfl rfl _ (fun m k _ hk => ?_) (fun m => ?_)
    · show f_X12_guard_b13 _ _ _ (m + 1) _ _ = f_X12_guard_b13 _ _ _ m _ _
      rw [f_X12_guard_b13, if_neg (ge8 hk), f_isTold12 hnn, bd1_s, tI_tl hk, ite_bI, f_wb12 hQ hk, bd1_s]
      simp only [f_X12_guard_b41]
      rw [sI_n (by omega) (by omega), sI_n (by omega) (by omega), fr]
      cases tl T k <;> rfl
    · show f_X12_guard_b13 _ _ _ (m + 1) _ _ = _
      rw [f_X12_guard_b13, if_pos (by decide)]
      show bd1 (f_X12_guards _ _ (nI 65535)) _ = _
      rw [hapr 65535 (by omega), bd1_s, ite_bI]
  cases hf : apB T (fun b => bitsI (bear v_m_now g b) 16) (nI 65535) with
  | false =>
    rw [hf, if_neg (by decide)] at hcl hrf
    refine ⟨-2, fb T (fun b => bitsI (bear v_m_now g b) 16) v_t_riddles_borne 8, nI (fa_cnt (tl T) 8), fr T (fun b => bitsI (bear v_m_now g b) 16) v_m_bornOf 8, ?_, ?_, hI0⟩
    · unfold f_X11_guard
      rw [f_within_eq, if_neg h, bd1_s, if_neg one_ne, hcl, bd3_s]
      simp only [f_X11_guard_b38, f_X11_guard_b39]
      split
      · rw [if_pos (by decide)]
      · rfl
    · unfold f_X12_guard
      rw [f_in_eq, if_neg h, bd1_s, if_neg one_ne, hrf]
  | true =>
    rw [hf, if_pos rfl] at hcl hrf
    obtain ⟨M, hM, hMp, hMs⟩ := few hf 8 (Nat.le_refl 8)
    obtain ⟨y, hy, hyB⟩ := f_few5 (ap := fun x => apB T (fun b => bitsI (bear v_m_now g b) 16) (nI x)) hapc ⟨M, hM, by omega, apB_iff.mpr hMs⟩
    obtain ⟨z, hz, hzB⟩ := f_guardl12 (ap := fun x => apB T (fun b => bitsI (bear v_m_now g b) 16) (nI x)) hapr hf a1
    have e := Bst.uniq hyB hzB
    subst e
    have hy65 := hyB.1
    refine ⟨gdA a1 y, fb T (fun b => bitsI (bear v_m_now g b) 16) v_t_riddles_borne 8, nI (fa_cnt (tl T) 8), fr T (fun b => bitsI (bear v_m_now g b) 16) v_m_bornOf 8, ?_, ?_, hI0⟩
    · unfold f_X11_guard
      rw [f_within_eq, if_neg h, bd1_s, if_neg one_ne, hcl, hy, bd3_s, bc_16 hy65, bd1_s, if_neg (nI_pos (by omega))]
      simp only [f_X11_guard_b38, f_X11_guard_b39, gdA]
      split <;> rfl
    · unfold f_X12_guard
      rw [f_in_eq, if_neg h, bd1_s, if_neg one_ne, hrf, hz]
      rfl
