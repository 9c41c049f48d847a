/-! pure: rings -/
theorem cnt_set {p q : Nat → Bool} {i : Nat} (hp : p i = false) (hq : q i = true) (h : ∀ j, j ≠ i → q j = p j) : ∀ k, fa_cnt q k = fa_cnt p k + if i < k then 1 else 0
  | 0 => rfl
  | k + 1 => by
    have ih := cnt_set hp hq h k
    rw [fa_cnt, fa_cnt, ih]
    by_cases e : k = i
    · subst e
      rw [hp, hq, if_neg (Nat.lt_irrefl k), if_pos (Nat.lt_succ_self k)]
      simp
    · rw [h k e]
      by_cases h2 : i < k
      · rw [if_pos h2, if_pos (show i < k + 1 by omega)]; omega
      · rw [if_neg h2, if_neg (show ¬ i < k + 1 by omega)]; omega
theorem cnt_full {p : Nat → Bool} : ∀ k, fa_cnt p k = k → ∀ i, i < k → p i = true
  | 0, _, i, hi => by omega
  | k + 1, h, i, hi => by
    have hle := fa_cnt_le p k
    rw [fa_cnt] at h
    cases e : p k with
    | false => rw [e] at h; simp at h; omega
    | true =>
      rw [e] at h
      by_cases ei : i = k
      · subst ei; exact e
      · exact cnt_full k (by simp at h; exact h) i (by omega)
theorem cnt_mark {x : Int32} {i k : Nat} (hi : i < k) (hk : k ≤ 16) (hx : bt x i = false) : fa_cnt (bt (x ||| ((1 : Int32) <<< (nI i &&& 31)))) k = fa_cnt (bt x) k + 1 := by
  have e : ∀ j, j < 32 → bt (x ||| ((1 : Int32) <<< (nI i &&& 31))) j = (bt x j || decide (j = i)) := fun j hj => by rw [b_or, bt_one i (by omega) j hj]
  have h := cnt_set (p := bt x) (q := fun j => bt x j || decide (j = i)) (i := i) hx (by simp) (fun j hj => by simp [hj]) k
  rw [if_pos hi] at h
  rw [← h]
  exact fa_cnt_cong (fun j hj => e j (by omega))
/-- a ring walked -/
def rW (t : Nat → Nat) : Nat → Int32 → Nat → Nat → Int32 × Nat
  | 0, x, l, _ => (x, l)
  | f + 1, x, l, i => if bt x i then (x, l) else rW t f (x ||| ((1 : Int32) <<< (nI i &&& 31))) (l + 1) (t i)
theorem rW_cnt {t : Nat → Nat} {k : Nat} (hk : k ≤ 12) (ht : ∀ i, i < k → t i < k) : ∀ f x l i, i < k → fa_cnt (bt (rW t f x l i).1) k + l = fa_cnt (bt x) k + (rW t f x l i).2 ∧ l ≤ (rW t f x l i).2
  | 0, x, l, i, _ => ⟨rfl, Nat.le_refl l⟩
  | f + 1, x, l, i, hi => by
    rw [rW]
    cases e : bt x i with
    | true => rw [if_pos rfl]; exact ⟨rfl, Nat.le_refl l⟩
    | false =>
      rw [if_neg (by simp)]
      have ih := rW_cnt hk ht f (x ||| ((1 : Int32) <<< (nI i &&& 31))) (l + 1) (t i) (ht i hi)
      rw [cnt_mark hi (by omega) e] at ih
      omega
theorem f_rin5 {bytes : Nat → Int32} {t : Nat → Nat} {n k : Nat} (hn : n ≤ 260) (hk : k ≤ 12) (hkn : k ≤ n) (hb : ∀ i, i < k → bytes i = nI (t i)) (ht : ∀ i, i < k → t i < k) (a2 l3 l4 l6 : Int32) (K : Int32 → Int32 → Int32 → Int32 → Option Int32) : ∀ m c x l i, i < k → c ≤ k → k - c < m → f_X5_ringsIn_b27 bytes (nI n) (nI k) a2 K m l3 l4 x l6 (nI l) (nI i) (nI c) = f_X5_ringsIn_b72 (nI k) a2 K l3 l4 (rW t (k - c) x l i).1 l6 (nI (rW t (k - c) x l i).2) := by
  intro m
  induction m with
  | zero => intro c x l i _ _ h; omega
  | succ m ih =>
    intro c x l i hi hc hm
    rcases Nat.lt_or_ge c k with h | h
    · obtain ⟨f, hf⟩ : ∃ f, k - c = f + 1 := ⟨k - c - 1, by omega⟩
      rw [f_X5_ringsIn_b27, if_neg (by rw [nle (by omega) (by omega)]; omega), sh1 x (by omega), f_at9 hn (by omega), bd1_s, hb i hi, hf, rW, nI_1, nI_1, ite_bI, ih (c + 1) _ _ _ (ht i hi) h (by omega), show k - (c + 1) = f by omega]
      cases bt x i <;> rfl
    · have e : c = k := by omega
      subst e
      rw [f_X5_ringsIn_b27, if_pos (by rw [nle (by omega) (by omega)]; omega), Nat.sub_self]; rfl
theorem f_rin12 {tape : Nat → Int32} {t : Nat → Nat} {k : Nat} (hk : k ≤ 12) (hb : ∀ i, i < k → tape i &&& 255 = nI (t i)) (ht : ∀ i, i < k → t i < k) (a2 l4 l5 l6 : Int32) (K : Int32 → Int32 → Int32 → Int32 → Int32 → Option (Int32 × Int32)) : ∀ f m x l i, i < k → k - fa_cnt (bt x) k ≤ f → f < m → f_X12_rings_b81 tape (nI k) a2 K m 0 x l4 l5 l6 (nI l) (nI i) = bd1 (f_X12_gcd l5 (nI (rW t f x l i).2)) (fun r2 => dI l5 r2 (fun g3 => f_X12_rings_b135 (nI k) a2 K 0 (rW t f x l i).1 (l4 + 1) (g3 * nI (rW t f x l i).2) l6)) := by
  intro f
  induction f with
  | zero =>
    intro m x l i hi hc hm
    obtain ⟨m', rfl⟩ : ∃ m', m = m' + 1 := ⟨m - 1, by omega⟩
    have hle := fa_cnt_le (bt x) k
    have hb1 := cnt_full k (show fa_cnt (bt x) k = k by omega) i hi
    rw [f_X12_rings_b81, f_has12 x (by omega), bd1_s, ite_bI, hb1, if_pos rfl, rW]
  | succ f ih =>
    intro m x l i hi hc hm
    obtain ⟨m', rfl⟩ : ∃ m', m = m' + 1 := ⟨m - 1, by omega⟩
    rw [f_X12_rings_b81, f_has12 x (by omega), bd1_s, ite_bI, rW]
    cases e : bt x i with
    | true => rw [if_pos rfl, if_pos rfl]
    | false =>
      rw [if_neg (by simp), if_neg (by simp), f_oct12 (by omega), bd1_s, hb i hi, nI_1]
      exact ih m' _ _ _ (ht i hi) (by rw [cnt_mark hi (by omega) e]; omega) (by omega)
/-- rings found, their common length, what is seen, behind the first i places -/
def rO (t : Nat → Nat) (k : Nat) : Nat → Int32 × Nat × Int32
  | 0 => (0, 1, 0)
  | i + 1 => if (rW t k (rO t k i).2.2 0 i).2 = 0 then ((rO t k i).1, (rO t k i).2.1, (rW t k (rO t k i).2.2 0 i).1) else ((rO t k i).1 + 1, (rO t k i).2.1 / Nat.gcd (rO t k i).2.1 (rW t k (rO t k i).2.2 0 i).2 * (rW t k (rO t k i).2.2 0 i).2, (rW t k (rO t k i).2.2 0 i).1)
theorem le3 : ∀ n, n ≤ 3 ^ n
  | 0 => by decide
  | n + 1 => by
    have ih := le3 n
    rw [Nat.pow_succ]
    have : 0 < 3 ^ n := Nat.pow_pos (by omega)
    omega
theorem rO_bd {t : Nat → Nat} {k : Nat} (hk : k ≤ 12) (ht : ∀ i, i < k → t i < k) : ∀ i, i ≤ k → 0 < (rO t k i).2.1 ∧ (rO t k i).2.1 ≤ 3 ^ fa_cnt (bt (rO t k i).2.2) k
  | 0, _ => ⟨by show 0 < 1; omega, by show 1 ≤ _; exact Nat.pow_pos (by omega)⟩
  | i + 1, h => by
    obtain ⟨h1, h2⟩ := rO_bd hk ht i (by omega)
    obtain ⟨h3, -⟩ := rW_cnt hk ht k (rO t k i).2.2 0 i (by omega)
    rw [rO]
    by_cases e : (rW t k (rO t k i).2.2 0 i).2 = 0
    · rw [if_pos e]
      refine ⟨h1, ?_⟩
      show (rO t k i).2.1 ≤ 3 ^ fa_cnt (bt (rW t k (rO t k i).2.2 0 i).1) k
      rw [show fa_cnt (bt (rW t k (rO t k i).2.2 0 i).1) k = fa_cnt (bt (rO t k i).2.2) k by omega]
      exact h2
    · rw [if_neg e]
      have hg : 0 < Nat.gcd (rO t k i).2.1 (rW t k (rO t k i).2.2 0 i).2 := Nat.gcd_pos_of_pos_left _ h1
      have hg2 : Nat.gcd (rO t k i).2.1 (rW t k (rO t k i).2.2 0 i).2 ≤ (rO t k i).2.1 := Nat.gcd_le_left _ h1
      have hd : 0 < (rO t k i).2.1 / Nat.gcd (rO t k i).2.1 (rW t k (rO t k i).2.2 0 i).2 := Nat.div_pos hg2 hg
      refine ⟨Nat.mul_pos hd (by omega), ?_⟩
      show (rO t k i).2.1 / Nat.gcd (rO t k i).2.1 (rW t k (rO t k i).2.2 0 i).2 * (rW t k (rO t k i).2.2 0 i).2 ≤ 3 ^ fa_cnt (bt (rW t k (rO t k i).2.2 0 i).1) k
      rw [show fa_cnt (bt (rW t k (rO t k i).2.2 0 i).1) k = fa_cnt (bt (rO t k i).2.2) k + (rW t k (rO t k i).2.2 0 i).2 by omega, Nat.pow_add]
      exact Nat.mul_le_mul (Nat.le_trans (Nat.div_le_self _ _) h2) (le3 _)
theorem rO_31 {t : Nat → Nat} {k : Nat} (hk : k ≤ 12) (ht : ∀ i, i < k → t i < k) {i : Nat} (hi : i ≤ k) : (rO t k i).2.1 < 2 ^ 31 := by
  have h := (rO_bd hk ht i hi).2
  have h2 : 3 ^ fa_cnt (bt (rO t k i).2.2) k ≤ 3 ^ 12 := Nat.pow_le_pow_right (by omega) (Nat.le_trans (fa_cnt_le _ k) hk)
  omega
def rOI (t : Nat → Nat) (k i : Nat) : Int32 × Int32 × Int32 := ((rO t k i).1, nI (rO t k i).2.1, (rO t k i).2.2)
def rOA (t : Nat → Nat) (k : Nat) (a2 : Int32) : Int32 := if a2 = 0 then (rO t k k).1 else nI (rO t k k).2.1
theorem f_rings5 {bytes : Nat → Int32} {t : Nat → Nat} {n k : Nat} (hn : n ≤ 260) (hk : k ≤ 12) (hkn : k ≤ n) (hb : ∀ i, i < k → bytes i = nI (t i)) (ht : ∀ i, i < k → t i < k) (a2 : Int32) : f_X5_ringsIn bytes (nI n) (nI k) a2 = some (rOA t k a2) := by
  unfold f_X5_ringsIn
  refine loopNN (fun m (x : Int32 × Int32 × Int32) i => f_X5_ringsIn_b11 bytes (nI n) (nI k) a2 m x.1 x.2.1 x.2.2 i) (rOI t k) 0 k (by omega) (by omega) (a0 := ((0 : Int32), (1 : Int32), (0 : Int32))) (i0 := 0) rfl rfl _ (fun m i _ hi => ?_) (fun m => ?_)
  · show f_X5_ringsIn_b11 _ _ _ _ (m + 1) _ _ _ _ = f_X5_ringsIn_b11 _ _ _ _ m _ _ _ _
    rw [f_X5_ringsIn_b11, if_neg (by rw [nle (by omega) (by omega)]; omega)]
    generalize f_X5_ringsIn_b11 bytes (nI n) (nI k) a2 m = K
    have h9 := f_rin5 hn hk hkn hb ht a2 (rOI t k i).1 (rOI t k i).2.1 (nI i) K FU 0 (rOI t k i).2.2 0 i hi (Nat.zero_le k) (FU_gt (by omega))
    rw [Nat.sub_zero] at h9
    refine Eq.trans h9 ?_
    obtain ⟨h3, h4⟩ := rW_cnt hk ht k (rO t k i).2.2 0 i hi
    have h5 := fa_cnt_le (bt (rW t k (rO t k i).2.2 0 i).1) k
    have hp := (rO_bd hk ht i (by omega)).1
    have h31 := rO_31 hk ht (i := i) (by omega)
    unfold rOI
    rw [rO]
    simp only []
    by_cases e : (rW t k (rO t k i).2.2 0 i).2 = 0
    · unfold f_X5_ringsIn_b72 f_X5_ringsIn_b109
      rw [e, if_pos (by decide), if_pos rfl]
    · have hg : 0 < Nat.gcd (rO t k i).2.1 (rW t k (rO t k i).2.2 0 i).2 := Nat.gcd_pos_of_pos_left _ hp
      have hg2 : Nat.gcd (rO t k i).2.1 (rW t k (rO t k i).2.2 0 i).2 ≤ (rO t k i).2.1 := Nat.gcd_le_left _ hp
      unfold f_X5_ringsIn_b72 f_X5_ringsIn_b107 f_X5_ringsIn_b109
      rw [if_neg (by rw [show (0 : Int32) = nI 0 from rfl, nle (by omega) (by omega)]; omega), f_cd h31 (by omega), bd1_s, if_neg (by rw [show (0 : Int32) = nI 0 from rfl, nle (by omega) (by omega)]; omega), dI_n (nI_ne0 hg (by omega)), pk_div h31 hg (by omega), pk_mul, if_neg e]
  · show f_X5_ringsIn_b11 _ _ _ _ (m + 1) _ _ _ _ = _
    rw [f_X5_ringsIn_b11, if_pos (by rw [nle (by omega) (by omega)]; omega)]
    unfold rOA f_X5_ringsIn_b125
    split <;> rfl
theorem f_rings12 {tape : Nat → Int32} {t : Nat → Nat} {k : Nat} (hk : k ≤ 12) (hb : ∀ i, i < k → tape i &&& 255 = nI (t i)) (ht : ∀ i, i < k → t i < k) (a2 : Int32) : f_X12_rings_b56 tape (nI k) a2 FU 0 0 0 1 0 = some (rOA t k a2, 0) := by
  refine loopNN (fun m (x : Int32 × Int32 × Int32) i => f_X12_rings_b56 tape (nI k) a2 m 0 x.2.2 x.1 x.2.1 i) (rOI t k) 0 k (by omega) (by omega) (a0 := ((0 : Int32), (1 : Int32), (0 : Int32))) (i0 := 0) rfl rfl _ (fun m i _ hi => ?_) (fun m => ?_)
  · show f_X12_rings_b56 _ _ _ (m + 1) _ _ _ _ _ = f_X12_rings_b56 _ _ _ m _ _ _ _ _
    rw [f_X12_rings_b56, if_neg (by rw [nle (by omega) (by omega)]; omega), f_has12 _ (by omega), bd1_s, ite_bI]
    generalize f_X12_rings_b56 tape (nI k) a2 m = K
    have h9 := f_rin12 hk hb ht a2 (rOI t k i).1 (rOI t k i).2.1 (nI i) K k FU (rOI t k i).2.2 0 i hi (by omega) (FU_gt (by omega))
    obtain ⟨h3, h4⟩ := rW_cnt hk ht k (rO t k i).2.2 0 i hi
    have h5 := fa_cnt_le (bt (rW t k (rO t k i).2.2 0 i).1) k
    have hp := (rO_bd hk ht i (by omega)).1
    have h31 := rO_31 hk ht (i := i) (by omega)
    obtain ⟨k', hk'⟩ : ∃ k', k = k' + 1 := ⟨k - 1, by omega⟩
    cases e : bt (rOI t k i).2.2 i with
    | true =>
      rw [if_pos rfl]
      have e2 : rW t k (rO t k i).2.2 0 i = ((rO t k i).2.2, 0) := by
        rw [show rW t k (rO t k i).2.2 0 i = rW t (k' + 1) (rO t k i).2.2 0 i from by rw [← hk'], rW, if_pos (show bt (rO t k i).2.2 i = true from e)]
      unfold rOI f_X12_rings_b135
      rw [rO, e2, if_pos rfl]
    | false =>
      rw [if_neg (by simp)]
      refine Eq.trans h9 ?_
      have e2 : ¬ (rW t k (rO t k i).2.2 0 i).2 = 0 := by
        have h7 : rW t k (rO t k i).2.2 0 i = rW t k' ((rO t k i).2.2 ||| ((1 : Int32) <<< (nI i &&& 31))) 1 (t i) := by
          rw [show rW t k (rO t k i).2.2 0 i = rW t (k' + 1) (rO t k i).2.2 0 i from by rw [← hk'], rW, if_neg (by rw [show bt (rO t k i).2.2 i = false from e]; simp)]
        have h8 := (rW_cnt hk ht k' ((rO t k i).2.2 ||| ((1 : Int32) <<< (nI i &&& 31))) 1 (t i) (ht i hi)).2
        rw [h7]; omega
      have hg : 0 < Nat.gcd (rO t k i).2.1 (rW t k (rO t k i).2.2 0 i).2 := Nat.gcd_pos_of_pos_left _ hp
      have hg2 : Nat.gcd (rO t k i).2.1 (rW t k (rO t k i).2.2 0 i).2 ≤ (rO t k i).2.1 := Nat.gcd_le_left _ hp
      unfold rOI f_X12_rings_b135
      rw [rO, if_neg e2]
      simp only []
      rw [f_gcd h31 (by omega), bd1_s, dI_n (nI_ne0 hg (by omega)), pk_div h31 hg (by omega), pk_mul]
  · show f_X12_rings_b56 _ _ _ (m + 1) _ _ _ _ _ = _
    rw [f_X12_rings_b56, if_pos (by rw [nle (by omega) (by omega)]; omega)]
    unfold rOA f_X12_rings_b152
    split <;> rfl
/-- what the first j bytes mark -/
def es (t : Nat → Nat) : Nat → Int32
  | 0 => 0
  | j + 1 => es t j ||| ((1 : Int32) <<< (nI (t j) &&& 31))
def eo (t : Nat → Nat) (k j : Nat) : Bool := decide (t j < k) && !bt (es t j) (t j)
theorem f_ord9 {bytes : Nat → Int32} {t : Nat → Nat} {n k : Nat} (hn : n ≤ 260) (hk : k ≤ 12) (hkn : k ≤ n) (hb : ∀ i, i < k → bytes i = nI (t i)) (h256 : ∀ i, i < k → t i < 256) : f_X9_isOrderOf bytes (nI n) (nI k) = if allN (eo t k) k then some 1 else some 0 := by
  unfold f_X9_isOrderOf
  refine loopG (fun m x i => f_X9_isOrderOf_b4 bytes (nI n) (nI k) m x i) (es t) (eo t k) k (by omega) (a0 := (0 : Int32)) rfl _ _ (fun m j hj hp => ?_) (fun m j hj hp => ?_) (fun m _ => ?_)
  · show f_X9_isOrderOf_b4 _ _ _ (m + 1) _ _ = f_X9_isOrderOf_b4 _ _ _ m _ _
    simp only [eo, Bool.and_eq_true, decide_eq_true_eq, Bool.not_eq_true'] at hp
    rw [f_X9_isOrderOf_b4, if_neg (by rw [nle (by omega) (by omega)]; omega), f_at9 hn (by omega), bd1_s, hb j hj, if_neg (by rw [nle (by omega) (by omega)]; omega), sh1 _ (by omega), hp.2, if_pos (show bI false = 0 from rfl), es]
  · show f_X9_isOrderOf_b4 _ _ _ (m + 1) _ _ = _
    have h2 := h256 j hj
    rw [f_X9_isOrderOf_b4, if_neg (by rw [nle (by omega) (by omega)]; omega), f_at9 hn (by omega), bd1_s, hb j hj, ite_nle (by omega) (by omega)]
    by_cases q : k ≤ t j
    · rw [if_pos q]; rfl
    · rw [if_neg q, sh1 _ (by omega)]
      have : bt (es t j) (t j) = true := by
        cases e : bt (es t j) (t j)
        · unfold eo at hp; rw [e, decide_eq_true (by omega)] at hp; cases hp
        · rfl
      rw [this, if_neg (by decide)]; rfl
  · show f_X9_isOrderOf_b4 _ _ _ (m + 1) _ _ = _
    rw [f_X9_isOrderOf_b4, if_pos (by rw [nle (by omega) (by omega)]; omega)]
theorem f_once12 {tape : Nat → Int32} {t : Nat → Nat} {k : Nat} (hk : k ≤ 12) (hb : ∀ i, i < k → tape i &&& 255 = nI (t i)) (h256 : ∀ i, i < k → t i < 256) : f_X12_areEachOnce tape (nI k) = if allN (eo t k) k then some 1 else some 0 := by
  unfold f_X12_areEachOnce
  refine loopG (fun m x i => f_X12_areEachOnce_b4 tape (nI k) m x i) (es t) (eo t k) k (by omega) (a0 := (0 : Int32)) rfl _ _ (fun m j hj hp => ?_) (fun m j hj hp => ?_) (fun m _ => ?_)
  · show f_X12_areEachOnce_b4 _ _ (m + 1) _ _ = f_X12_areEachOnce_b4 _ _ m _ _
    simp only [eo, Bool.and_eq_true, decide_eq_true_eq, Bool.not_eq_true'] at hp
    rw [f_X12_areEachOnce_b4, if_neg (by rw [nle (by omega) (by omega)]; omega), f_oct12 (by omega), bd1_s, bd1_s, hb j hj, if_neg (by rw [nle (by omega) (by omega)]; omega), f_has12 _ (by omega), bd1_s, bd1_s, hp.2, if_pos (show bI false = 0 from rfl), es]
  · show f_X12_areEachOnce_b4 _ _ (m + 1) _ _ = _
    have h2 := h256 j hj
    rw [f_X12_areEachOnce_b4, if_neg (by rw [nle (by omega) (by omega)]; omega), f_oct12 (by omega), bd1_s, bd1_s, hb j hj, ite_nle (by omega) (by omega)]
    by_cases q : k ≤ t j
    · rw [if_pos q]; rfl
    · rw [if_neg q, f_has12 _ (by omega), bd1_s]
      have : bt (es t j) (t j) = true := by
        cases e : bt (es t j) (t j)
        · unfold eo at hp; rw [e, decide_eq_true (by omega)] at hp; cases hp
        · rfl
      rw [this, if_neg (by decide)]; rfl
  · show f_X12_areEachOnce_b4 _ _ (m + 1) _ _ = _
    rw [f_X12_areEachOnce_b4, if_pos (by rw [nle (by omega) (by omega)]; omega)]
set_option maxHeartbeats 4000000 in
theorem pm_rings {v_t_tape_bytes : Nat → Int32} {x_t_tape_size : Int32} {v_t_rhymes_other : Nat → Int32} {v_t_shelf_dread : Nat → Int32} {v_t_shelf_ink : Nat → Int32} {v_t_shelf_kind : Nat → Int32} {v_t_shelf_salt : Nat → Int32} {v_t_shelf_tries : Nat → Int32} {x_t_shelf_day : Int32} {x_t_shelf_nerve : Int32} {x_t_shelf_pictures : Int32} {x_t_shelf_told : Int32} {x_t_shelf_written : Int32} {x_t_shelf_x : Int32} {v_t_kept_dread : Nat → Int32} {v_t_kept_ink : Nat → Int32} {v_t_kept_kind : Nat → Int32} {v_t_kept_salt : Nat → Int32} {v_t_kept_tries : Nat → Int32} {x_t_kept_day : Int32} {x_t_kept_nerve : Int32} {x_t_kept_pictures : Int32} {x_t_kept_told : Int32} {x_t_kept_written : Int32} {x_t_kept_x : Int32} {v_t_letter_words : Nat → Int32} {x_t_letter_size : Int32} {v_t_law_code : Nat → Int32} {v_t_law_letters : Nat → Int32} {v_t_law_valueFrom : Nat → Int32} {v_t_law_testFrom : Nat → Int32} {v_t_law_testEnd : Nat → Int32} {x_t_law_rules : Int32} {x_t_anyKept : Int32} {v_m_now : Nat → Int32} {v_m_kept : Nat → Int32} {v_m_rhymeOf : Nat → Int32} {v_m_wordAt : Nat → Int32} {x_m_wordMany : Int32} {v_m_tape : Nat → Int32} {x_m_taped : Int32} {v_m_codes : Nat → Int32} {v_m_clauseOf : Nat → Int32} {v_m_codeFrom : Nat → Int32} {v_m_codeHalf : Nat → Int32} {v_m_codeTo : Nat → Int32} {x_m_clauses : Int32} {x_m_isKept : Int32} (hI : Inv v_t_tape_bytes x_t_tape_size v_t_rhymes_other v_t_shelf_dread v_t_shelf_ink v_t_shelf_kind v_t_shelf_salt v_t_shelf_tries x_t_shelf_day x_t_shelf_nerve x_t_shelf_pictures x_t_shelf_told x_t_shelf_written x_t_shelf_x v_t_kept_dread v_t_kept_ink v_t_kept_kind v_t_kept_salt v_t_kept_tries x_t_kept_day x_t_kept_nerve x_t_kept_pictures x_t_kept_told x_t_kept_written x_t_kept_x v_t_letter_words x_t_letter_size v_t_law_code v_t_law_letters v_t_law_valueFrom v_t_law_testFrom v_t_law_testEnd x_t_law_rules x_t_anyKept v_m_now v_m_kept v_m_rhymeOf v_m_wordAt x_m_wordMany v_m_tape x_m_taped v_m_codes v_m_clauseOf v_m_codeFrom v_m_codeHalf v_m_codeTo x_m_clauses x_m_isKept) (a1 : Int32) (a2 : Int32) : ∃ (r : Int32) (o_x_t_tape_size : Int32) (o_x_m_taped : Int32), f_X11_rings v_t_tape_bytes x_t_tape_size a1 a2 = some (r, o_x_t_tape_size) ∧ f_X12_rings v_m_tape x_m_taped a1 a2 = some (r, o_x_m_taped) ∧ Inv v_t_tape_bytes o_x_t_tape_size v_t_rhymes_other v_t_shelf_dread v_t_shelf_ink v_t_shelf_kind v_t_shelf_salt v_t_shelf_tries x_t_shelf_day x_t_shelf_nerve x_t_shelf_pictures x_t_shelf_told x_t_shelf_written x_t_shelf_x v_t_kept_dread v_t_kept_ink v_t_kept_kind v_t_kept_salt v_t_kept_tries x_t_kept_day x_t_kept_nerve x_t_kept_pictures x_t_kept_told x_t_kept_written x_t_kept_x v_t_letter_words x_t_letter_size v_t_law_code v_t_law_letters v_t_law_valueFrom v_t_law_testFrom v_t_law_testEnd x_t_law_rules x_t_anyKept v_m_now v_m_kept v_m_rhymeOf v_m_wordAt x_m_wordMany v_m_tape o_x_m_taped v_m_codes v_m_clauseOf v_m_codeFrom v_m_codeHalf v_m_codeTo x_m_clauses x_m_isKept := by
  have hI0 := hI
  obtain ⟨⟨n, t, hn, rfl, rfl, ht⟩, hR, hS, hK, hL, hW⟩ := hI
  by_cases h : a1 < 1 ∨ 12 < a1
  · exact ⟨-1, _, _, by simp [f_X11_rings, f_X11_rings_b30, f_within_eq, h, bd1], by simp [f_X12_rings, f_X12_rings_b27, f_in_eq, h, bd1], hI0⟩
  by_cases h2 : a2 < 0 ∨ 1 < a2
  · exact ⟨-1, _, _, by simp [f_X11_rings, f_X11_rings_b30, f_within_eq, h, h2, bd1], by simp [f_X12_rings, f_X12_rings_b27, f_in_eq, h, h2, bd1], hI0⟩
  obtain ⟨k, hk, rfl⟩ := rg_of (n := 12) (a := a1) (by omega) (fun q => h (Or.inl (by rw [fa_lt] at q ⊢; have : (0 : Int32).toInt = 0 := rfl; have : (1 : Int32).toInt = 1 := rfl; omega))) (fun q => h (Or.inr q))
  by_cases hkn : k ≤ n
  · have e2 : nI k ≤ nI n := by rw [nle (by omega) (by omega)]; exact hkn
    have hb1 : ∀ i, i < k → v_t_tape_bytes i = nI (t i) := fun i hi => (ht i (by omega)).2.1
    have hb2 : ∀ i, i < k → v_m_tape i &&& 255 = nI (t i) := fun i hi => (ht i (by omega)).2.2
    have h256 : ∀ i, i < k → t i < 256 := fun i hi => (ht i (by omega)).1
    refine ⟨if allN (eo t k) k then rOA t k a2 else -3, 0, 0, ?_, ?_, RTape.empty, hR, hS, hK, hL, hW⟩
    · unfold f_X11_rings
      rw [f_within_eq, if_neg h, bd1_s, if_neg one_ne, f_within_eq, if_neg h2, bd1_s, if_neg one_ne, f_has9 n k hn (by omega), if_pos hkn, bd1_s, if_neg one_ne, f_ord9 hn hk hkn hb1 h256]
      by_cases hall : allN (eo t k) k = true
      · have hlt : ∀ i, i < k → t i < k := fun i hi => by have h6 := allN_iff.mp hall i hi; unfold eo at h6; simp at h6; exact h6.1
        rw [if_pos hall, bd1_s, if_neg one_ne, f_rings5 hn hk hkn hb1 hlt, bd1_s, if_pos hall]; rfl
      · rw [if_neg hall, bd1_s, if_pos rfl, if_neg hall]; rfl
    · unfold f_X12_rings
      rw [f_in_eq, if_neg h, bd1_s, if_neg one_ne, f_in_eq, if_neg h2, bd1_s, if_neg one_ne, if_pos e2, f_once12 hk hb2 h256]
      by_cases hall : allN (eo t k) k = true
      · have hlt : ∀ i, i < k → t i < k := fun i hi => by have h6 := allN_iff.mp hall i hi; unfold eo at h6; simp at h6; exact h6.1
        rw [if_pos hall, bd1_s, if_neg one_ne, f_rings12 hk hb2 hlt, if_pos hall]
      · rw [if_neg hall, bd1_s, if_pos rfl, if_neg hall]
  · have e2 : ¬ nI k ≤ nI n := by rw [nle (by omega) (by omega)]; exact hkn
    exact ⟨-1, _, _, by simp [f_X11_rings, f_X11_rings_b30, f_within_eq, h, h2, bd1, f_has9 n k hn (by omega), hkn], by simp [f_X12_rings, f_X12_rings_b27, f_in_eq, h, h2, bd1, e2], hI0⟩
