/-! pure: texts -/
def chI (t : Nat → Nat) (E p : Nat) : Int32 := if p < E then nI (t p) else -1
def chN (t : Nat → Nat) (E p : Nat) : Nat := if p < E then t p else 300
def rg (a b x : Nat) : Bool := decide (a ≤ x ∧ x ≤ b)
theorem rg_iff {a b x : Nat} : rg a b x = true ↔ a ≤ x ∧ x ≤ b := by unfold rg; rw [decide_eq_true_eq]
theorem rg_no {a b x : Nat} : rg a b x = false ↔ ¬ (a ≤ x ∧ x ≤ b) := by unfold rg; rw [decide_eq_false_iff_not]
def fI (k p : Nat) : Int32 := (-1000 : Int32) * nI k - nI p
theorem fI_all : ∀ k, k < 7 → ∀ p, p < 270 → 0 < k → fI k p ≤ 0 ∧ ¬ fI k p = 0 := by decide +kernel
section TX
variable {bytes tape : Nat → Int32} {t : Nat → Nat} {n E : Nat}
/-- a text laid on both tapes -/
def TX (bytes tape : Nat → Int32) (t : Nat → Nat) (n E : Nat) : Prop := n ≤ 260 ∧ E ≤ n ∧ ∀ i, i < n → t i < 256 ∧ bytes i = nI (t i) ∧ tape i &&& 255 = nI (t i)
theorem TX_lt (h : TX bytes tape t n E) {p : Nat} (hp : p < E) : t p < 256 := (h.2.2 p (by have := h.2.1; omega)).1
theorem chI_eq (h : TX bytes tape t n E) {p k : Nat} (hk : k < 256) : (chI t E p = nI k) = (chN t E p = k) := by
  unfold chI chN
  by_cases hp : p < E
  · rw [if_pos hp, if_pos hp, neq (by have := TX_lt h hp; omega) (by omega)]
  · rw [if_neg hp, if_neg hp]
    exact propext ⟨fun e => by have h9 := nI_pos (n := k) (by omega); rw [← e] at h9; exact absurd (by decide) h9, fun e => by omega⟩
theorem m1_lt {a : Nat} (ha : a < 2 ^ 31) : (-1 : Int32) < nI a := by
  rw [fa_lt, nI_toInt ha]
  have : (-1 : Int32).toInt = -1 := rfl
  omega
theorem ch_in (h : TX bytes tape t n E) {p a b : Nat} (ha : a < 256) (hb : b < 256) : (chI t E p < nI a ∨ nI b < chI t E p) = (rg a b (chN t E p) = false) := by
  rw [rg_no]
  unfold chI chN
  by_cases hp : p < E
  · have ht := TX_lt h hp
    rw [if_pos hp, if_pos hp, nlt (a := t p) (b := a) (by omega) (by omega), nlt (a := b) (b := t p) (by omega) (by omega)]
    exact propext (by omega)
  · rw [if_neg hp, if_neg hp]
    exact propext ⟨fun _ => by omega, fun _ => Or.inl (m1_lt (by omega))⟩
theorem ch_some {p k : Nat} (h : chN t E p ≤ k) (hk : k < 256) : p < E ∧ chI t E p = nI (chN t E p) ∧ chN t E p = t p := by
  unfold chN at h ⊢
  unfold chI
  by_cases hp : p < E
  · rw [if_pos hp, if_pos hp]; exact ⟨hp, rfl, rfl⟩
  · rw [if_neg hp] at h; omega
theorem f_within_ch (h : TX bytes tape t n E) {p a b : Nat} (ha : a < 256) (hb : b < 256) : f_X11_within (chI t E p) (nI a) (nI b) = some (bI (rg a b (chN t E p))) := by
  rw [f_within_eq]
  cases e : rg a b (chN t E p)
  · rw [if_pos (by rw [ch_in h ha hb]; exact e)]; rfl
  · rw [if_neg (by rw [ch_in h ha hb, e]; decide)]; rfl
theorem f_in_ch (h : TX bytes tape t n E) {p a b : Nat} (ha : a < 256) (hb : b < 256) : f_X12_in (chI t E p) (nI a) (nI b) = some (bI (rg a b (chN t E p))) := by
  rw [f_in_eq]
  cases e : rg a b (chN t E p)
  · rw [if_pos (by rw [ch_in h ha hb]; exact e)]; rfl
  · rw [if_neg (by rw [ch_in h ha hb, e]; decide)]; rfl
theorem f_dig11 (h : TX bytes tape t n E) (p : Nat) : f_X11_isDigit (chI t E p) = some (bI (rg 48 57 (chN t E p))) := by
  unfold f_X11_isDigit f_X11_isDigit_b16 f_X11_isDigit_b17
  have hc := ch_in h (p := p) (a := 48) (b := 57) (by omega) (by omega)
  rw [zI_0, zI_1]
  cases e : rg 48 57 (chN t E p)
  · rw [e] at hc
    by_cases q : chI t E p < (48 : Int32)
    · rw [if_pos q]; rfl
    · rw [if_neg q, if_pos (show (57 : Int32) < chI t E p from by rcases (Eq.mpr hc rfl) with q2 | q2; exact absurd q2 q; exact q2)]; rfl
  · have hn : ¬ (chI t E p < nI 48 ∨ nI 57 < chI t E p) := by rw [hc, e]; decide
    rw [if_neg (show ¬ chI t E p < (48 : Int32) from fun q => hn (Or.inl q)), if_neg (show ¬ (57 : Int32) < chI t E p from fun q => hn (Or.inr q))]; rfl
theorem f_wsg11 (h : TX bytes tape t n E) (p : Nat) : f_X11_isWordSign (chI t E p) = some (bI (rg 97 112 (chN t E p))) := by
  unfold f_X11_isWordSign f_X11_isWordSign_b16 f_X11_isWordSign_b17
  have hc := ch_in h (p := p) (a := 97) (b := 112) (by omega) (by omega)
  rw [zI_0, zI_1]
  cases e : rg 97 112 (chN t E p)
  · rw [e] at hc
    by_cases q : chI t E p < (97 : Int32)
    · rw [if_pos q]; rfl
    · rw [if_neg q, if_pos (show (112 : Int32) < chI t E p from by rcases (Eq.mpr hc rfl) with q2 | q2; exact absurd q2 q; exact q2)]; rfl
  · have hn : ¬ (chI t E p < nI 97 ∨ nI 112 < chI t E p) := by rw [hc, e]; decide
    rw [if_neg (show ¬ chI t E p < (97 : Int32) from fun q => hn (Or.inl q)), if_neg (show ¬ (112 : Int32) < chI t E p from fun q => hn (Or.inr q))]; rfl
theorem f_sign9 (h : TX bytes tape t n E) {p : Nat} (hp : p < 2 ^ 30) : f_X9_sign bytes (nI E) 0 (nI p) (nI n) = some (chI t E p) := by
  obtain ⟨h1, h2, h3⟩ := h
  unfold f_X9_sign f_X9_sign_b29 f_X9_sign_b30 chI
  rw [if_pos rfl, ite_nle (by omega) (by omega)]
  by_cases q : p < E
  · rw [if_neg (by omega), if_pos q, f_at9 h1 (by omega), bd1_s, (h3 p (by omega)).2.1]
  · rw [if_pos (by omega), if_neg q]
theorem f_sign9f {f e p n : Int32} (hf : ¬ f = 0) : f_X9_sign bytes e f p n = some (-1) := by
  unfold f_X9_sign f_X9_sign_b29 f_X9_sign_b30
  rw [if_neg hf]
theorem f_here12 (h : TX bytes tape t n E) {p : Nat} (hp : p < 2 ^ 30) : f_X12_here tape (nI E) (nI p) = some (chI t E p) := by
  obtain ⟨h1, h2, h3⟩ := h
  unfold f_X12_here f_X12_here_b28 chI
  rw [ite_nle (by omega) (by omega)]
  by_cases q : p < E
  · rw [if_neg (by omega), if_pos q, gI_n (by omega) (by omega), (h3 p (by omega)).2.2]
  · rw [if_pos (by omega), if_neg q]
theorem f_dig12 (h : TX bytes tape t n E) {p : Nat} (hp : p < 2 ^ 30) : f_X12_isDigit tape (nI E) (nI p) = some (bI (rg 48 57 (chN t E p))) := by
  rw [← f_dig11 h p]
  unfold f_X12_isDigit f_X12_isDigit_b22 f_X12_isDigit_b23 f_X11_isDigit f_X11_isDigit_b16 f_X11_isDigit_b17
  rw [f_here12 h hp, bd1_s, bd1_s]
theorem f_let12 (h : TX bytes tape t n E) {p : Nat} (hp : p < 2 ^ 30) : f_X12_isLetter tape (nI E) (nI p) = some (bI (rg 97 112 (chN t E p))) := by
  unfold f_X12_isLetter
  rw [f_here12 h hp, bd1_s, f_in_eq, bd1_s]
  have e : (chI t E p - 97 < 0 ∨ 15 < chI t E p - 97) = (rg 97 112 (chN t E p) = false) := by
    rw [rg_no]
    unfold chI chN
    by_cases q : p < E
    · have ht := TX_lt h q
      rw [if_pos q, if_pos q]
      rcases Nat.lt_or_ge (t p) 97 with q2 | q2
      · exact propext ⟨fun _ => by omega, fun _ => Or.inl (pk_sneg (b := 97) (by omega) q2)⟩
      · rw [show (97 : Int32) = nI 97 from rfl, pk_sub q2, show (15 : Int32) = nI 15 from rfl, nlt (a := 15) (by omega) (by omega)]
        exact propext ⟨fun q3 => by rcases q3 with q3 | q3; exact absurd q3 (nI_pos (by omega)); omega, fun q3 => Or.inr (by omega)⟩
    · rw [if_neg q, if_neg q]
      exact propext ⟨fun _ => by omega, fun _ => Or.inl (by decide)⟩
  cases e2 : rg 97 112 (chN t E p)
  · rw [if_pos (by rw [e]; exact e2)]; exact zI_0
  · rw [if_neg (by rw [e, e2]; decide)]; exact zI_1
theorem f_step9 {p : Nat} (hE : E ≤ 260) (hp : p < E) : f_X9_step (nI E) (nI p) = some (nI (p + 1)) := by
  unfold f_X9_step f_X9_step_b21
  rw [ite_nle (by omega) (by omega), if_neg (by omega), nI_1]
theorem f_fail9 {k p : Nat} : f_X9_fail 0 (nI p) (nI k) = some (fI k p) := by
  unfold f_X9_fail f_X9_failAt f_X9_failAt_b18
  rw [if_pos rfl]; rfl
theorem f_fail9f {f p k : Int32} (hf : ¬ f = 0) : f_X9_fail f p k = some f := by
  unfold f_X9_fail f_X9_failAt f_X9_failAt_b18
  rw [if_neg hf]; rfl
theorem f_take9f {e f p n k : Int32} (hf : ¬ f = 0) (hk : ¬ (-1 : Int32) = k) : f_X9_take bytes e f p n k = some (f, p) := by
  unfold f_X9_take f_X9_take_b20
  rw [f_sign9f hf, bd1_s, if_neg hk, f_fail9f hf, bd1_s]
theorem f_take9 (h : TX bytes tape t n E) {p k : Nat} (hp : p < 2 ^ 30) (hk : k < 256) : f_X9_take bytes (nI E) 0 (nI p) (nI n) (nI k) = some (if chN t E p = k then ((0 : Int32), nI (p + 1)) else (fI 1 p, nI p)) := by
  unfold f_X9_take f_X9_take_b20
  rw [f_sign9 h hp, bd1_s]
  by_cases q : chN t E p = k
  · obtain ⟨q1, -, -⟩ := ch_some (k := k) (Nat.le_of_eq q) hk
    rw [if_pos (by rw [chI_eq h hk]; exact q), if_pos q, f_step9 (by have := h.1; have := h.2.1; omega) q1, bd1_s]
  · rw [if_neg (by rw [chI_eq h hk]; exact q), if_neg q, show (1 : Int32) = nI 1 from rfl, f_fail9, bd1_s]
theorem f_takes12 (h : TX bytes tape t n E) {p k : Nat} {f : Int32} (hp : p < 2 ^ 30) (hk : k < 256) : f_X12_takes tape f (nI E) (nI p) (nI k) = some (if chN t E p = k then ((1 : Int32), f, nI (p + 1)) else (0, fI 1 p, nI p)) := by
  unfold f_X12_takes f_X12_wrongAt
  rw [f_here12 h hp, bd1_s]
  by_cases q : chN t E p = k
  · rw [if_pos (by rw [chI_eq h hk]; exact q), if_pos q, nI_1]
  · rw [if_neg (by rw [chI_eq h hk]; exact q), if_neg q, bd2_s, zI_0]; rfl
theorem f_failed0 : f_X9_hasFailed 0 = some 0 := by unfold f_X9_hasFailed f_X9_hasFailed_b12; rw [if_pos rfl, zI_0]
theorem f_failed1 {f : Int32} (hf : ¬ f = 0) : f_X9_hasFailed f = some 1 := by unfold f_X9_hasFailed f_X9_hasFailed_b12; rw [if_neg hf, zI_1]
theorem f_atEnd9 {p : Nat} (hE : E ≤ 260) (hp : p < 2 ^ 30) : f_X9_isAtEnd (nI E) (nI p) = some (bI (decide (E ≤ p))) := by
  unfold f_X9_isAtEnd f_X9_isAtEnd_b16
  rw [ite_nlt (by omega) (by omega), zI_0, zI_1]
  by_cases q : p < E
  · rw [if_pos q, decide_eq_false (by omega)]; rfl
  · rw [if_neg q, decide_eq_true (by omega)]; rfl
/-- digits from p on, at most k, behind the value v -/
def rnA (t : Nat → Nat) (E : Nat) : Nat → Nat → Nat → Sum Int32 (Nat × Nat)
  | 0, p, v => if rg 48 57 (chN t E p) then Sum.inl (fI 2 p) else Sum.inr (p, v)
  | k + 1, p, v => if rg 48 57 (chN t E p) then rnA t E k (p + 1) (10 * v + chN t E p - 48) else Sum.inr (p, v)
def rnS (t : Nat → Nat) (E k p : Nat) : Sum Int32 (Nat × Nat) := if rg 48 57 (chN t E p) then rnA t E k p 0 else Sum.inl (fI 1 p)
theorem rnA_ok {t : Nat → Nat} {E : Nat} : ∀ k p v, (∀ f, rnA t E k p v = Sum.inl f → ∃ q, q < E ∧ p ≤ q ∧ f = fI 2 q) ∧ (∀ q u, rnA t E k p v = Sum.inr (q, u) → p ≤ q ∧ (p < q → q ≤ E) ∧ u < (v + 1) * 10 ^ k)
  | 0, p, v => by
    rw [rnA]
    cases e : rg 48 57 (chN t E p) with
    | true =>
      rw [if_pos rfl]
      refine ⟨fun f hf => ?_, fun q u hq => (by cases hq)⟩
      obtain rfl := Sum.inl.inj hf
      exact ⟨p, (ch_some (k := 57) (rg_iff.mp e).2 (by omega)).1, Nat.le_refl p, rfl⟩
    | false =>
      rw [if_neg (by decide)]
      refine ⟨fun f hf => (by cases hf), fun q u hq => ?_⟩
      cases hq
      exact ⟨Nat.le_refl p, fun h => by omega, by omega⟩
  | k + 1, p, v => by
    rw [rnA]
    cases e : rg 48 57 (chN t E p) with
    | true =>
      rw [if_pos rfl]
      obtain ⟨h1, h2⟩ := rnA_ok (t := t) (E := E) k (p + 1) (10 * v + chN t E p - 48)
      have hp := (ch_some (k := 57) (rg_iff.mp e).2 (by omega)).1
      have hc := rg_iff.mp e
      refine ⟨fun f hf => ?_, fun q u hq => ?_⟩
      · obtain ⟨q, a, b, c⟩ := h1 f hf
        exact ⟨q, a, by omega, c⟩
      · obtain ⟨a, b, c⟩ := h2 q u hq
        refine ⟨by omega, fun _ => ?_, ?_⟩
        · by_cases e2 : p + 1 = q
          · omega
          · exact b (by omega)
        · have h5 : (10 * v + chN t E p - 48 + 1) * 10 ^ k ≤ (10 * (v + 1)) * 10 ^ k := Nat.mul_le_mul_right _ (by omega)
          have h6 : (10 * (v + 1)) * 10 ^ k = (v + 1) * 10 ^ (k + 1) := by rw [Nat.pow_succ, Nat.mul_comm 10 (v + 1), Nat.mul_assoc, Nat.mul_comm 10 (10 ^ k)]
          rw [← h6]
          exact Nat.lt_of_lt_of_le c h5
    | false =>
      rw [if_neg (by decide)]
      refine ⟨fun f hf => (by cases hf), fun q u hq => ?_⟩
      cases hq
      have : 0 < 10 ^ (k + 1) := Nat.pow_pos (by omega)
      refine ⟨Nat.le_refl p, fun h => by omega, ?_⟩
      have h6 : (v + 1) * 1 ≤ (v + 1) * 10 ^ (k + 1) := Nat.mul_le_mul_left _ this
      omega
theorem f_num9 (h : TX bytes tape t n E) {mx : Nat} (hmx : mx < 100) : ∀ k p v d m, d + k = mx → 1 ≤ d → p < 2 ^ 29 → k + 2 < m → (∀ f, rnA t E k p v = Sum.inl f → ∃ w q, f_X9_readNumber_b4 bytes (nI E) (nI n) (nI mx) m 0 (nI p) (nI v) (nI d) = some (w, f, nI q)) ∧ (∀ q u, rnA t E k p v = Sum.inr (q, u) → f_X9_readNumber_b4 bytes (nI E) (nI n) (nI mx) m 0 (nI p) (nI v) (nI d) = some (nI u, 0, nI q))
  | 0, p, v, d, m + 2, hd, h1, hp, _ => by
    rw [f_X9_readNumber_b4, if_neg (by rw [nlt (by omega) (by omega)]; omega), f_sign9 h (by omega), bd1_s, f_dig11 h, bd1_s, ite_bI, bd1_s, rnA]
    cases e : rg 48 57 (chN t E p) with
    | true =>
      have hpe := (ch_some (k := 57) (rg_iff.mp e).2 (by omega)).1
      rw [if_pos rfl]
      refine ⟨fun f hf => ?_, fun q u hq => (by cases hq)⟩
      obtain rfl := Sum.inl.inj hf
      refine ⟨nI v, p, ?_⟩
      rw [if_pos rfl, if_pos (by rw [neq (by omega) (by omega)]; omega), show (2 : Int32) = nI 2 from rfl, f_fail9, bd1_s]
      unfold f_X9_readNumber_b49
      rw [nI_1, f_X9_readNumber_b4, if_pos (by rw [nlt (by omega) (by omega)]; omega)]
      unfold f_X9_readNumber_b55 f_X9_readNumber_b64
      rw [if_neg (nI_ne0 (by omega) (by omega))]
    | false =>
      rw [if_neg (by decide)]
      refine ⟨fun f hf => (by cases hf), fun q u hq => ?_⟩
      cases hq
      rw [if_neg (by decide)]
      unfold f_X9_readNumber_b55 f_X9_readNumber_b64
      rw [if_neg (nI_ne0 (by omega) (by omega))]
  | k + 1, p, v, d, m + 1, hd, h1, hp, hm => by
    rw [f_X9_readNumber_b4, if_neg (by rw [nlt (by omega) (by omega)]; omega), f_sign9 h (by omega), bd1_s, f_dig11 h, bd1_s, ite_bI, bd1_s, rnA]
    cases e : rg 48 57 (chN t E p) with
    | true =>
      obtain ⟨hpe, hce, -⟩ := ch_some (k := 57) (rg_iff.mp e).2 (by omega)
      have hc := rg_iff.mp e
      rw [if_pos rfl, if_pos rfl, if_neg (by rw [neq (by omega) (by omega)]; omega), f_step9 (by have := h.1; have := h.2.1; omega) hpe, bd1_s]
      unfold f_X9_readNumber_b49
      rw [hce, nI_1, show (10 : Int32) = nI 10 from rfl, pk_mul, nI_add, show (48 : Int32) = nI 48 from rfl, pk_sub (by omega)]
      exact f_num9 h hmx k (p + 1) (10 * v + chN t E p - 48) (d + 1) m (by omega) (by omega) (by have := h.1; have := h.2.1; omega) (by omega)
    | false =>
      rw [if_neg (by decide)]
      refine ⟨fun f hf => (by cases hf), fun q u hq => ?_⟩
      cases hq
      rw [if_neg (by decide)]
      unfold f_X9_readNumber_b55 f_X9_readNumber_b64
      rw [if_neg (nI_ne0 (by omega) (by omega))]
theorem f_rdN9 (h : TX bytes tape t n E) {mx p : Nat} (hm1 : 1 ≤ mx) (hmx : mx < 100) (hp : p < 2 ^ 29) : (∀ f, rnS t E mx p = Sum.inl f → ∃ w q, f_X9_readNumber bytes (nI E) 0 (nI p) (nI n) (nI mx) = some (w, f, nI q)) ∧ (∀ q u, rnS t E mx p = Sum.inr (q, u) → f_X9_readNumber bytes (nI E) 0 (nI p) (nI n) (nI mx) = some (nI u, 0, nI q)) := by
  obtain ⟨m, hm⟩ : ∃ m, FU = m + 1 := ⟨99999, rfl⟩
  have hm9 : m = 99999 := by have : FU = 100000 := rfl; omega
  unfold f_X9_readNumber
  rw [hm, f_X9_readNumber_b4, if_neg (by rw [show (0 : Int32) = nI 0 from rfl, nlt (by omega) (by omega)]; omega), f_sign9 h (by omega), bd1_s, f_dig11 h, bd1_s, ite_bI, bd1_s]
  unfold rnS
  cases e : rg 48 57 (chN t E p) with
  | false =>
    rw [if_neg (by decide), if_neg (by decide)]
    refine ⟨fun f hf => ?_, fun q u hq => (by cases hq)⟩
    obtain rfl := Sum.inl.inj hf
    refine ⟨0, p, ?_⟩
    unfold f_X9_readNumber_b55 f_X9_readNumber_b64
    rw [if_pos rfl, show (1 : Int32) = nI 1 from rfl, f_fail9, bd1_s]
  | true =>
    obtain ⟨hpe, hce, -⟩ := ch_some (k := 57) (rg_iff.mp e).2 (by omega)
    have hc := rg_iff.mp e
    obtain ⟨k, rfl⟩ : ∃ k, mx = k + 1 := ⟨mx - 1, by omega⟩
    rw [if_pos rfl, if_pos rfl, rnA, e, if_pos rfl, if_neg (by rw [show (0 : Int32) = nI 0 from rfl, neq (by omega) (by omega)]; omega), f_step9 (by have := h.1; have := h.2.1; omega) hpe, bd1_s]
    unfold f_X9_readNumber_b49
    rw [hce, show (0 : Int32) + 1 = nI 1 from rfl, show (10 : Int32) * 0 = nI 0 from rfl, nI_add, show (48 : Int32) = nI 48 from rfl, pk_sub (by omega), show 10 * 0 + chN t E p - 48 = 0 + chN t E p - 48 by omega]
    exact f_num9 h hmx k (p + 1) (0 + chN t E p - 48) 1 m (by omega) (by omega) (by have := h.1; have := h.2.1; omega) (by omega)
/-- the reference reads an amount -/
theorem f_am12 (h : TX bytes tape t n E) {p0 : Nat} (hp0 : p0 < 2 ^ 28) (fl : Int32) : ∀ k p v m, p + k = p0 + 2 → p < 2 ^ 29 → k < m → (∀ f, rnA t E k p v = Sum.inl f → ∃ w q, f_X12_readsAmount_b27 tape (nI E) m fl (nI v) (nI p) (nI p0) = some (0, f, w, q)) ∧ (∀ q u, rnA t E k p v = Sum.inr (q, u) → f_X12_readsAmount_b27 tape (nI E) m fl (nI v) (nI p) (nI p0) = some (1, fl, nI u, nI q))
  | 0, p, v, m + 1, hd, hp, _ => by
    rw [f_X12_readsAmount_b27, f_dig12 h (by omega), bd1_s, ite_bI, rnA]
    cases e : rg 48 57 (chN t E p) with
    | true =>
      rw [if_pos rfl]
      refine ⟨fun f hf => ?_, fun q u hq => (by cases hq)⟩
      obtain rfl := Sum.inl.inj hf
      refine ⟨nI v, nI p, ?_⟩
      rw [if_pos rfl, show (2 : Int32) = nI 2 from rfl, nI_add, if_pos (by rw [neq (by omega) (by omega)]; omega)]
      unfold f_X12_wrongAt
      rw [bd2_s, zI_0]; rfl
    | false =>
      rw [if_neg (by decide)]
      refine ⟨fun f hf => (by cases hf), fun q u hq => ?_⟩
      cases hq
      rw [if_neg (by decide)]
  | k + 1, p, v, m + 1, hd, hp, hm => by
    rw [f_X12_readsAmount_b27, f_dig12 h (by omega), bd1_s, ite_bI, rnA]
    cases e : rg 48 57 (chN t E p) with
    | true =>
      obtain ⟨hpe, hce, -⟩ := ch_some (k := 57) (rg_iff.mp e).2 (by omega)
      have hc := rg_iff.mp e
      rw [if_pos rfl, if_pos rfl, show (2 : Int32) = nI 2 from rfl, nI_add, if_neg (by rw [neq (by omega) (by omega)]; omega), f_here12 h (by omega), bd1_s, hce, nI_1, show (10 : Int32) = nI 10 from rfl, pk_mul, nI_add, show (48 : Int32) = nI 48 from rfl, pk_sub (by omega)]
      exact f_am12 h hp0 fl k (p + 1) (10 * v + chN t E p - 48) m (by omega) (by have := h.1; have := h.2.1; omega) (by omega)
    | false =>
      rw [if_neg (by decide)]
      refine ⟨fun f hf => (by cases hf), fun q u hq => ?_⟩
      cases hq
      rw [if_neg (by decide)]
theorem f_amt12 (h : TX bytes tape t n E) {p : Nat} (hp : p < 2 ^ 28) (fl nu : Int32) : (∀ f, rnS t E 2 p = Sum.inl f → ∃ w q, f_X12_readsAmount tape fl (nI E) nu (nI p) = some (0, f, w, q)) ∧ (∀ q u, rnS t E 2 p = Sum.inr (q, u) → f_X12_readsAmount tape fl (nI E) nu (nI p) = some (1, fl, nI u, nI q)) := by
  unfold rnS f_X12_readsAmount
  rw [f_dig12 h (by omega), bd1_s, ite_bI]
  cases e : rg 48 57 (chN t E p) with
  | false =>
    rw [if_neg (by decide), if_neg (by decide)]
    refine ⟨fun f hf => ?_, fun q u hq => (by cases hq)⟩
    obtain rfl := Sum.inl.inj hf
    refine ⟨nu, nI p, ?_⟩
    unfold f_X12_wrongAt
    rw [bd2_s, zI_0]; rfl
  | true =>
    rw [if_pos rfl, if_pos rfl]
    exact f_am12 h hp fl 2 p 0 FU (by omega) (by omega) (FU_gt (by omega))
theorem rnS_ok {k p : Nat} : (∀ f, rnS t E k p = Sum.inl f → ∃ j q, (j = 1 ∨ j = 2) ∧ (q = p ∨ q < E) ∧ f = fI j q) ∧ (∀ q u, rnS t E k p = Sum.inr (q, u) → q ≤ E ∧ p ≤ q ∧ (1 ≤ k → p < q) ∧ u < 10 ^ k) := by
  unfold rnS
  cases e : rg 48 57 (chN t E p) with
  | false =>
    rw [if_neg (by decide)]
    exact ⟨fun f hf => by obtain rfl := Sum.inl.inj hf; exact ⟨1, p, Or.inl rfl, Or.inl rfl, rfl⟩, fun q u hq => (by cases hq)⟩
  | true =>
    rw [if_pos rfl]
    obtain ⟨h1, h2⟩ := rnA_ok (t := t) (E := E) k p 0
    refine ⟨fun f hf => ?_, fun q u hq => ?_⟩
    · obtain ⟨q, a, b, c⟩ := h1 f hf
      exact ⟨2, q, Or.inr rfl, Or.inr a, c⟩
    · obtain ⟨a, b, c⟩ := h2 q u hq
      have hp := (ch_some (k := 57) (rg_iff.mp e).2 (by omega)).1
      have hlt : 1 ≤ k → p < q := by
        intro hk
        obtain ⟨k', rfl⟩ : ∃ k', k = k' + 1 := ⟨k - 1, by omega⟩
        rw [rnA, e, if_pos rfl] at hq
        have := (rnA_ok (t := t) (E := E) k' (p + 1) (10 * 0 + chN t E p - 48)).2 q u hq
        omega
      refine ⟨?_, a, hlt, by omega⟩
      by_cases e2 : p = q
      · omega
      · exact b (by omega)
end TX
