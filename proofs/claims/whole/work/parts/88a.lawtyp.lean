/-! pure: what a law's code does to the stack -/
def eff (op d : Nat) : Nat := if op ≤ 1 then d + 1 else if op = 2 then d else d - 1
def dp (c : Cd) (a d : Nat) : Nat → Nat
  | 0 => d
  | n + 1 => eff (c (a + n)).1 (dp c a d n)
theorem dp_add {c : Cd} {a d n1 : Nat} : ∀ n2, dp c a d (n1 + n2) = dp c (a + n1) (dp c a d n1) n2
  | 0 => rfl
  | n2 + 1 => by
    show eff (c (a + (n1 + n2))).1 (dp c a d (n1 + n2)) = eff (c (a + n1 + n2)).1 (dp c (a + n1) (dp c a d n1) n2)
    rw [dp_add n2, Nat.add_assoc]
theorem dp_cong {c c' : Cd} {a d : Nat} : ∀ n, (∀ i, a ≤ i → i < a + n → (c' i).1 = (c i).1) → dp c' a d n = dp c a d n
  | 0, _ => rfl
  | n + 1, h => by
    rw [dp, dp, dp_cong n (fun i a b => h i a (by omega)), h (a + n) (by omega) (by omega)]
theorem dp_1 {c : Cd} {a d : Nat} : dp c a d 1 = eff (c a).1 d := rfl
def okE (c : Cd) (k d : Nat) : Prop := ((c k).1 ≤ 1 ∨ (5 ≤ (c k).1 ∧ (c k).1 ≤ 9)) ∧ ((c k).1 ≤ 1 → d < 30) ∧ ((c k).1 = 1 → (c k).2 < 10) ∧ (5 ≤ (c k).1 → 2 ≤ d)
def WE (c : Cd) (a d b : Nat) : Prop := a < b ∧ (∀ n, a + n < b → okE c (a + n) (dp c a d n)) ∧ dp c a d (b - a) = d + 1
theorem WE.cong {c c' : Cd} {a d b : Nat} (h : WE c a d b) (hc : ∀ i, a ≤ i → i < b → c' i = c i) : WE c' a d b := by
  obtain ⟨h1, h2, h3⟩ := h
  refine ⟨h1, fun n hn => ?_, ?_⟩
  · have e := h2 n hn
    rw [dp_cong n (fun i x y => by rw [hc i x (by omega)])]
    unfold okE at e ⊢
    rw [hc (a + n) (by omega) hn]
    exact e
  · rw [dp_cong (b - a) (fun i x y => by rw [hc i x (by omega)])]; exact h3
theorem WE.one {c : Cd} {m d op v : Nat} (ho : op ≤ 1) (hd : d < 30) (hv : op = 1 → v < 10) : WE (updC c m (op, v)) m d (m + 1) := by
  refine ⟨by omega, fun n hn => ?_, ?_⟩
  · obtain rfl : n = 0 := by omega
    unfold okE
    rw [Nat.add_zero, updC_s]
    exact ⟨Or.inl ho, fun _ => hd, hv, fun (q : 5 ≤ op) => by omega⟩
  · rw [show m + 1 - m = 1 by omega, dp_1, updC_s]
    unfold eff
    rw [if_pos ho]
theorem WE.op {c : Cd} {a d b1 b2 op : Nat} (h1 : WE c a d b1) (h2 : WE c b1 (d + 1) b2) (ho : 5 ≤ op) (ho2 : op ≤ 9) : WE (updC c b2 (op, 0)) a d (b2 + 1) := by
  obtain ⟨g1, g2, g3⟩ := h1.cong (c' := updC c b2 (op, 0)) (fun i x y => updC_n (by have := h2.1; omega))
  obtain ⟨k1, k2, k3⟩ := h2.cong (c' := updC c b2 (op, 0)) (fun i x y => updC_n (by omega))
  have e1 : ∀ n, dp (updC c b2 (op, 0)) a d (b1 - a + n) = dp (updC c b2 (op, 0)) b1 (d + 1) n := by
    intro n
    rw [dp_add, g3, show a + (b1 - a) = b1 by omega]
  have e2 : dp (updC c b2 (op, 0)) a d (b2 - a) = d + 2 := by
    rw [show b2 - a = b1 - a + (b2 - b1) by omega, e1, k3]
  refine ⟨by omega, fun n hn => ?_, ?_⟩
  · rcases Nat.lt_or_ge (a + n) b1 with z | z
    · exact g2 n z
    · rcases Nat.lt_or_ge (a + n) b2 with y | y
      · have e3 := k2 (a + n - b1) (by omega)
        rw [show b1 + (a + n - b1) = a + n by omega, ← e1, show b1 - a + (a + n - b1) = n by omega] at e3
        exact e3
      · obtain rfl : n = b2 - a := by omega
        rw [e2, show a + (b2 - a) = b2 by omega]
        unfold okE
        rw [updC_s]
        exact ⟨Or.inr ⟨ho, ho2⟩, fun (q : op ≤ 1) => by omega, fun (q : op = 1) => by omega, fun _ => by omega⟩
  · rw [show b2 + 1 - a = (b2 - a) + 1 by omega, dp, e2, show a + (b2 - a) = b2 by omega, updC_s]
    unfold eff
    rw [if_neg (show ¬ op ≤ 1 by omega), if_neg (show ¬ op = 2 by omega)]
    omega
def TyE (E B : Nat) (sp : Ps) : Prop := ∀ p c m q c' m' d, p ≤ E → d ≤ B → sp p c m = Sum.inr (q, c', m') → WE c' m d m'
section TY
variable {t : Nat → Nat} {E : Nat}
theorem ty_fac {inn : Option Ps} {B : Nat} (hB : B < 30) (hi : ∀ sm, inn = some sm → TyE E B sm) : TyE E B (spF t E inn) := by
  intro p c m q c' m' d hp hd e
  unfold spF at e
  by_cases h1 : chN t E p = 91
  · have hpE := ch_in256 (t := t) (E := E) (p := p) (by omega)
    rw [if_pos h1] at e
    cases inn with
    | none => cases e
    | some sm =>
      have e' : bnC (sm (p + 1) c m) (fun q c' m' => if chN t E q = 93 then Sum.inr (q + 1, c', m') else Sum.inl (fI 1 q)) = Sum.inr (q, c', m') := e
      match e2 : sm (p + 1) c m, e' with
      | Sum.inl f, e' => cases e'
      | Sum.inr (q1, c1, m1), e' =>
        rw [bnC_r] at e'
        by_cases h2 : chN t E q1 = 93
        · rw [if_pos h2] at e'
          cases e'
          exact hi sm rfl (p + 1) c m q1 c' m' d (by omega) hd e2
        · rw [if_neg h2] at e'; cases e'
  · rw [if_neg h1] at e
    by_cases h2 : rg 48 57 (chN t E p) = true
    · rw [if_pos h2] at e
      match e2 : rnA t E 5 p 0, e with
      | Sum.inl f, e => cases e
      | Sum.inr (q1, u), e => cases e; exact WE.one (by omega) (by omega) (fun z => by omega)
    · rw [if_neg h2] at e
      by_cases h3 : fct (chN t E p) = 0
      · rw [if_pos h3] at e; cases e
      · have h10 := (fct_lt h3).2
        rw [if_neg h3] at e
        cases e
        exact WE.one (by omega) (by omega) (fun _ => by omega)
theorem ty_B {opf : Nat → Nat} {it : Ps} {B : Nat} (ho : ∀ x, ¬ opf x = 0 → x < 256 ∧ 5 ≤ opf x ∧ opf x ≤ 9) (hi : PsOK E it) (hT : TyE E (B + 1) it) : TyE E B (spB t E opf it) := by
  have loop : ∀ n q c m q' c' m' m0 d, q ≤ E → d ≤ B → WE c m0 d m → chn t E opf it n q c m = Sum.inr (q', c', m') → WE c' m0 d m' := by
    intro n
    induction n with
    | zero => intro q c m q' c' m' m0 d _ _ _ e; cases e
    | succ n ih =>
      intro q c m q' c' m' m0 d hq hd hW e
      rw [chn] at e
      by_cases h1 : opf (chN t E q) = 0
      · rw [if_pos h1] at e; cases e; exact hW
      · obtain ⟨o1, o2, o3⟩ := ho _ h1
        have hqE := ch_in256 (t := t) (E := E) (p := q) o1
        rw [if_neg h1] at e
        have hT1 := hT (q + 1) c m
        obtain ⟨-, ok⟩ := hi (q + 1) c m (by omega)
        match e2 : it (q + 1) c m, e, hT1, ok with
        | Sum.inl f, e, hT1, ok => cases e
        | Sum.inr (q1, c1, m1), e, hT1, ok =>
          obtain ⟨a1, a2, a3, a4, a5⟩ := ok q1 c1 m1 rfl
          exact ih q1 (updC c1 m1 (opf (chN t E q), 0)) (m1 + 1) q' c' m' m0 d a2 hd ((hW.cong (fun i x y => a5 i y)).op (hT1 q1 c1 m1 (d + 1) (by omega) (by omega) rfl) o2 o3) e
  intro p c m q c' m' d hp hd e
  unfold spB at e
  have hT1 := hT p c m
  obtain ⟨-, ok⟩ := hi p c m hp
  match e2 : it p c m, e, hT1, ok with
  | Sum.inl f, e, hT1, ok => cases e
  | Sum.inr (q1, c1, m1), e, hT1, ok =>
    obtain ⟨a1, a2, a3, a4, a5⟩ := ok q1 c1 m1 rfl
    exact loop 300 q1 c1 m1 q c' m' m d a2 hd (hT1 q1 c1 m1 d hp (by omega) rfl) e
theorem ty_sums : ∀ k o, o + k = 6 → TyE E (2 * o + 1) (smA t E (spE t E k)) := by
  have hS : ∀ x, ¬ opS x = 0 → x < 256 ∧ 5 ≤ opS x ∧ opS x ≤ 9 := fun x h => ⟨opS_lt h, by have := (opS_in h).1; omega, by have := (opS_in h).1; omega⟩
  have hT : ∀ x, ¬ opT x = 0 → x < 256 ∧ 5 ≤ opT x ∧ opT x ≤ 9 := fun x h => ⟨opT_lt h, by have := (opT_in h).1.1; omega, (opT_in h).1.2⟩
  intro k
  induction k with
  | zero =>
    intro o hk
    exact ty_B hS (spB_ok (fun _ => opT_lt) (spF_ok (spE_ok 0))) (ty_B hT (spF_ok (spE_ok 0)) (ty_fac (by omega) (fun sm e => by cases e)))
  | succ k ih =>
    intro o hk
    exact ty_B hS (spB_ok (fun _ => opT_lt) (spF_ok (spE_ok (k + 1)))) (ty_B hT (spF_ok (spE_ok (k + 1))) (ty_fac (by omega) (fun sm e => by cases e; exact ih (o + 1) (by omega))))
end TY
def isB (op : Nat) : Prop := op = 2 ∨ 10 ≤ op
def okC (c : Cd) (k d b : Nat) : Prop := (c k).1 ≤ 12 ∧ ((c k).1 ≤ 1 → d < 30) ∧ ((c k).1 = 1 → (c k).2 < 10) ∧ ((c k).1 = 2 → d = 1 ∧ isB (c (k - 1)).1) ∧ ((c k).1 = 3 ∨ (c k).1 = 4 → d = 1 ∧ isB (c (k - 1)).1 ∧ k < (c k).2 ∧ (c k).2 ≤ b ∧ isB (c ((c k).2 - 1)).1 ∧ dp c k 1 ((c k).2 - k) = 1) ∧ (5 ≤ (c k).1 → 2 ≤ d) ∧ (10 ≤ (c k).1 → d = 2)
theorem okE.okC {c : Cd} {k d b : Nat} (h : okE c k d) : okC c k d b := by
  obtain ⟨h1, h2, h3, h4⟩ := h
  exact ⟨by omega, h2, h3, fun q => by omega, fun q => by omega, h4, fun q => by omega⟩
/-- a whole piece of code: of a sum, of a condition -/
def WG (c : Cd) (a b : Nat) : Prop := a < b ∧ (∀ n, a + n < b → okC c (a + n) (dp c a 0 n) b) ∧ dp c a 0 (b - a) = 1
theorem WE.g {c : Cd} {a b : Nat} (h : WE c a 0 b) : WG c a b := ⟨h.1, fun n hn => (h.2.1 n hn).okC, h.2.2⟩
/-- a condition, but for a leap at x that isn't told yet -/
def WX (c : Cd) (a b : Nat) (x : Option Nat) : Prop := a < b ∧ (∀ n, a + n < b → x ≠ some (a + n) → okC c (a + n) (dp c a 0 n) b) ∧ dp c a 0 (b - a) = 1 ∧ isB (c (b - 1)).1 ∧ (∀ j, x = some j → a < j ∧ j < b ∧ ((c j).1 = 3 ∨ (c j).1 = 4) ∧ dp c a 0 (j - a) = 1 ∧ isB (c (j - 1)).1 ∧ dp c j 1 (b - j) = 1)
theorem WX.g {c : Cd} {a b : Nat} (h : WX c a b none) : WG c a b ∧ isB (c (b - 1)).1 := ⟨⟨h.1, fun n hn => h.2.1 n hn (by intro z; cases z), h.2.2.1⟩, h.2.2.2.1⟩
/-- the code may grow behind, and differ elsewhere -/
theorem okC.cong {c c' : Cd} {k d b b' a : Nat} (h : okC c k d b) (ha : a ≤ k) (hd : d = 1 → a < k) (hk : k < b) (hb : b ≤ b') (hc : ∀ i, a ≤ i → i < b → c' i = c i) : okC c' k d b' := by
  obtain ⟨h1, h2, h3, h4, h5, h6, h7⟩ := h
  unfold okC
  rw [hc k ha hk]
  refine ⟨h1, h2, h3, fun q => ?_, fun q => ?_, h6, h7⟩
  · obtain ⟨g1, g2⟩ := h4 q
    have := hd g1
    rw [hc (k - 1) (by omega) (by omega)]
    exact ⟨g1, g2⟩
  · obtain ⟨g1, g2, g3, g4, g5, g6⟩ := h5 q
    have := hd g1
    rw [hc (k - 1) (by omega) (by omega), hc ((c k).2 - 1) (by omega) (by omega), dp_cong ((c k).2 - k) (fun i x y => by rw [hc i (by omega) (by omega)])]
    exact ⟨g1, g2, g3, by omega, g5, g6⟩
theorem WX.pat {c : Cd} {a b : Nat} {x : Option Nat} (h : WX c a b x) : WX (pat c x b) a b none := by
  cases x with
  | none => exact h
  | some j =>
    obtain ⟨h1, h2, h3, h4, h5⟩ := h
    obtain ⟨j1, j2, j3, j4, j5, j6⟩ := h5 j rfl
    have e1 : ∀ i, (updC c j ((c j).1, b) i).1 = (c i).1 := by
      intro i
      by_cases e : i = j
      · rw [e, updC_s]
      · rw [updC_n e]
    show WX (updC c j ((c j).1, b)) a b none
    have e2 : ∀ a d n, dp (updC c j ((c j).1, b)) a d n = dp c a d n := fun a d n => dp_cong n (fun i _ _ => e1 i)
    refine ⟨h1, fun n hn _ => ?_, by rw [e2]; exact h3, by rw [e1]; exact h4, fun j z => by cases z⟩
    rw [e2]
    by_cases e : a + n = j
    · unfold okC
      rw [e, e1, e1, e1, e2, updC_s]
      refine ⟨by omega, fun q => by omega, fun q => by omega, fun q => by omega, fun _ => ⟨?_, j5, j2, Nat.le_refl b, ?_, ?_⟩, fun q => by omega, fun q => by omega⟩
      · rw [← j4, show j - a = n by omega]
      · exact h4
      · exact j6
    · have g := h2 n hn (fun z => e (by cases z; rfl))
      unfold okC at g ⊢
      rw [e1, e1, updC_n e, e1, e2]
      exact g
section TZ
variable {t : Nat → Nat} {E : Nat}
def TyC (E : Nat) (sp : Ps) : Prop := ∀ p c m q c' m', p ≤ E → sp p c m = Sum.inr (q, c', m') → WX c' m m' none
theorem ty_L {ch op : Nat} {it : Ps} (hch : ch < 256) (ho : op = 3 ∨ op = 4) (hi : PsOK E it) (hT : TyC E it) : TyC E (spL t E ch op it) := by
  have loop : ∀ n l q c m q' c' m' m0, q ≤ E → WX c m0 m l → lch t E ch op it n l q c m = Sum.inr (q', c', m') → WX c' m0 m' none := by
    intro n
    induction n with
    | zero => intro l q c m q' c' m' m0 _ _ e; cases e
    | succ n ih =>
      intro l q c m q' c' m' m0 hq hW e
      rw [lch] at e
      by_cases h1 : chN t E q = ch
      · have hqE := ch_in256 (t := t) (E := E) (p := q) (by omega)
        rw [if_pos h1] at e
        have hT1 := hT (q + 1) (updC (pat c l m) m (op, 0)) (m + 1)
        obtain ⟨-, ok⟩ := hi (q + 1) (updC (pat c l m) m (op, 0)) (m + 1) (by omega)
        match e2 : it (q + 1) (updC (pat c l m) m (op, 0)) (m + 1), e, hT1, ok with
        | Sum.inl f, e, hT1, ok => cases e
        | Sum.inr (q1, c1, m1), e, hT1, ok =>
          obtain ⟨a1, a2, a3, a4, a5⟩ := ok q1 c1 m1 rfl
          obtain ⟨p1, p2, p3, p4, p5⟩ := hW.pat
          obtain ⟨k1, k2, k3, k4, k5⟩ := hT1 q1 c1 m1 (by omega) rfl
          have ec : ∀ i, i < m → c1 i = pat c l m i := fun i hi => by rw [a5 i (by omega), updC_n (by omega)]
          have em : c1 m = (op, 0) := by rw [a5 m (by omega), updC_s]
          have d1 : ∀ x n, m0 ≤ x → x + n ≤ m → ∀ d, dp c1 x d n = dp (pat c l m) x d n := fun x n hx hn d => dp_cong n (fun i u v => by rw [ec i (by omega)])
          have d2 : dp c1 m0 0 (m - m0) = 1 := by rw [d1 m0 _ (by omega) (by omega), p3]
          have ee : eff op 1 = 0 := by unfold eff; rw [if_neg (by omega), if_neg (by omega)]
          have d3 : ∀ n, dp c1 m0 0 (m - m0 + 1 + n) = dp c1 (m + 1) 0 n := by
            intro n
            have d4 : dp c1 m0 0 (m - m0 + 1) = 0 := by rw [dp, d2, show m0 + (m - m0) = m by omega, em]; exact ee
            rw [dp_add, d4, show m0 + (m - m0 + 1) = m + 1 by omega]
          have d5 : ∀ n, dp c1 m 1 (1 + n) = dp c1 (m + 1) 0 n := by
            intro n
            have d6 : dp c1 m 1 1 = 0 := by rw [dp_1, em]; exact ee
            rw [dp_add, d6]
          refine ih (some m) q1 c1 m1 q' c' m' m0 a2 ⟨by omega, fun n hn hx => ?_, ?_, k4, fun j hj => ?_⟩ e
          · have hne : m0 + n ≠ m := fun z => hx (by rw [z])
            rcases Nat.lt_or_ge (m0 + n) m with z | z
            · have g := p2 n z (by intro y; cases y)
              rw [d1 m0 n (Nat.le_refl m0) (by omega)]
              refine g.cong (a := m0) (by omega) (fun y => ?_) z (by omega) (fun i _ hi2 => ec i hi2)
              rcases Nat.eq_zero_or_pos n with y2 | y2
              · rw [y2] at y; cases y
              · omega
            · have g := k2 (m0 + n - (m + 1)) (by omega) (by intro y; cases y)
              rw [show m + 1 + (m0 + n - (m + 1)) = m0 + n by omega, ← d3, show m - m0 + 1 + (m0 + n - (m + 1)) = n by omega] at g
              exact g
          · rw [show m1 - m0 = m - m0 + 1 + (m1 - (m + 1)) by omega, d3]; exact k3
          · cases hj
            refine ⟨by omega, by omega, by rw [em]; exact ho, d2, ?_, ?_⟩
            · rw [ec (m - 1) (by omega)]; exact p4
            · rw [show m1 - m = 1 + (m1 - (m + 1)) by omega, d5]; exact k3
      · rw [if_neg h1] at e; cases e; exact hW.pat
  intro p c m q c' m' hp e
  unfold spL at e
  have hT1 := hT p c m
  obtain ⟨-, ok⟩ := hi p c m hp
  match e2 : it p c m, e, hT1, ok with
  | Sum.inl f, e, hT1, ok => cases e
  | Sum.inr (q1, c1, m1), e, hT1, ok =>
    obtain ⟨a1, a2, a3, a4, a5⟩ := ok q1 c1 m1 rfl
    exact loop 300 none q1 c1 m1 q c' m' m a2 (hT1 q1 c1 m1 hp rfl) e
theorem ty_test {k o : Nat} (hk : o + k = 6) (hG : ∀ ts, spC t E k = some ts → TyC E ts) : TyC E (spT t E (smA t E (spE t E k)) (spC t E k)) := by
  intro p c m q c' m' hp e
  unfold spT at e
  by_cases h1 : chN t E p = 33
  · have hpE := ch_in256 (t := t) (E := E) (p := p) (by omega)
    rw [if_pos h1] at e
    cases k with
    | zero => cases e
    | succ k =>
      have e' : bnC (spT t E (smA t E (spE t E k)) (spC t E k) (p + 1) c m) (fun q c' m' => Sum.inr (q, updC c' m' (2, 0), m' + 1)) = Sum.inr (q, c', m') := e
      have hT1 := hG _ rfl (p + 1) c m
      match e2 : spT t E (smA t E (spE t E k)) (spC t E k) (p + 1) c m, e', hT1 with
      | Sum.inl f, e', hT1 => cases e'
      | Sum.inr (q1, c1, m1), e', hT1 =>
        obtain ⟨k1, k2, k3, k4, k5⟩ := hT1 q1 c1 m1 (by omega) rfl
        cases e'
        have ec : ∀ i, i < m1 → updC c1 m1 (2, 0) i = c1 i := fun i hi => updC_n (by omega)
        have d1 : ∀ n, m + n ≤ m1 → dp (updC c1 m1 (2, 0)) m 0 n = dp c1 m 0 n := fun n hn => dp_cong n (fun i u v => by rw [ec i (by omega)])
        refine ⟨by omega, fun n hn _ => ?_, ?_, ?_, fun j hj => by cases hj⟩
        · rcases Nat.lt_or_ge (m + n) m1 with z | z
          · have g := k2 n z (by intro y; cases y)
            rw [d1 n (by omega)]
            refine g.cong (a := m) (by omega) (fun y => ?_) z (by omega) (fun i _ hi2 => ec i hi2)
            rcases Nat.eq_zero_or_pos n with y2 | y2
            · rw [y2] at y; cases y
            · omega
          · obtain rfl : n = m1 - m := by omega
            rw [d1 _ (by omega), k3, show m + (m1 - m) = m1 by omega]
            unfold okC
            rw [updC_s, ec (m1 - 1) (by omega)]
            exact ⟨by show 2 ≤ 12; omega, fun (z : 2 ≤ 1) => by omega, fun (z : 2 = 1) => by omega, fun _ => ⟨rfl, k4⟩, fun (z : 2 = 3 ∨ 2 = 4) => by omega, fun (z : 5 ≤ 2) => by omega, fun (z : 10 ≤ 2) => by omega⟩
        · rw [show m1 + 1 - m = m1 - m + 1 by omega, dp, d1 _ (by omega), k3, show m + (m1 - m) = m1 by omega, updC_s]; rfl
        · rw [Nat.add_sub_cancel, updC_s]; exact Or.inl rfl
  · rw [if_neg h1] at e
    by_cases h2 : chN t E p = 40
    · have hpE := ch_in256 (t := t) (E := E) (p := p) (by omega)
      rw [if_pos h2] at e
      cases k with
      | zero => cases e
      | succ k =>
        have e' : bnC (spL t E 124 3 (spL t E 38 4 (spT t E (smA t E (spE t E k)) (spC t E k))) (p + 1) c m) (fun q c' m' => if chN t E q = 41 then Sum.inr (q + 1, c', m') else Sum.inl (fI 1 q)) = Sum.inr (q, c', m') := e
        have hts := spC_ok (t := t) (E := E) (k + 1) _ rfl
        have hT1 := ty_L (t := t) (E := E) (ch := 124) (op := 3) (it := spL t E 38 4 (spT t E (smA t E (spE t E k)) (spC t E k))) (by omega) (Or.inl rfl) (spL_ok (by omega) hts) (ty_L (ch := 38) (op := 4) (by omega) (Or.inr rfl) hts (hG _ rfl)) (p + 1) c m
        match e2 : spL t E 124 3 (spL t E 38 4 (spT t E (smA t E (spE t E k)) (spC t E k))) (p + 1) c m, e', hT1 with
        | Sum.inl f, e', hT1 => cases e'
        | Sum.inr (q1, c1, m1), e', hT1 =>
          rw [bnC_r] at e'
          by_cases h3 : chN t E q1 = 41
          · rw [if_pos h3] at e'
            cases e'
            exact hT1 q1 c' m' (by omega) rfl
          · rw [if_neg h3] at e'; cases e'
    · rw [if_neg h2] at e
      have hs1 := ty_sums (t := t) (E := E) k o hk p c m
      have ok1 := smA_ok (t := t) (E := E) (spE_ok (t := t) k) p c m hp
      match e2 : smA t E (spE t E k) p c m, e, hs1, ok1 with
      | Sum.inl f, e, hs1, ok1 => cases e
      | Sum.inr (q1, c1, m1), e, hs1, ok1 =>
        obtain ⟨a1, a2, a3, a4, a5⟩ := ok1.2 q1 c1 m1 rfl
        rw [bnC_r] at e
        by_cases h3 : cmpO (chN t E q1) = 0
        · rw [if_pos h3] at e; cases e
        · obtain ⟨c10, c12⟩ := cmp_in h3
          have hqE := ch_in256 (t := t) (E := E) (p := q1) (cmp_lt h3)
          rw [if_neg h3] at e
          have hs2 := ty_sums (t := t) (E := E) k o hk (q1 + 1) c1 m1
          have ok2 := smA_ok (t := t) (E := E) (spE_ok (t := t) k) (q1 + 1) c1 m1 (by omega)
          match e3 : smA t E (spE t E k) (q1 + 1) c1 m1, e, hs2, ok2 with
          | Sum.inl f, e, hs2, ok2 => cases e
          | Sum.inr (q2, c2, m2), e, hs2, ok2 =>
            obtain ⟨b1, b2, b3, b4, b5⟩ := ok2.2 q2 c2 m2 rfl
            obtain ⟨u1, u2, u3⟩ := (hs1 q1 c1 m1 0 hp (by omega) rfl).cong (c' := updC c2 m2 (cmpO (chN t E q1), 0)) (fun i x y => by rw [updC_n (by omega), b5 i y])
            obtain ⟨v1, v2, v3⟩ := (hs2 q2 c2 m2 1 (by omega) (by omega) rfl).cong (c' := updC c2 m2 (cmpO (chN t E q1), 0)) (fun i x y => updC_n (by omega))
            cases e
            have f1 : ∀ n, dp (updC c2 m2 (cmpO (chN t E q1), 0)) m 0 (m1 - m + n) = dp (updC c2 m2 (cmpO (chN t E q1), 0)) m1 1 n := by
              intro n
              rw [dp_add, u3, show m + (m1 - m) = m1 by omega]
            have f2 : dp (updC c2 m2 (cmpO (chN t E q1), 0)) m 0 (m2 - m) = 2 := by rw [show m2 - m = m1 - m + (m2 - m1) by omega, f1, v3]
            refine ⟨by omega, fun n hn _ => ?_, ?_, ?_, fun j hj => by cases hj⟩
            · rcases Nat.lt_or_ge (m + n) m1 with z | z
              · exact (u2 n z).okC
              · rcases Nat.lt_or_ge (m + n) m2 with y | y
                · have g := v2 (m + n - m1) (by omega)
                  rw [show m1 + (m + n - m1) = m + n by omega, ← f1, show m1 - m + (m + n - m1) = n by omega] at g
                  exact g.okC
                · obtain rfl : n = m2 - m := by omega
                  rw [f2, show m + (m2 - m) = m2 by omega]
                  unfold okC
                  rw [updC_s]
                  exact ⟨c12, fun (z : cmpO (chN t E q1) ≤ 1) => by omega, fun (z : cmpO (chN t E q1) = 1) => by omega, fun (z : cmpO (chN t E q1) = 2) => by omega, fun (z : cmpO (chN t E q1) = 3 ∨ cmpO (chN t E q1) = 4) => by omega, fun _ => by omega, fun _ => rfl⟩
            · rw [show m2 + 1 - m = m2 - m + 1 by omega, dp, f2, show m + (m2 - m) = m2 by omega, updC_s]
              unfold eff
              rw [if_neg (show ¬ cmpO (chN t E q1) ≤ 1 by omega), if_neg (show ¬ cmpO (chN t E q1) = 2 by omega)]
            · rw [Nat.add_sub_cancel, updC_s]; exact Or.inr c10
theorem ty_conds : ∀ k o ts, o + k = 6 → spC t E (k + 1) = some ts → TyC E ts := by
  intro k
  induction k with
  | zero => intro o ts hk e; cases e; exact ty_test hk (fun ts e => by cases e)
  | succ k ih => intro o ts hk e; cases e; exact ty_test hk (fun ts e => ih (o + 1) ts (by omega) e)
end TZ
