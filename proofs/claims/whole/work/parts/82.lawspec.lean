/-! pure: a law, read by a parser of its own (spec): what every answer keeps -/
abbrev Cd := Nat → Nat × Nat
abbrev CR := Sum Int32 (Nat × Cd × Nat)
abbrev Ps := Nat → Cd → Nat → CR
def updC (c : Cd) (i : Nat) (x : Nat × Nat) : Cd := fun k => if k = i then x else c k
theorem updC_s {c : Cd} {i : Nat} {x : Nat × Nat} : updC c i x i = x := if_pos rfl
theorem updC_n {c : Cd} {i k : Nat} {x : Nat × Nat} (h : k ≠ i) : updC c i x k = c k := if_neg h
def bnC (r : CR) (k : Nat → Cd → Nat → CR) : CR := match r with
  | Sum.inl f => Sum.inl f
  | Sum.inr (q, c, m) => k q c m
theorem bnC_l {f : Int32} {k : Nat → Cd → Nat → CR} : bnC (Sum.inl f) k = Sum.inl f := rfl
theorem bnC_r {q : Nat} {c : Cd} {m : Nat} {k : Nat → Cd → Nat → CR} : bnC (Sum.inr (q, c, m)) k = k q c m := rfl
def fct (x : Nat) : Nat := if x = 98 then 1 else if x = 107 then 2 else if x = 119 then 3 else if x = 118 then 4 else if x = 110 then 5 else if x = 115 then 6 else if x = 113 then 7 else if x = 105 then 8 else if x = 100 then 9 else if x = 117 then 10 else 0
def spF (t : Nat → Nat) (E : Nat) (inn : Option Ps) : Ps := fun p c m =>
  if chN t E p = 91 then (match inn with
    | none => Sum.inl (fI 5 p)
    | some sm => bnC (sm (p + 1) c m) (fun q c' m' => if chN t E q = 93 then Sum.inr (q + 1, c', m') else Sum.inl (fI 1 q)))
  else if rg 48 57 (chN t E p) then (match rnA t E 5 p 0 with
    | Sum.inl f => Sum.inl f
    | Sum.inr (q, u) => Sum.inr (q, updC c m (0, u), m + 1))
  else if fct (chN t E p) = 0 then Sum.inl (fI 1 p) else Sum.inr (p + 1, updC c m (1, fct (chN t E p) - 1), m + 1)
def chn (t : Nat → Nat) (E : Nat) (opf : Nat → Nat) (it : Ps) : Nat → Nat → Cd → Nat → CR
  | 0, _, _, _ => Sum.inl (fI 1 0)
  | n + 1, q, c, m => if opf (chN t E q) = 0 then Sum.inr (q, c, m) else bnC (it (q + 1) c m) (fun q' c' m' => chn t E opf it n q' (updC c' m' (opf (chN t E q), 0)) (m' + 1))
def spB (t : Nat → Nat) (E : Nat) (opf : Nat → Nat) (it : Ps) : Ps := fun p c m => bnC (it p c m) (chn t E opf it 300)
def opT (x : Nat) : Nat := if x = 42 then 7 else if x = 47 then 8 else if x = 37 then 9 else 0
def opS (x : Nat) : Nat := if x = 43 then 5 else if x = 45 then 6 else 0
def smA (t : Nat → Nat) (E : Nat) (inn : Option Ps) : Ps := spB t E opS (spB t E opT (spF t E inn))
def spE (t : Nat → Nat) (E : Nat) : Nat → Option Ps
  | 0 => none
  | k + 1 => some (smA t E (spE t E k))
def cmpO (x : Nat) : Nat := if x = 60 then 10 else if x = 62 then 11 else if x = 61 then 12 else 0
def pat (c : Cd) (l : Option Nat) (m : Nat) : Cd := match l with
  | none => c
  | some j => updC c j ((c j).1, m)
def lch (t : Nat → Nat) (E : Nat) (ch op : Nat) (it : Ps) : Nat → Option Nat → Nat → Cd → Nat → CR
  | 0, _, _, _, _ => Sum.inl (fI 1 0)
  | n + 1, l, q, c, m => if chN t E q = ch then bnC (it (q + 1) (updC (pat c l m) m (op, 0)) (m + 1)) (fun q' c' m' => lch t E ch op it n (some m) q' c' m') else Sum.inr (q, pat c l m, m)
def spL (t : Nat → Nat) (E : Nat) (ch op : Nat) (it : Ps) : Ps := fun p c m => bnC (it p c m) (lch t E ch op it 300 none)
def spT (t : Nat → Nat) (E : Nat) (sm : Ps) (inn : Option Ps) : Ps := fun p c m =>
  if chN t E p = 33 then (match inn with
    | none => Sum.inl (fI 5 p)
    | some ts => bnC (ts (p + 1) c m) (fun q c' m' => Sum.inr (q, updC c' m' (2, 0), m' + 1)))
  else if chN t E p = 40 then (match inn with
    | none => Sum.inl (fI 5 p)
    | some ts => bnC (spL t E 124 3 (spL t E 38 4 ts) (p + 1) c m) (fun q c' m' => if chN t E q = 41 then Sum.inr (q + 1, c', m') else Sum.inl (fI 1 q)))
  else bnC (sm p c m) (fun q c1 m1 => if cmpO (chN t E q) = 0 then Sum.inl (fI 1 q) else bnC (sm (q + 1) c1 m1) (fun q2 c2 m2 => Sum.inr (q2, updC c2 m2 (cmpO (chN t E q), 0), m2 + 1)))
def spC (t : Nat → Nat) (E : Nat) : Nat → Option Ps
  | 0 => none
  | k + 1 => some (spT t E (smA t E (spE t E k)) (spC t E k))
/-- what is right of an answer that began at place p, with m instructions, of which the first m0 stay; d: it went on -/
def POX (E d p m0 : Nat) (c : Cd) (m : Nat) (r : CR) : Prop := (∀ f, r = Sum.inl f → ∃ k q, 0 < k ∧ k < 7 ∧ q ≤ E ∧ f = fI k q) ∧ (∀ q c' m', r = Sum.inr (q, c', m') → p + d ≤ q ∧ q ≤ E ∧ m + d ≤ m' ∧ m' + p ≤ m + q ∧ ∀ i, i < m0 → c' i = c i)
def PsOK (E : Nat) (ps : Ps) : Prop := ∀ p c m, p ≤ E → POX E 1 p m c m (ps p c m)
theorem POX.bad {E d p m0 m k q : Nat} {c : Cd} (h0 : 0 < k) (h1 : k < 7) (h2 : q ≤ E) : POX E d p m0 c m (Sum.inl (fI k q)) := ⟨fun f hf => ⟨k, q, h0, h1, h2, (Sum.inl.inj hf).symm⟩, fun q c' m' hq => (by cases hq)⟩
theorem POX.good {E d p m0 m q m' : Nat} {c c' : Cd} (h0 : p + d ≤ q) (h1 : q ≤ E) (h2 : m + d ≤ m') (h3 : m' + p ≤ m + q) (h4 : ∀ i, i < m0 → c' i = c i) : POX E d p m0 c m (Sum.inr (q, c', m')) := ⟨fun f hf => (by cases hf), fun q2 c2 m2 hq => by cases hq; exact ⟨h0, h1, h2, h3, h4⟩⟩
theorem POX.mono {E d d1 p p1 m0 m m1 : Nat} {c c1 : Cd} {r : CR} (h : POX E d1 p1 m0 c1 m1 r) (hp : p + d ≤ p1 + d1) (hm : m + d ≤ m1 + d1) (hpm : m1 + p ≤ m + p1) (hc : ∀ i, i < m0 → c1 i = c i) : POX E d p m0 c m r := by
  refine ⟨h.1, fun q c' m' e => ?_⟩
  obtain ⟨a1, a2, a3, a4, a5⟩ := h.2 q c' m' e
  exact ⟨by omega, a2, by omega, by omega, fun i hi => by rw [a5 i hi, hc i hi]⟩
/-- an item, then more -/
theorem POX.bn {E d p p1 m0 m1 m : Nat} {c c1 : Cd} {it : Ps} {k : Nat → Cd → Nat → CR} (hi : PsOK E it) (hp1 : p1 ≤ E) (hk : ∀ q c' m', p1 < q → q ≤ E → m1 < m' → m' + p1 ≤ m1 + q → (∀ i, i < m1 → c' i = c1 i) → POX E d p m0 c m (k q c' m')) : POX E d p m0 c m (bnC (it p1 c1 m1) k) := by
  obtain ⟨h1, h2⟩ := hi p1 c1 m1 hp1
  match e : it p1 c1 m1, h1, h2 with
  | Sum.inl f, h1, h2 =>
    obtain ⟨k, q, a, b, c, rfl⟩ := h1 f rfl
    exact POX.bad a b c
  | Sum.inr (q, c', m'), h1, h2 =>
    obtain ⟨a, b, c, d, f⟩ := h2 q c' m' rfl
    exact hk q c' m' a b c d f
theorem fct_lt {x : Nat} (h : ¬ fct x = 0) : x < 256 ∧ fct x ≤ 10 := by
  rcases Nat.lt_or_ge x 120 with z | z
  · exact ⟨by omega, (by decide +kernel : ∀ y, y < 120 → fct y ≤ 10) x z⟩
  · exfalso
    apply h
    unfold fct
    rw [if_neg (by omega), if_neg (by omega), if_neg (by omega), if_neg (by omega), if_neg (by omega), if_neg (by omega), if_neg (by omega), if_neg (by omega), if_neg (by omega), if_neg (by omega)]
theorem opT_lt {x : Nat} (h : ¬ opT x = 0) : x < 256 := by
  rcases Nat.lt_or_ge x 256 with z | z
  · exact z
  · exfalso; apply h; unfold opT; rw [if_neg (by omega), if_neg (by omega), if_neg (by omega)]
theorem opS_lt {x : Nat} (h : ¬ opS x = 0) : x < 256 := by
  rcases Nat.lt_or_ge x 256 with z | z
  · exact z
  · exfalso; apply h; unfold opS; rw [if_neg (by omega), if_neg (by omega)]
theorem cmp_lt {x : Nat} (h : ¬ cmpO x = 0) : x < 256 := by
  rcases Nat.lt_or_ge x 256 with z | z
  · exact z
  · exfalso; apply h; unfold cmpO; rw [if_neg (by omega), if_neg (by omega), if_neg (by omega)]
theorem ch_in256 {t : Nat → Nat} {E p : Nat} (h : chN t E p < 256) : p < E := (ch_some (t := t) (k := 255) (by omega) (by omega)).1
section SO
variable {t : Nat → Nat} {E : Nat}
theorem spF_ok {inn : Option Ps} (hi : ∀ sm, inn = some sm → PsOK E sm) : PsOK E (spF t E inn) := by
  intro p c m hp
  unfold spF
  by_cases h1 : chN t E p = 91
  · have hpE := ch_in256 (t := t) (E := E) (p := p) (by omega)
    rw [if_pos h1]
    cases inn with
    | none => exact POX.bad (by omega) (by omega) hp
    | some sm =>
      refine POX.bn (hi sm rfl) (by omega) (fun q c' m' a1 a2 a3 a4 a5 => ?_)
      by_cases h2 : chN t E q = 93
      · have hq := ch_in256 (t := t) (E := E) (p := q) (by omega)
        rw [if_pos h2]
        exact POX.good (by omega) (by omega) (by omega) (by omega) a5
      · rw [if_neg h2]; exact POX.bad (by omega) (by omega) a2
  · rw [if_neg h1]
    cases h2 : rg 48 57 (chN t E p) with
    | true =>
      have h3 := rg_iff.mp h2
      have hpE := ch_in256 (t := t) (E := E) (p := p) (by omega)
      obtain ⟨r1, r2⟩ := rnA_ok (t := t) (E := E) 5 p 0
      have r3 : ∀ q u, rnA t E 5 p 0 = Sum.inr (q, u) → p + 1 ≤ q := by
        intro q u e
        rw [rnA, if_pos h2] at e
        exact ((rnA_ok (t := t) (E := E) 4 (p + 1) (10 * 0 + chN t E p - 48)).2 q u e).1
      rw [if_pos rfl]
      match e : rnA t E 5 p 0, r1, r2, r3 with
      | Sum.inl f, r1, r2, r3 =>
        obtain ⟨q, a, b, rfl⟩ := r1 f rfl
        exact POX.bad (by omega) (by omega) (by omega)
      | Sum.inr (q, u), r1, r2, r3 =>
        obtain ⟨a, b, c9⟩ := r2 q u rfl
        have r4 := r3 q u rfl
        exact POX.good (by omega) (b (by omega)) (by omega) (by omega) (fun i hi => updC_n (by omega))
    | false =>
      rw [if_neg ft_ne]
      by_cases h3 : fct (chN t E p) = 0
      · rw [if_pos h3]; exact POX.bad (by omega) (by omega) hp
      · have hpE := ch_in256 (t := t) (E := E) (p := p) (fct_lt h3).1
        rw [if_neg h3]
        exact POX.good (by omega) (by omega) (by omega) (by omega) (fun i hi => updC_n (by omega))
theorem chn_ok {opf : Nat → Nat} {it : Ps} (ho : ∀ x, ¬ opf x = 0 → x < 256) (hi : PsOK E it) : ∀ n q c m m0, m0 ≤ m → q ≤ E → POX E 0 q m0 c m (chn t E opf it n q c m)
  | 0, q, c, m, m0, _, _ => POX.bad (by omega) (by omega) (Nat.zero_le E)
  | n + 1, q, c, m, m0, hm, hq => by
    rw [chn]
    by_cases h1 : opf (chN t E q) = 0
    · rw [if_pos h1]; exact POX.good (by omega) hq (by omega) (by omega) (fun i hi => rfl)
    · have hqE := ch_in256 (t := t) (E := E) (p := q) (ho _ h1)
      rw [if_neg h1]
      refine POX.bn hi (by omega) (fun q' c' m' a1 a2 a3 a4 a5 => ?_)
      exact (chn_ok ho hi n q' _ (m' + 1) m0 (by omega) a2).mono (by omega) (by omega) (by omega) (fun i hi => by rw [updC_n (by omega), a5 i (by omega)])
theorem spB_ok {opf : Nat → Nat} {it : Ps} (ho : ∀ x, ¬ opf x = 0 → x < 256) (hi : PsOK E it) : PsOK E (spB t E opf it) := by
  intro p c m hp
  refine POX.bn hi hp (fun q c' m' a1 a2 a3 a4 a5 => ?_)
  exact (chn_ok ho hi 300 q c' m' m (by omega) a2).mono (by omega) (by omega) (by omega) a5
theorem smA_ok {inn : Option Ps} (hi : ∀ sm, inn = some sm → PsOK E sm) : PsOK E (smA t E inn) := spB_ok (fun _ => opS_lt) (spB_ok (fun _ => opT_lt) (spF_ok hi))
theorem spE_ok : ∀ k sm, spE t E k = some sm → PsOK E sm
  | 0, sm, h => by cases h
  | k + 1, sm, h => by
    cases h
    exact smA_ok (spE_ok k)
theorem pat_lt {c : Cd} {l : Option Nat} {m m0 i : Nat} (hl : ∀ j, l = some j → m0 ≤ j) (hi : i < m0) : pat c l m i = c i := by
  cases l with
  | none => rfl
  | some j =>
    have := hl j rfl
    exact updC_n (by omega)
theorem lch_ok {ch op : Nat} {it : Ps} (ho : ch < 256) (hi : PsOK E it) : ∀ n l q c m m0, m0 ≤ m → (∀ j, l = some j → m0 ≤ j) → q ≤ E → POX E 0 q m0 c m (lch t E ch op it n l q c m)
  | 0, l, q, c, m, m0, _, _, _ => POX.bad (by omega) (by omega) (Nat.zero_le E)
  | n + 1, l, q, c, m, m0, hm, hl, hq => by
    rw [lch]
    by_cases h1 : chN t E q = ch
    · have hqE := ch_in256 (t := t) (E := E) (p := q) (by omega)
      rw [if_pos h1]
      refine POX.bn hi (by omega) (fun q' c' m' a1 a2 a3 a4 a5 => ?_)
      exact (lch_ok ho hi n (some m) q' c' m' m0 (by omega) (fun j hj => by cases hj; exact hm) a2).mono (by omega) (by omega) (by omega) (fun i hi => by rw [a5 i (by omega), updC_n (by omega), pat_lt hl hi])
    · rw [if_neg h1]
      exact POX.good (by omega) hq (by omega) (by omega) (fun i hi => pat_lt hl hi)
theorem spL_ok {ch op : Nat} {it : Ps} (ho : ch < 256) (hi : PsOK E it) : PsOK E (spL t E ch op it) := by
  intro p c m hp
  refine POX.bn hi hp (fun q c' m' a1 a2 a3 a4 a5 => ?_)
  exact (lch_ok ho hi 300 none q c' m' m (by omega) (fun j hj => by cases hj) a2).mono (by omega) (by omega) (by omega) a5
theorem spT_ok {sm : Ps} {inn : Option Ps} (hs : PsOK E sm) (hi : ∀ ts, inn = some ts → PsOK E ts) : PsOK E (spT t E sm inn) := by
  intro p c m hp
  unfold spT
  by_cases h1 : chN t E p = 33
  · have hpE := ch_in256 (t := t) (E := E) (p := p) (by omega)
    rw [if_pos h1]
    cases inn with
    | none => exact POX.bad (by omega) (by omega) hp
    | some ts =>
      refine POX.bn (hi ts rfl) (by omega) (fun q c' m' a1 a2 a3 a4 a5 => ?_)
      exact POX.good (by omega) a2 (by omega) (by omega) (fun i hi => by rw [updC_n (by omega), a5 i hi])
  · rw [if_neg h1]
    by_cases h2 : chN t E p = 40
    · have hpE := ch_in256 (t := t) (E := E) (p := p) (by omega)
      rw [if_pos h2]
      cases inn with
      | none => exact POX.bad (by omega) (by omega) hp
      | some ts =>
        refine POX.bn (spL_ok (by omega) (spL_ok (by omega) (hi ts rfl))) (by omega) (fun q c' m' a1 a2 a3 a4 a5 => ?_)
        by_cases h2 : chN t E q = 41
        · have hq := ch_in256 (t := t) (E := E) (p := q) (by omega)
          rw [if_pos h2]
          exact POX.good (by omega) (by omega) (by omega) (by omega) a5
        · rw [if_neg h2]; exact POX.bad (by omega) (by omega) a2
    · rw [if_neg h2]
      refine POX.bn hs hp (fun q c1 m1 a1 a2 a3 a4 a5 => ?_)
      by_cases h3 : cmpO (chN t E q) = 0
      · rw [if_pos h3]; exact POX.bad (by omega) (by omega) a2
      · have hq := ch_in256 (t := t) (E := E) (p := q) (cmp_lt h3)
        rw [if_neg h3]
        refine POX.bn hs (by omega) (fun q2 c2 m2 b1 b2 b3 b4 b5 => ?_)
        exact POX.good (by omega) b2 (by omega) (by omega) (fun i hi => by rw [updC_n (by omega), b5 i (by omega), a5 i hi])
theorem spC_ok : ∀ k ts, spC t E k = some ts → PsOK E ts
  | 0, ts, h => by cases h
  | k + 1, ts, h => by
    cases h
    exact spT_ok (smA_ok (spE_ok k)) (spC_ok k)
end SO
theorem ix_all : ∀ k, k < 256 → f_J0_indexOf_0f7a4 (((nI k).toUInt32 % 65536).toInt32) = some (if fct k = 0 then -1 else nI (fct k - 1)) := by decide +kernel
theorem fo_all : ∀ k, k < 256 → f_X12_factOf (nI k) = some (if fct k = 0 then -1 else nI (fct k - 1)) := by decide +kernel
