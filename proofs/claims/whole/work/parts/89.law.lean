/-! pure: law -/
theorem WG.cong {c c' : Cd} {a b : Nat} (h : WG c a b) (hc : ∀ i, i < b → c' i = c i) : WG c' a b := by
  obtain ⟨h1, h2, h3⟩ := h
  have d1 : ∀ k, a + k ≤ b → dp c' a 0 k = dp c a 0 k := fun k hk => dp_cong k (fun i u v => by rw [hc i (by omega)])
  refine ⟨h1, fun k hk => ?_, by rw [d1 (b - a) (by omega)]; exact h3⟩
  rw [d1 k (by omega)]
  refine (h2 k hk).cong (a := a) (by omega) (fun y => ?_) hk (Nat.le_refl b) (fun i _ hi => hc i hi)
  rcases Nat.eq_zero_or_pos k with z | z
  · rw [z] at y; cases y
  · omega
def tsx (t : Nat → Nat) (E : Nat) : Ps := spT t E (smA t E (spE t E 5)) (spC t E 5)
theorem tsx_e {t : Nat → Nat} {E : Nat} : spC t E 6 = some (tsx t E) := rfl
def spV (t : Nat → Nat) (E : Nat) : Ps := fun p c m => if chN t E p = 120 then Sum.inr (p + 1, c, m) else smA t E (spE t E 6) (p + 1) c m
def okL (x : Nat) : Prop := x = 102 ∨ x = 101 ∨ x = 120
abbrev RR := Sum Int32 (Nat × Cd × Nat × Nat)
def spR (t : Nat → Nat) (E r p : Nat) (c : Cd) (m : Nat) : RR :=
  if chN t E p = 102 ∨ chN t E p = 101 ∨ chN t E p = 120 then
    (if r = 16 then Sum.inl (fI 4 p) else match spV t E p c m with
      | Sum.inl f => Sum.inl f
      | Sum.inr (q1, c1, m1) => match spCo t E (tsx t E) q1 c1 m1 with
        | Sum.inl f => Sum.inl f
        | Sum.inr (q2, c2, m2) => Sum.inr (q2, c2, m2, m1))
  else Sum.inl (fI 1 p)
section LW
variable {bytes tape : Nat → Int32} {t : Nat → Nat} {n E : Nat}
theorem tsx_ok : PsOK E (tsx t E) := spC_ok 6 _ rfl
theorem spV_ok (p : Nat) (c : Cd) (m : Nat) (hp : p < E) : (∀ f, spV t E p c m = Sum.inl f → ∃ k q, 0 < k ∧ k < 7 ∧ q ≤ E ∧ f = fI k q) ∧ (∀ q c' m', spV t E p c m = Sum.inr (q, c', m') → p < q ∧ q ≤ E ∧ m ≤ m' ∧ m' + p + 1 ≤ m + q ∧ (∀ i, i < m → c' i = c i) ∧ (chN t E p ≠ 120 → WG c' m m')) := by
  unfold spV
  by_cases h1 : chN t E p = 120
  · rw [if_pos h1]
    refine ⟨fun f hf => (by cases hf), fun q c' m' e => ?_⟩
    cases e
    exact ⟨by omega, by omega, Nat.le_refl _, by omega, fun i _ => rfl, fun z => absurd h1 z⟩
  · rw [if_neg h1]
    obtain ⟨a1, a2⟩ := smA_ok (t := t) (E := E) (spE_ok (t := t) 6) (p + 1) c m (by omega)
    refine ⟨a1, fun q c' m' e => ?_⟩
    obtain ⟨b1, b2, b3, b4, b5⟩ := a2 q c' m' e
    exact ⟨by omega, b2, by omega, by omega, b5, fun _ => (ty_sums (t := t) (E := E) 6 0 (by omega) (p + 1) c m q c' m' 0 (by omega) (by omega) e).g⟩
theorem spCo_ty (p : Nat) (c : Cd) (m q : Nat) (c' : Cd) (m' : Nat) (hp : p ≤ E) (e : spCo t E (tsx t E) p c m = Sum.inr (q, c', m')) : WG c' m m' ∧ isB (c' (m' - 1)).1 := by
  unfold spCo at e
  by_cases h1 : chN t E p = 40
  · have hpE := ch_in256 (t := t) (E := E) (p := p) (by omega)
    rw [if_pos h1] at e
    have hT1 := ty_L (t := t) (E := E) (ch := 124) (op := 3) (it := spL t E 38 4 (tsx t E)) (by omega) (Or.inl rfl) (spL_ok (by omega) tsx_ok) (ty_L (ch := 38) (op := 4) (by omega) (Or.inr rfl) tsx_ok (ty_conds 5 1 _ (by omega) rfl)) (p + 1) c m
    match e2 : spL t E 124 3 (spL t E 38 4 (tsx t E)) (p + 1) c m, e, hT1 with
    | Sum.inl f, e, hT1 => cases e
    | Sum.inr (q1, c1, m1), e, hT1 =>
      have hw := hT1 q1 c1 m1 (by omega) rfl
      rw [bnC_r] at e
      by_cases h3 : chN t E q1 = 41
      · rw [if_pos h3] at e
        cases e
        exact hw.g
      · rw [if_neg h3] at e; cases e
  · rw [if_neg h1] at e; cases e
theorem spR_ok (r p : Nat) (c : Cd) (m : Nat) (hp : p ≤ E) : (∀ f, spR t E r p c m = Sum.inl f → ∃ k q, 0 < k ∧ k < 7 ∧ q ≤ E ∧ f = fI k q) ∧ (∀ q2 c2 m2 m1, spR t E r p c m = Sum.inr (q2, c2, m2, m1) → p < E ∧ p < q2 ∧ q2 ≤ E ∧ m ≤ m1 ∧ m1 < m2 ∧ m2 + p ≤ m + q2 ∧ (∀ i, i < m → c2 i = c i) ∧ WG c2 m1 m2 ∧ isB (c2 (m2 - 1)).1 ∧ (chN t E p ≠ 120 → WG c2 m m1) ∧ r ≠ 16) := by
  unfold spR
  by_cases h1 : chN t E p = 102 ∨ chN t E p = 101 ∨ chN t E p = 120
  · have hpE := ch_in256 (t := t) (E := E) (p := p) (by omega)
    rw [if_pos h1]
    by_cases h2 : r = 16
    · rw [if_pos h2]
      exact ⟨fun f hf => ⟨4, p, by omega, by omega, hp, (Sum.inl.inj hf).symm⟩, fun q2 c2 m2 m1 e => (by cases e)⟩
    · rw [if_neg h2]
      obtain ⟨a1, a2⟩ := spV_ok (t := t) (E := E) p c m hpE
      match e1 : spV t E p c m, a1, a2 with
      | Sum.inl f, a1, a2 => exact ⟨fun f' hf => by obtain rfl := Sum.inl.inj hf; exact a1 _ rfl, fun q2 c2 m2 m1 e => (by cases e)⟩
      | Sum.inr (q1, c1, m1), a1, a2 =>
        obtain ⟨b1, b2, b3, b4, b5, b6⟩ := a2 q1 c1 m1 rfl
        obtain ⟨k1, k2⟩ := spCo_ok (t := t) (E := E) (tsx_ok (t := t)) q1 c1 m1 b2
        have k3 := spCo_ty (t := t) (E := E) q1 c1 m1
        show (∀ f, (match spCo t E (tsx t E) q1 c1 m1 with | Sum.inl f => Sum.inl f | Sum.inr (q2, c2, m2) => Sum.inr (q2, c2, m2, m1) : RR) = Sum.inl f → _) ∧ (∀ q2 c2 m2 m1', (match spCo t E (tsx t E) q1 c1 m1 with | Sum.inl f => Sum.inl f | Sum.inr (q2, c2, m2) => Sum.inr (q2, c2, m2, m1) : RR) = Sum.inr (q2, c2, m2, m1') → _)
        match e2 : spCo t E (tsx t E) q1 c1 m1, k1, k2, k3 with
        | Sum.inl f, k1, k2, k3 => exact ⟨fun f' hf => by obtain rfl := Sum.inl.inj hf; exact k1 _ rfl, fun q2 c2 m2 m1 e => (by cases e)⟩
        | Sum.inr (q2, c2, m2), k1, k2, k3 =>
          obtain ⟨d1, d2, d3, d4, d5⟩ := k2 q2 c2 m2 rfl
          obtain ⟨g1, g2⟩ := k3 q2 c2 m2 b2 rfl
          refine ⟨fun f hf => (by cases hf), fun q3 c3 m3 m4 e => ?_⟩
          cases e
          exact ⟨hpE, by omega, d2, b3, by omega, by omega, fun i hi => by rw [d5 i (by omega), b5 i hi], g1, g2, fun z => (b6 z).cong (fun i hi => d5 i hi), h2⟩
  · rw [if_neg h1]
    exact ⟨fun f hf => ⟨1, p, by omega, by omega, hp, (Sum.inl.inj hf).symm⟩, fun q2 c2 m2 m1 e => (by cases e)⟩
theorem f_addR {L TE TF VF : Nat → Int32} {r : Nat} {sz a1 a2 a3 : Int32} (hr : r < 16) : f_X1_addRule L TE TF VF (nI r) sz a1 a2 a3 = some (upd L r a1, upd TE r sz, upd TF r a3, upd VF r a2, nI (r + 1)) := by
  unfold f_X1_addRule f_X1_addRule_b62
  rw [if_neg (ge16 hr), sI_n (by omega) (by omega), sI_n (by omega) (by omega), sI_n (by omega) (by omega), sI_n (by omega) (by omega), nI_1]
def cBad (f : Int32) (o : Option ((Nat → Int32) × (Nat → Int32) × (Nat → Int32) × (Nat → Int32) × (Nat → Int32) × Int32 × Int32 × Int32 × Int32)) : Prop := ∃ x1 x2 x3 x4 x5 x6 x7 x9, o = some (x1, x2, x3, x4, x5, x6, x7, f, x9)
theorem cl_b82F {code L TE TF VF : Nat → Int32} {r m : Nat} {f q l1 l2 : Int32} (hm : m ≤ 240) (hr : r < 16) (hf : ¬ f = 0) : cBad f (f_X2_readRule_b82 bytes (nI E) (nI n) code L TE TF VF (nI r) (nI m) f q l1 l2) := by
  obtain ⟨c1, m1, e1, h1⟩ := lqF_tests (bytes := bytes) (n := n) (E := E) 37 code m q f 1 hm hf
  have e1' : f_X2_readAny DP code bytes (nI m) (nI E) f q (nI n) 1 = _ := e1
  unfold f_X2_readRule_b82
  rw [f_take9f hf (by decide), bd2_s, e1', bd4_s, f_take9f hf (by decide), bd2_s, f_addR hr, bd5_s]
  exact ⟨_, _, _, _, _, _, _, _, rfl⟩
theorem cl_b82 (h : TX bytes tape t n E) (hE : E ≤ 240) {code L TE TF VF : Nat → Int32} {c : Cd} {r m1 q1 : Nat} {l1 l2 : Int32} (hK : KC code c m1) (hm : m1 ≤ q1) (hq : q1 ≤ E) (hr : r < 16) : (∀ f, spCo t E (tsx t E) q1 c m1 = Sum.inl f → cBad f (f_X2_readRule_b82 bytes (nI E) (nI n) code L TE TF VF (nI r) (nI m1) 0 (nI q1) l1 l2)) ∧ (∀ q2 c2 m2, spCo t E (tsx t E) q1 c m1 = Sum.inr (q2, c2, m2) → ∃ code2, f_X2_readRule_b82 bytes (nI E) (nI n) code L TE TF VF (nI r) (nI m1) 0 (nI q1) l1 l2 = some (code2, upd L r l1, upd TE r (nI m2), upd TF r (nI m1), upd VF r l2, nI (r + 1), nI m2, 0, nI q2) ∧ KC code2 c2 m2) := by
  unfold f_X2_readRule_b82 spCo
  rw [show (40 : Int32) = nI 40 from rfl, f_take9 h (by omega) (by omega)]
  by_cases h1 : chN t E q1 = 40
  · have hpE := ch_in256 (t := t) (E := E) (p := q1) (by omega)
    obtain ⟨g1, g2⟩ := (lq_conds h hE 5 1 (tsx t E) (by omega) rfl).2 DP (by decide) code c m1 (q1 + 1) hK (by omega) (by omega)
    obtain ⟨i1, i2⟩ := spL_ok (t := t) (E := E) (ch := 124) (op := 3) (by omega) (spL_ok (ch := 38) (op := 4) (by omega) tsx_ok) (q1 + 1) c m1 (by omega)
    rw [if_pos h1, if_pos h1, bd2_s]
    match e : spL t E 124 3 (spL t E 38 4 (tsx t E)) (q1 + 1) c m1, g1, g2, i1, i2 with
    | Sum.inl f, g1, g2, i1, i2 =>
      obtain ⟨x1, y1, z1, e1, e2⟩ := g1 f rfl
      obtain ⟨kk, qq, b1, b2, b3, rfl⟩ := i1 f rfl
      have e1' : f_X2_readAny DP code bytes (nI m1) (nI E) 0 (nI (q1 + 1)) (nI n) 1 = _ := e1
      rw [e1', bd4_s, f_take9f (fI_ne b1 b2 (by omega)) (by decide), bd2_s, f_addR hr, bd5_s]
      exact ⟨fun f' hf => by obtain rfl := Sum.inl.inj hf; exact ⟨_, _, _, _, _, _, _, _, rfl⟩, fun q2 c2 m2 e => (by cases e)⟩
    | Sum.inr (q', c', m'), g1, g2, i1, i2 =>
      obtain ⟨x1, e1, e2⟩ := g2 q' c' m' rfl
      obtain ⟨a1, a2, a3, a4, a5⟩ := i2 q' c' m' rfl
      have e1' : f_X2_readAny DP code bytes (nI m1) (nI E) 0 (nI (q1 + 1)) (nI n) 1 = _ := e1
      rw [e1', bd4_s, show (41 : Int32) = nI 41 from rfl, f_take9 h (by omega) (by omega), bnC_r]
      by_cases h2 : chN t E q' = 41
      · rw [if_pos h2, if_pos h2, bd2_s, f_addR hr, bd5_s]
        refine ⟨fun f hf => (by cases hf), fun q2 c2 m2 e => ?_⟩
        cases e
        exact ⟨x1, rfl, e2⟩
      · rw [if_neg h2, if_neg h2, bd2_s, f_addR hr, bd5_s]
        exact ⟨fun f' hf => by obtain rfl := Sum.inl.inj hf; exact ⟨_, _, _, _, _, _, _, _, rfl⟩, fun q2 c2 m2 e => (by cases e)⟩
  · have hfn := fI_ne (k := 1) (q := q1) (by omega) (by omega) (by omega)
    obtain ⟨c1, y1, e1, h3⟩ := lqF_tests (bytes := bytes) (n := n) (E := E) 37 code m1 (nI q1) (fI 1 q1) 1 (by omega) hfn
    have e1' : f_X2_readAny DP code bytes (nI m1) (nI E) (fI 1 q1) (nI q1) (nI n) 1 = _ := e1
    rw [if_neg h1, if_neg h1, bd2_s, e1', bd4_s, f_take9f hfn (by decide), bd2_s, f_addR hr, bd5_s]
    exact ⟨fun f' hf => by obtain rfl := Sum.inl.inj hf; exact ⟨_, _, _, _, _, _, _, _, rfl⟩, fun q2 c2 m2 e => (by cases e)⟩
theorem cl_rule (h : TX bytes tape t n E) (hE : E ≤ 240) {code L TE TF VF : Nat → Int32} {c : Cd} {r m p : Nat} (hK : KC code c m) (hm : m ≤ p) (hp : p ≤ E) (hr : r ≤ 16) : (∀ f, spR t E r p c m = Sum.inl f → cBad f (f_X2_readRule code L TE TF VF bytes (nI r) (nI m) (nI E) 0 (nI p) (nI n))) ∧ (∀ q2 c2 m2 m1, spR t E r p c m = Sum.inr (q2, c2, m2, m1) → ∃ code2, f_X2_readRule code L TE TF VF bytes (nI r) (nI m) (nI E) 0 (nI p) (nI n) = some (code2, upd L r (chI t E p), upd TE r (nI m2), upd TF r (nI m1), upd VF r (nI m), nI (r + 1), nI m2, 0, nI q2) ∧ KC code2 c2 m2) := by
  unfold f_X2_readRule
  rw [f_sign9 h (by omega), bd1_s, ite_ch h (c := 102) (k := 102) rfl (by omega), ite_ch h (c := 101) (k := 101) rfl (by omega), ite_ch h (c := 120) (k := 120) rfl (by omega)]
  by_cases h1 : chN t E p = 102 ∨ chN t E p = 101 ∨ chN t E p = 120
  · have hpE := ch_in256 (t := t) (E := E) (p := p) (by omega)
    have eif : ∀ (X Y : Option ((Nat → Int32) × (Nat → Int32) × (Nat → Int32) × (Nat → Int32) × (Nat → Int32) × Int32 × Int32 × Int32 × Int32)), (if chN t E p = 102 then X else if chN t E p = 101 then X else if chN t E p = 120 then X else Y) = X := by
      intro X Y
      rcases h1 with z | z | z
      · rw [if_pos z]
      · rw [if_pos z, ite_self]
      · rw [if_pos z, ite_self, ite_self]
    rw [eif]
    unfold f_X2_readRule_b35 spR
    rw [if_pos h1, lt_16, ite_nlt (by omega) (by omega)]
    by_cases h2 : r = 16
    · rw [if_pos h2, if_neg (by omega), show (4 : Int32) = nI 4 from rfl, f_fail9, bd1_s]
      exact ⟨fun f' hf => by obtain rfl := Sum.inl.inj hf; exact ⟨_, _, _, _, _, _, _, _, rfl⟩, fun q2 c2 m2 m1 e => (by cases e)⟩
    · rw [if_neg h2, if_pos (show r < 16 by omega), f_step9 (by omega) hpE, bd1_s, ite_ch h (c := 120) (k := 120) rfl (by omega)]
      unfold spV
      by_cases h3 : chN t E p = 120
      · obtain ⟨g1, g2⟩ := cl_b82 h hE (L := L) (TE := TE) (TF := TF) (VF := VF) (l1 := chI t E p) (l2 := nI m) hK (show m ≤ p + 1 by omega) (by omega) (show r < 16 by omega)
        rw [if_pos h3, if_pos h3]
        show (∀ f, (match spCo t E (tsx t E) (p + 1) c m with | Sum.inl f => Sum.inl f | Sum.inr (q2, c2, m2) => Sum.inr (q2, c2, m2, m) : RR) = Sum.inl f → _) ∧ (∀ q2 c2 m2 m1', (match spCo t E (tsx t E) (p + 1) c m with | Sum.inl f => Sum.inl f | Sum.inr (q2, c2, m2) => Sum.inr (q2, c2, m2, m) : RR) = Sum.inr (q2, c2, m2, m1') → _)
        match e2 : spCo t E (tsx t E) (p + 1) c m, g1, g2 with
        | Sum.inl f, g1, g2 => exact ⟨fun f' hf => by obtain rfl := Sum.inl.inj hf; exact g1 _ rfl, fun q2 c2 m2 m1 e => (by cases e)⟩
        | Sum.inr (q2, c2, m2), g1, g2 =>
          obtain ⟨x1, e3, e4⟩ := g2 q2 c2 m2 rfl
          refine ⟨fun f hf => (by cases hf), fun q3 c3 m3 m4 e => ?_⟩
          cases e
          exact ⟨x1, e3, e4⟩
      · obtain ⟨g1, g2⟩ := lq_sums h hE 6 0 DP (by omega) (by decide) code c m (p + 1) hK (by omega) (by omega)
        obtain ⟨i1, i2⟩ := smA_ok (t := t) (E := E) (spE_ok (t := t) 6) (p + 1) c m (by omega)
        rw [if_neg h3, if_neg h3]
        match e2 : smA t E (spE t E 6) (p + 1) c m, g1, g2, i1, i2 with
        | Sum.inl f, g1, g2, i1, i2 =>
          obtain ⟨x1, y1, z1, e3, e4⟩ := g1 f rfl
          obtain ⟨kk, qq, b1, b2, b3, rfl⟩ := i1 f rfl
          have e3' : f_X2_readSum DP code bytes (nI m) (nI E) 0 (nI (p + 1)) (nI n) 0 = _ := e3
          rw [e3', bd4_s]
          refine ⟨fun f' hf => ?_, fun q2 c2 m2 m1 e => (by cases e)⟩
          obtain rfl := Sum.inl.inj hf
          exact cl_b82F e4 (by omega) (fI_ne b1 b2 (by omega))
        | Sum.inr (q1, c1, m1), g1, g2, i1, i2 =>
          obtain ⟨x1, e3, e4⟩ := g2 q1 c1 m1 rfl
          obtain ⟨a1, a2, a3, a4, a5⟩ := i2 q1 c1 m1 rfl
          have e3' : f_X2_readSum DP code bytes (nI m) (nI E) 0 (nI (p + 1)) (nI n) 0 = _ := e3
          obtain ⟨g3, g4⟩ := cl_b82 h hE (L := L) (TE := TE) (TF := TF) (VF := VF) (l1 := chI t E p) (l2 := nI m) e4 (show m1 ≤ q1 by omega) a2 (show r < 16 by omega)
          rw [e3', bd4_s]
          show (∀ f, (match spCo t E (tsx t E) q1 c1 m1 with | Sum.inl f => Sum.inl f | Sum.inr (q2, c2, m2) => Sum.inr (q2, c2, m2, m1) : RR) = Sum.inl f → _) ∧ (∀ q2 c2 m2 m1', (match spCo t E (tsx t E) q1 c1 m1 with | Sum.inl f => Sum.inl f | Sum.inr (q2, c2, m2) => Sum.inr (q2, c2, m2, m1) : RR) = Sum.inr (q2, c2, m2, m1') → _)
          match e2 : spCo t E (tsx t E) q1 c1 m1, g3, g4 with
          | Sum.inl f, g3, g4 => exact ⟨fun f' hf => by obtain rfl := Sum.inl.inj hf; exact g3 _ rfl, fun q2 c2 m2 m1 e => (by cases e)⟩
          | Sum.inr (q2, c2, m2), g3, g4 =>
            obtain ⟨x2, e5, e6⟩ := g4 q2 c2 m2 rfl
            refine ⟨fun f hf => (by cases hf), fun q3 c3 m3 m4 e => ?_⟩
            cases e
            exact ⟨x2, e5, e6⟩
  · unfold spR
    rw [if_neg (fun z => h1 (Or.inl z)), if_neg (fun z => h1 (Or.inr (Or.inl z))), if_neg (fun z => h1 (Or.inr (Or.inr z))), if_neg h1, show (1 : Int32) = nI 1 from rfl, f_fail9, bd1_s]
    exact ⟨fun f' hf => by obtain rfl := Sum.inl.inj hf; exact ⟨_, _, _, _, _, _, _, _, rfl⟩, fun q2 c2 m2 m1 e => (by cases e)⟩
end LW
