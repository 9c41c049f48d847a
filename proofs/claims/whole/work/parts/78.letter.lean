/-! pure: a letter, as a parser of its own (spec), and both readers against it -/
theorem ft_ne : ¬ (false = true) := by decide
theorem ite_ch {ρ : Type} {bytes tape : Nat → Int32} {t : Nat → Nat} {n E : Nat} (h : TX bytes tape t n E) {p k : Nat} {c : Int32} (hc : c = nI k) (hk : k < 256) {x y : ρ} : (if chI t E p = c then x else y) = (if chN t E p = k then x else y) := by
  subst hc
  by_cases q : chN t E p = k
  · rw [if_pos q, if_pos (by rw [chI_eq h hk]; exact q)]
  · rw [if_neg q, if_neg (by rw [chI_eq h hk]; exact q)]
def updN (W : Nat → Nat) (i v : Nat) : Nat → Nat := fun k => if k = i then v else W k
theorem updN_s {W : Nat → Nat} {i v : Nat} : updN W i v i = v := if_pos rfl
theorem updN_n {W : Nat → Nat} {i v k : Nat} (h : k ≠ i) : updN W i v k = W k := if_neg h
def lx (W : Nat → Nat) (many m : Nat) : Nat → Nat → Nat
  | 0 => W
  | j + 1 => updN (lx W many m j) (m + j) (lx W many m j (m + j - many))
theorem lx_lt {W : Nat → Nat} {many m : Nat} (hW : ∀ i, i < m → W i < 16) (h0 : 0 < many) (h1 : many ≤ m) : ∀ j i, i < m + j → lx W many m j i < 16
  | 0, i, hi => hW i hi
  | j + 1, i, hi => by
    have ih := lx_lt hW h0 h1 j
    rw [lx]
    by_cases e : i = m + j
    · rw [e, updN_s]; exact ih _ (by omega)
    · rw [updN_n e]; exact ih _ (by omega)
def ltT (t : Nat → Nat) (E p : Nat) : Nat := if rg 50 57 (chN t E p) then chN t E p - 48 else 1
def ltQ (t : Nat → Nat) (E p : Nat) : Nat := if rg 50 57 (chN t E p) then p + 1 else p
abbrev LR := Sum Int32 (Nat × (Nat → Nat) × Nat)
def ltR (W : Nat → Nat) (m fr tm a0 q : Nat) : LR := if fr + (m - fr) * tm ≤ 48 then Sum.inr (q, lx W (m - fr) m ((m - fr) * (tm - 1)), fr + (m - fr) * tm) else Sum.inl (fI 6 a0)
def ltI (t : Nat → Nat) (E : Nat) (inn : Option (Nat → (Nat → Nat) → Nat → LR)) (p : Nat) (W : Nat → Nat) (m : Nat) : LR :=
  if rg 97 112 (chN t E (ltQ t E p)) then ltR (updN W m (chN t E (ltQ t E p) - 97)) (m + 1) m (ltT t E p) p (ltQ t E p + 1)
  else if chN t E (ltQ t E p) = 40 then
    match inn with
    | none => Sum.inl (fI 5 (ltQ t E p))
    | some ws => match ws (ltQ t E p + 1) W m with
      | Sum.inl f => Sum.inl f
      | Sum.inr (q, W', m') => if chN t E q = 41 then ltR W' m' m (ltT t E p) p (q + 1) else Sum.inl (fI 1 q)
  else Sum.inl (fI 1 (ltQ t E p))
def ltW (t : Nat → Nat) (E : Nat) (it : Nat → (Nat → Nat) → Nat → LR) : Nat → Nat → (Nat → Nat) → Nat → LR
  | 0, _, _, _ => Sum.inl (fI 1 0)
  | n + 1, p, W, m => match it p W m with
    | Sum.inl f => Sum.inl f
    | Sum.inr (q, W', m') => if E ≤ q ∨ chN t E q = 41 then Sum.inr (q, W', m') else ltW t E it n q W' m'
def ltN (t : Nat → Nat) (E : Nat) : Nat → Option (Nat → (Nat → Nat) → Nat → LR)
  | 0 => none
  | k + 1 => some (ltW t E (ltI t E (ltN t E k)) 100)
/-- what is right of every answer -/
def LOK (E p m : Nat) (r : LR) : Prop := (∀ f, r = Sum.inl f → ∃ k q, 0 < k ∧ k < 7 ∧ q ≤ E ∧ f = fI k q) ∧ (∀ q W' m', r = Sum.inr (q, W', m') → p < q ∧ q ≤ E ∧ m < m' ∧ m' ≤ 48 ∧ ∀ i, i < m' → W' i < 16)
theorem LOK.bad {E p m k q : Nat} (h0 : 0 < k) (h1 : k < 7) (h2 : q ≤ E) : LOK E p m (Sum.inl (fI k q)) := ⟨fun f hf => ⟨k, q, h0, h1, h2, (Sum.inl.inj hf).symm⟩, fun q W' m' hq => by cases hq⟩
theorem ltT_in {t : Nat → Nat} {E p : Nat} : ∃ s, s + 1 ≤ 9 ∧ ltT t E p = s + 1 := by
  unfold ltT
  cases e : rg 50 57 (chN t E p) with
  | true =>
    obtain ⟨h1, h2⟩ := rg_iff.mp e
    exact ⟨chN t E p - 49, by omega, by rw [if_pos rfl]; omega⟩
  | false => exact ⟨0, by omega, by rw [if_neg ft_ne]⟩
theorem ltQ_in {t : Nat → Nat} {E p : Nat} (hp : p ≤ E) : p ≤ ltQ t E p ∧ ltQ t E p ≤ E := by
  unfold ltQ
  cases e : rg 50 57 (chN t E p) with
  | true =>
    rw [if_pos rfl]
    have := (ch_some (k := 57) (rg_iff.mp e).2 (by omega)).1
    omega
  | false => rw [if_neg ft_ne]; omega
theorem ltR_ok {E p m0 : Nat} {W : Nat → Nat} {m fr s a0 q : Nat} (hW : ∀ i, i < m → W i < 16) (hf : fr < m) (hm : m0 < m) (ha : a0 ≤ E) (hq : p < q) (hq2 : q ≤ E) : LOK E p m0 (ltR W m fr (s + 1) a0 q) := by
  unfold ltR
  split
  · rename_i h
    refine ⟨fun f hf => (by cases hf), fun q' W' m' hr => ?_⟩
    cases hr
    have e : fr + (m - fr) * (s + 1) = m + (m - fr) * s := by rw [Nat.mul_succ]; omega
    refine ⟨hq, hq2, by omega, h, fun i hi => ?_⟩
    rw [Nat.add_sub_cancel]
    exact lx_lt hW (by omega) (by omega) _ i (by omega)
  · exact LOK.bad (by omega) (by omega) ha
theorem ltI_ok {t : Nat → Nat} {E : Nat} {inn : Option (Nat → (Nat → Nat) → Nat → LR)} (hi : ∀ ws, inn = some ws → ∀ p W m, p ≤ E → m ≤ 48 → (∀ i, i < m → W i < 16) → LOK E p m (ws p W m)) {p m : Nat} {W : Nat → Nat} (hp : p ≤ E) (hm : m ≤ 48) (hW : ∀ i, i < m → W i < 16) : LOK E p m (ltI t E inn p W m) := by
  obtain ⟨q1, q2⟩ := ltQ_in (t := t) hp
  obtain ⟨s, hs, es⟩ := ltT_in (t := t) (E := E) (p := p)
  unfold ltI
  rw [es]
  cases e : rg 97 112 (chN t E (ltQ t E p)) with
  | true =>
    obtain ⟨c1, c2⟩ := rg_iff.mp e
    have q3 := (ch_some (k := 112) c2 (by omega)).1
    rw [if_pos rfl]
    refine ltR_ok (fun i hi => ?_) (by omega) (by omega) hp (by omega) (by omega)
    by_cases ei : i = m
    · rw [ei, updN_s]; omega
    · rw [updN_n ei]; exact hW i (by omega)
  | false =>
    rw [if_neg ft_ne]
    by_cases e2 : chN t E (ltQ t E p) = 40
    · have q3 := (ch_some (k := 40) (Nat.le_of_eq e2) (by omega)).1
      rw [if_pos e2]
      cases inn with
      | none => exact LOK.bad (by omega) (by omega) q2
      | some ws =>
        have h := hi ws rfl (ltQ t E p + 1) W m (by omega) hm hW
        show LOK E p m (match ws (ltQ t E p + 1) W m with | Sum.inl f => Sum.inl f | Sum.inr (q, W', m') => if chN t E q = 41 then ltR W' m' m (s + 1) p (q + 1) else Sum.inl (fI 1 q))
        match e3 : ws (ltQ t E p + 1) W m, h with
        | Sum.inl f, h =>
          obtain ⟨k, q, a, b, c, rfl⟩ := h.1 f rfl
          exact LOK.bad a b c
        | Sum.inr (q, W', m'), h =>
          obtain ⟨a, b, c, d, e4⟩ := h.2 q W' m' rfl
          show LOK E p m (if chN t E q = 41 then ltR W' m' m (s + 1) p (q + 1) else Sum.inl (fI 1 q))
          by_cases e5 : chN t E q = 41
          · have q4 := (ch_some (k := 41) (Nat.le_of_eq e5) (by omega)).1
            rw [if_pos e5]
            exact ltR_ok e4 (by omega) (by omega) hp (by omega) (by omega)
          · rw [if_neg e5]; exact LOK.bad (by omega) (by omega) b
    · rw [if_neg e2]; exact LOK.bad (by omega) (by omega) q2
theorem ltW_ok {t : Nat → Nat} {E : Nat} {it : Nat → (Nat → Nat) → Nat → LR} (hi : ∀ p W m, p ≤ E → m ≤ 48 → (∀ i, i < m → W i < 16) → LOK E p m (it p W m)) : ∀ n p W m, p ≤ E → m ≤ 48 → (∀ i, i < m → W i < 16) → LOK E p m (ltW t E it n p W m)
  | 0, p, W, m, hp, hm, hW => LOK.bad (by omega) (by omega) (Nat.zero_le E)
  | n + 1, p, W, m, hp, hm, hW => by
    have h := hi p W m hp hm hW
    rw [ltW]
    match e3 : it p W m, h with
    | Sum.inl f, h =>
      obtain ⟨k, q, a, b, c, rfl⟩ := h.1 f rfl
      exact LOK.bad a b c
    | Sum.inr (q, W', m'), h =>
      obtain ⟨a, b, c, d, e4⟩ := h.2 q W' m' rfl
      show LOK E p m (if E ≤ q ∨ chN t E q = 41 then Sum.inr (q, W', m') else ltW t E it n q W' m')
      by_cases e5 : E ≤ q ∨ chN t E q = 41
      · rw [if_pos e5]
        exact ⟨fun f hf => (by cases hf), fun q2 W2 m2 hq => by cases hq; exact ⟨a, b, c, d, e4⟩⟩
      · rw [if_neg e5]
        obtain ⟨r1, r2⟩ := ltW_ok hi n q W' m' b d e4
        refine ⟨r1, fun q2 W2 m2 hq => ?_⟩
        obtain ⟨a', b', c', d', e'⟩ := r2 q2 W2 m2 hq
        exact ⟨by omega, b', by omega, d', e'⟩
theorem ltN_ok {t : Nat → Nat} {E : Nat} : ∀ k, ∀ ws, ltN t E k = some ws → ∀ p W m, p ≤ E → m ≤ 48 → (∀ i, i < m → W i < 16) → LOK E p m (ws p W m)
  | 0, ws, h => by cases h
  | k + 1, ws, h => by
    cases h
    intro p W m hp hm hW
    exact ltW_ok (fun p W m hp hm hW => ltI_ok (ltN_ok k) hp hm hW) 100 p W m hp hm hW
/-! the class -/
def EN (a : Nat → Int32) (W : Nat → Nat) (m : Nat) : Prop := ∀ i, i < m → W i < 16 ∧ a i = nI (W i)
theorem EN.put {a : Nat → Int32} {W : Nat → Nat} {m v : Nat} (h : EN a W m) (hv : v < 16) : EN (upd a m (nI v)) (updN W m v) (m + 1) := by
  intro i hi
  by_cases e : i = m
  · rw [e, updN_s, pk_us]; exact ⟨hv, rfl⟩
  · rw [updN_n e, pk_un e]; exact h i (by omega)
theorem f_put3 {a : Nat → Int32} {m : Nat} {x : Int32} (hm : m ≤ 48) : f_X3_put a (nI m) x = some (upd a m x, nI (m + 1)) := by
  unfold f_X3_put f_X3_put_b36
  rw [if_neg (nI_pos (by omega)), if_neg (by rw [show (48 : Int32) = nI 48 from rfl, nlt (by omega) (by omega)]; omega), sI_n (by omega) (by omega), nI_1]
theorem f_dAt3 {a : Nat → Int32} {m : Nat} (hm : m ≤ 48) : f_X3_draftedAt a (nI m) = some (a m) := by
  unfold f_X3_draftedAt f_X3_draftedAt_b20
  rw [if_neg (nI_pos (by omega)), if_neg (by rw [show (48 : Int32) = nI 48 from rfl, nlt (by omega) (by omega)]; omega), gI_n (by omega) (by omega)]
theorem f_rep3 {W : Nat → Nat} {many m more : Nat} (h0 : 0 < many) (h1 : many ≤ m) (h2 : m + more ≤ 48) : ∀ d j fu (a : Nat → Int32), j + d = more → d < fu → EN a (lx W many m j) (m + j) → ∃ a', f_X3_repeat_b41 fu a (nI (m + j)) 0 (nI many) (nI more) (nI j) = some (a', nI (m + more), 0) ∧ EN a' (lx W many m more) (m + more) := by
  intro d
  induction d with
  | zero =>
    intro j fu a hj hf h
    obtain ⟨fu, rfl⟩ : ∃ x, fu = x + 1 := ⟨fu - 1, by omega⟩
    obtain rfl : j = more := by omega
    rw [f_X3_repeat_b41, if_pos (by rw [nle (by omega) (by omega)]; omega)]
    exact ⟨a, rfl, h⟩
  | succ d ih =>
    intro j fu a hj hf h
    obtain ⟨fu, rfl⟩ : ∃ x, fu = x + 1 := ⟨fu - 1, by omega⟩
    obtain ⟨e1, e2⟩ := h (m + j - many) (by omega)
    rw [f_X3_repeat_b41, if_neg (by rw [nle (by omega) (by omega)]; omega), pk_sub (by omega), f_dAt3 (by omega), bd1_s, f_put3 (by omega), bd2_s, e2, nI_1]
    exact ih (j + 1) fu _ (by omega) (by omega) (h.put e1)
theorem f_rp3 {a : Nat → Int32} {W : Nat → Nat} {m fr s a0 : Nat} (h : EN a W m) (hf : fr < m) (hm : m ≤ 49) (hs : s + 1 ≤ 9) : (fr + (m - fr) * (s + 1) ≤ 48 → ∃ a', f_X3_repeat a (nI m) 0 (nI fr) (nI (s + 1)) (nI a0) = some (a', nI (fr + (m - fr) * (s + 1)), 0) ∧ EN a' (lx W (m - fr) m ((m - fr) * (s + 1 - 1))) (fr + (m - fr) * (s + 1))) ∧ (¬ fr + (m - fr) * (s + 1) ≤ 48 → f_X3_repeat a (nI m) 0 (nI fr) (nI (s + 1)) (nI a0) = some (a, nI m, fI 6 a0)) := by
  have e : fr + (m - fr) * (s + 1) = m + (m - fr) * s := by rw [Nat.mul_succ]; omega
  have hb : (m - fr) * (s + 1) ≤ 49 * 9 := Nat.mul_le_mul (by omega) hs
  unfold f_X3_repeat
  rw [pk_sub (a := m) (b := fr) (by omega), pk_mul, nI_add, show (1 : Int32) = nI 1 from rfl, pk_sub (a := s + 1) (b := 1) (by omega), pk_mul, show (48 : Int32) = nI 48 from rfl, ite_nle (by omega) (by omega), Nat.add_sub_cancel]
  refine ⟨fun hl => ?_, fun hl => ?_⟩
  · rw [if_pos hl]
    obtain ⟨a', e1, e2⟩ := f_rep3 (W := W) (many := m - fr) (m := m) (more := (m - fr) * s) (by omega) (by omega) (by omega) ((m - fr) * s) 0 FU a (by omega) (FU_gt (by omega)) h
    refine ⟨a', ?_, ?_⟩
    · rw [e]; exact e1
    · rw [e]; exact e2
  · rw [if_neg hl]
    unfold f_X9_failAt f_X9_failAt_b18
    rw [if_pos rfl, bd1_s]; rfl
theorem fI_ne {k q : Nat} (h0 : 0 < k) (h1 : k < 7) (h2 : q < 270) : ¬ fI k q = 0 := (fI_all k h1 q h2 h0).2
section LC
variable {bytes tape : Nat → Int32} {t : Nat → Nat} {n E : Nat}
/-- a words' reader of the class against one of the spec -/
def LcW (bytes : Nat → Int32) (n E : Nat) (G : (Nat → Int32) → (Nat → Int32) → Int32 → Int32 → Int32 → Int32 → Int32 → Int32 → Option ((Nat → Int32) × Int32 × Int32 × Int32)) (o : Nat) (ws : Nat → (Nat → Nat) → Nat → LR) : Prop :=
  ∀ a p W m, EN a W m → m ≤ 48 → p ≤ E → (∀ f, ws p W m = Sum.inl f → ∃ a' m' q, G a bytes (nI m) (nI E) 0 (nI p) (nI n) (nI o) = some (a', m', f, nI q) ∧ q ≤ E) ∧ (∀ q W' m', ws p W m = Sum.inr (q, W', m') → ∃ a', G a bytes (nI m) (nI E) 0 (nI p) (nI n) (nI o) = some (a', nI m', 0, nI q) ∧ EN a' W' m')
theorem f_rdI3f {G1 G2 : (Nat → Int32) → (Nat → Int32) → Int32 → Int32 → Int32 → Int32 → Int32 → Int32 → Option ((Nat → Int32) × Int32 × Int32 × Int32)} {a : Nat → Int32} {m f p l2 l3 l4 : Int32} (hf : ¬ f = 0) : f_X3_readItem_b145 G1 G2 a m f p l2 l3 l4 = some (a, m, f, p) := by
  unfold f_X3_readItem_b145 f_X3_readItem_b163
  rw [f_failed1 hf, bd1_s, if_neg one_ne]
theorem lc_rep {G1 G2 : (Nat → Int32) → (Nat → Int32) → Int32 → Int32 → Int32 → Int32 → Int32 → Int32 → Option ((Nat → Int32) × Int32 × Int32 × Int32)} {a : Nat → Int32} {W : Nat → Nat} {m fr s a0 q : Nat} (h : EN a W m) (hf : fr < m) (hm : m ≤ 49) (hs : s + 1 ≤ 9) (hq : q ≤ E) : (∀ f, ltR W m fr (s + 1) a0 q = Sum.inl f → ∃ a' m' q', f_X3_readItem_b145 G1 G2 a (nI m) 0 (nI q) (nI a0) (nI fr) (nI (s + 1)) = some (a', m', f, nI q') ∧ q' ≤ E) ∧ (∀ q' W' m', ltR W m fr (s + 1) a0 q = Sum.inr (q', W', m') → ∃ a', f_X3_readItem_b145 G1 G2 a (nI m) 0 (nI q) (nI a0) (nI fr) (nI (s + 1)) = some (a', nI m', 0, nI q') ∧ EN a' W' m') := by
  obtain ⟨h1, h2⟩ := f_rp3 (a0 := a0) h hf hm hs
  unfold f_X3_readItem_b145 f_X3_readItem_b163 ltR
  rw [f_failed0, bd1_s, if_pos rfl]
  by_cases hl : fr + (m - fr) * (s + 1) ≤ 48
  · obtain ⟨a', e1, e2⟩ := h1 hl
    rw [if_pos hl, e1, bd3_s]
    refine ⟨fun f hf => (by cases hf), fun q' W' m' hr => ?_⟩
    cases hr
    exact ⟨a', rfl, e2⟩
  · rw [if_neg hl, h2 hl, bd3_s]
    refine ⟨fun f hf => ?_, fun q' W' m' hr => (by cases hr)⟩
    obtain rfl := Sum.inl.inj hf
    exact ⟨a, nI m, q, rfl, hq⟩
theorem lc_item (h : TX bytes tape t n E) {G1 G2 : (Nat → Int32) → (Nat → Int32) → Int32 → Int32 → Int32 → Int32 → Int32 → Int32 → Option ((Nat → Int32) × Int32 × Int32 × Int32)} {o k : Nat} (hk : o + k = 2) (hE : E ≤ 60) (hG : ∀ ws, ltN t E k = some ws → LcW bytes n E G1 (o + 1) ws) : LcW bytes n E (fo_X3_readItem G1 G2) o (ltI t E (ltN t E k)) := by
  intro a p W m hA hm hp
  obtain ⟨q1, q2⟩ := ltQ_in (t := t) hp
  obtain ⟨s, hs, es⟩ := ltT_in (t := t) (E := E) (p := p)
  have hE2 : E ≤ 260 := by omega
  have key : fo_X3_readItem G1 G2 a bytes (nI m) (nI E) 0 (nI p) (nI n) (nI o) = f_X3_readItem_b52 G1 G2 bytes (nI E) (nI n) (nI o) a (nI m) 0 (nI (ltQ t E p)) (nI p) (nI m) (nI (ltT t E p)) := by
    unfold fo_X3_readItem ltQ ltT
    rw [f_sign9 h (by omega), bd1_s, show (50 : Int32) = nI 50 from rfl, show (57 : Int32) = nI 57 from rfl, f_within_ch h (by omega) (by omega), bd1_s, ite_bI]
    cases e : rg 50 57 (chN t E p) with
    | true =>
      obtain ⟨c1, c2, -⟩ := ch_some (k := 57) (rg_iff.mp e).2 (by omega)
      rw [if_pos rfl, if_pos rfl, if_pos rfl, bd1_s, f_step9 hE2 c1, bd1_s, c2, show (48 : Int32) = nI 48 from rfl, pk_sub (by have := (rg_iff.mp e).1; omega)]
    | false => rw [if_neg ft_ne, if_neg ft_ne, if_neg ft_ne]; rfl
  rw [key, es]
  unfold f_X3_readItem_b52 ltI
  rw [f_sign9 h (by omega), bd1_s, f_wsg11 h, bd1_s, ite_bI, es]
  cases e : rg 97 112 (chN t E (ltQ t E p)) with
  | true =>
    obtain ⟨c1, c2, -⟩ := ch_some (k := 112) (rg_iff.mp e).2 (by omega)
    have c3 := rg_iff.mp e
    rw [if_pos rfl, if_pos rfl, c2, show (97 : Int32) = nI 97 from rfl, pk_sub (by omega), f_put3 hm, bd2_s, f_step9 hE2 c1, bd1_s]
    exact lc_rep (hA.put (by omega)) (by omega) (by omega) hs (by omega)
  | false =>
    rw [if_neg ft_ne, if_neg ft_ne, ite_ch h (c := 40) (k := 40) rfl (by omega)]
    by_cases e2 : chN t E (ltQ t E p) = 40
    · obtain ⟨c1, -, -⟩ := ch_some (k := 40) (Nat.le_of_eq e2) (by omega)
      rw [if_pos e2, if_pos e2, show (2 : Int32) = nI 2 from rfl, ite_nlt (by omega) (by omega)]
      cases k with
      | zero =>
        rw [if_neg (by omega), show (5 : Int32) = nI 5 from rfl, f_fail9, bd1_s, f_rdI3f (fI_ne (by omega) (by omega) (by omega))]
        refine ⟨fun f hf => ?_, fun q W' m' hr => (by cases hr)⟩
        obtain rfl := Sum.inl.inj hf
        exact ⟨a, nI m, ltQ t E p, rfl, q2⟩
      | succ k =>
        obtain ⟨w1, w2⟩ := hG _ rfl a (ltQ t E p + 1) W m hA hm (by omega)
        have wo := ltN_ok (t := t) (E := E) (k + 1) _ rfl (ltQ t E p + 1) W m (by omega) hm (fun i hi => (hA i hi).1)
        rw [if_pos (by omega), f_step9 hE2 c1, bd1_s, nI_1]
        show (∀ f, (match ltW t E (ltI t E (ltN t E k)) 100 (ltQ t E p + 1) W m with | Sum.inl f => Sum.inl f | Sum.inr (q, W', m') => if chN t E q = 41 then ltR W' m' m (s + 1) p (q + 1) else Sum.inl (fI 1 q)) = Sum.inl f → _) ∧ (∀ q W' m', (match ltW t E (ltI t E (ltN t E k)) 100 (ltQ t E p + 1) W m with | Sum.inl f => Sum.inl f | Sum.inr (q, W', m') => if chN t E q = 41 then ltR W' m' m (s + 1) p (q + 1) else Sum.inl (fI 1 q)) = Sum.inr (q, W', m') → _)
        match e3 : ltW t E (ltI t E (ltN t E k)) 100 (ltQ t E p + 1) W m, w1, w2, wo with
        | Sum.inl f, w1, w2, wo =>
          obtain ⟨a', m', q, e4, hq⟩ := w1 f rfl
          obtain ⟨kk, qq, b1, b2, b3, rfl⟩ := wo.1 f rfl
          rw [e4, bd4_s, f_take9f (fI_ne b1 b2 (by omega)) (by decide), bd2_s, f_rdI3f (fI_ne b1 b2 (by omega))]
          refine ⟨fun f hf => ?_, fun q W' m' hr => (by cases hr)⟩
          obtain rfl := Sum.inl.inj hf
          exact ⟨a', m', q, rfl, hq⟩
        | Sum.inr (q, W', m'), w1, w2, wo =>
          obtain ⟨a', e4, hA'⟩ := w2 q W' m' rfl
          obtain ⟨b1, b2, b3, b4, b5⟩ := wo.2 q W' m' rfl
          rw [e4, bd4_s, show (41 : Int32) = nI 41 from rfl, f_take9 h (by omega) (by omega)]
          show (∀ f, (if chN t E q = 41 then ltR W' m' m (s + 1) p (q + 1) else Sum.inl (fI 1 q)) = Sum.inl f → _) ∧ (∀ q_1 W'_1 m'_1, (if chN t E q = 41 then ltR W' m' m (s + 1) p (q + 1) else Sum.inl (fI 1 q)) = Sum.inr (q_1, W'_1, m'_1) → _)
          by_cases e5 : chN t E q = 41
          · have q4 := (ch_some (k := 41) (Nat.le_of_eq e5) (by omega)).1
            rw [if_pos e5, if_pos e5, bd2_s]
            exact lc_rep hA' (by omega) (by omega) hs (by omega)
          · rw [if_neg e5, if_neg e5, bd2_s, f_rdI3f (fI_ne (by omega) (by omega) (by omega))]
            refine ⟨fun f hf => ?_, fun q W' m' hr => (by cases hr)⟩
            obtain rfl := Sum.inl.inj hf
            exact ⟨a', nI m', q, rfl, b2⟩
    · rw [if_neg e2, if_neg e2, show (1 : Int32) = nI 1 from rfl, f_fail9, bd1_s, f_rdI3f (fI_ne (by omega) (by omega) (by omega))]
      refine ⟨fun f hf => ?_, fun q W' m' hr => (by cases hr)⟩
      obtain rfl := Sum.inl.inj hf
      exact ⟨a, nI m, ltQ t E p, rfl, q2⟩
theorem lc_words (h : TX bytes tape t n E) {G1 G2 : (Nat → Int32) → (Nat → Int32) → Int32 → Int32 → Int32 → Int32 → Int32 → Int32 → Option ((Nat → Int32) × Int32 × Int32 × Int32)} {o k : Nat} (hE : E ≤ 60) (hG : LcW bytes n E G2 o (ltI t E (ltN t E k))) : ∀ d fu l a p W m, EN a W m → m ≤ 48 → p ≤ E → l ≤ p → l < 60 → E - p < d → d < fu → (∀ f, ltW t E (ltI t E (ltN t E k)) d p W m = Sum.inl f → ∃ a' m' q, f_X3_readWords_b2 G1 G2 bytes (nI E) (nI n) (nI o) fu a (nI m) 0 (nI p) (nI l) = some (a', m', f, nI q) ∧ q ≤ E) ∧ (∀ q W' m', ltW t E (ltI t E (ltN t E k)) d p W m = Sum.inr (q, W', m') → ∃ a', f_X3_readWords_b2 G1 G2 bytes (nI E) (nI n) (nI o) fu a (nI m) 0 (nI p) (nI l) = some (a', nI m', 0, nI q) ∧ EN a' W' m') := by
  intro d
  induction d with
  | zero => intro fu l a p W m _ _ _ _ _ h1; omega
  | succ d ih =>
    intro fu l a p W m hA hm hp hl hl2 hd hf
    obtain ⟨fu, rfl⟩ : ∃ x, fu = x + 1 := ⟨fu - 1, by omega⟩
    obtain ⟨w1, w2⟩ := hG a p W m hA hm hp
    have wo := ltI_ok (t := t) (inn := ltN t E k) (ltN_ok k) hp hm (fun i hi => (hA i hi).1)
    have hE2 : E ≤ 260 := by omega
    rw [ltW, f_X3_readWords_b2, if_neg (by rw [show (60 : Int32) = nI 60 from rfl, nle (by omega) (by omega)]; omega)]
    match e3 : ltI t E (ltN t E k) p W m, w1, w2, wo with
    | Sum.inl f, w1, w2, wo =>
      obtain ⟨a', m', q, e4, hq⟩ := w1 f rfl
      obtain ⟨kk, qq, b1, b2, b3, rfl⟩ := wo.1 f rfl
      rw [e4, bd4_s, f_atEnd9 hE2 (by omega), bd1_s]
      refine ⟨fun f hf => ?_, fun q W' m' hr => (by cases hr)⟩
      obtain rfl := Sum.inl.inj hf
      refine ⟨a', m', q, ?_, hq⟩
      rw [f_failed1 (fI_ne b1 b2 (by omega)), bd1_s, if_neg one_ne, ite_self]
      rfl
    | Sum.inr (q, W', m'), w1, w2, wo =>
      obtain ⟨a', e4, hA'⟩ := w2 q W' m' rfl
      obtain ⟨b1, b2, b3, b4, b5⟩ := wo.2 q W' m' rfl
      rw [e4, bd4_s, f_atEnd9 hE2 (by omega), bd1_s, ite_bI]
      show (∀ f, (if E ≤ q ∨ chN t E q = 41 then Sum.inr (q, W', m') else ltW t E (ltI t E (ltN t E k)) d q W' m') = Sum.inl f → _) ∧ (∀ q_1 W'_1 m'_1, (if E ≤ q ∨ chN t E q = 41 then Sum.inr (q, W', m') else ltW t E (ltI t E (ltN t E k)) d q W' m') = Sum.inr (q_1, W'_1, m'_1) → _)
      by_cases e5 : E ≤ q
      · rw [if_pos (Or.inl e5), if_pos (by rw [decide_eq_true e5])]
        refine ⟨fun f hf => (by cases hf), fun q2 W2 m2 hr => ?_⟩
        cases hr
        exact ⟨a', rfl, hA'⟩
      · rw [if_neg (show ¬ (decide (E ≤ q) = true) from fun z => e5 (of_decide_eq_true z)), f_failed0, bd1_s, if_pos rfl, f_sign9 h (by omega), bd1_s, ite_ch h (c := 41) (k := 41) rfl (by omega)]
        by_cases e6 : chN t E q = 41
        · rw [if_pos (Or.inr e6), if_pos e6]
          refine ⟨fun f hf => (by cases hf), fun q2 W2 m2 hr => ?_⟩
          cases hr
          exact ⟨a', rfl, hA'⟩
        · rw [if_neg (show ¬ (E ≤ q ∨ chN t E q = 41) by rintro (z | z); exact e5 z; exact e6 z), if_neg e6, nI_1]
          exact ih fu (l + 1) a' q W' m' hA' b4 b2 (by omega) (by omega) (by omega) (by omega)
theorem lc_all (h : TX bytes tape t n E) (hE : E ≤ 60) : ∀ k o d, o + k = 3 → 2 * k ≤ d → 1 ≤ k → ∀ ws, ltN t E k = some ws → LcW bytes n E (f_X3_readWords d) o ws
  | 0, o, d, _, _, h1, ws, hws => by omega
  | k + 1, o, d, hk, hd, _, ws, hws => by
    cases hws
    obtain ⟨d, rfl⟩ : ∃ x, d = x + 2 := ⟨d - 2, by omega⟩
    have hit : LcW bytes n E (frec_X3_readWords (d + 1)).2 o (ltI t E (ltN t E k)) := by
      refine lc_item h (G1 := (frec_X3_readWords d).1) (G2 := (frec_X3_readWords d).2) (by omega) hE (fun ws hws => ?_)
      rcases Nat.eq_zero_or_pos k with e | e
      · subst e; cases hws
      · exact lc_all h hE k (o + 1) d (by omega) (by omega) e ws hws
    intro a p W m hA hm hp
    exact lc_words h hE hit 100 FU 0 a p W m hA hm hp (by omega) (by omega) (by omega) (FU_gt (by omega))
end LC
