/-! pure: a law, the class's reader -/
abbrev GT := (Nat → Int32) → (Nat → Int32) → Int32 → Int32 → Int32 → Int32 → Int32 → Int32 → Option ((Nat → Int32) × Int32 × Int32 × Int32)
def KC (code : Nat → Int32) (c : Cd) (m : Nat) : Prop := ∀ i, i < m → (c i).1 ≤ 12 ∧ (c i).2 < 100000 ∧ code i = nI ((c i).2 * 16 + (c i).1)
theorem KC.put {code : Nat → Int32} {c : Cd} {m op v : Nat} (h : KC code c m) (ho : op ≤ 12) (hv : v < 100000) : KC (upd code m (nI (v * 16 + op))) (updC c m (op, v)) (m + 1) := by
  intro i hi
  by_cases e : i = m
  · rw [e, updC_s, pk_us]; exact ⟨ho, hv, rfl⟩
  · rw [updC_n e, pk_un e]; exact h i (by omega)
theorem sh4 {v op : Nat} (hv : v < 100000) (ho : op < 16) : (nI v <<< ((4 : Int32) &&& 31)) ||| nI op = nI (v * 16 + op) := by
  rw [pk_shlN ((4 : Int32) &&& 31) 4 (by decide) (by omega), show v * 2 ^ 4 = 2 ^ 4 * v by omega, fa_or_sum v (k := 4) (by omega), show 2 ^ 4 * v = v * 16 by omega]
theorem f_emit1 {code : Nat → Int32} {m op v : Nat} (hm : m < 240) (ho : op < 16) (hv : v < 100000) : f_X1_emit code (nI m) (nI op) (nI v) = some (nI m, upd code m (nI (v * 16 + op)), nI (m + 1)) := by
  unfold f_X1_emit f_X1_emit_b33
  rw [if_neg (by rw [show (240 : Int32) = nI 240 from rfl, nle (by omega) (by omega)]; omega), sI_n (by omega) (by omega), sh4 hv ho, nI_1]
theorem f_emitA {code : Nat → Int32} {m : Nat} (hm : m ≤ 240) (op v : Int32) : ∃ code' m', f_X1_emit code (nI m) op v = some (nI m, code', nI m') ∧ m' ≤ 240 := by
  unfold f_X1_emit f_X1_emit_b33
  by_cases h : 240 ≤ m
  · rw [if_pos (by rw [show (240 : Int32) = nI 240 from rfl, nle (by omega) (by omega)]; exact h)]
    exact ⟨code, m, rfl, hm⟩
  · rw [if_neg (by rw [show (240 : Int32) = nI 240 from rfl, nle (by omega) (by omega)]; exact h), sI_n (by omega) (by omega), nI_1]
    exact ⟨_, m + 1, rfl, by omega⟩
def lI (l : Option Nat) : Int32 := match l with
  | none => -1
  | some j => nI j
theorem lI_some {j : Nat} : lI (some j) = nI j := rfl
theorem f_leapA {code : Nat → Int32} {a b : Int32} : ∃ code', f_X1_leapTo code a b = some code' := by
  unfold f_X1_leapTo f_X1_leapTo_b30
  by_cases h1 : a < 0
  · rw [if_pos h1]; exact ⟨_, rfl⟩
  · rw [if_neg h1]
    by_cases h2 : (240 : Int32) ≤ a
    · rw [if_pos h2]; exact ⟨_, rfl⟩
    · obtain ⟨j, hj, rfl⟩ := nI_of h1
      rw [if_neg h2]
      rw [show (240 : Int32) = nI 240 from rfl, nle (by omega) hj] at h2
      rw [gI_n (by omega) (by omega), sI_n (by omega) (by omega)]
      exact ⟨_, rfl⟩
theorem f_leap1 {code : Nat → Int32} {c : Cd} {m : Nat} {l : Option Nat} (h : KC code c m) (hl : ∀ j, l = some j → j < m) (hm : m ≤ 240) : ∃ code', f_X1_leapTo code (lI l) (nI m) = some code' ∧ KC code' (pat c l m) m := by
  cases l with
  | none =>
    unfold f_X1_leapTo f_X1_leapTo_b30
    rw [if_pos (by decide)]
    exact ⟨code, rfl, h⟩
  | some j =>
    have hj := hl j rfl
    obtain ⟨h1, h2, h3⟩ := h j hj
    unfold f_X1_leapTo f_X1_leapTo_b30
    rw [lI_some, if_neg (nI_pos (by omega)), if_neg (by rw [show (240 : Int32) = nI 240 from rfl, nle (by omega) (by omega)]; omega), gI_n (by omega) (by omega), sI_n (by omega) (by omega), h3, show (15 : Int32) = nI (2 ^ 4 - 1) from rfl, fa_mask, show ((c j).2 * 16 + (c j).1) % 2 ^ 4 = (c j).1 by omega, sh4 (by omega) (by omega)]
    refine ⟨_, rfl, fun i hi => ?_⟩
    show (updC c j ((c j).1, m) i).1 ≤ 12 ∧ (updC c j ((c j).1, m) i).2 < 100000 ∧ _
    by_cases e : i = j
    · rw [e, updC_s, pk_us]
      show (c j).1 ≤ 12 ∧ m < 100000 ∧ nI (m * 16 + (c j).1) = nI ((updC c j ((c j).1, m) j).2 * 16 + (updC c j ((c j).1, m) j).1)
      rw [updC_s]
      exact ⟨h1, by omega, rfl⟩
    · rw [updC_n e, pk_un e]
      show (c i).1 ≤ 12 ∧ (c i).2 < 100000 ∧ code i = nI ((updC c j ((c j).1, m) i).2 * 16 + (updC c j ((c j).1, m) i).1)
      rw [updC_n e]; exact h i hi
/-- a reader of the class against one of the spec; and where a fault lies already -/
def LqS (bytes : Nat → Int32) (n E : Nat) (G : GT) (o : Nat) (sp : Ps) : Prop :=
  ∀ code c m p, KC code c m → m ≤ p → p ≤ E → (∀ f, sp p c m = Sum.inl f → ∃ code' m' q, G code bytes (nI m) (nI E) 0 (nI p) (nI n) (nI o) = some (code', nI m', f, q) ∧ m' ≤ 240) ∧ (∀ q c' m', sp p c m = Sum.inr (q, c', m') → ∃ code', G code bytes (nI m) (nI E) 0 (nI p) (nI n) (nI o) = some (code', nI m', 0, nI q) ∧ KC code' c' m')
def LqF (bytes : Nat → Int32) (n E : Nat) (G : GT) : Prop := ∀ code m (p f o : Int32), m ≤ 240 → ¬ f = 0 → ∃ code' m', G code bytes (nI m) (nI E) f p (nI n) o = some (code', nI m', f, p) ∧ m' ≤ 240
/-- an answer of the class against one of the spec -/
def AnS (E : Nat) (r : CR) (x : Option ((Nat → Int32) × Int32 × Int32 × Int32)) : Prop := (∀ f, r = Sum.inl f → ∃ code' m' q, x = some (code', nI m', f, q) ∧ m' ≤ 240) ∧ (∀ q c' m', r = Sum.inr (q, c', m') → ∃ code', x = some (code', nI m', 0, nI q) ∧ KC code' c' m')
theorem AnS.bad {E m' : Nat} {f q : Int32} {code' : Nat → Int32} (hm : m' ≤ 240) : AnS E (Sum.inl f) (some (code', nI m', f, q)) := ⟨fun f' hf => by obtain rfl := Sum.inl.inj hf; exact ⟨_, _, _, rfl, hm⟩, fun q c' m' h => (by cases h)⟩
theorem AnS.good {E m' q : Nat} {c' : Cd} {code' : Nat → Int32} (h : KC code' c' m') : AnS E (Sum.inr (q, c', m')) (some (code', nI m', 0, nI q)) := ⟨fun f hf => (by cases hf), fun q2 c2 m2 hq => by cases hq; exact ⟨_, rfl, h⟩⟩
/-- one reader, then more: of the class and of the spec -/
theorem AnS.bn {bytes : Nat → Int32} {n E : Nat} (hE : E ≤ 240) {G : GT} {o : Nat} {it : Ps} (hG : LqS bytes n E G o it) (hi : PsOK E it) {code : Nat → Int32} {c : Cd} {m p : Nat} (hK : KC code c m) (hm : m ≤ p) (hp : p ≤ E) {k : Nat → Cd → Nat → CR} {K : (Nat → Int32) → Int32 → Int32 → Int32 → Option ((Nat → Int32) × Int32 × Int32 × Int32)}
    (hf : ∀ code' m' (q f : Int32), m' ≤ 240 → ¬ f = 0 → ∃ code'' m'' q'', K code' (nI m') f q = some (code'', nI m'', f, q'') ∧ m'' ≤ 240)
    (hk : ∀ code' q c' m', KC code' c' m' → p < q → q ≤ E → m < m' → m' + p ≤ m + q → AnS E (k q c' m') (K code' (nI m') 0 (nI q))) :
    AnS E (bnC (it p c m) k) (bd4 (G code bytes (nI m) (nI E) 0 (nI p) (nI n) (nI o)) K) := by
  obtain ⟨g1, g2⟩ := hG code c m p hK hm hp
  obtain ⟨i1, i2⟩ := hi p c m hp
  match e : it p c m, g1, g2, i1, i2 with
  | Sum.inl f, g1, g2, i1, i2 =>
    obtain ⟨code', m', q, e1, e2⟩ := g1 f rfl
    obtain ⟨kk, qq, b1, b2, b3, rfl⟩ := i1 f rfl
    obtain ⟨code'', m'', q'', e4, e5⟩ := hf code' m' q (fI kk qq) e2 (fI_ne b1 b2 (by omega))
    rw [e1, bd4_s, e4]
    exact AnS.bad e5
  | Sum.inr (q, c', m'), g1, g2, i1, i2 =>
    obtain ⟨code', e1, e2⟩ := g2 q c' m' rfl
    obtain ⟨a1, a2, a3, a4, a5⟩ := i2 q c' m' rfl
    rw [e1, bd4_s]
    exact hk code' q c' m' e2 a1 a2 a3 a4
theorem nge240 {l : Nat} (h : l < 240) : ¬ (240 : Int32) ≤ nI l := by rw [show (240 : Int32) = nI 240 from rfl, nle (by omega) (by omega)]; omega
section LQ
variable {bytes tape : Nat → Int32} {t : Nat → Nat} {n E : Nat}
theorem m1_ne {k : Nat} (hk : k < 256) {c : Int32} (hc : c = nI k) : ¬ (-1 : Int32) = c := fun q => by
  have h9 := nI_pos (n := k) (by omega)
  rw [← hc, ← q] at h9
  exact absurd (by decide) h9
theorem lqF_fac {G1 G2 G3 : GT} : LqF bytes n E (fo_X2_readFactor G1 G2 G3) := by
  intro code m p f o hm hf
  unfold fo_X2_readFactor
  rw [f_sign9f hf, bd1_s, if_neg (by decide)]
  unfold f_X2_readFactor_b23 f_X2_readFactor_b116
  rw [if_neg (by decide)]
  have e : f_X11_isDigit (-1) = some 0 := by decide +kernel
  rw [e, bd1_s, if_pos rfl, if_pos (by decide), f_fail9f hf, bd1_s]
  exact ⟨code, m, rfl, hm⟩
theorem tl_F {G1 G2 G3 : GT} {fu : Nat} {code : Nat → Int32} {m : Nat} {p f o l : Int32} (hf : ¬ f = 0) : f_X2_readTerm_b7 G1 G2 G3 bytes (nI E) (nI n) o (fu + 1) code (nI m) f p l = some (code, nI m, f, p) := by
  rw [f_X2_readTerm_b7]
  by_cases q : (240 : Int32) ≤ l
  · rw [if_pos q]
  · rw [if_neg q, f_sign9f hf, bd1_s, if_neg (by decide), if_neg (by decide), if_neg (by decide)]
theorem sl_F {G1 G2 G3 : GT} {fu : Nat} {code : Nat → Int32} {m : Nat} {p f o l : Int32} (hf : ¬ f = 0) : f_X2_readSum_b7 G1 G2 G3 bytes (nI E) (nI n) o (fu + 1) code (nI m) f p l = some (code, nI m, f, p) := by
  rw [f_X2_readSum_b7]
  by_cases q : (240 : Int32) ≤ l
  · rw [if_pos q]
  · rw [if_neg q, f_sign9f hf, bd1_s, if_neg (by decide), if_neg (by decide)]
theorem FU_s : ∃ z, FU = z + 1 ∧ z = 99999 := ⟨99999, rfl, rfl⟩
theorem lqF_term {G1 G2 G3 : GT} (h3 : LqF bytes n E G3) : LqF bytes n E (fo_X2_readTerm G1 G2 G3) := by
  intro code m p f o hm hf
  obtain ⟨code', m', e1, e2⟩ := h3 code m p f o hm hf
  obtain ⟨z, hz, -⟩ := FU_s
  unfold fo_X2_readTerm
  rw [e1, bd4_s, hz, tl_F hf]
  exact ⟨code', m', rfl, e2⟩
theorem lqF_sum {G1 G2 G3 : GT} (h2 : LqF bytes n E G2) : LqF bytes n E (fo_X2_readSum G1 G2 G3) := by
  intro code m p f o hm hf
  obtain ⟨code', m', e1, e2⟩ := h2 code m p f o hm hf
  obtain ⟨z, hz, -⟩ := FU_s
  unfold fo_X2_readSum
  rw [e1, bd4_s, hz, sl_F hf]
  exact ⟨code', m', rfl, e2⟩
theorem f_open2 {o p : Nat} (hE : E ≤ 240) (hp : p < E) (ho : o ≤ 6) : f_X2_canOpen (nI E) 0 (nI p) (nI o) = if o < 6 then some (1, 0, nI (p + 1)) else some (0, fI 5 p, nI p) := by
  unfold f_X2_canOpen
  rw [show (6 : Int32) = nI 6 from rfl, ite_nlt (by omega) (by omega), f_step9 (by omega) hp, bd1_s, show (5 : Int32) = nI 5 from rfl, f_fail9, bd1_s]
theorem lq_fac (h : TX bytes tape t n E) (hE : E ≤ 240) {G1 G2 G3 : GT} {o k : Nat} (hk : o + k = 6) (hG : ∀ sm, spE t E k = some sm → LqS bytes n E G1 (o + 1) sm) : LqS bytes n E (fo_X2_readFactor G1 G2 G3) o (spF t E (spE t E k)) := by
  intro code c m p hK hm hp
  show AnS E (spF t E (spE t E k) p c m) (fo_X2_readFactor G1 G2 G3 code bytes (nI m) (nI E) 0 (nI p) (nI n) (nI o))
  have key : fo_X2_readFactor G1 G2 G3 code bytes (nI m) (nI E) 0 (nI p) (nI n) (nI o) = f_X2_readFactor_b23 G1 G2 G3 bytes (nI E) (nI n) (nI o) code (nI m) 0 (nI p) (if p < E then (if fct (t p) = 0 then -1 else nI (fct (t p) - 1)) else -1) (chI t E p) := by
    unfold fo_X2_readFactor
    rw [f_sign9 h (by omega), bd1_s]
    unfold chI
    by_cases q : p < E
    · have ht := TX_lt h q
      rw [if_pos q, if_pos q, if_pos (nI_pos' (by omega)), ix_all _ ht, bd1_s]
    · rw [if_neg q, if_neg q, if_neg (by decide)]
  rw [key]
  unfold f_X2_readFactor_b23 f_X2_readFactor_b116 spF
  rw [ite_ch h (c := 91) (k := 91) rfl (by omega), f_dig11 h, bd1_s, ite_bI]
  by_cases h1 : chN t E p = 91
  · have hpE := ch_in256 (t := t) (E := E) (p := p) (by omega)
    rw [if_pos h1, if_pos h1, f_open2 hE hpE (by omega)]
    cases k with
    | zero =>
      rw [if_neg (by omega), bd3_s, if_pos rfl]
      exact AnS.bad (by omega)
    | succ k =>
      rw [if_pos (by omega), bd3_s, if_neg one_ne, nI_1]
      refine AnS.bn hE (hG _ rfl) (spE_ok (k + 1) _ rfl) hK (by omega) (by omega) (fun code' m' q f a1 a3 => ?_) (fun code' q c' m' a1 a2 a3 a4 a5 => ?_)
      · rw [f_take9f a3 (by decide), bd2_s]
        exact ⟨_, _, _, rfl, a1⟩
      · rw [show (93 : Int32) = nI 93 from rfl, f_take9 h (by omega) (by omega)]
        by_cases h2 : chN t E q = 93
        · rw [if_pos h2, if_pos h2, bd2_s]; exact AnS.good a1
        · rw [if_neg h2, if_neg h2, bd2_s]; exact AnS.bad (by omega)
  · rw [if_neg h1, if_neg h1]
    cases h2 : rg 48 57 (chN t E p) with
    | true =>
      have h3 := rg_iff.mp h2
      have hpE := ch_in256 (t := t) (E := E) (p := p) (by omega)
      obtain ⟨n1, n2⟩ := f_rdN9 h (mx := 5) (p := p) (by omega) (by omega) (by omega)
      have e : rnS t E 5 p = rnA t E 5 p 0 := by unfold rnS; rw [if_pos h2]
      rw [e] at n1 n2
      obtain ⟨r1, r2⟩ := rnA_ok (t := t) (E := E) 5 p 0
      rw [if_pos rfl, if_pos rfl]
      match e : rnA t E 5 p 0, n1, n2, r1, r2 with
      | Sum.inl f, n1, n2, r1, r2 =>
        obtain ⟨w, q, e1⟩ := n1 f rfl
        obtain ⟨q2, b1, b2, rfl⟩ := r1 f rfl
        have e1' : f_X9_readNumber bytes (nI E) 0 (nI p) (nI n) 5 = _ := e1
        obtain ⟨code', m', e2, e3⟩ := f_emitA (code := code) (m := m) (by omega) 0 w
        rw [e1', bd3_s, e2, bd3_s]
        exact AnS.bad e3
      | Sum.inr (q, u), n1, n2, r1, r2 =>
        have e1 := n2 q u rfl
        obtain ⟨b1, b2, b3⟩ := r2 q u rfl
        have e1' : f_X9_readNumber bytes (nI E) 0 (nI p) (nI n) 5 = _ := e1
        rw [e1', bd3_s, show (0 : Int32) = nI 0 from rfl, f_emit1 (by omega) (by omega) (by omega), bd3_s]
        exact AnS.good (hK.put (by omega) (by omega))
    | false =>
      rw [if_neg ft_ne, if_neg ft_ne]
      by_cases h3 : fct (chN t E p) = 0
      · have hs : ((if p < E then (if fct (t p) = 0 then (-1 : Int32) else nI (fct (t p) - 1)) else -1)) = -1 := by
          by_cases q : p < E
          · rw [if_pos q]
            have : chN t E p = t p := if_pos q
            rw [this] at h3
            rw [if_pos h3]
          · rw [if_neg q]
        rw [if_pos h3, hs, if_pos (by decide), show (1 : Int32) = nI 1 from rfl, f_fail9, bd1_s]
        exact AnS.bad (by omega)
      · have hpE := ch_in256 (t := t) (E := E) (p := p) (fct_lt h3).1
        have hc : chN t E p = t p := if_pos hpE
        have h10 := (fct_lt h3).2
        rw [if_neg h3, if_pos hpE, ← hc, if_neg h3, if_neg (nI_pos (by omega)), f_step9 (by omega) hpE, bd1_s, show (1 : Int32) = nI 1 from rfl, f_emit1 (by omega) (by omega) (by omega), bd3_s]
        exact AnS.good (hK.put (by omega) (by omega))
theorem lq_tl (h : TX bytes tape t n E) (hE : E ≤ 240) {G1 G2 G3 : GT} {o : Nat} {fac : Ps} (h3 : LqS bytes n E G3 o fac) (hi : PsOK E fac) : ∀ d fu l code c m q, KC code c m → m ≤ q → q ≤ E → l < q → E - q < d → d < fu → AnS E (chn t E opT fac d q c m) (f_X2_readTerm_b7 G1 G2 G3 bytes (nI E) (nI n) (nI o) fu code (nI m) 0 (nI q) (nI l)) := by
  intro d
  induction d with
  | zero => intro fu l code c m q _ _ _ _ h1; omega
  | succ d ih =>
    intro fu l code c m q hK hm hq hl hd hf
    obtain ⟨fu, rfl⟩ : ∃ x, fu = x + 1 := ⟨fu - 1, by omega⟩
    obtain ⟨fu', rfl⟩ : ∃ x, fu = x + 1 := ⟨fu - 1, by omega⟩
    rw [chn, f_X2_readTerm_b7, if_neg (nge240 (l := l) (by omega)), f_sign9 h (by omega), bd1_s, ite_ch h (c := 42) (k := 42) rfl (by omega), ite_ch h (c := 47) (k := 47) rfl (by omega), ite_ch h (c := 37) (k := 37) rfl (by omega)]
    have step : ∀ op, opT (chN t E q) = op → ¬ op = 0 → op ≤ 12 → (op = 7 ↔ chN t E q = 42) → (op = 8 ↔ chN t E q = 47) → (op = 7 ∨ op = 8 ∨ op = 9) → AnS E (bnC (fac (q + 1) c m) (fun q' c' m' => chn t E opT fac d q' (updC c' m' (op, 0)) (m' + 1))) (f_X2_readTerm_b41 G1 G2 G3 bytes (nI E) (nI n) (nI o) (f_X2_readTerm_b7 G1 G2 G3 bytes (nI E) (nI n) (nI o) (fu' + 1)) code (nI m) 0 (nI q) (nI l) (chI t E q)) := by
      intro op e0 e1 e2 e7 e8 e9
      have hqE := ch_in256 (t := t) (E := E) (p := q) (opT_lt (by rw [e0]; exact e1))
      unfold f_X2_readTerm_b41 f_X2_readTerm_b90 f_X2_readTerm_b95
      rw [f_step9 (by omega) hqE, bd1_s]
      refine AnS.bn hE h3 hi hK (by omega) (by omega) (fun code' m' q' f a1 a3 => ?_) (fun code' q' c' m' a1 a2 a3 a4 a5 => ?_)
      · obtain ⟨x1, y1, u1, v1⟩ := f_emitA (code := code') a1 7 0
        obtain ⟨x2, y2, u2, v2⟩ := f_emitA (code := code') a1 8 0
        obtain ⟨x3, y3, u3, v3⟩ := f_emitA (code := code') a1 9 0
        rw [u1, u2, u3, bd3_s, bd3_s, bd3_s, tl_F a3, tl_F a3, tl_F a3]
        split
        · exact ⟨_, _, _, rfl, v1⟩
        · split
          · exact ⟨_, _, _, rfl, v2⟩
          · exact ⟨_, _, _, rfl, v3⟩
      · have em : ∀ x, x ≤ 12 → f_X1_emit code' (nI m') (nI x) 0 = some (nI m', upd code' m' (nI (0 * 16 + x)), nI (m' + 1)) := fun x hx => f_emit1 (v := 0) (by omega) (by omega) (by omega)
        rw [ite_ch h (c := 42) (k := 42) rfl (by omega), ite_ch h (c := 47) (k := 47) rfl (by omega), show (7 : Int32) = nI 7 from rfl, show (8 : Int32) = nI 8 from rfl, show (9 : Int32) = nI 9 from rfl, em 7 (by omega), em 8 (by omega), em 9 (by omega), bd3_s, bd3_s, bd3_s, nI_1]
        have fin := ih (fu' + 1) (l + 1) (upd code' m' (nI (0 * 16 + op))) (updC c' m' (op, 0)) (m' + 1) q' (a1.put e2 (by omega)) (by omega) a3 (by omega) (by omega) (by omega)
        rcases e9 with z | z | z
        · rw [if_pos (e7.mp z)]; rw [z] at fin ⊢; exact fin
        · rw [if_neg (fun y => by have := e7.mpr y; omega), if_pos (e8.mp z)]; rw [z] at fin ⊢; exact fin
        · rw [if_neg (fun y => by have := e7.mpr y; omega), if_neg (fun y => by have := e8.mpr y; omega)]; rw [z] at fin ⊢; exact fin
    by_cases k1 : chN t E q = 42
    · have e0 : opT (chN t E q) = 7 := by rw [k1]; rfl
      rw [if_pos k1, e0, if_neg (show ¬ (7 = 0) by omega)]
      exact step 7 e0 (by omega) (by omega) (by omega) (by omega) (by omega)
    · by_cases k2 : chN t E q = 47
      · have e0 : opT (chN t E q) = 8 := by rw [k2]; rfl
        rw [if_neg k1, if_pos k2, e0, if_neg (show ¬ (8 = 0) by omega)]
        exact step 8 e0 (by omega) (by omega) (by omega) (by omega) (by omega)
      · by_cases k3 : chN t E q = 37
        · have e0 : opT (chN t E q) = 9 := by rw [k3]; rfl
          rw [if_neg k1, if_neg k2, if_pos k3, e0, if_neg (show ¬ (9 = 0) by omega)]
          exact step 9 e0 (by omega) (by omega) (by omega) (by omega) (by omega)
        · have e0 : opT (chN t E q) = 0 := by unfold opT; rw [if_neg k1, if_neg k2, if_neg k3]
          rw [if_neg k1, if_neg k2, if_neg k3, if_pos e0]
          exact AnS.good hK
theorem lq_sl (h : TX bytes tape t n E) (hE : E ≤ 240) {G1 G2 G3 : GT} {o : Nat} {fac : Ps} (h2 : LqS bytes n E G2 o fac) (hi : PsOK E fac) : ∀ d fu l code c m q, KC code c m → m ≤ q → q ≤ E → l < q → E - q < d → d < fu → AnS E (chn t E opS fac d q c m) (f_X2_readSum_b7 G1 G2 G3 bytes (nI E) (nI n) (nI o) fu code (nI m) 0 (nI q) (nI l)) := by
  intro d
  induction d with
  | zero => intro fu l code c m q _ _ _ _ h1; omega
  | succ d ih =>
    intro fu l code c m q hK hm hq hl hd hf
    obtain ⟨fu, rfl⟩ : ∃ x, fu = x + 1 := ⟨fu - 1, by omega⟩
    obtain ⟨fu', rfl⟩ : ∃ x, fu = x + 1 := ⟨fu - 1, by omega⟩
    rw [chn, f_X2_readSum_b7, if_neg (nge240 (l := l) (by omega)), f_sign9 h (by omega), bd1_s, ite_ch h (c := 43) (k := 43) rfl (by omega), ite_ch h (c := 45) (k := 45) rfl (by omega)]
    have step : ∀ op, opS (chN t E q) = op → ¬ op = 0 → op ≤ 12 → (op = 5 ↔ chN t E q = 43) → (op = 5 ∨ op = 6) → AnS E (bnC (fac (q + 1) c m) (fun q' c' m' => chn t E opS fac d q' (updC c' m' (op, 0)) (m' + 1))) (f_X2_readSum_b35 G1 G2 G3 bytes (nI E) (nI n) (nI o) (f_X2_readSum_b7 G1 G2 G3 bytes (nI E) (nI n) (nI o) (fu' + 1)) code (nI m) 0 (nI q) (nI l) (chI t E q)) := by
      intro op e0 e1 e2 e7 e9
      have hqE := ch_in256 (t := t) (E := E) (p := q) (opS_lt (by rw [e0]; exact e1))
      unfold f_X2_readSum_b35 f_X2_readSum_b63
      rw [f_step9 (by omega) hqE, bd1_s]
      refine AnS.bn hE h2 hi hK (by omega) (by omega) (fun code' m' q' f a1 a3 => ?_) (fun code' q' c' m' a1 a2 a3 a4 a5 => ?_)
      · obtain ⟨x1, y1, u1, v1⟩ := f_emitA (code := code') a1 5 0
        obtain ⟨x2, y2, u2, v2⟩ := f_emitA (code := code') a1 6 0
        rw [u1, u2, bd3_s, bd3_s, sl_F a3, sl_F a3]
        split
        · exact ⟨_, _, _, rfl, v1⟩
        · exact ⟨_, _, _, rfl, v2⟩
      · have em : ∀ x, x ≤ 12 → f_X1_emit code' (nI m') (nI x) 0 = some (nI m', upd code' m' (nI (0 * 16 + x)), nI (m' + 1)) := fun x hx => f_emit1 (v := 0) (by omega) (by omega) (by omega)
        rw [ite_ch h (c := 43) (k := 43) rfl (by omega), show (5 : Int32) = nI 5 from rfl, show (6 : Int32) = nI 6 from rfl, em 5 (by omega), em 6 (by omega), bd3_s, bd3_s, nI_1]
        have fin := ih (fu' + 1) (l + 1) (upd code' m' (nI (0 * 16 + op))) (updC c' m' (op, 0)) (m' + 1) q' (a1.put e2 (by omega)) (by omega) a3 (by omega) (by omega) (by omega)
        rcases e9 with z | z
        · rw [if_pos (e7.mp z)]; rw [z] at fin ⊢; exact fin
        · rw [if_neg (fun y => by have := e7.mpr y; omega)]; rw [z] at fin ⊢; exact fin
    by_cases k1 : chN t E q = 43
    · have e0 : opS (chN t E q) = 5 := by rw [k1]; rfl
      rw [if_pos k1, e0, if_neg (show ¬ (5 = 0) by omega)]
      exact step 5 e0 (by omega) (by omega) (by omega) (by omega)
    · by_cases k2 : chN t E q = 45
      · have e0 : opS (chN t E q) = 6 := by rw [k2]; rfl
        rw [if_neg k1, if_pos k2, e0, if_neg (show ¬ (6 = 0) by omega)]
        exact step 6 e0 (by omega) (by omega) (by omega) (by omega)
      · have e0 : opS (chN t E q) = 0 := by unfold opS; rw [if_neg k1, if_neg k2]
        rw [if_neg k1, if_neg k2, if_pos e0]
        exact AnS.good hK
theorem lq_term (h : TX bytes tape t n E) (hE : E ≤ 240) {G1 G2 G3 : GT} {o : Nat} {fac : Ps} (h3 : LqS bytes n E G3 o fac) (hi : PsOK E fac) : LqS bytes n E (fo_X2_readTerm G1 G2 G3) o (spB t E opT fac) := by
  intro code c m p hK hm hp
  obtain ⟨z, hz, hz2⟩ := FU_s
  unfold fo_X2_readTerm
  refine AnS.bn hE h3 hi hK hm hp (fun code' m' q f a1 a3 => ?_) (fun code' q c' m' a1 a2 a3 a4 a5 => ?_)
  · rw [hz, tl_F a3]; exact ⟨_, _, _, rfl, a1⟩
  · exact lq_tl h hE h3 hi 300 FU 0 code' c' m' q a1 (by omega) a3 (by omega) (by omega) (FU_gt (by omega))
theorem lq_sum (h : TX bytes tape t n E) (hE : E ≤ 240) {G1 G2 G3 : GT} {o : Nat} {fac : Ps} (h2 : LqS bytes n E G2 o fac) (hi : PsOK E fac) : LqS bytes n E (fo_X2_readSum G1 G2 G3) o (spB t E opS fac) := by
  intro code c m p hK hm hp
  obtain ⟨z, hz, hz2⟩ := FU_s
  unfold fo_X2_readSum
  refine AnS.bn hE h2 hi hK hm hp (fun code' m' q f a1 a3 => ?_) (fun code' q c' m' a1 a2 a3 a4 a5 => ?_)
  · rw [hz, sl_F a3]; exact ⟨_, _, _, rfl, a1⟩
  · exact lq_sl h hE h2 hi 300 FU 0 code' c' m' q a1 (by omega) a3 (by omega) (by omega) (FU_gt (by omega))
theorem lqF_sums (d : Nat) : LqF bytes n E (f_X2_readSum (d + 3)) := lqF_sum (lqF_term (lqF_fac (G1 := (frec_X2_readSum d).1) (G2 := (frec_X2_readSum d).2.1) (G3 := (frec_X2_readSum d).2.2)))
theorem lq_sums (h : TX bytes tape t n E) (hE : E ≤ 240) : ∀ k o d, o + k = 6 → 3 * k + 3 ≤ d → LqS bytes n E (f_X2_readSum d) o (smA t E (spE t E k)) := by
  intro k
  induction k with
  | zero =>
    intro o d hk hd
    obtain ⟨d, rfl⟩ : ∃ x, d = x + 3 := ⟨d - 3, by omega⟩
    have hf : LqS bytes n E (frec_X2_readSum (d + 1)).2.2 o (spF t E (spE t E 0)) := lq_fac h hE hk (fun sm e => by cases e)
    have ht : LqS bytes n E (frec_X2_readSum (d + 2)).2.1 o (spB t E opT (spF t E (spE t E 0))) := lq_term h hE hf (spF_ok (spE_ok 0))
    exact lq_sum h hE ht (spB_ok (fun _ => opT_lt) (spF_ok (spE_ok 0)))
  | succ k ih =>
    intro o d hk hd
    obtain ⟨d, rfl⟩ : ∃ x, d = x + 3 := ⟨d - 3, by omega⟩
    have hf : LqS bytes n E (frec_X2_readSum (d + 1)).2.2 o (spF t E (spE t E (k + 1))) := lq_fac h hE hk (fun sm e => by cases e; exact ih (o + 1) d (by omega) (by omega))
    have ht : LqS bytes n E (frec_X2_readSum (d + 2)).2.1 o (spB t E opT (spF t E (spE t E (k + 1)))) := lq_term h hE hf (spF_ok (spE_ok (k + 1)))
    exact lq_sum h hE ht (spB_ok (fun _ => opT_lt) (spF_ok (spE_ok (k + 1))))
end LQ
