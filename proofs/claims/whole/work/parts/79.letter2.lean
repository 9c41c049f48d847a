/-! pure: a letter, the reference -/
theorem ltW_end {t : Nat → Nat} {E : Nat} {it : Nat → (Nat → Nat) → Nat → LR} : ∀ d p W m q W' m', ltW t E it d p W m = Sum.inr (q, W', m') → E ≤ q ∨ chN t E q = 41
  | 0, p, W, m, q, W', m', h => by cases h
  | d + 1, p, W, m, q, W', m', h => by
    rw [ltW] at h
    match e3 : it p W m with
    | Sum.inl f => rw [e3] at h; cases h
    | Sum.inr (q1, W1, m1) =>
      rw [e3] at h
      have h : (if E ≤ q1 ∨ chN t E q1 = 41 then Sum.inr (q1, W1, m1) else ltW t E it d q1 W1 m1) = Sum.inr (q, W', m') := h
      by_cases e5 : E ≤ q1 ∨ chN t E q1 = 41
      · rw [if_pos e5] at h
        cases h
        exact e5
      · rw [if_neg e5] at h
        exact ltW_end d q1 W1 m1 q W' m' h
theorem f_rep12 {W : Nat → Nat} {fr many m tm more : Nat} {fault : Int32} (h0 : 0 < many) (h1 : fr + many = m) (h2 : m + more ≤ 48) (h3 : many * tm = many + more) : ∀ d j fu (a : Nat → Int32) (nm : Int32), j + d = more → d < fu → EN a (lx W many m j) (m + j) → ∃ a', f_X12_repeats_b31 (nI fr) (nI tm) fu a fault nm (nI many) (nI (many + j)) = some (1, a', fault, nI (m + more)) ∧ EN a' (lx W many m more) (m + more) := by
  intro d
  induction d with
  | zero =>
    intro j fu a nm hj hf h
    obtain ⟨fu, rfl⟩ : ∃ x, fu = x + 1 := ⟨fu - 1, by omega⟩
    obtain rfl : j = more := by omega
    rw [f_X12_repeats_b31, pk_mul, h3, if_pos (by rw [nle (by omega) (by omega)]; omega), nI_add, show fr + (many + j) = m + j by omega]
    exact ⟨a, rfl, h⟩
  | succ d ih =>
    intro j fu a nm hj hf h
    obtain ⟨fu, rfl⟩ : ∃ x, fu = x + 1 := ⟨fu - 1, by omega⟩
    obtain ⟨e1, e2⟩ := h (m + j - many) (by omega)
    rw [f_X12_repeats_b31, pk_mul, h3, if_neg (by rw [nle (by omega) (by omega)]; omega), nI_add, show fr + (many + j) = m + j by omega, pk_sub (by omega), gI_n (by omega) (by omega), sI_n (by omega) (by omega), e2, nI_1]
    exact ih (j + 1) fu _ nm (by omega) (by omega) (h.put e1)
theorem f_rp12 {a : Nat → Int32} {W : Nat → Nat} {m fr s a0 : Nat} {fault : Int32} (h : EN a W m) (hf : fr < m) (hm : m ≤ 49) (hs : s + 1 ≤ 9) : (fr + (m - fr) * (s + 1) ≤ 48 → ∃ a', f_X12_repeats a fault (nI m) (nI fr) (nI (s + 1)) (nI a0) = some (1, a', fault, nI (fr + (m - fr) * (s + 1))) ∧ EN a' (lx W (m - fr) m ((m - fr) * (s + 1 - 1))) (fr + (m - fr) * (s + 1))) ∧ (¬ fr + (m - fr) * (s + 1) ≤ 48 → f_X12_repeats a fault (nI m) (nI fr) (nI (s + 1)) (nI a0) = some (0, a, fI 6 a0, nI m)) := by
  have e : fr + (m - fr) * (s + 1) = m + (m - fr) * s := by rw [Nat.mul_succ]; omega
  have hb : (m - fr) * (s + 1) ≤ 49 * 9 := Nat.mul_le_mul (by omega) hs
  unfold f_X12_repeats
  rw [pk_sub (a := m) (b := fr) (by omega), pk_mul, nI_add, show (48 : Int32) = nI 48 from rfl, ite_nle (by omega) (by omega), Nat.add_sub_cancel]
  refine ⟨fun hl => ?_, fun hl => ?_⟩
  · rw [if_pos hl]
    obtain ⟨a', e1, e2⟩ := f_rep12 (W := W) (fr := fr) (many := m - fr) (m := m) (tm := s + 1) (more := (m - fr) * s) (fault := fault) (by omega) (by omega) (by omega) (by rw [Nat.mul_succ]; omega) ((m - fr) * s) 0 FU a (nI m) (by omega) (FU_gt (by omega)) h
    refine ⟨a', ?_, ?_⟩
    · rw [e]; exact e1
    · rw [e]; exact e2
  · rw [if_neg hl]
    unfold f_X12_wrongAt
    rw [bd2_s, zI_0]; rfl
theorem bd11_bd3 {A0 A1 A2 B0 B1 B2 B3 B4 B5 B6 B7 B8 B9 B10 ρ : Type} (X : Option (A0 × A1 × A2)) (F : A0 → A1 → A2 → Option (B0 × B1 × B2 × B3 × B4 × B5 × B6 × B7 × B8 × B9 × B10)) (K : B0 → B1 → B2 → B3 → B4 → B5 → B6 → B7 → B8 → B9 → B10 → Option ρ) : bd11 (bd3 X F) K = bd3 X (fun a b c => bd11 (F a b c) K) := by
  rcases X with _ | ⟨a, b, c⟩ <;> rfl
section LM
variable {bytes tape : Nat → Int32} {t : Nat → Nat} {n E : Nat}
def lRW (tape : Nat → Int32) (n4 n1 : Nat) (nw ra rf rt wordAt : Nat → Int32) (cm fault itF itT len nm pl rd sm tp wm : Int32) := bd3 (f_X12_readsTimes tape itF itT len pl) (fun a b c => bd11 (f_X12_readsWord_b4 tape len n4 nw ra rf rt fault a b nm c rd) (fun r1 w2 w3 w4 w5 w6 w7 w8 w9 w10 w11 => f_X12_letter_b40 tape n1 w2 w3 w4 w5 wordAt cm w6 w7 w8 len w9 w10 w11 sm tp wm r1))
def lCL (tape : Nat → Int32) (n2 n1 : Nat) (nw ra rf rt wordAt : Nat → Int32) (cm fault itF itT len nm pl rd sm tp wm : Int32) := bd11 (f_X12_readsWord_b196 tape len n2 nw ra rf rt fault itF itT nm pl rd) (fun r1 w2 w3 w4 w5 w6 w7 w8 w9 w10 w11 => f_X12_letter_b40 tape n1 w2 w3 w4 w5 wordAt cm w6 w7 w8 len w9 w10 w11 sm tp wm r1)
def lBad (wordAt : Nat → Int32) (wm f : Int32) (o : Option (Int32 × (Nat → Int32) × (Nat → Int32) × (Nat → Int32) × (Nat → Int32) × (Nat → Int32) × Int32 × Int32 × Int32 × Int32 × Int32 × Int32 × Int32 × Int32 × Int32 × Int32 × Int32)) : Prop := ∃ x1 x2 x3 x4 y1 y2 y3 y4 y5 y6 y7 y8 y9, o = some (f, x1, x2, x3, x4, wordAt, y1, y2, y3, y4, y5, y6, y7, y8, y9, 0, wm)
theorem lBad_0 {n1 : Nat} {nw ra rf rt wordAt : Nat → Int32} {cm f itF itT len nm pl rd sm tp wm : Int32} (h : 0 < n1) : lBad wordAt wm f (f_X12_letter_b40 tape n1 nw ra rf rt wordAt cm f itF itT len nm pl rd sm tp wm 0) := by
  obtain ⟨x, rfl⟩ : ∃ x, n1 = x + 1 := ⟨n1 - 1, by omega⟩
  rw [f_X12_letter_b40, if_pos rfl]
  unfold f_X12_letter_b70
  rw [if_pos rfl]
  exact ⟨_, _, _, _, _, _, _, _, _, _, _, _, _, rfl⟩
def ER (ra rf rt : Nat → Int32) (Ra Rf Rt : Nat → Nat) (r : Nat) : Prop := ∀ i, i < r → ra i = nI (Ra i) ∧ rf i = nI (Rf i) ∧ rt i = nI (Rt i)
theorem ER.put {ra rf rt : Nat → Int32} {Ra Rf Rt : Nat → Nat} {r : Nat} (h : ER ra rf rt Ra Rf Rt r) (a b c : Nat) : ER (upd ra r (nI a)) (upd rf r (nI b)) (upd rt r (nI c)) (updN Ra r a) (updN Rf r b) (updN Rt r c) (r + 1) := by
  intro i hi
  by_cases e : i = r
  · rw [e, updN_s, updN_s, updN_s, pk_us, pk_us, pk_us]; exact ⟨rfl, rfl, rfl⟩
  · rw [updN_n e, updN_n e, updN_n e, pk_un e, pk_un e, pk_un e]; exact h i (by omega)
theorem ER.pop {ra rf rt : Nat → Int32} {Ra Rf Rt : Nat → Nat} {r a b c : Nat} (h : ER ra rf rt (updN Ra r a) (updN Rf r b) (updN Rt r c) (r + 1)) : ER ra rf rt Ra Rf Rt r := by
  intro i hi
  have h1 := h i (by omega)
  rw [updN_n (by omega), updN_n (by omega), updN_n (by omega)] at h1
  exact h1
theorem f_times12 (h : TX bytes tape t n E) {p : Nat} {a b : Int32} (hp : p < 2 ^ 29) : f_X12_readsTimes tape a b (nI E) (nI p) = some (nI p, nI (ltT t E p), nI (ltQ t E p)) := by
  unfold f_X12_readsTimes ltT ltQ
  rw [f_here12 h (by omega), bd1_s, show (50 : Int32) = nI 50 from rfl, show (57 : Int32) = nI 57 from rfl, f_in_ch h (by omega) (by omega), bd1_s, ite_bI]
  cases e : rg 50 57 (chN t E p) with
  | true =>
    obtain ⟨c1, c2, -⟩ := ch_some (k := 57) (rg_iff.mp e).2 (by omega)
    rw [if_pos rfl, if_pos rfl, if_pos rfl, bd1_s, c2, show (48 : Int32) = nI 48 from rfl, pk_sub (by have := (rg_iff.mp e).1; omega), nI_1]
  | false => rw [if_neg ft_ne, if_neg ft_ne, if_neg ft_ne]; rfl
/-- a reader of the spec at r open rounds, and the reference from there on -/
def LmW (tape : Nat → Int32) (E : Nat) (wordAt : Nat → Int32) (cm sm tp wm : Int32) (r : Nat) (ws : Nat → (Nat → Nat) → Nat → LR) : Prop :=
  ∀ n4 n1 (nw ra rf rt : Nat → Int32) (W : Nat → Nat) (m p : Nat) (Ra Rf Rt : Nat → Nat) (fault itF itT : Int32), EN nw W m → m ≤ 48 → p ≤ E → ER ra rf rt Ra Rf Rt r → E + 5 < n1 + p → 3 < n4 + r →
    (∀ f, ws p W m = Sum.inl f → lBad wordAt wm f (lRW tape n4 n1 nw ra rf rt wordAt cm fault itF itT (nI E) (nI m) (nI p) (nI r) sm tp wm)) ∧
    (∀ q W' m', ws p W m = Sum.inr (q, W', m') → ∃ n2 n1' nw' ra' rf' rt' itF' itT', EN nw' W' m' ∧ ER ra' rf' rt' Ra Rf Rt r ∧ E + 6 < n1' + q ∧ r < n2 ∧ lRW tape n4 n1 nw ra rf rt wordAt cm fault itF itT (nI E) (nI m) (nI p) (nI r) sm tp wm = lCL tape n2 n1' nw' ra' rf' rt' wordAt cm fault itF' itT' (nI E) (nI m') (nI q) (nI r) sm tp wm)
theorem lm_stop (h : TX bytes tape t n E) {n4 n1 : Nat} {nw ra rf rt wordAt : Nat → Int32} {cm fault itF itT nm rd sm tp wm : Int32} {q : Nat} (hq : q ≤ E) (hE : E ≤ 60) (h4 : 0 < n4) (h1 : 0 < n1) (hc : E ≤ q ∨ chN t E q = 41) : lBad wordAt wm (fI 1 q) (lRW tape n4 n1 nw ra rf rt wordAt cm fault itF itT (nI E) nm (nI q) rd sm tp wm) := by
  obtain ⟨n4, rfl⟩ : ∃ x, n4 = x + 1 := ⟨n4 - 1, by omega⟩
  have hc2 : chN t E q = 41 ∨ chN t E q = 300 := by
    rcases hc with z | z
    · right; unfold chN; rw [if_neg (by omega)]
    · exact Or.inl z
  have e1 : rg 50 57 (chN t E q) = false := by rw [rg_no]; omega
  have e2 : rg 97 112 (chN t E q) = false := by rw [rg_no]; omega
  have e3 : ltQ t E q = q := by unfold ltQ; rw [e1]; rfl
  unfold lRW
  rw [f_times12 h (by omega), bd3_s, e3, f_X12_readsWord_b4, f_here12 h (by omega), bd1_s, if_neg (by rw [show (40 : Int32) = nI 40 from rfl, chI_eq h (by omega)]; omega), f_let12 h (by omega), bd1_s, e2, if_pos bI_0]
  unfold f_X12_wrongAt
  rw [bd2_s, zI_0, bd11_s]
  exact lBad_0 h1
theorem lm_next (h : TX bytes tape t n E) {n2 n1 : Nat} {nw ra rf rt wordAt : Nat → Int32} {cm fault itF itT nm sm tp wm : Int32} {q r : Nat} (hq : q ≤ E) (hE : E ≤ 60) (h2 : 0 < n2) (hr : r ≤ 2) (h1 : chN t E q ≠ 41 ∨ r = 0) (h3 : q < E ∨ 0 < r) : lCL tape n2 (n1 + 1) nw ra rf rt wordAt cm fault itF itT (nI E) nm (nI q) (nI r) sm tp wm = lRW tape FU n1 nw ra rf rt wordAt cm fault itF itT (nI E) nm (nI q) (nI r) sm tp wm := by
  obtain ⟨n2, rfl⟩ : ∃ x, n2 = x + 1 := ⟨n2 - 1, by omega⟩
  have e1 : f_X12_readsWord_b196 tape (nI E) (n2 + 1) nw ra rf rt fault itF itT nm (nI q) (nI r) = some (1, nw, ra, rf, rt, fault, itF, itT, nm, nI q, nI r) := by
    rw [f_X12_readsWord_b196, f_here12 h (by omega), bd1_s]
    by_cases e : chN t E q = 41
    · rw [if_pos (by rw [show (41 : Int32) = nI 41 from rfl, chI_eq h (by omega)]; exact e), if_pos (by rcases h1 with z | z; exact absurd e z; rw [z]; decide)]; rfl
    · rw [if_neg (by rw [show (41 : Int32) = nI 41 from rfl, chI_eq h (by omega)]; exact e)]; rfl
  have e2 : f_X12_letter_b62 tape (f_X12_letter_b40 tape n1) nw ra rf rt wordAt cm fault itF itT (nI E) nm (nI q) (nI r) sm tp wm = lRW tape FU n1 nw ra rf rt wordAt cm fault itF itT (nI E) nm (nI q) (nI r) sm tp wm := by
    unfold f_X12_letter_b62 f_X12_readsWord lRW
    rw [bd11_bd3]
  unfold lCL
  rw [e1, bd11_s, f_X12_letter_b40, if_neg one_ne, ite_nlt (by omega) (by omega), e2]
  by_cases e : q < E
  · rw [if_pos e]
  · rw [if_neg e, if_neg (by rw [show (0 : Int32) = nI 0 from rfl, nle (by omega) (by omega)]; omega)]
theorem lm_item (h : TX bytes tape t n E) (hE : E ≤ 60) {wordAt : Nat → Int32} {cm sm tp wm : Int32} {r k : Nat} (hk : r + k = 2) (hG : ∀ ws, ltN t E k = some ws → LmW tape E wordAt cm sm tp wm (r + 1) ws) : LmW tape E wordAt cm sm tp wm r (ltI t E (ltN t E k)) := by
  intro n4 n1 nw ra rf rt W m p Ra Rf Rt fault itF itT hA hm hp hR hn1 hn4
  obtain ⟨n4, rfl⟩ : ∃ x, n4 = x + 1 := ⟨n4 - 1, by omega⟩
  obtain ⟨q1, q2⟩ := ltQ_in (t := t) hp
  obtain ⟨s, hs, es⟩ := ltT_in (t := t) (E := E) (p := p)
  unfold lRW ltI
  rw [f_times12 h (by omega), bd3_s, es, f_X12_readsWord_b4, f_here12 h (by omega), bd1_s, f_let12 h (by omega), bd1_s, ite_bI, ite_ch h (c := 40) (k := 40) rfl (by omega)]
  cases e : rg 97 112 (chN t E (ltQ t E p)) with
  | true =>
    obtain ⟨c1, c2, -⟩ := ch_some (k := 112) (rg_iff.mp e).2 (by omega)
    have c3 := rg_iff.mp e
    have hb : m + 1 - m = 1 := by omega
    obtain ⟨r1, r2⟩ := f_rp12 (a0 := p) (fault := fault) (m := m + 1) (fr := m) (hA.put (v := chN t E (ltQ t E p) - 97) (by omega)) (by omega) (by omega) hs
    rw [if_pos (rfl : true = true), if_neg (show ¬ chN t E (ltQ t E p) = 40 by omega), if_pos (rfl : true = true), nI_add, show (48 : Int32) = nI 48 from rfl, ite_nle (by omega) (by omega)]
    unfold ltR
    by_cases hl : m + (s + 1) ≤ 48
    · obtain ⟨a', e1, e2⟩ := r1 (by rw [hb]; omega)
      rw [if_pos hl, if_pos (by rw [hb]; omega), bd1_s, c2, show (97 : Int32) = nI 97 from rfl, pk_sub (a := chN t E (ltQ t E p)) (by omega), sI_n (by omega) (by omega), nI_1, show (1 : Int32) = nI 1 from rfl, pk_sub (a := m + 1) (b := 1) (by omega), show m + 1 - 1 = m by omega, e1, bd4_s, if_neg one_ne, nI_add]
      refine ⟨fun f hf => (by cases hf), fun q W' m' hr => ?_⟩
      cases hr
      exact ⟨FU, n1, a', ra, rf, rt, nI p, nI (s + 1), e2, hR, by omega, FU_gt (by omega), rfl⟩
    · rw [if_neg hl, if_neg (by rw [hb]; omega)]
      refine ⟨fun f hf => ?_, fun q W' m' hr => (by cases hr)⟩
      obtain rfl := Sum.inl.inj hf
      unfold f_X12_wrongAt
      rw [bd2_s, zI_0, bd11_s]
      exact lBad_0 (by omega)
  | false =>
    rw [if_neg ft_ne, if_neg ft_ne]
    by_cases e2 : chN t E (ltQ t E p) = 40
    · obtain ⟨c1, -, -⟩ := ch_some (k := 40) (Nat.le_of_eq e2) (by omega)
      rw [if_pos e2, if_pos e2]
      cases k with
      | zero =>
        rw [if_pos (by rw [show (2 : Int32) = nI 2 from rfl, neq (by omega) (by omega)]; omega)]
        refine ⟨fun f hf => ?_, fun q W' m' hr => (by cases hr)⟩
        obtain rfl := Sum.inl.inj hf
        unfold f_X12_wrongAt
        rw [bd2_s, zI_0, bd11_s]
        exact lBad_0 (by omega)
      | succ k =>
        obtain ⟨w1, w2⟩ := hG _ rfl n4 n1 nw (upd ra r (nI m)) (upd rf r (nI p)) (upd rt r (nI (s + 1))) W m (ltQ t E p + 1) (updN Ra r m) (updN Rf r p) (updN Rt r (s + 1)) fault (nI p) (nI (s + 1)) hA hm (by omega) (hR.put m p (s + 1)) (by omega) (by omega)
        have wo := ltN_ok (t := t) (E := E) (k + 1) _ rfl (ltQ t E p + 1) W m (by omega) hm (fun i hi => (hA i hi).1)
        have wE := ltW_end (t := t) (E := E) (it := ltI t E (ltN t E k)) 100 (ltQ t E p + 1) W m
        rw [if_neg (by rw [show (2 : Int32) = nI 2 from rfl, neq (by omega) (by omega)]; omega), sI_n (by omega) (by omega), sI_n (by omega) (by omega), sI_n (by omega) (by omega), bd11_bd3, nI_1, nI_1]
        unfold lRW at w1 w2
        show (∀ f, (match ltW t E (ltI t E (ltN t E k)) 100 (ltQ t E p + 1) W m with | Sum.inl f => Sum.inl f | Sum.inr (q, W', m') => if chN t E q = 41 then ltR W' m' m (s + 1) p (q + 1) else Sum.inl (fI 1 q)) = Sum.inl f → _) ∧ (∀ q W' m', (match ltW t E (ltI t E (ltN t E k)) 100 (ltQ t E p + 1) W m with | Sum.inl f => Sum.inl f | Sum.inr (q, W', m') => if chN t E q = 41 then ltR W' m' m (s + 1) p (q + 1) else Sum.inl (fI 1 q)) = Sum.inr (q, W', m') → _)
        match e3 : ltW t E (ltI t E (ltN t E k)) 100 (ltQ t E p + 1) W m, w1, w2, wo, wE with
        | Sum.inl f, w1, w2, wo, wE =>
          refine ⟨fun f hf => ?_, fun q W' m' hr => (by cases hr)⟩
          obtain rfl := Sum.inl.inj hf
          exact w1 _ rfl
        | Sum.inr (q, W', m'), w1, w2, wo, wE =>
          obtain ⟨n2, n1', nw', ra', rf', rt', itF', itT', d1, d2, d3, d4, d5⟩ := w2 q W' m' rfl
          obtain ⟨b1, b2, b3, b4, b5⟩ := wo.2 q W' m' rfl
          have wE := wE q W' m' rfl
          rw [d5]
          show (∀ f, (if chN t E q = 41 then ltR W' m' m (s + 1) p (q + 1) else Sum.inl (fI 1 q)) = Sum.inl f → _) ∧ (∀ q_1 W'_1 m'_1, (if chN t E q = 41 then ltR W' m' m (s + 1) p (q + 1) else Sum.inl (fI 1 q)) = Sum.inr (q_1, W'_1, m'_1) → _)
          by_cases e5 : chN t E q = 41
          · have q4 := (ch_some (k := 41) (Nat.le_of_eq e5) (by omega)).1
            obtain ⟨n2, rfl⟩ : ∃ x, n2 = x + 1 := ⟨n2 - 1, by omega⟩
            obtain ⟨g1, g2, g3⟩ := d2 r (by omega)
            rw [updN_s] at g1 g2 g3
            obtain ⟨r1, r2⟩ := f_rp12 (a0 := p) (fault := fault) (m := m') (fr := m) d1 (by omega) (by omega) hs
            unfold lCL
            rw [if_pos e5, f_X12_readsWord_b196, f_here12 h (by omega), bd1_s, ite_ch h (c := 41) (k := 41) rfl (by omega), if_pos e5, if_neg (by rw [show (0 : Int32) = nI 0 from rfl, nle (by omega) (by omega)]; omega), show (1 : Int32) = nI 1 from rfl, pk_sub (a := r + 1) (b := 1) (by omega), Nat.add_sub_cancel, gI_n (by omega) (by omega), gI_n (by omega) (by omega), gI_n (by omega) (by omega), g1, g2, g3, nI_add]
            unfold ltR
            by_cases hl : m + (m' - m) * (s + 1) ≤ 48
            · obtain ⟨a', e6, e7⟩ := r1 hl
              rw [if_pos hl, e6, bd4_s, if_neg one_ne]
              refine ⟨fun f hf => (by cases hf), fun q W' m' hr => ?_⟩
              cases hr
              exact ⟨n2, n1', a', ra', rf', rt', itF', itT', e7, d2.pop, by omega, by omega, rfl⟩
            · rw [if_neg hl, r2 hl, bd4_s, if_pos rfl, bd11_s]
              refine ⟨fun f hf => ?_, fun q W' m' hr => (by cases hr)⟩
              obtain rfl := Sum.inl.inj hf
              exact lBad_0 (by omega)
          · obtain ⟨n1', rfl⟩ : ∃ x, n1' = x + 1 := ⟨n1' - 1, by omega⟩
            rw [if_neg e5, lm_next h b2 hE (by omega) (by omega) (Or.inl e5) (Or.inr (by omega))]
            refine ⟨fun f hf => ?_, fun q W' m' hr => (by cases hr)⟩
            obtain rfl := Sum.inl.inj hf
            exact lm_stop h b2 hE (FU_gt (by omega)) (by omega) wE
    · rw [if_neg e2, if_neg e2]
      refine ⟨fun f hf => ?_, fun q W' m' hr => (by cases hr)⟩
      obtain rfl := Sum.inl.inj hf
      unfold f_X12_wrongAt
      rw [bd2_s, zI_0, bd11_s]
      exact lBad_0 (by omega)
theorem lm_words (h : TX bytes tape t n E) (hE : E ≤ 60) {wordAt : Nat → Int32} {cm sm tp wm : Int32} {r k : Nat} (hr : r ≤ 2) (hG : LmW tape E wordAt cm sm tp wm r (ltI t E (ltN t E k))) : ∀ d n4 n1 (nw ra rf rt : Nat → Int32) (W : Nat → Nat) (m p : Nat) (Ra Rf Rt : Nat → Nat) (fault itF itT : Int32), E - p < d → EN nw W m → m ≤ 48 → p ≤ E → ER ra rf rt Ra Rf Rt r → E + 5 < n1 + p → 3 < n4 + r →
    (∀ f, ltW t E (ltI t E (ltN t E k)) d p W m = Sum.inl f → lBad wordAt wm f (lRW tape n4 n1 nw ra rf rt wordAt cm fault itF itT (nI E) (nI m) (nI p) (nI r) sm tp wm)) ∧
    (∀ q W' m', ltW t E (ltI t E (ltN t E k)) d p W m = Sum.inr (q, W', m') → ∃ n2 n1' nw' ra' rf' rt' itF' itT', EN nw' W' m' ∧ ER ra' rf' rt' Ra Rf Rt r ∧ E + 6 < n1' + q ∧ r < n2 ∧ lRW tape n4 n1 nw ra rf rt wordAt cm fault itF itT (nI E) (nI m) (nI p) (nI r) sm tp wm = lCL tape n2 n1' nw' ra' rf' rt' wordAt cm fault itF' itT' (nI E) (nI m') (nI q) (nI r) sm tp wm) := by
  intro d
  induction d with
  | zero => intro n4 n1 nw ra rf rt W m p Ra Rf Rt fault itF itT h1; omega
  | succ d ih =>
    intro n4 n1 nw ra rf rt W m p Ra Rf Rt fault itF itT hd hA hm hp hR hn1 hn4
    obtain ⟨w1, w2⟩ := hG n4 n1 nw ra rf rt W m p Ra Rf Rt fault itF itT hA hm hp hR hn1 hn4
    have wo := ltI_ok (t := t) (inn := ltN t E k) (ltN_ok k) hp hm (fun i hi => (hA i hi).1)
    rw [ltW]
    match e3 : ltI t E (ltN t E k) p W m, w1, w2, wo with
    | Sum.inl f, w1, w2, wo =>
      refine ⟨fun f hf => ?_, fun q W' m' hr => (by cases hr)⟩
      obtain rfl := Sum.inl.inj hf
      exact w1 _ rfl
    | Sum.inr (q, W', m'), w1, w2, wo =>
      obtain ⟨n2, n1', nw', ra', rf', rt', itF', itT', d1, d2, d3, d4, d5⟩ := w2 q W' m' rfl
      obtain ⟨b1, b2, b3, b4, b5⟩ := wo.2 q W' m' rfl
      rw [d5]
      show (∀ f, (if E ≤ q ∨ chN t E q = 41 then Sum.inr (q, W', m') else ltW t E (ltI t E (ltN t E k)) d q W' m') = Sum.inl f → _) ∧ (∀ q_1 W'_1 m'_1, (if E ≤ q ∨ chN t E q = 41 then Sum.inr (q, W', m') else ltW t E (ltI t E (ltN t E k)) d q W' m') = Sum.inr (q_1, W'_1, m'_1) → _)
      by_cases e5 : E ≤ q ∨ chN t E q = 41
      · rw [if_pos e5]
        refine ⟨fun f hf => (by cases hf), fun q2 W2 m2 hr => ?_⟩
        cases hr
        exact ⟨n2, n1', nw', ra', rf', rt', itF', itT', d1, d2, d3, d4, rfl⟩
      · obtain ⟨n1', rfl⟩ : ∃ x, n1' = x + 1 := ⟨n1' - 1, by omega⟩
        rw [if_neg e5, lm_next h b2 hE (by omega) hr (Or.inl (fun z => e5 (Or.inr z))) (Or.inl (by omega))]
        have hfu : 3 < FU + r := by have : FU = 100000 := rfl; omega
        exact ih FU n1' nw' ra' rf' rt' W' m' q Ra Rf Rt fault itF' itT' (by omega) d1 b4 b2 d2 (by omega) hfu
theorem lm_all (h : TX bytes tape t n E) (hE : E ≤ 60) {wordAt : Nat → Int32} {cm sm tp wm : Int32} : ∀ k r, r + k = 3 → 1 ≤ k → ∀ ws, ltN t E k = some ws → LmW tape E wordAt cm sm tp wm r ws
  | 0, r, _, h1, ws, hws => by omega
  | k + 1, r, hk, _, ws, hws => by
    cases hws
    have hit : LmW tape E wordAt cm sm tp wm r (ltI t E (ltN t E k)) := by
      refine lm_item h hE (by omega) (fun ws hws => ?_)
      rcases Nat.eq_zero_or_pos k with e | e
      · subst e; cases hws
      · exact lm_all h hE k (r + 1) (by omega) e ws hws
    intro n4 n1 nw ra rf rt W m p Ra Rf Rt fault itF itT hA hm hp hR hn1 hn4
    exact lm_words h hE (by omega) hit 100 n4 n1 nw ra rf rt W m p Ra Rf Rt fault itF itT (by omega) hA hm hp hR hn1 hn4
end LM
theorem cI_le {ρ : Type} {n0 n1 k : Nat} {f g : Nat → Int32} {K : (Nat → Int32) → Option ρ} (h0 : k ≤ n0) (h1 : k ≤ n1) (hk : k < 2 ^ 31) : cI n0 n1 f g 0 0 (nI k) K = K (va_cpy f g 0 0 k) := by
  unfold cI
  have e0 : (0 : Int32).toNatClampNeg = 0 := rfl
  rw [nI_clamp hk, e0, if_pos ⟨by decide, by decide, nI_pos hk, by omega, by omega⟩]
set_option maxHeartbeats 4000000 in
theorem pm_letter {v_t_tape_bytes : Nat → Int32} {x_t_tape_size : Int32} {v_t_rhymes_other : Nat → Int32} {v_t_shelf_dread : Nat → Int32} {v_t_shelf_ink : Nat → Int32} {v_t_shelf_kind : Nat → Int32} {v_t_shelf_salt : Nat → Int32} {v_t_shelf_tries : Nat → Int32} {x_t_shelf_day : Int32} {x_t_shelf_nerve : Int32} {x_t_shelf_pictures : Int32} {x_t_shelf_told : Int32} {x_t_shelf_written : Int32} {x_t_shelf_x : Int32} {v_t_kept_dread : Nat → Int32} {v_t_kept_ink : Nat → Int32} {v_t_kept_kind : Nat → Int32} {v_t_kept_salt : Nat → Int32} {v_t_kept_tries : Nat → Int32} {x_t_kept_day : Int32} {x_t_kept_nerve : Int32} {x_t_kept_pictures : Int32} {x_t_kept_told : Int32} {x_t_kept_written : Int32} {x_t_kept_x : Int32} {v_t_letter_words : Nat → Int32} {x_t_letter_size : Int32} {v_t_law_code : Nat → Int32} {v_t_law_letters : Nat → Int32} {v_t_law_valueFrom : Nat → Int32} {v_t_law_testFrom : Nat → Int32} {v_t_law_testEnd : Nat → Int32} {x_t_law_rules : Int32} {x_t_anyKept : Int32} {v_m_now : Nat → Int32} {v_m_kept : Nat → Int32} {v_m_rhymeOf : Nat → Int32} {v_m_wordAt : Nat → Int32} {x_m_wordMany : Int32} {v_m_tape : Nat → Int32} {x_m_taped : Int32} {v_m_codes : Nat → Int32} {v_m_clauseOf : Nat → Int32} {v_m_codeFrom : Nat → Int32} {v_m_codeHalf : Nat → Int32} {v_m_codeTo : Nat → Int32} {x_m_clauses : Int32} {x_m_isKept : Int32} {v_t_letter_draft : Nat → Int32} {x_t_letter_drafted : Int32} {x_t_tape_end : Int32} {x_t_tape_fault : Int32} {x_t_tape_place : Int32} {v_m_newWords : Nat → Int32} {v_m_roundAt : Nat → Int32} {v_m_roundFrom : Nat → Int32} {v_m_roundTimes : Nat → Int32} {x_m_codeMany : Int32} {x_m_fault : Int32} {x_m_itFrom : Int32} {x_m_itTimes : Int32} {x_m_length0 : Int32} {x_m_newMany : Int32} {x_m_place0 : Int32} {x_m_rounds : Int32} {x_m_saidMany : Int32} (hI : Inv v_t_tape_bytes x_t_tape_size v_t_rhymes_other v_t_shelf_dread v_t_shelf_ink v_t_shelf_kind v_t_shelf_salt v_t_shelf_tries x_t_shelf_day x_t_shelf_nerve x_t_shelf_pictures x_t_shelf_told x_t_shelf_written x_t_shelf_x v_t_kept_dread v_t_kept_ink v_t_kept_kind v_t_kept_salt v_t_kept_tries x_t_kept_day x_t_kept_nerve x_t_kept_pictures x_t_kept_told x_t_kept_written x_t_kept_x v_t_letter_words x_t_letter_size v_t_law_code v_t_law_letters v_t_law_valueFrom v_t_law_testFrom v_t_law_testEnd x_t_law_rules x_t_anyKept v_m_now v_m_kept v_m_rhymeOf v_m_wordAt x_m_wordMany v_m_tape x_m_taped v_m_codes v_m_clauseOf v_m_codeFrom v_m_codeHalf v_m_codeTo x_m_clauses x_m_isKept) (a1 : Int32) : ∃ (r : Int32) (o_v_t_letter_draft : Nat → Int32) (o_v_t_letter_words : Nat → Int32) (o_x_t_letter_drafted : Int32) (o_x_t_letter_size : Int32) (o_x_t_tape_end : Int32) (o_x_t_tape_fault : Int32) (o_x_t_tape_place : Int32) (o_x_t_tape_size : Int32) (o_v_m_newWords : Nat → Int32) (o_v_m_roundAt : Nat → Int32) (o_v_m_roundFrom : Nat → Int32) (o_v_m_roundTimes : Nat → Int32) (o_v_m_wordAt : Nat → Int32) (o_x_m_codeMany : Int32) (o_x_m_fault : Int32) (o_x_m_itFrom : Int32) (o_x_m_itTimes : Int32) (o_x_m_length0 : Int32) (o_x_m_newMany : Int32) (o_x_m_place0 : Int32) (o_x_m_rounds : Int32) (o_x_m_saidMany : Int32) (o_x_m_taped : Int32) (o_x_m_wordMany : Int32), f_X11_letter v_t_letter_draft v_t_letter_words v_t_tape_bytes x_t_letter_drafted x_t_letter_size x_t_tape_end x_t_tape_fault x_t_tape_place x_t_tape_size a1 = some (r, o_v_t_letter_draft, o_v_t_letter_words, o_x_t_letter_drafted, o_x_t_letter_size, o_x_t_tape_end, o_x_t_tape_fault, o_x_t_tape_place, o_x_t_tape_size) ∧ f_X12_letter v_m_newWords v_m_roundAt v_m_roundFrom v_m_roundTimes v_m_tape v_m_wordAt x_m_codeMany x_m_fault x_m_itFrom x_m_itTimes x_m_length0 x_m_newMany x_m_place0 x_m_rounds x_m_saidMany x_m_taped x_m_wordMany a1 = some (r, o_v_m_newWords, o_v_m_roundAt, o_v_m_roundFrom, o_v_m_roundTimes, o_v_m_wordAt, o_x_m_codeMany, o_x_m_fault, o_x_m_itFrom, o_x_m_itTimes, o_x_m_length0, o_x_m_newMany, o_x_m_place0, o_x_m_rounds, o_x_m_saidMany, o_x_m_taped, o_x_m_wordMany) ∧ Inv v_t_tape_bytes o_x_t_tape_size v_t_rhymes_other v_t_shelf_dread v_t_shelf_ink v_t_shelf_kind v_t_shelf_salt v_t_shelf_tries x_t_shelf_day x_t_shelf_nerve x_t_shelf_pictures x_t_shelf_told x_t_shelf_written x_t_shelf_x v_t_kept_dread v_t_kept_ink v_t_kept_kind v_t_kept_salt v_t_kept_tries x_t_kept_day x_t_kept_nerve x_t_kept_pictures x_t_kept_told x_t_kept_written x_t_kept_x o_v_t_letter_words o_x_t_letter_size v_t_law_code v_t_law_letters v_t_law_valueFrom v_t_law_testFrom v_t_law_testEnd x_t_law_rules x_t_anyKept v_m_now v_m_kept v_m_rhymeOf o_v_m_wordAt o_x_m_wordMany v_m_tape o_x_m_taped v_m_codes v_m_clauseOf v_m_codeFrom v_m_codeHalf v_m_codeTo x_m_clauses x_m_isKept := by
  have hI0 := hI
  obtain ⟨⟨n, t, hn, rfl, rfl, ht⟩, hR, hS, hK, hL, hW⟩ := hI
  by_cases h : a1 < 1 ∨ 60 < a1
  · exact ⟨_, _, _, _, _, _, _, _, _, _, _, _, _, _, _, _, _, _, _, _, _, _, _, _, _, by unfold f_X11_letter f_X11_letter_b21; rw [f_within_eq, if_pos h, bd1_s, if_pos rfl], by unfold f_X12_letter f_X12_letter_b18; rw [f_in_eq, if_pos h, bd1_s, if_pos rfl], hI0⟩
  obtain ⟨N, hN, rfl⟩ := rg_of (n := 60) (a := a1) (by omega) (fun q => h (Or.inl (by rw [fa_lt] at q ⊢; have : (0 : Int32).toInt = 0 := rfl; have : (1 : Int32).toInt = 1 := rfl; omega))) (fun q => h (Or.inr q))
  by_cases hNn : N ≤ n
  · have e2 : nI N ≤ nI n := by rw [nle (by omega) (by omega)]; exact hNn
    have hTX : TX v_t_tape_bytes v_m_tape t n N := ⟨hn, hNn, ht⟩
    have hcl : f_X11_letter v_t_letter_draft v_t_letter_words v_t_tape_bytes x_t_letter_drafted x_t_letter_size x_t_tape_end x_t_tape_fault x_t_tape_place (nI n) (nI N) = bd8 (bd4 (f_X3_readWords DP v_t_letter_draft v_t_tape_bytes (nI 0) (nI N) 0 (nI 0) (nI n) (nI 0)) (fun w6 w7 w8 w9 => bd1 (f_X9_isAtEnd (nI N) w9) (fun r10 => if r10 = 0 then bd1 (f_X9_fail w8 w9 (1 : Int32)) (fun w11 => f_X3_read_b36 w6 v_t_letter_words w7 x_t_letter_size (nI N) w11 w9) else f_X3_read_b36 w6 v_t_letter_words w7 x_t_letter_size (nI N) w8 w9))) (fun r3 w4 w5 w6 w7 w8 w9 w10 => some (r3, w4, w5, w6, w7, w8, w9, w10, 0)) := by
      unfold f_X11_letter f_X3_read f_X9_begin f_X9_empty
      rw [f_within_eq, if_neg h, bd1_s, if_neg one_ne, f_has9 n N hn (by omega), if_pos hNn, bd1_s, if_neg one_ne, bd3_s, mn_nI (by omega) (by omega), show min N n = N by omega]
      rfl
    have hrf : f_X12_letter v_m_newWords v_m_roundAt v_m_roundFrom v_m_roundTimes v_m_tape v_m_wordAt x_m_codeMany x_m_fault x_m_itFrom x_m_itTimes x_m_length0 x_m_newMany x_m_place0 x_m_rounds x_m_saidMany (nI n) x_m_wordMany (nI N) = lRW v_m_tape FU FU v_m_newWords v_m_roundAt v_m_roundFrom v_m_roundTimes v_m_wordAt 0 x_m_fault x_m_itFrom x_m_itTimes (nI N) (nI 0) (nI 0) (nI 0) 0 (nI n) x_m_wordMany := by
      unfold f_X12_letter f_X12_beginsText f_X12_readsWord lRW
      rw [f_in_eq, if_neg h, bd1_s, if_neg one_ne, if_pos e2, bd4_s, bd11_bd3]
      rfl
    have hFU : FU = 100000 := rfl
    obtain ⟨w1, w2⟩ := lc_all hTX hN 3 0 DP (by omega) (by decide) (by omega) _ rfl v_t_letter_draft 0 (fun _ => 0) 0 (fun i hi => by omega) (by omega) (by omega)
    obtain ⟨m1, m2⟩ := lm_all hTX hN (wordAt := v_m_wordAt) (cm := 0) (sm := 0) (tp := nI n) (wm := x_m_wordMany) 3 0 (by omega) (by omega) _ rfl FU FU v_m_newWords v_m_roundAt v_m_roundFrom v_m_roundTimes (fun _ => 0) 0 0 (fun _ => 0) (fun _ => 0) (fun _ => 0) x_m_fault x_m_itFrom x_m_itTimes (fun i hi => by omega) (by omega) (by omega) (fun i hi => by omega) (by omega) (by omega)
    have wo := ltN_ok (t := t) (E := N) 3 _ rfl 0 (fun _ => 0) 0 (by omega) (by omega) (fun i hi => by omega)
    have wE := ltW_end (t := t) (E := N) (it := ltI t N (ltN t N 2)) 100 0 (fun _ => 0) 0
    rw [hcl, hrf]
    match e3 : ltW t N (ltI t N (ltN t N 2)) 100 0 (fun _ => 0) 0, w1, w2, m1, m2, wo, wE with
    | Sum.inl f, w1, w2, m1, m2, wo, wE =>
      obtain ⟨a', m', q, e4, hq⟩ := w1 f rfl
      obtain ⟨kk, qq, b1, b2, b3, rfl⟩ := wo.1 f rfl
      obtain ⟨x1, x2, x3, x4, y1, y2, y3, y4, y5, y6, y7, y8, y9, e5⟩ := m1 _ rfl
      have hfn := fI_ne b1 b2 (show qq < 270 by omega)
      rw [e4, bd4_s, f_atEnd9 (by omega) (by omega), bd1_s, f_fail9f hfn, bd1_s, ite_self, e5]
      unfold f_X3_read_b36
      rw [f_failed1 hfn, bd1_s, if_neg one_ne, bd8_s]
      exact ⟨_, _, _, _, _, _, _, _, _, _, _, _, _, _, _, _, _, _, _, _, _, _, _, _, _, rfl, rfl, RTape.empty, hR, hS, hK, hL, hW⟩
    | Sum.inr (q, W', m'), w1, w2, m1, m2, wo, wE =>
      obtain ⟨a', e4, hA⟩ := w2 q W' m' rfl
      obtain ⟨b1, b2, b3, b4, b5⟩ := wo.2 q W' m' rfl
      obtain ⟨n2, n1', nw', ra', rf', rt', itF', itT', d1, d2, d3, d4, d5⟩ := m2 q W' m' rfl
      have wE := wE q W' m' rfl
      obtain ⟨n1', rfl⟩ : ∃ x, n1' = x + 1 := ⟨n1' - 1, by omega⟩
      rw [e4, bd4_s, f_atEnd9 (by omega) (by omega), bd1_s, ite_bI, d5]
      by_cases e5 : N ≤ q
      · have ecl : lCL v_m_tape n2 (n1' + 1) nw' ra' rf' rt' v_m_wordAt 0 x_m_fault itF' itT' (nI N) (nI m') (nI q) (nI 0) 0 (nI n) x_m_wordMany = some (nI m', nw', ra', rf', rt', fa_fill nw' v_m_wordAt m', 0, x_m_fault, itF', itT', nI N, nI m', nI q, nI 0, 0, 0, nI m') := by
          obtain ⟨n2, rfl⟩ : ∃ x, n2 = x + 1 := ⟨n2 - 1, by omega⟩
          have e41 : ¬ chI t N q = 41 := by
            rw [show (41 : Int32) = nI 41 from rfl, chI_eq hTX (by omega)]
            unfold chN
            rw [if_neg (by omega)]; omega
          unfold lCL
          rw [f_X12_readsWord_b196, f_here12 hTX (by omega), bd1_s, if_neg e41]
          unfold f_X12_readsWord_b268
          rw [bd11_s, f_X12_letter_b40, if_neg one_ne, ite_nlt (by omega) (by omega), if_neg (by omega), if_pos (by decide)]
          unfold f_X12_letter_b70
          rw [if_neg one_ne]
          refine loopNN (fun k x i => f_X12_letter_b94 k nw' ra' rf' rt' x 0 x_m_fault itF' itT' (nI N) (nI m') (nI q) (nI 0) 0 0 (nI m') i) (fun k => fa_fill nw' v_m_wordAt k) 0 m' (by omega) (by omega) (a0 := v_m_wordAt) (i0 := 0) rfl (fa_fill_0 _ _) _ (fun k j _ hj => ?_) (fun k => ?_)
          · show f_X12_letter_b94 (k + 1) _ _ _ _ _ _ _ _ _ _ _ _ _ _ _ _ _ = f_X12_letter_b94 k _ _ _ _ _ _ _ _ _ _ _ _ _ _ _ _ _
            rw [f_X12_letter_b94, if_neg (by rw [nle (by omega) (by omega)]; omega), gI_n (by omega) (by omega), sI_n (by omega) (by omega), fa_fill_succ]
          · show f_X12_letter_b94 (k + 1) _ _ _ _ _ _ _ _ _ _ _ _ _ _ _ _ _ = _
            rw [f_X12_letter_b94, if_pos (by rw [nle (by omega) (by omega)]; omega)]
        rw [ecl, if_pos (by rw [decide_eq_true e5])]
        unfold f_X3_read_b36
        rw [f_failed0, bd1_s, if_pos rfl, show (48 : Int32) = nI 48 from rfl, mn_nI (by omega) (by omega), show min m' 48 = m' by omega, cI_le (by omega) (by omega) (by omega), bd8_s]
        refine ⟨_, _, _, _, _, _, _, _, _, _, _, _, _, _, _, _, _, _, _, _, _, _, _, _, _, rfl, rfl, RTape.empty, hR, hS, hK, ⟨m', W', b4, rfl, rfl, fun i hi => ⟨(hA i hi).1, ?_, ?_⟩⟩, hW⟩
        · rw [cpy_in hi]; exact (hA i hi).2
        · rw [fa_fill_in hi]; exact (d1 i hi).2
      · have e6 : chN t N q = 41 := by
          rcases wE with z | z
          · exact absurd z e5
          · exact z
        obtain ⟨x1, x2, x3, x4, y1, y2, y3, y4, y5, y6, y7, y8, y9, e7⟩ := lm_stop (wordAt := v_m_wordAt) (wm := x_m_wordMany) (cm := 0) (fault := x_m_fault) (itF := itF') (itT := itT') (nm := nI m') (rd := nI 0) (sm := 0) (tp := nI n) (nw := nw') (ra := ra') (rf := rf') (rt := rt') (n4 := FU) (n1 := n1') hTX b2 hN (FU_gt (by omega)) (by omega) (Or.inr e6)
        rw [if_neg (show ¬ (decide (N ≤ q) = true) from fun z => e5 (of_decide_eq_true z)), lm_next hTX b2 hN (by omega) (by omega) (Or.inr rfl) (Or.inl (by omega)), e7, show (1 : Int32) = nI 1 from rfl, f_fail9, bd1_s]
        have hfn := fI_ne (k := 1) (q := q) (by omega) (by omega) (by omega)
        unfold f_X3_read_b36
        rw [f_failed1 hfn, bd1_s, if_neg one_ne, bd8_s]
        exact ⟨_, _, _, _, _, _, _, _, _, _, _, _, _, _, _, _, _, _, _, _, _, _, _, _, _, rfl, rfl, RTape.empty, hR, hS, hK, hL, hW⟩
  · have e2 : ¬ nI N ≤ nI n := by rw [nle (by omega) (by omega)]; exact hNn
    exact ⟨_, _, _, _, _, _, _, _, _, _, _, _, _, _, _, _, _, _, _, _, _, _, _, _, _, by unfold f_X11_letter f_X11_letter_b21; rw [f_within_eq, if_neg h, bd1_s, if_neg one_ne, f_has9 n N hn (by omega), if_neg hNn, bd1_s, if_pos rfl], by unfold f_X12_letter f_X12_letter_b18; rw [f_in_eq, if_neg h, bd1_s, if_neg one_ne, if_neg e2], hI0⟩
