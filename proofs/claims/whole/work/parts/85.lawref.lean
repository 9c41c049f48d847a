/-! pure: a law, the reference's reader: sums -/
def rop (o : Nat) : Nat := if o = 0 then 0 else if o = 1 then 1 else if o = 2 then 10 else if o = 3 then 12 else if o = 4 then 11 else o - 3
theorem rop_le : ∀ o, o ≤ 12 → rop o ≤ 12 := by decide
theorem rop_5 {o : Nat} (h : 5 ≤ o) : rop o = o - 3 := by unfold rop; rw [if_neg (by omega), if_neg (by omega), if_neg (by omega), if_neg (by omega), if_neg (by omega)]
def KM (said : Nat → Int32) (c : Cd) (m : Nat) : Prop := ∀ i, i < m → (c i).1 ≤ 12 ∧ (c i).2 < 100000 ∧ said i = nI (1048576 * rop (c i).1 + (c i).2)
theorem KM.put {said : Nat → Int32} {c : Cd} {m op v : Nat} (h : KM said c m) (ho : op ≤ 12) (hv : v < 100000) : KM (upd said m (nI (1048576 * rop op + v))) (updC c m (op, v)) (m + 1) := by
  intro i hi
  by_cases e : i = m
  · rw [e, updC_s, pk_us]; exact ⟨ho, hv, rfl⟩
  · rw [updC_n e, pk_un e]; exact h i (by omega)
theorem f_notes12 {said : Nat → Int32} {m r v : Nat} (hm : m < 260) : f_X12_notes said (nI m) (nI r) (nI v) = some (upd said m (nI (1048576 * r + v)), nI (m + 1)) := by
  unfold f_X12_notes
  rw [show (1048576 : Int32) = nI 1048576 from rfl, pk_mul, nI_add, sI_n hm (by omega), nI_1]
def WK (wa : Nat → Int32) (Wf : Nat → Nat) (w : Nat) : Prop := ∀ i, i < w → wa i = nI (Wf i) ∧ Wf i < 2 ^ 31
theorem WK.put {wa : Nat → Int32} {Wf : Nat → Nat} {w x : Nat} (h : WK wa Wf w) (hx : x < 2 ^ 31) : WK (upd wa w (nI x)) (updN Wf w x) (w + 1) := by
  intro i hi
  by_cases e : i = w
  · rw [e, updN_s, pk_us]; exact ⟨rfl, hx⟩
  · rw [updN_n e, pk_un e]; exact h i (by omega)
theorem WK.pop {wa : Nat → Int32} {Wf : Nat → Nat} {w x : Nat} (h : WK wa (updN Wf w x) (w + 1)) : WK wa Wf w := by
  intro i hi
  have h1 := h i (by omega)
  rw [updN_n (by omega)] at h1
  exact h1
def wtp (Wf : Nat → Nat) (w : Nat) : Nat := if w = 0 then 99 else Wf (w - 1) / 1048576
theorem wtp_s {Wf : Nat → Nat} {w x : Nat} : wtp (updN Wf w x) (w + 1) = x / 1048576 := by
  unfold wtp
  rw [if_neg (by omega), Nat.add_sub_cancel, updN_s]
theorem f_top12 {wa : Nat → Int32} {Wf : Nat → Nat} {w : Nat} (h : WK wa Wf w) (hw : w ≤ 260) : f_X12_waitTop wa (nI w) = some (if w = 0 then -1 else nI (wtp Wf w)) := by
  unfold f_X12_waitTop f_X12_waitTop_b25 wtp
  rcases Nat.eq_zero_or_pos w with z | z
  · rw [if_pos (by rw [z]; rfl), if_pos z]
  · obtain ⟨h1, h2⟩ := h (w - 1) (by omega)
    rw [if_neg (nI_ne0 z (by omega)), show (1 : Int32) = nI 1 from rfl, pk_sub (by omega), gI_n (by omega) (by omega), h1, dI_n (by decide), show (1048576 : Int32) = nI 1048576 from rfl, pk_div h2 (by omega) (by omega), if_neg (by omega), if_neg (by omega)]
theorem f_topP {wa : Nat → Int32} {Wf : Nat → Nat} {w : Nat} (h : WK wa Wf w) (h0 : 0 < w) (hw : w ≤ 260) : f_X12_waitTop wa (nI w) = some (nI (wtp Wf w)) := by rw [f_top12 h hw, if_neg (show ¬ w = 0 by omega)]
theorem wtp_lt {wa : Nat → Int32} {Wf : Nat → Nat} {w : Nat} (h : WK wa Wf w) : wtp Wf w < 2 ^ 12 := by
  unfold wtp
  rcases Nat.eq_zero_or_pos w with z | z
  · rw [if_pos z]; omega
  · have := (h (w - 1) (by omega)).2
    rw [if_neg (by omega)]
    omega
/-- signs that wait, the last one first: they will be noted in this order -/
def Cl : List Nat → Cd → Nat → Cd
  | [], c, _ => c
  | op :: r, c, m => Cl r (updC c m (op, 0)) (m + 1)
def ext (Wf : Nat → Nat) (w : Nat) : List Nat → Nat → Nat
  | [] => Wf
  | op :: r => updN (ext Wf w r) (w + r.length) (1048576 * rop op)
theorem Cl_app : ∀ (r : List Nat) (op : Nat) (c : Cd) (m : Nat), Cl (r ++ [op]) c m = updC (Cl r c m) (m + r.length) (op, 0)
  | [], op, c, m => rfl
  | x :: r, op, c, m => by
    show Cl (r ++ [op]) (updC c m (x, 0)) (m + 1) = updC (Cl r (updC c m (x, 0)) (m + 1)) (m + (r.length + 1)) (op, 0)
    rw [Cl_app r op, show m + 1 + r.length = m + (r.length + 1) by omega]
theorem ext_app : ∀ (r : List Nat) (op : Nat) (Wf : Nat → Nat) (w : Nat), ext Wf w (r ++ [op]) = ext (updN Wf w (1048576 * rop op)) (w + 1) r
  | [], op, Wf, w => rfl
  | x :: r, op, Wf, w => by
    show updN (ext Wf w (r ++ [op])) (w + (r ++ [op]).length) (1048576 * rop x) = updN (ext (updN Wf w (1048576 * rop op)) (w + 1) r) (w + 1 + r.length) (1048576 * rop x)
    rw [ext_app r op, List.length_append, show w + (r.length + [op].length) = w + 1 + r.length by simp; omega]
theorem WK.base {wa : Nat → Int32} {Wf : Nat → Nat} {w : Nat} : ∀ {r : List Nat}, WK wa (ext Wf w r) (w + r.length) → WK wa Wf w
  | [], h => h
  | op :: r, h => WK.base (r := r) (WK.pop (w := w + r.length) h)
theorem cs_stop {wa : Nat → Int32} {Wf : Nat → Nat} {w : Nat} {a1 : Int32} {fu : Nat} {said : Nat → Int32} {cm : Int32} (h : WK wa Wf w) (hw : w ≤ 260) (hT : wtp Wf w < 4 ∨ 6 < wtp Wf w) (hS : a1 = 0 ∨ ¬ (wtp Wf w = 2 ∨ wtp Wf w = 3)) : f_X12_closesSums_b0 wa a1 (fu + 1) said cm (nI w) = some (said, cm, nI w) := by
  have hl := wtp_lt h
  rw [f_X12_closesSums_b0, f_top12 h hw, bd1_s, bd1_s]
  unfold f_X12_closesSums_b17 f_X12_closesSums_b59
  rw [f_top12 h hw, bd1_s, bd1_s]
  rcases Nat.eq_zero_or_pos w with z | z
  · rw [if_pos z, if_pos (by decide), if_neg (show ¬ (-1 : Int32) = 2 by decide), if_neg (show ¬ (-1 : Int32) = 3 by decide), ite_self]
  · rw [if_neg (show ¬ w = 0 by omega)]
    have e17 : (if a1 = 0 then some (said, cm, nI w) else if nI (wtp Wf w) = 2 then f_X12_closesSums_b37 wa a1 (f_X12_closesSums_b0 wa a1 fu) said cm (nI w) else if nI (wtp Wf w) = 3 then f_X12_closesSums_b37 wa a1 (f_X12_closesSums_b0 wa a1 fu) said cm (nI w) else some (said, cm, nI w)) = some (said, cm, nI w) := by
      rcases hS with y | y
      · rw [if_pos y]
      · rw [if_neg (show ¬ nI (wtp Wf w) = 2 by rw [show (2 : Int32) = nI 2 from rfl, neq (by omega) (by omega)]; omega), if_neg (show ¬ nI (wtp Wf w) = 3 by rw [show (3 : Int32) = nI 3 from rfl, neq (by omega) (by omega)]; omega), ite_self]
    rw [e17, show (4 : Int32) = nI 4 from rfl, ite_nlt (by omega) (by omega), show (6 : Int32) = nI 6 from rfl, ite_nle (by omega) (by omega)]
    by_cases y : wtp Wf w < 4
    · rw [if_pos y]
    · rw [if_neg y, if_neg (by omega)]
theorem cs_pop {wa : Nat → Int32} {Wf : Nat → Nat} {w op m : Nat} {a1 : Int32} {fu : Nat} {said : Nat → Int32} (h : WK wa (updN Wf w (1048576 * rop op)) (w + 1)) (hw : w < 260) (hm : m < 260) (h5 : 5 ≤ op) (h9 : op ≤ 9) (hS : a1 = 0 → 7 ≤ op) : f_X12_closesSums_b0 wa a1 (fu + 1) said (nI m) (nI (w + 1)) = f_X12_closesSums_b0 wa a1 fu (upd said m (nI (1048576 * rop op + 0))) (nI (m + 1)) (nI w) := by
  have et : wtp (updN Wf w (1048576 * rop op)) (w + 1) = op - 3 := by rw [wtp_s, rop_5 h5]; omega
  have e37 : f_X12_closesSums_b37 wa a1 (f_X12_closesSums_b0 wa a1 fu) said (nI m) (nI (w + 1)) = f_X12_closesSums_b0 wa a1 fu (upd said m (nI (1048576 * rop op + 0))) (nI (m + 1)) (nI w) := by
    unfold f_X12_closesSums_b37
    rw [f_topP h (by omega) (by omega), bd1_s, et, show (0 : Int32) = nI 0 from rfl, f_notes12 hm, bd2_s, rop_5 h5, show (1 : Int32) = nI 1 from rfl, pk_sub (a := w + 1) (b := 1) (by omega), Nat.add_sub_cancel]
  rw [f_X12_closesSums_b0, f_topP h (by omega) (by omega), bd1_s, bd1_s, et]
  unfold f_X12_closesSums_b17
  rw [f_topP h (by omega) (by omega), bd1_s, bd1_s, et, e37, show (4 : Int32) = nI 4 from rfl, ite_nlt (by omega) (by omega), show (6 : Int32) = nI 6 from rfl, ite_nle (by omega) (by omega)]
  by_cases y : op - 3 < 4
  · have hn0 : ¬ a1 = 0 := fun q => by have := hS q; omega
    rw [if_pos y, if_neg hn0]
    by_cases y2 : op = 5
    · rw [if_pos (by rw [y2]; rfl)]
    · rw [if_neg (by rw [show (2 : Int32) = nI 2 from rfl, neq (by omega) (by omega)]; omega), if_pos (by rw [show op = 6 by omega]; rfl)]
  · rw [if_neg y, if_pos (by omega)]
theorem cs_all {wa : Nat → Int32} {Wf : Nat → Nat} {w : Nat} {a1 : Int32} (hT : wtp Wf w < 4 ∨ 6 < wtp Wf w) (hS : a1 = 0 ∨ ¬ (wtp Wf w = 2 ∨ wtp Wf w = 3)) : ∀ (r : List Nat) (c : Cd) (m fu : Nat) (said : Nat → Int32), (∀ op, op ∈ r → 5 ≤ op ∧ op ≤ 9 ∧ (a1 = 0 → 7 ≤ op)) → WK wa (ext Wf w r) (w + r.length) → KM said c m → m + r.length ≤ 260 → w + r.length ≤ 260 → r.length < fu → ∃ said', f_X12_closesSums_b0 wa a1 fu said (nI m) (nI (w + r.length)) = some (said', nI (m + r.length), nI w) ∧ KM said' (Cl r c m) (m + r.length)
  | [], c, m, fu + 1, said, _, hK, hM, _, hw, _ => ⟨said, cs_stop hK hw hT hS, hM⟩
  | op :: r, c, m, fu + 1, said, hr, hK, hM, hm, hw, hf => by
    obtain ⟨h5, h9, h7⟩ := hr op (List.mem_cons_self)
    have hlen : (op :: r).length = r.length + 1 := rfl
    have hK' : WK wa (updN (ext Wf w r) (w + r.length) (1048576 * rop op)) (w + r.length + 1) := hK
    obtain ⟨said', e1, e2⟩ := cs_all hT hS r (updC c m (op, 0)) (m + 1) fu (upd said m (nI (1048576 * rop op + 0))) (fun x hx => hr x (List.mem_cons_of_mem _ hx)) hK'.pop (hM.put (by omega) (by omega)) (by omega) (by omega) (by omega)
    refine ⟨said', ?_, ?_⟩
    · rw [hlen, show w + (r.length + 1) = w + r.length + 1 by omega, cs_pop hK' (by omega) (by omega) h5 h9 h7, e1, show m + 1 + r.length = m + (r.length + 1) by omega]
    · rw [hlen, show m + (r.length + 1) = m + 1 + r.length by omega]; exact e2
theorem hos_no {wa : Nat → Int32} {Wf : Nat → Nat} {wn : Nat} (h : WK wa Wf wn) (hw : wn ≤ 260) : ∀ d k fu, k + d = wn → d < fu → (∀ i, k ≤ i → i < wn → Wf i / 1048576 ≠ 14) → f_X12_hasOpenSum_b2 wa (nI wn) fu (nI k) = some 0
  | 0, k, fu + 1, hk, _, _ => by rw [f_X12_hasOpenSum_b2, if_pos (by rw [nle (by omega) (by omega)]; omega)]
  | d + 1, k, fu + 1, hk, hf, hn => by
    obtain ⟨h1, h2⟩ := h k (by omega)
    rw [f_X12_hasOpenSum_b2, if_neg (by rw [nle (by omega) (by omega)]; omega), gI_n (by omega) (by omega), h1, dI_n (by decide), show (1048576 : Int32) = nI 1048576 from rfl, pk_div h2 (by omega) (by omega), if_neg (by rw [show (14 : Int32) = nI 14 from rfl, neq (by omega) (by omega)]; exact hn k (Nat.le_refl k) (by omega)), nI_1]
    exact hos_no h hw d (k + 1) fu (by omega) (by omega) (fun i a b => hn i (by omega) b)
theorem hos_yes {wa : Nat → Int32} {Wf : Nat → Nat} {wn i0 : Nat} (h : WK wa Wf wn) (hw : wn ≤ 260) (hi : i0 < wn) (h14 : Wf i0 / 1048576 = 14) : ∀ d k fu, k + d = i0 → d < fu → f_X12_hasOpenSum_b2 wa (nI wn) fu (nI k) = some 1
  | 0, k, fu + 1, hk, _ => by
    obtain rfl : k = i0 := by omega
    obtain ⟨h1, h2⟩ := h k (by omega)
    rw [f_X12_hasOpenSum_b2, if_neg (by rw [nle (by omega) (by omega)]; omega), gI_n (by omega) (by omega), h1, dI_n (by decide), show (1048576 : Int32) = nI 1048576 from rfl, pk_div h2 (by omega) (by omega), h14, if_pos (show nI 14 = 14 from rfl)]
  | d + 1, k, fu + 1, hk, hf => by
    obtain ⟨h1, h2⟩ := h k (by omega)
    rw [f_X12_hasOpenSum_b2, if_neg (by rw [nle (by omega) (by omega)]; omega), gI_n (by omega) (by omega), h1, dI_n (by decide), show (1048576 : Int32) = nI 1048576 from rfl, pk_div h2 (by omega) (by omega), nI_1]
    rw [hos_yes h hw hi h14 d (k + 1) fu (by omega) (by omega)]
    exact ite_self _
theorem f_opn12 {wa : Nat → Int32} {fault : Int32} {o p w what : Nat} (ho : o ≤ 6) (hw : w < 260) : f_X12_opens wa fault (nI o) (nI p) (nI w) (nI what) = if o = 6 then some (0, wa, fI 5 p, nI o, nI p, nI w) else some (1, upd wa w (nI (1048576 * what)), fault, nI (o + 1), nI (p + 1), nI (w + 1)) := by
  unfold f_X12_opens f_X12_wrongAt
  rw [bd2_s, zI_0, show (1048576 : Int32) = nI 1048576 from rfl, pk_mul, sI_n hw (by omega), nI_1, nI_1, nI_1]
  by_cases h : o = 6
  · rw [if_pos h, if_pos (by rw [h]; rfl)]; rfl
  · rw [if_neg h, if_neg (by rw [show (6 : Int32) = nI 6 from rfl, neq (by omega) (by omega)]; exact h)]
abbrev R9 := Int32 × (Nat → Int32) × (Nat → Int32) × Int32 × Int32 × Int32 × Int32 × Int32 × Int32
def rBad (f : Int32) (o : Option R9) : Prop := ∃ x1 x2 x3 x5 x6 x7 x8, o = some ((0 : Int32), x1, x2, x3, f, x5, x6, x7, x8)
def rFL (tape : Nat → Int32) (E n4 n1 : Nat) (said wa : Nat → Int32) (m : Nat) (fault num : Int32) (o p w base : Nat) : Option R9 := bd9 (f_X12_readsFactor_b0 tape (nI E) n4 said wa (nI m) fault num (nI o) (nI p) (nI w)) (fun r5 w6 w7 w8 w9 w10 w11 w12 w13 => if r5 = 0 then some ((0 : Int32), w6, w7, w8, w9, w10, w11, w12, w13) else f_X12_readsSum_b14 tape (nI E) n1 w6 w7 w8 w9 w10 w11 w12 w13 (nI base))
def rSt (tape : Nat → Int32) (E n1 : Nat) (said wa : Nat → Int32) (m : Nat) (fault num : Int32) (o p w base : Nat) : Option R9 := f_X12_readsSum_b14 tape (nI E) n1 said wa (nI m) fault num (nI o) (nI p) (nI w) (nI base)
section RF
variable {bytes tape : Nat → Int32} {t : Nat → Nat} {n E : Nat}
theorem f_nm12 (h : TX bytes tape t n E) {p0 : Nat} (hp0 : p0 < 2 ^ 28) (fl : Int32) : ∀ k p v m, p + k = p0 + 5 → p < 2 ^ 29 → k < m → (∀ f, rnA t E k p v = Sum.inl f → ∃ w q, f_X12_readsNumber_b10 tape (nI E) m fl (nI v) (nI p) (nI p0) = some (0, f, w, q)) ∧ (∀ q u, rnA t E k p v = Sum.inr (q, u) → f_X12_readsNumber_b10 tape (nI E) m fl (nI v) (nI p) (nI p0) = some (1, fl, nI u, nI q))
  | 0, p, v, m + 1, hd, hp, _ => by
    rw [f_X12_readsNumber_b10, f_dig12 h (by omega), bd1_s, ite_bI, rnA]
    cases e : rg 48 57 (chN t E p) with
    | true =>
      rw [if_pos rfl]
      refine ⟨fun f hf => ?_, fun q u hq => (by cases hq)⟩
      obtain rfl := Sum.inl.inj hf
      refine ⟨nI v, nI p, ?_⟩
      rw [if_pos rfl, show (5 : Int32) = nI 5 from rfl, nI_add, if_pos (by rw [neq (by omega) (by omega)]; omega)]
      unfold f_X12_wrongAt
      rw [bd2_s, zI_0]; rfl
    | false =>
      rw [if_neg (by decide)]
      refine ⟨fun f hf => (by cases hf), fun q u hq => ?_⟩
      cases hq
      rw [if_neg (by decide)]
  | k + 1, p, v, m + 1, hd, hp, hm => by
    rw [f_X12_readsNumber_b10, f_dig12 h (by omega), bd1_s, ite_bI, rnA]
    cases e : rg 48 57 (chN t E p) with
    | true =>
      obtain ⟨hpe, hce, -⟩ := ch_some (k := 57) (rg_iff.mp e).2 (by omega)
      have hc := rg_iff.mp e
      rw [if_pos rfl, if_pos rfl, show (5 : Int32) = nI 5 from rfl, nI_add, if_neg (by rw [neq (by omega) (by omega)]; omega), f_here12 h (by omega), bd1_s, hce, nI_1, show (10 : Int32) = nI 10 from rfl, pk_mul, nI_add, show (48 : Int32) = nI 48 from rfl, pk_sub (by omega)]
      exact f_nm12 h hp0 fl k (p + 1) (10 * v + chN t E p - 48) m (by omega) (by have := h.1; have := h.2.1; omega) (by omega)
    | false =>
      rw [if_neg (by decide)]
      refine ⟨fun f hf => (by cases hf), fun q u hq => ?_⟩
      cases hq
      rw [if_neg (by decide)]
def sgn (x : Nat) : Nat := if opS x = 0 then opT x else opS x
theorem f_sgn12 (h : TX bytes tape t n E) (p : Nat) : f_X12_sumSign (chI t E p) = some (if sgn (chN t E p) = 0 then -1 else nI (rop (sgn (chN t E p)))) := by
  unfold f_X12_sumSign f_X12_sumSign_b52
  rw [ite_ch h (c := 43) (k := 43) rfl (by omega), ite_ch h (c := 45) (k := 45) rfl (by omega), ite_ch h (c := 42) (k := 42) rfl (by omega), ite_ch h (c := 47) (k := 47) rfl (by omega), ite_ch h (c := 37) (k := 37) rfl (by omega)]
  generalize chN t E p = x
  by_cases k1 : x = 43
  · subst k1; rfl
  by_cases k2 : x = 45
  · subst k2; rfl
  by_cases k3 : x = 42
  · subst k3; rfl
  by_cases k4 : x = 47
  · subst k4; rfl
  by_cases k5 : x = 37
  · subst k5; rfl
  have e1 : sgn x = 0 := by unfold sgn opS opT; rw [if_neg k1, if_neg k2, if_pos rfl, if_neg k3, if_neg k4, if_neg k5]
  rw [e1, if_pos rfl, if_neg k1, if_neg k2, if_neg k3, if_neg k4, if_neg k5]
/-- an answer of the spec, and the reference from there on; signs of r still wait -/
def RaS (tape : Nat → Int32) (E o L : Nat) (ops : Nat → Prop) (Wf : Nat → Nat) (w base : Nat) (fault : Int32) (a : CR) (x : Option R9) : Prop :=
    (∀ f, a = Sum.inl f → rBad f x) ∧
    (∀ q c' m', a = Sum.inr (q, c', m') → ∃ n1' said' wa' num' r c'' m'', (∀ op, op ∈ r → ops op) ∧ r.length ≤ L ∧ Cl r c'' m'' = c' ∧ m'' + r.length = m' ∧ KM said' c'' m'' ∧ WK wa' (ext Wf w r) (w + r.length) ∧ E < n1' + q ∧ x = rSt tape E n1' said' wa' m'' fault num' o q (w + r.length) base)
def RfS (tape : Nat → Int32) (E o L : Nat) (T : Nat → Prop) (ops : Nat → Prop) (sp : Ps) : Prop :=
  ∀ n4 n1 (said wa : Nat → Int32) (c : Cd) (m p : Nat) (Wf : Nat → Nat) (w base : Nat) (num fault : Int32), KM said c m → WK wa Wf w → m ≤ p → w ≤ p → p ≤ E → base ≤ w → T (wtp Wf w) → E < n1 + p → 7 < n4 + o → RaS tape E o L ops Wf w base fault (sp p c m) (rFL tape E n4 n1 said wa m fault num o p w base)
theorem RaS.bn {tape : Nat → Int32} {E o L L1 : Nat} {T ops ops1 : Nat → Prop} {Wf Wf1 : Nat → Nat} {w w1 base : Nat} {fault num : Int32} {it : Ps} (hF : RfS tape E o L1 T ops1 it) (hi : PsOK E it) {n4 n1 : Nat} {said wa : Nat → Int32} {c : Cd} {m p : Nat} (hK : KM said c m) (hW : WK wa Wf1 w1) (hm : m ≤ p) (hw : w1 ≤ p) (hp : p ≤ E) (hb : base ≤ w1) (hT : T (wtp Wf1 w1)) (hn1 : E < n1 + p) (hn4 : 7 < n4 + o) {k : Nat → Cd → Nat → CR}
    (hk : ∀ q c' m' n1' said' wa' num' r c'' m'', p < q → q ≤ E → m < m' → m' + p ≤ m + q → it p c m = Sum.inr (q, c', m') → (∀ op, op ∈ r → ops1 op) → r.length ≤ L1 → Cl r c'' m'' = c' → m'' + r.length = m' → KM said' c'' m'' → WK wa' (ext Wf1 w1 r) (w1 + r.length) → E < n1' + q → RaS tape E o L ops Wf w base fault (k q c' m') (rSt tape E n1' said' wa' m'' fault num' o q (w1 + r.length) base)) :
    RaS tape E o L ops Wf w base fault (bnC (it p c m) k) (rFL tape E n4 n1 said wa m fault num o p w1 base) := by
  obtain ⟨g1, g2⟩ := hF n4 n1 said wa c m p Wf1 w1 base num fault hK hW hm hw hp hb hT hn1 hn4
  obtain ⟨i1, i2⟩ := hi p c m hp
  match e : it p c m, g1, g2, i2 with
  | Sum.inl f, g1, g2, i2 => exact ⟨fun f' hf => by obtain rfl := Sum.inl.inj hf; exact g1 _ rfl, fun q c' m' e => (by cases e)⟩
  | Sum.inr (q, c', m'), g1, g2, i2 =>
    obtain ⟨n1', said', wa', num', r, c'', m'', r1, r2, r3, r4, r5, r6, r7, r8⟩ := g2 q c' m' rfl
    obtain ⟨a1, a2, a3, a4, a5⟩ := i2 q c' m' rfl
    rw [r8]
    exact hk q c' m' n1' said' wa' num' r c'' m'' a1 a2 a3 a4 e r1 r2 r3 r4 r5 r6 r7
end RF
