/-! pure: a law, the reference's reader: conditions -/
/-- leaps that wait to be told where they go, the last one first: (kind, place) -/
def Ld : List (Nat × Nat) → Cd → Nat → Cd
  | [], c, _ => c
  | y :: r, c, m => Ld r (updC c y.2 ((c y.2).1, m)) m
def extJ (Wf : Nat → Nat) (w : Nat) : List (Nat × Nat) → Nat → Nat
  | [] => Wf
  | y :: r => updN (extJ Wf w r) (w + r.length) (1048576 * y.1 + y.2)
theorem Ld_app : ∀ (r s : List (Nat × Nat)) (c : Cd) (m : Nat), Ld (r ++ s) c m = Ld s (Ld r c m) m
  | [], s, c, m => rfl
  | y :: r, s, c, m => Ld_app r s _ m
theorem extJ_app : ∀ (r : List (Nat × Nat)) (y : Nat × Nat) (Wf : Nat → Nat) (w : Nat), extJ Wf w (r ++ [y]) = extJ (updN Wf w (1048576 * y.1 + y.2)) (w + 1) r
  | [], y, Wf, w => rfl
  | x :: r, y, Wf, w => by
    show updN (extJ Wf w (r ++ [y])) (w + (r ++ [y]).length) (1048576 * x.1 + x.2) = updN (extJ (updN Wf w (1048576 * y.1 + y.2)) (w + 1) r) (w + 1 + r.length) (1048576 * x.1 + x.2)
    rw [extJ_app r y, List.length_append, show w + (r.length + [y].length) = w + 1 + r.length by simp; omega]
theorem WK.baseJ {wa : Nat → Int32} {Wf : Nat → Nat} {w : Nat} : ∀ {r : List (Nat × Nat)}, WK wa (extJ Wf w r) (w + r.length) → WK wa Wf w
  | [], h => h
  | y :: r, h => WK.baseJ (r := r) (WK.pop (w := w + r.length) h)
theorem la_stop {wa : Nat → Int32} {Wf : Nat → Nat} {w : Nat} {a1 cm : Int32} {fu : Nat} {said : Nat → Int32} (h : WK wa Wf w) (h0 : 0 < w) (hw : w ≤ 260) (h1 : wtp Wf w ≠ 11) (h2 : a1 = 0 ∨ wtp Wf w ≠ 12) : f_X12_lands_b0 wa cm a1 (fu + 1) said (nI w) = some (said, nI w) := by
  have hl := wtp_lt h
  rw [f_X12_lands_b0, f_topP h h0 hw, bd1_s, bd1_s, if_neg (by rw [show (11 : Int32) = nI 11 from rfl, neq (by omega) (by omega)]; exact h1)]
  unfold f_X12_lands_b73
  rcases h2 with z | z
  · rw [if_pos z]
  · rw [if_neg (show ¬ nI (wtp Wf w) = 12 by rw [show (12 : Int32) = nI 12 from rfl, neq (by omega) (by omega)]; exact z), ite_self]
theorem la_pop {wa : Nat → Int32} {Wf : Nat → Nat} {w kd j m : Nat} {a1 : Int32} {fu : Nat} {said : Nat → Int32} {c : Cd} (h : WK wa (updN Wf w (1048576 * kd + j)) (w + 1)) (hw : w < 260) (hM : KM said c m) (hm : m ≤ 260) (hj : j < m) (hk : kd = 11 ∨ (kd = 12 ∧ ¬ a1 = 0)) : f_X12_lands_b0 wa (nI m) a1 (fu + 1) said (nI (w + 1)) = f_X12_lands_b0 wa (nI m) a1 fu (upd said j (nI (1048576 * rop (c j).1 + m))) (nI w) := by
  have et : wtp (updN Wf w (1048576 * kd + j)) (w + 1) = kd := by rw [wtp_s]; omega
  obtain ⟨c1, c2, c3⟩ := hM j hj
  have hr := rop_le _ c1
  obtain ⟨w1, w2⟩ := h w (by omega)
  rw [updN_s] at w1 w2
  have e22 : f_X12_lands_b22 wa (nI m) a1 (f_X12_lands_b0 wa (nI m) a1 fu) said (nI (w + 1)) = f_X12_lands_b0 wa (nI m) a1 fu (upd said j (nI (1048576 * rop (c j).1 + m))) (nI w) := by
    unfold f_X12_lands_b22
    rw [show (1 : Int32) = nI 1 from rfl, pk_sub (a := w + 1) (b := 1) (by omega), Nat.add_sub_cancel, gI_n (by omega) (by omega), w1, show (1048576 : Int32) = nI 1048576 from rfl, rI_n (nI_ne0 (by omega) (by omega)), pk_rem (by omega) (by omega) (by omega), show (1048576 * kd + j) % 1048576 = j by omega, gI_n (by omega) (by omega), c3, dI_n (nI_ne0 (by omega) (by omega)), pk_div (by omega) (by omega) (by omega), show (1048576 * rop (c j).1 + (c j).2) / 1048576 = rop (c j).1 by omega, pk_mul, nI_add, sI_n (by omega) (by omega)]
  rw [f_X12_lands_b0, f_topP h (by omega) (by omega), bd1_s, bd1_s, et, e22]
  rcases hk with z | ⟨z1, z2⟩
  · rw [if_pos (by rw [z]; rfl)]
  · rw [if_neg (by rw [z1]; decide), if_neg z2, if_pos (by rw [z1]; rfl)]
theorem la_all {wa : Nat → Int32} {Wf : Nat → Nat} {w m : Nat} {a1 : Int32} (h0 : 0 < w) (h1 : wtp Wf w ≠ 11) (h2 : a1 = 0 ∨ wtp Wf w ≠ 12) : ∀ (r : List (Nat × Nat)) (c : Cd) (fu : Nat) (said : Nat → Int32), (∀ y, y ∈ r → (y.1 = 11 ∨ (y.1 = 12 ∧ ¬ a1 = 0)) ∧ y.2 < m) → WK wa (extJ Wf w r) (w + r.length) → KM said c m → m ≤ 260 → w + r.length ≤ 260 → r.length < fu → ∃ said', f_X12_lands_b0 wa (nI m) a1 fu said (nI (w + r.length)) = some (said', nI w) ∧ KM said' (Ld r c m) m
  | [], c, fu + 1, said, _, hK, hM, _, hw, _ => ⟨said, la_stop hK h0 hw h1 h2, hM⟩
  | y :: r, c, fu + 1, said, hr, hK, hM, hm, hw, hf => by
    obtain ⟨hk, hj⟩ := hr y (List.mem_cons_self)
    have hlen : (y :: r).length = r.length + 1 := rfl
    have hK' : WK wa (updN (extJ Wf w r) (w + r.length) (1048576 * y.1 + y.2)) (w + r.length + 1) := hK
    have hM' : KM (upd said y.2 (nI (1048576 * rop (c y.2).1 + m))) (updC c y.2 ((c y.2).1, m)) m := by
      intro i hi
      obtain ⟨c1, c2, c3⟩ := hM y.2 hj
      by_cases e : i = y.2
      · rw [e, updC_s, pk_us]; exact ⟨c1, by show m < 100000; omega, rfl⟩
      · rw [updC_n e, pk_un e]; exact hM i hi
    obtain ⟨said', e1, e2⟩ := la_all h0 h1 h2 r (updC c y.2 ((c y.2).1, m)) fu (upd said y.2 (nI (1048576 * rop (c y.2).1 + m))) (fun x hx => hr x (List.mem_cons_of_mem _ hx)) hK'.pop hM' hm (by omega) (by omega)
    refine ⟨said', ?_, e2⟩
    rw [hlen, show w + (r.length + 1) = w + r.length + 1 by omega, la_pop hK' (by omega) hM hm hj hk, e1]
def cH (tape : Nat → Int32) (E n1 : Nat) (said wa : Nat → Int32) (m : Nat) (fault num : Int32) (o p w : Nat) : Option R9 := f_X12_readsCondition_b40 tape (nI E) n1 said wa (nI m) fault num (nI o) (nI p) (nI w)
def cB (tape : Nat → Int32) (E n1 n2 : Nat) (said wa : Nat → Int32) (m : Nat) (fault num : Int32) (o p w : Nat) : Option R9 := f_X12_readsCondition_b92 tape (nI E) (f_X12_readsCondition_b40 tape (nI E) n1) n2 said wa (nI m) fault num (nI o) (nI p) (nI w)
def cP (tape : Nat → Int32) (E n1 n2 n3 : Nat) (said wa : Nat → Int32) (m : Nat) (fault num : Int32) (o p w : Nat) : Option R9 := bd4 (f_X12_endsPiece_b0 wa n3 said (nI m) (nI o) (nI w)) (fun a b c d => f_X12_readsCondition_b92 tape (nI E) (f_X12_readsCondition_b40 tape (nI E) n1) n2 a wa b fault num c (nI p) d)
def PaS (tape : Nat → Int32) (E o : Nat) (Wf : Nat → Nat) (w : Nat) (fault : Int32) (a : CR) (x : Option R9) : Prop :=
  (∀ f, a = Sum.inl f → rBad f x) ∧ (∀ q c' m', a = Sum.inr (q, c', m') → ∃ n1 n2 n3 said' wa' num', KM said' c' m' ∧ WK wa' Wf w ∧ E < n1 + q ∧ E < n2 + q ∧ o < n3 ∧ x = cP tape E n1 n2 n3 said' wa' m' fault num' o q w)
def TsS (tape : Nat → Int32) (E o : Nat) (sp : Ps) : Prop := ∀ n1 (said wa : Nat → Int32) (c : Cd) (m p : Nat) (Wf : Nat → Nat) (w : Nat) (num fault : Int32), KM said c m → WK wa Wf w → m ≤ p → w ≤ p → 1 ≤ w → p ≤ E → NS (wtp Wf w) → E < n1 + p → PaS tape E o Wf w fault (sp p c m) (cH tape E n1 said wa m fault num o p w)
def BaS (tape : Nat → Int32) (E o L : Nat) (K : Nat → Prop) (Wf : Nat → Nat) (w : Nat) (fault : Int32) (a : CR) (x : Option R9) : Prop :=
  (∀ f, a = Sum.inl f → rBad f x) ∧ (∀ q c' m', a = Sum.inr (q, c', m') → ∃ n1 n2 said' wa' num' r c'', (∀ y, y ∈ r → K y.1 ∧ y.2 < m') ∧ r.length ≤ L ∧ Ld r c'' m' = c' ∧ KM said' c'' m' ∧ WK wa' (extJ Wf w r) (w + r.length) ∧ E < n1 + q ∧ E < n2 + q ∧ x = cB tape E n1 n2 said' wa' m' fault num' o q (w + r.length))
def CsS (tape : Nat → Int32) (E o L : Nat) (T K : Nat → Prop) (sp : Ps) : Prop := ∀ n1 (said wa : Nat → Int32) (c : Cd) (m p : Nat) (Wf : Nat → Nat) (w : Nat) (num fault : Int32), KM said c m → WK wa Wf w → m ≤ p → w ≤ p → 1 ≤ w → p ≤ E → T (wtp Wf w) → E < n1 + p → BaS tape E o L K Wf w fault (sp p c m) (cH tape E n1 said wa m fault num o p w)
def tAll (x : Nat) : Prop := NS x ∧ x ≠ 10 ∧ x ≠ 11
def tAny (x : Nat) : Prop := NS x ∧ x ≠ 10 ∧ x ≠ 11 ∧ x ≠ 12
def kAll (x : Nat) : Prop := x = 11
def kAny (x : Nat) : Prop := x = 11 ∨ x = 12
section RC
variable {bytes tape : Nat → Int32} {t : Nat → Nat} {n E : Nat}
/-- a piece has ended where no ! waits -/
theorem cP_cB {n1 n2 n3 : Nat} {said wa : Nat → Int32} {m : Nat} {fault num : Int32} {o p w : Nat} {Wf : Nat → Nat} (h : WK wa Wf w) (h0 : 0 < w) (hw : w ≤ 260) (h3 : 0 < n3) (h1 : wtp Wf w ≠ 10) : cP tape E n1 n2 n3 said wa m fault num o p w = cB tape E n1 n2 said wa m fault num o p w := by
  obtain ⟨n3, rfl⟩ : ∃ x, n3 = x + 1 := ⟨n3 - 1, by omega⟩
  have hl := wtp_lt h
  unfold cP cB
  rw [f_X12_endsPiece_b0, f_topP h h0 hw, bd1_s, if_neg (by rw [show (10 : Int32) = nI 10 from rfl, neq (by omega) (by omega)]; exact h1), bd4_s]
theorem ct_all (h : TX bytes tape t n E) (hE : E ≤ 240) {o : Nat} {ts : Ps} (hT : TsS tape E o ts) (hi : PsOK E ts) : CsS tape E o 1 tAll kAll (spL t E 38 4 ts) := by
  intro n1 said wa c m p Wf w num fault hK hW hm hwp hw1 hp hT1 hn1
  obtain ⟨hNS, h10, h11⟩ := hT1
  have loop : ∀ d (l : Option Nat) q c m n1 n2 (said wa : Nat → Int32) (num : Int32) (r : List (Nat × Nat)), E - q < d → q ≤ E → m ≤ q → w + 1 ≤ q → E < n1 + q → E < n2 + q → (l = none ∧ r = [] ∨ ∃ j, l = some j ∧ r = [(11, j)] ∧ j < m) → KM said c m → WK wa (extJ Wf w r) (w + r.length) → BaS tape E o 1 kAll Wf w fault (lch t E 38 4 ts d l q c m) (cB tape E n1 n2 said wa m fault num o q (w + r.length)) := by
    intro d
    induction d with
    | zero => intro l q c m n1 n2 said wa num r h1; omega
    | succ d ih =>
      intro l q c m n1 n2 said wa num r hd hq hmq hwq hn1 hn2 hl hK hW
      have hr : (∀ y, y ∈ r → y.1 = 11 ∧ y.2 < m) ∧ r.length ≤ 1 ∧ Ld r c m = pat c l m := by
        rcases hl with ⟨z1, z2⟩ | ⟨j, z1, z2, z3⟩
        · subst z1 z2; exact ⟨fun y hy => (by cases hy), by show 0 ≤ 1; omega, rfl⟩
        · subst z1 z2
          exact ⟨fun y hy => by rw [List.mem_singleton.mp hy]; exact ⟨rfl, z3⟩, Nat.le_refl 1, rfl⟩
      obtain ⟨hr1, hr2, hr3⟩ := hr
      rw [lch]
      by_cases h1 : chN t E q = 38
      · have hqE := ch_in256 (t := t) (E := E) (p := q) (by omega)
        obtain ⟨n2, rfl⟩ : ∃ x, n2 = x + 1 := ⟨n2 - 1, by omega⟩
        obtain ⟨said2, s1, s2⟩ := la_all (wa := wa) (Wf := Wf) (w := w) (m := m) (a1 := 0) (by omega) h11 (Or.inl rfl) r c FU said (fun y hy => ⟨Or.inl (hr1 y hy).1, (hr1 y hy).2⟩) hW hK (by omega) (by omega) (FU_gt (by omega))
        rw [hr3] at s2
        have s1' : f_X12_lands said wa (nI m) (nI (w + r.length)) 0 = some (said2, nI w) := s1
        have key : cB tape E n1 (n2 + 1) said wa m fault num o q (w + r.length) = cH tape E n1 (upd said2 m (nI (1048576 * rop 4 + 0))) (upd wa w (nI (1048576 * 11 + m))) (m + 1) fault num o (q + 1) (w + 1) := by
          unfold cB cH
          rw [f_X12_readsCondition_b92, f_here12 h (by omega), bd1_s, bd1_s, bd1_s, ite_ch h (c := 41) (k := 41) rfl (by omega), ite_ch h (c := 38) (k := 38) rfl (by omega), if_neg (by omega), if_pos h1]
          unfold f_X12_readsCondition_b180 f_X12_readsCondition_b195 f_X12_readsCondition_b215 f_X12_jumps
          rw [f_here12 h (by omega), bd1_s, ite_ch h (c := 124) (k := 124) rfl (by omega), if_neg (by omega), s1', bd2_s, bd1_s, ite_ch h (c := 38) (k := 38) rfl (by omega), if_pos h1, show (1048576 : Int32) = nI 1048576 from rfl, show (11 : Int32) = nI 11 from rfl, pk_mul, nI_add, sI_n (by omega) (by omega), show (0 : Int32) = nI 0 from rfl, f_notes12 (by omega), bd2_s, bd5_s, nI_1, nI_1]
          rfl
        rw [if_pos h1, key]
        obtain ⟨g1, g2⟩ := hT n1 (upd said2 m (nI (1048576 * rop 4 + 0))) (upd wa w (nI (1048576 * 11 + m))) (updC (pat c l m) m (4, 0)) (m + 1) (q + 1) (updN Wf w (1048576 * 11 + m)) (w + 1) num fault (s2.put (by omega) (by omega)) ((WK.baseJ (r := r) hW).put (by omega)) (by omega) (by omega) (by omega) (by omega) (by rw [wtp_s]; unfold NS; omega) (by omega)
        obtain ⟨i1, i2⟩ := hi (q + 1) (updC (pat c l m) m (4, 0)) (m + 1) (by omega)
        match e : ts (q + 1) (updC (pat c l m) m (4, 0)) (m + 1), g1, g2, i2 with
        | Sum.inl f, g1, g2, i2 => exact ⟨fun f' hf => by obtain rfl := Sum.inl.inj hf; exact g1 _ rfl, fun q c' m' e => (by cases e)⟩
        | Sum.inr (q', c', m'), g1, g2, i2 =>
          obtain ⟨n1', n2', n3', said', wa', num', b1, b2, b3, b4, b5, b6⟩ := g2 q' c' m' rfl
          obtain ⟨a1, a2, a3, a4, a5⟩ := i2 q' c' m' rfl
          rw [b6, cP_cB b2 (by omega) (by omega) (by omega) (by rw [wtp_s]; omega)]
          exact ih (some m) q' c' m' n1' n2' said' wa' num' [(11, m)] (by omega) a2 (by omega) (by omega) b3 b4 (Or.inr ⟨m, rfl, rfl, by omega⟩) b1 b2
      · rw [if_neg h1]
        refine ⟨fun f hf => (by cases hf), fun q2 c2 m2 e => ?_⟩
        cases e
        exact ⟨n1, n2, said, wa, num, r, c, hr1, hr2, hr3, hK, hW, hn1, hn2, rfl⟩
  obtain ⟨g1, g2⟩ := hT n1 said wa c m p Wf w num fault hK hW hm hwp hw1 hp hNS hn1
  obtain ⟨i1, i2⟩ := hi p c m hp
  unfold spL
  match e : ts p c m, g1, g2, i2 with
  | Sum.inl f, g1, g2, i2 => exact ⟨fun f' hf => by obtain rfl := Sum.inl.inj hf; exact g1 _ rfl, fun q c' m' e => (by cases e)⟩
  | Sum.inr (q', c', m'), g1, g2, i2 =>
    obtain ⟨n1', n2', n3', said', wa', num', b1, b2, b3, b4, b5, b6⟩ := g2 q' c' m' rfl
    obtain ⟨a1, a2, a3, a4, a5⟩ := i2 q' c' m' rfl
    rw [b6, cP_cB b2 (by omega) (by omega) (by omega) h10]
    exact loop 300 none q' c' m' n1' n2' said' wa' num' [] (by omega) a2 (by omega) (by omega) b3 b4 (Or.inl ⟨rfl, rfl⟩) b1 b2
theorem lch_end {ch op : Nat} {it : Ps} {P : Nat → Prop} (hi : ∀ p c m q c' m', it p c m = Sum.inr (q, c', m') → P q) : ∀ d l q c m q' c' m', P q → lch t E ch op it d l q c m = Sum.inr (q', c', m') → P q' ∧ chN t E q' ≠ ch
  | 0, l, q, c, m, q', c', m', _, e => by cases e
  | d + 1, l, q, c, m, q', c', m', hP, e => by
    rw [lch] at e
    by_cases h1 : chN t E q = ch
    · rw [if_pos h1] at e
      match e2 : it (q + 1) (updC (pat c l m) m (op, 0)) (m + 1), e with
      | Sum.inl f, e => cases e
      | Sum.inr (q1, c1, m1), e => exact lch_end hi d (some m) q1 _ _ q' c' m' (hi _ _ _ _ _ _ e2) e
    · rw [if_neg h1] at e; cases e; exact ⟨hP, h1⟩
theorem spL_end {ch op : Nat} {it : Ps} {P : Nat → Prop} (hi : ∀ p c m q c' m', it p c m = Sum.inr (q, c', m') → P q) (p : Nat) (c : Cd) (m q : Nat) (c' : Cd) (m' : Nat) (e : spL t E ch op it p c m = Sum.inr (q, c', m')) : P q ∧ chN t E q ≠ ch := by
  unfold spL at e
  match e2 : it p c m, e with
  | Sum.inl f, e => cases e
  | Sum.inr (q1, c1, m1), e => exact lch_end hi 300 none q1 c1 m1 q c' m' (hi _ _ _ _ _ _ e2) e
theorem ct_any (h : TX bytes tape t n E) (hE : E ≤ 240) {o : Nat} {al : Ps} (hA : CsS tape E o 1 tAll kAll al) (hi : PsOK E al) (hend : ∀ p c m q c' m', al p c m = Sum.inr (q, c', m') → chN t E q ≠ 38) : CsS tape E o 2 tAny kAny (spL t E 124 3 al) := by
  intro n1 said wa c m p Wf w num fault hK hW hm hwp hw1 hp hT1 hn1
  obtain ⟨hNS, h10, h11, h12⟩ := hT1
  have loop : ∀ d (l : Option Nat) q c m n1 n2 (said wa : Nat → Int32) (num : Int32) (r1 r : List (Nat × Nat)) c'', E - q < d → q ≤ E → m ≤ q → w + 1 ≤ q → E < n1 + q → E < n2 + q → chN t E q ≠ 38 → (l = none ∧ r = [] ∨ ∃ j, l = some j ∧ r = [(12, j)] ∧ j < m) → (∀ y, y ∈ r1 → y.1 = 11 ∧ y.2 < m) → r1.length ≤ 1 → Ld r1 c'' m = c → KM said c'' m → WK wa (extJ Wf w (r1 ++ r)) (w + (r1 ++ r).length) → BaS tape E o 2 kAny Wf w fault (lch t E 124 3 al d l q c m) (cB tape E n1 n2 said wa m fault num o q (w + (r1 ++ r).length)) := by
    intro d
    induction d with
    | zero => intro l q c m n1 n2 said wa num r1 r c'' h1; omega
    | succ d ih =>
      intro l q c m n1 n2 said wa num r1 r c'' hd hq hmq hwq hn1 hn2 h38 hl q1 q2 q3 hK hW
      have hr : (∀ y, y ∈ r → y.1 = 12 ∧ y.2 < m) ∧ r.length ≤ 1 ∧ Ld (r1 ++ r) c'' m = pat c l m := by
        rw [Ld_app, q3]
        rcases hl with ⟨z1, z2⟩ | ⟨j, z1, z2, z3⟩
        · subst z1 z2; exact ⟨fun y hy => (by cases hy), by show 0 ≤ 1; omega, rfl⟩
        · subst z1 z2
          exact ⟨fun y hy => by rw [List.mem_singleton.mp hy]; exact ⟨rfl, z3⟩, Nat.le_refl 1, rfl⟩
      obtain ⟨hr1, hr2, hr3⟩ := hr
      have hlen : (r1 ++ r).length = r1.length + r.length := List.length_append
      have hmem : ∀ y, y ∈ r1 ++ r → (y.1 = 11 ∨ y.1 = 12) ∧ y.2 < m := by
        intro y hy
        rcases List.mem_append.mp hy with z | z
        · exact ⟨Or.inl (q1 y z).1, (q1 y z).2⟩
        · exact ⟨Or.inr (hr1 y z).1, (hr1 y z).2⟩
      rw [lch]
      by_cases h1 : chN t E q = 124
      · have hqE := ch_in256 (t := t) (E := E) (p := q) (by omega)
        obtain ⟨n2, rfl⟩ : ∃ x, n2 = x + 1 := ⟨n2 - 1, by omega⟩
        obtain ⟨said2, s1, s2⟩ := la_all (wa := wa) (Wf := Wf) (w := w) (m := m) (a1 := 1) (by omega) h11 (Or.inr h12) (r1 ++ r) c'' FU said (fun y hy => ⟨by rcases (hmem y hy).1 with z | z; exact Or.inl z; exact Or.inr ⟨z, one_ne⟩, (hmem y hy).2⟩) hW hK (by omega) (by omega) (FU_gt (by omega))
        rw [hr3] at s2
        have s1' : f_X12_lands said wa (nI m) (nI (w + (r1 ++ r).length)) 1 = some (said2, nI w) := s1
        have key : cB tape E n1 (n2 + 1) said wa m fault num o q (w + (r1 ++ r).length) = cH tape E n1 (upd said2 m (nI (1048576 * rop 3 + 0))) (upd wa w (nI (1048576 * 12 + m))) (m + 1) fault num o (q + 1) (w + 1) := by
          unfold cB cH
          rw [f_X12_readsCondition_b92, f_here12 h (by omega), bd1_s, bd1_s, bd1_s, ite_ch h (c := 41) (k := 41) rfl (by omega), ite_ch h (c := 38) (k := 38) rfl (by omega), ite_ch h (c := 124) (k := 124) rfl (by omega), if_neg (by omega), if_neg (by omega), if_pos h1]
          unfold f_X12_readsCondition_b180 f_X12_readsCondition_b195 f_X12_readsCondition_b215 f_X12_jumps
          rw [f_here12 h (by omega), bd1_s, ite_ch h (c := 124) (k := 124) rfl (by omega), if_pos h1, s1', bd2_s, bd1_s, ite_ch h (c := 38) (k := 38) rfl (by omega), if_neg (by omega), show (1048576 : Int32) = nI 1048576 from rfl, show (12 : Int32) = nI 12 from rfl, pk_mul, nI_add, sI_n (by omega) (by omega), show (0 : Int32) = nI 0 from rfl, f_notes12 (by omega), bd2_s, bd5_s, nI_1, nI_1]
          rfl
        rw [if_pos h1, key]
        obtain ⟨g1, g2⟩ := hA n1 (upd said2 m (nI (1048576 * rop 3 + 0))) (upd wa w (nI (1048576 * 12 + m))) (updC (pat c l m) m (3, 0)) (m + 1) (q + 1) (updN Wf w (1048576 * 12 + m)) (w + 1) num fault (s2.put (by omega) (by omega)) ((WK.baseJ (r := r1 ++ r) hW).put (by omega)) (by omega) (by omega) (by omega) (by omega) (by rw [wtp_s]; unfold tAll NS; omega) (by omega)
        obtain ⟨i1, i2⟩ := hi (q + 1) (updC (pat c l m) m (3, 0)) (m + 1) (by omega)
        have h38' := hend (q + 1) (updC (pat c l m) m (3, 0)) (m + 1)
        match e : al (q + 1) (updC (pat c l m) m (3, 0)) (m + 1), g1, g2, i2, h38' with
        | Sum.inl f, g1, g2, i2, h38' => exact ⟨fun f' hf => by obtain rfl := Sum.inl.inj hf; exact g1 _ rfl, fun q c' m' e => (by cases e)⟩
        | Sum.inr (q', c', m'), g1, g2, i2, h38' =>
          obtain ⟨n1', n2', said', wa', num', r', c3, b1, b2, b3, b4, b5, b6, b7, b8⟩ := g2 q' c' m' rfl
          obtain ⟨a1, a2, a3, a4, a5⟩ := i2 q' c' m' rfl
          have el : (r' ++ [(12, m)]).length = r'.length + 1 := by rw [List.length_append]; rfl
          have fin := ih (some m) q' c' m' n1' n2' said' wa' num' r' [(12, m)] c3 (by omega) a2 (by omega) (by omega) b6 b7 (h38' q' c' m' rfl) (Or.inr ⟨m, rfl, rfl, by omega⟩) b1 b2 b3 b4 (by rw [extJ_app, el, show w + (r'.length + 1) = w + 1 + r'.length by omega]; exact b5)
          rw [el, show w + (r'.length + 1) = w + 1 + r'.length by omega] at fin
          rw [b8]
          exact fin
      · rw [if_neg h1]
        refine ⟨fun f hf => (by cases hf), fun q2 c2 m2 e => ?_⟩
        cases e
        exact ⟨n1, n2, said, wa, num, r1 ++ r, c'', hmem, by omega, hr3, hK, hW, hn1, hn2, rfl⟩
  obtain ⟨g1, g2⟩ := hA n1 said wa c m p Wf w num fault hK hW hm hwp hw1 hp ⟨hNS, h10, h11⟩ hn1
  obtain ⟨i1, i2⟩ := hi p c m hp
  have h38' := hend p c m
  unfold spL
  match e : al p c m, g1, g2, i2, h38' with
  | Sum.inl f, g1, g2, i2, h38' => exact ⟨fun f' hf => by obtain rfl := Sum.inl.inj hf; exact g1 _ rfl, fun q c' m' e => (by cases e)⟩
  | Sum.inr (q', c', m'), g1, g2, i2, h38' =>
    obtain ⟨n1', n2', said', wa', num', r', c3, b1, b2, b3, b4, b5, b6, b7, b8⟩ := g2 q' c' m' rfl
    obtain ⟨a1, a2, a3, a4, a5⟩ := i2 q' c' m' rfl
    have fin := loop 300 none q' c' m' n1' n2' said' wa' num' r' [] c3 (by omega) a2 (by omega) (by omega) b6 b7 (h38' q' c' m' rfl) (Or.inl ⟨rfl, rfl⟩) b1 b2 b3 b4 (by rw [List.append_nil]; exact b5)
    rw [List.append_nil] at fin
    rw [b8]
    exact fin
end RC
