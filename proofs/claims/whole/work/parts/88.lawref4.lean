/-! pure: a law, the reference's reader: tests, and a whole condition -/
theorem bd9_bd4 {ρ : Type} {X : Option ((Nat → Int32) × Int32 × Int32 × Int32)} {wa : Nat → Int32} {f nu q r : Int32} {K : Int32 → (Nat → Int32) → (Nat → Int32) → Int32 → Int32 → Int32 → Int32 → Int32 → Int32 → Option ρ} : bd9 (bd4 X (fun a b c d => some (r, a, wa, b, f, nu, c, q, d))) K = bd4 X (fun a b c d => K r a wa b f nu c q d) := by
  rcases X with _ | ⟨a, b, c, d⟩ <;> rfl
theorem cmp_in {x : Nat} (h : ¬ cmpO x = 0) : 10 ≤ cmpO x ∧ cmpO x ≤ 12 := by
  have hx := cmp_lt h
  exact (by decide +kernel : ∀ x, x < 256 → ¬ cmpO x = 0 → 10 ≤ cmpO x ∧ cmpO x ≤ 12) x hx h
def spCo (t : Nat → Nat) (E : Nat) (ts : Ps) : Ps := fun p c m => if chN t E p = 40 then bnC (spL t E 124 3 (spL t E 38 4 ts) (p + 1) c m) (fun q c' m' => if chN t E q = 41 then Sum.inr (q + 1, c', m') else Sum.inl (fI 1 q)) else Sum.inl (fI 1 p)
theorem spCo_ok {t : Nat → Nat} {E : Nat} {ts : Ps} (hi : PsOK E ts) : PsOK E (spCo t E ts) := by
  intro p c m hp
  unfold spCo
  by_cases h1 : chN t E p = 40
  · have hpE := ch_in256 (t := t) (E := E) (p := p) (by omega)
    rw [if_pos h1]
    refine POX.bn (spL_ok (by omega) (spL_ok (by omega) hi)) (by omega) (fun q c' m' a1 a2 a3 a4 a5 => ?_)
    by_cases h2 : chN t E q = 41
    · have hq := ch_in256 (t := t) (E := E) (p := q) (by omega)
      rw [if_pos h2]
      exact POX.good (by omega) (by omega) (by omega) (by omega) a5
    · rw [if_neg h2]; exact POX.bad (by omega) (by omega) a2
  · rw [if_neg h1]; exact POX.bad (by omega) (by omega) hp
section RD
variable {bytes tape : Nat → Int32} {t : Nat → Nat} {n E : Nat}
theorem ct_test (h : TX bytes tape t n E) (hE : E ≤ 240) {o k : Nat} (hk : o + k = 6) (hG : ∀ ts, spC t E k = some ts → TsS tape E (o + 1) ts ∧ CsS tape E (o + 1) 2 tAny kAny (spL t E 124 3 (spL t E 38 4 ts))) : TsS tape E o (spT t E (smA t E (spE t E k)) (spC t E k)) := by
  intro n1 said wa c m p Wf w num fault hK hW hm hwp hw1 hp hNS hn1
  obtain ⟨n1, rfl⟩ : ∃ x, n1 = x + 1 := ⟨n1 - 1, by omega⟩
  by_cases h1 : chN t E p = 33
  · have hpE := ch_in256 (t := t) (E := E) (p := p) (by omega)
    have key : cH tape E (n1 + 1) said wa m fault num o p w = if o = 6 then some ((0 : Int32), said, wa, nI m, fI 5 p, num, nI o, nI p, nI w) else cH tape E n1 said (upd wa w (nI (1048576 * 10))) m fault num (o + 1) (p + 1) (w + 1) := by
      unfold cH
      rw [f_X12_readsCondition_b40, f_here12 h (by omega), bd1_s, ite_ch h (c := 33) (k := 33) rfl (by omega), if_pos h1]
      unfold f_X12_readsCondition_b58 f_X12_readsCondition_b75
      rw [f_here12 h (by omega), bd1_s, ite_ch h (c := 33) (k := 33) rfl (by omega), if_pos h1, show (10 : Int32) = nI 10 from rfl, f_opn12 (by omega) (by omega)]
      by_cases e : o = 6
      · rw [if_pos e, if_pos e, bd6_s, if_pos rfl]
      · rw [if_neg e, if_neg e, bd6_s, if_neg one_ne]
    unfold spT
    rw [key, if_pos h1]
    cases k with
    | zero =>
      rw [if_pos (by omega)]
      refine ⟨fun f hf => ?_, fun q c' m' e => (by cases e)⟩
      obtain rfl := Sum.inl.inj hf
      exact ⟨_, _, _, _, _, _, _, rfl⟩
    | succ k =>
      rw [if_neg (by omega)]
      obtain ⟨g1, g2⟩ := (hG _ rfl).1 n1 said (upd wa w (nI (1048576 * 10))) c m (p + 1) (updN Wf w (1048576 * 10)) (w + 1) num fault hK (hW.put (by omega)) (by omega) (by omega) (by omega) (by omega) (by rw [wtp_s]; unfold NS; omega) (by omega)
      obtain ⟨i1, i2⟩ := spC_ok (t := t) (E := E) (k + 1) _ rfl (p + 1) c m (by omega)
      show PaS tape E o Wf w fault (bnC (spT t E (smA t E (spE t E k)) (spC t E k) (p + 1) c m) (fun q c' m' => Sum.inr (q, updC c' m' (2, 0), m' + 1))) _
      match e : spT t E (smA t E (spE t E k)) (spC t E k) (p + 1) c m, g1, g2, i2 with
      | Sum.inl f, g1, g2, i2 => exact ⟨fun f' hf => by obtain rfl := Sum.inl.inj hf; exact g1 _ rfl, fun q c' m' e => (by cases e)⟩
      | Sum.inr (q, c', m'), g1, g2, i2 =>
        obtain ⟨n1', n2', n3', said', wa', num', b1, b2, b3, b4, b5, b6⟩ := g2 q c' m' rfl
        obtain ⟨a1, a2, a3, a4, a5⟩ := i2 q c' m' rfl
        obtain ⟨n3', rfl⟩ : ∃ x, n3' = x + 1 := ⟨n3' - 1, by omega⟩
        refine ⟨fun f hf => (by cases hf), fun q2 c2 m2 e => ?_⟩
        cases e
        refine ⟨n1', n2', n3', upd said' m' (nI (1048576 * rop 2 + 0)), wa', num', b1.put (by omega) (by omega), b2.pop, b3, b4, by omega, ?_⟩
        rw [b6]
        unfold cP
        rw [f_X12_endsPiece_b0, f_topP b2 (by omega) (by omega), bd1_s, wtp_s, if_pos (by decide), show (10 : Int32) = nI 10 from rfl, show (0 : Int32) = nI 0 from rfl, f_notes12 (by omega), bd2_s, show (1 : Int32) = nI 1 from rfl, pk_sub (a := o + 1) (b := 1) (by omega), pk_sub (a := w + 1) (b := 1) (by omega), Nat.add_sub_cancel, Nat.add_sub_cancel]
        rfl
  · by_cases h2 : chN t E p = 40
    · have hpE := ch_in256 (t := t) (E := E) (p := p) (by omega)
      have key : cH tape E (n1 + 1) said wa m fault num o p w = if o = 6 then some ((0 : Int32), said, wa, nI m, fI 5 p, num, nI o, nI p, nI w) else cH tape E n1 said (upd wa w (nI (1048576 * 13))) m fault num (o + 1) (p + 1) (w + 1) := by
        unfold cH
        rw [f_X12_readsCondition_b40, f_here12 h (by omega), bd1_s, bd1_s, ite_ch h (c := 33) (k := 33) rfl (by omega), if_neg h1, ite_ch h (c := 40) (k := 40) rfl (by omega), if_pos h2]
        unfold f_X12_readsCondition_b58 f_X12_readsCondition_b75
        rw [f_here12 h (by omega), bd1_s, ite_ch h (c := 33) (k := 33) rfl (by omega), if_neg h1, show (13 : Int32) = nI 13 from rfl, f_opn12 (by omega) (by omega)]
        by_cases e : o = 6
        · rw [if_pos e, if_pos e, bd6_s, if_pos rfl]
        · rw [if_neg e, if_neg e, bd6_s, if_neg one_ne]
      unfold spT
      rw [key, if_neg h1, if_pos h2]
      cases k with
      | zero =>
        rw [if_pos (by omega)]
        refine ⟨fun f hf => ?_, fun q c' m' e => (by cases e)⟩
        obtain rfl := Sum.inl.inj hf
        exact ⟨_, _, _, _, _, _, _, rfl⟩
      | succ k =>
        rw [if_neg (by omega)]
        have hts := spC_ok (t := t) (E := E) (k + 1) _ rfl
        obtain ⟨g1, g2⟩ := (hG _ rfl).2 n1 said (upd wa w (nI (1048576 * 13))) c m (p + 1) (updN Wf w (1048576 * 13)) (w + 1) num fault hK (hW.put (by omega)) (by omega) (by omega) (by omega) (by omega) (by rw [wtp_s]; unfold tAny NS; omega) (by omega)
        obtain ⟨i1, i2⟩ := spL_ok (t := t) (E := E) (ch := 124) (op := 3) (by omega) (spL_ok (ch := 38) (op := 4) (by omega) hts) (p + 1) c m (by omega)
        have he := spL_end (t := t) (E := E) (ch := 124) (op := 3) (P := fun q => chN t E q ≠ 38) (fun p c m q c' m' e => (spL_end (t := t) (E := E) (ch := 38) (op := 4) (it := spT t E (smA t E (spE t E k)) (spC t E k)) (P := fun _ => True) (fun _ _ _ _ _ _ _ => trivial) p c m q c' m' e).2) (p + 1) c m
        show PaS tape E o Wf w fault (bnC (spL t E 124 3 (spL t E 38 4 (spT t E (smA t E (spE t E k)) (spC t E k))) (p + 1) c m) (fun q c' m' => if chN t E q = 41 then Sum.inr (q + 1, c', m') else Sum.inl (fI 1 q))) _
        match e : spL t E 124 3 (spL t E 38 4 (spT t E (smA t E (spE t E k)) (spC t E k))) (p + 1) c m, g1, g2, i2, he with
        | Sum.inl f, g1, g2, i2, he => exact ⟨fun f' hf => by obtain rfl := Sum.inl.inj hf; exact g1 _ rfl, fun q c' m' e => (by cases e)⟩
        | Sum.inr (q, c', m'), g1, g2, i2, he =>
          obtain ⟨n1', n2', said', wa', num', r, c3, b1, b2, b3, b4, b5, b6, b7, b8⟩ := g2 q c' m' rfl
          obtain ⟨a1, a2, a3, a4, a5⟩ := i2 q c' m' rfl
          obtain ⟨he1, he2⟩ := he q c' m' rfl
          obtain ⟨n2', rfl⟩ : ∃ x, n2' = x + 1 := ⟨n2' - 1, by omega⟩
          rw [b8, bnC_r]
          unfold cB
          rw [f_X12_readsCondition_b92, f_here12 h (by omega), bd1_s, bd1_s, bd1_s, ite_ch h (c := 41) (k := 41) rfl (by omega), ite_ch h (c := 38) (k := 38) rfl (by omega), ite_ch h (c := 124) (k := 124) rfl (by omega)]
          by_cases h3 : chN t E q = 41
          · have hqE := ch_in256 (t := t) (E := E) (p := q) (by omega)
            obtain ⟨said2, s1, s2⟩ := la_all (wa := wa') (Wf := updN Wf w (1048576 * 13)) (w := w + 1) (m := m') (a1 := 1) (by omega) (by rw [wtp_s]; omega) (Or.inr (by rw [wtp_s]; omega)) r c3 FU said' (fun y hy => ⟨by rcases (b1 y hy).1 with z | z; exact Or.inl z; exact Or.inr ⟨z, one_ne⟩, (b1 y hy).2⟩) b5 b4 (by omega) (by omega) (FU_gt (by omega))
            rw [b3] at s2
            have s1' : f_X12_lands said' wa' (nI m') (nI (w + 1 + r.length)) 1 = some (said2, nI (w + 1)) := s1
            rw [if_pos h3, if_pos h3, s1', bd2_s, show (1 : Int32) = nI 1 from rfl, pk_sub (a := w + 1) (b := 1) (by omega), pk_sub (a := o + 1) (b := 1) (by omega), Nat.add_sub_cancel, Nat.add_sub_cancel, if_neg (nI_ne0 (by omega) (by omega)), nI_add]
            refine ⟨fun f hf => (by cases hf), fun q2 c2 m2 e => ?_⟩
            cases e
            exact ⟨n1', n2', FU, said2, wa', num', s2, (WK.baseJ (r := r) b5).pop, by omega, by omega, by have : FU = 100000 := rfl; omega, rfl⟩
          · unfold f_X12_wrongAt
            rw [if_neg h3, if_neg h3, if_neg he1, if_neg he2, bd2_s, zI_0]
            refine ⟨fun f hf => ?_, fun q2 c2 m2 e => (by cases e)⟩
            obtain rfl := Sum.inl.inj hf
            exact ⟨_, _, _, _, _, _, _, rfl⟩
    · have ok1 := smA_ok (t := t) (E := E) (spE_ok (t := t) k) p c m hp
      obtain ⟨g1, g2⟩ := rs_sum h hE hk (num := num) (fault := fault) hK hW hm hwp hp hNS
      unfold cH spT
      rw [if_neg h1, if_neg h2, f_X12_readsCondition_b40, f_here12 h (by omega), bd1_s, bd1_s, ite_ch h (c := 33) (k := 33) rfl (by omega), if_neg h1, ite_ch h (c := 40) (k := 40) rfl (by omega), if_neg h2]
      unfold f_X12_readsCompared
      match e : smA t E (spE t E k) p c m, g1, g2, ok1 with
      | Sum.inl f, g1, g2, ok1 =>
        obtain ⟨x1, x2, x3, x5, x6, x7, x8, e1⟩ := g1 f rfl
        rw [e1, bd9_s, if_pos rfl, bd9_s, if_pos rfl]
        exact ⟨fun f' hf => by obtain rfl := Sum.inl.inj hf; exact ⟨_, _, _, _, _, _, _, rfl⟩, fun q c' m' e => (by cases e)⟩
      | Sum.inr (q, c1, m1), g1, g2, ok1 =>
        obtain ⟨said1, wa1, num1, e1, k1, k2⟩ := g2 q c1 m1 rfl
        obtain ⟨a1, a2, a3, a4, a5⟩ := ok1.2 q c1 m1 rfl
        have key : (if chI t E q = 60 then f_X12_readsCompared_b52 tape (nI E) said1 wa1 (nI m1) fault num1 (nI o) (nI q) (nI w) 7 else if chI t E q = 62 then f_X12_readsCompared_b52 tape (nI E) said1 wa1 (nI m1) fault num1 (nI o) (nI q) (nI w) 8 else if chI t E q = 61 then f_X12_readsCompared_b52 tape (nI E) said1 wa1 (nI m1) fault num1 (nI o) (nI q) (nI w) 9 else f_X12_readsCompared_b52 tape (nI E) said1 wa1 (nI m1) fault num1 (nI o) (nI q) (nI w) (-1)) = f_X12_readsCompared_b52 tape (nI E) said1 wa1 (nI m1) fault num1 (nI o) (nI q) (nI w) (if cmpO (chN t E q) = 0 then -1 else nI (rop (cmpO (chN t E q)))) := by
          rw [ite_ch h (c := 60) (k := 60) rfl (by omega), ite_ch h (c := 62) (k := 62) rfl (by omega), ite_ch h (c := 61) (k := 61) rfl (by omega)]
          generalize chN t E q = x
          by_cases q1 : x = 60
          · subst q1; rfl
          by_cases q2 : x = 62
          · subst q2; rfl
          by_cases q3 : x = 61
          · subst q3; rfl
          have e0 : cmpO x = 0 := by unfold cmpO; rw [if_neg q1, if_neg q2, if_neg q3]
          rw [if_neg q1, if_neg q2, if_neg q3, e0, if_pos rfl]
        rw [e1, bd9_s, if_neg one_ne, f_here12 h (by omega), bd1_s, bd1_s, bd1_s, key, bnC_r]
        unfold f_X12_readsCompared_b52
        by_cases h3 : cmpO (chN t E q) = 0
        · unfold f_X12_wrongAt
          rw [if_pos h3, if_pos h3, if_pos rfl, bd2_s, zI_0, bd9_s, if_pos rfl]
          exact ⟨fun f' hf => by obtain rfl := Sum.inl.inj hf; exact ⟨_, _, _, _, _, _, _, rfl⟩, fun q c' m' e => (by cases e)⟩
        · obtain ⟨c10, c12⟩ := cmp_in h3
          have hqE := ch_in256 (t := t) (E := E) (p := q) (cmp_lt h3)
          have hrp : rop (cmpO (chN t E q)) ≤ 12 := rop_le _ c12
          have ok2 := smA_ok (t := t) (E := E) (spE_ok (t := t) k) (q + 1) c1 m1 (by omega)
          obtain ⟨g3, g4⟩ := rs_sum h hE hk (num := num1) (fault := fault) (p := q + 1) k1 k2 (by omega) (by omega) (by omega) hNS
          rw [if_neg h3, if_neg h3, if_neg (nI_m1 (by omega)), nI_1]
          match e : smA t E (spE t E k) (q + 1) c1 m1, g3, g4, ok2 with
          | Sum.inl f, g3, g4, ok2 =>
            obtain ⟨x1, x2, x3, x5, x6, x7, x8, e2⟩ := g3 f rfl
            rw [e2, bd9_s, if_pos rfl, bd9_s, if_pos rfl]
            exact ⟨fun f' hf => by obtain rfl := Sum.inl.inj hf; exact ⟨_, _, _, _, _, _, _, rfl⟩, fun q c' m' e => (by cases e)⟩
          | Sum.inr (q2, c2, m2), g3, g4, ok2 =>
            obtain ⟨said2, wa2, num2, e2, k3, k4⟩ := g4 q2 c2 m2 rfl
            obtain ⟨a6, a7, a8, a9, a10⟩ := ok2.2 q2 c2 m2 rfl
            have k5 := k3.put (op := cmpO (chN t E q)) (v := 0) c12 (by omega)
            rw [e2, bd9_s, if_neg one_ne, show (0 : Int32) = nI 0 from rfl, f_notes12 (by omega), bd2_s, bd9_bd4, bnC_r]
            refine ⟨fun f hf => (by cases hf), fun q3 c3 m3 e => ?_⟩
            cases e
            exact ⟨n1, FU, FU, _, wa2, num2, k5, k4, by omega, by have : FU = 100000 := rfl; omega, by have : FU = 100000 := rfl; omega, rfl⟩
theorem ct_conds (h : TX bytes tape t n E) (hE : E ≤ 240) : ∀ k o ts, o + k = 6 → spC t E (k + 1) = some ts → TsS tape E o ts ∧ CsS tape E o 2 tAny kAny (spL t E 124 3 (spL t E 38 4 ts)) := by
  intro k
  have fin : ∀ o ts, PsOK E ts → TsS tape E o ts → TsS tape E o ts ∧ CsS tape E o 2 tAny kAny (spL t E 124 3 (spL t E 38 4 ts)) := fun o ts hts hT => ⟨hT, ct_any h hE (ct_all h hE hT hts) (spL_ok (by omega) hts) (fun p c m q c' m' e => (spL_end (P := fun _ => True) (fun _ _ _ _ _ _ _ => trivial) p c m q c' m' e).2)⟩
  induction k with
  | zero =>
    intro o ts hk e
    cases e
    exact fin o _ (spC_ok 1 _ rfl) (ct_test h hE hk (fun ts e => by cases e))
  | succ k ih =>
    intro o ts hk e
    cases e
    exact fin o _ (spC_ok (k + 2) _ rfl) (ct_test h hE hk (fun ts e => ih (o + 1) ts (by omega) e))
theorem rs_cond (h : TX bytes tape t n E) (hE : E ≤ 240) {ts : Ps} (hts : spC t E 6 = some ts) {said wa : Nat → Int32} {c : Cd} {m p : Nat} {num fault op0 w0 : Int32} (hK : KM said c m) (hm : m ≤ p) (hp : p ≤ E) :
    (∀ f, spCo t E ts p c m = Sum.inl f → rBad f (f_X12_readsCondition said tape wa (nI m) fault (nI E) num op0 (nI p) w0)) ∧
    (∀ q c' m', spCo t E ts p c m = Sum.inr (q, c', m') → ∃ said' wa' num', f_X12_readsCondition said tape wa (nI m) fault (nI E) num op0 (nI p) w0 = some (1, said', wa', nI m', fault, num', 0, nI q, 0) ∧ KM said' c' m') := by
  have hFU : FU = 100000 := rfl
  have hok := spC_ok (t := t) (E := E) 6 ts hts
  unfold f_X12_readsCondition spCo
  rw [f_here12 h (by omega), bd1_s, ite_ch h (c := 40) (k := 40) rfl (by omega)]
  by_cases h1 : chN t E p = 40
  · have hpE := ch_in256 (t := t) (E := E) (p := p) (by omega)
    have ho : f_X12_opens wa fault 0 (nI p) 0 13 = some (1, upd wa 0 (nI (1048576 * 13)), fault, nI 1, nI (p + 1), nI 1) := f_opn12 (o := 0) (w := 0) (what := 13) (by omega) (by omega)
    obtain ⟨g1, g2⟩ := (ct_conds h hE 5 1 ts (by omega) hts).2 FU said (upd wa 0 (nI (1048576 * 13))) c m (p + 1) (updN (fun _ => 0) 0 (1048576 * 13)) 1 num fault hK (WK.put (w := 0) (fun i hi => by omega) (by omega)) (by omega) (by omega) (by omega) (by omega) (by rw [wtp_s (w := 0)]; unfold tAny NS; omega) (by omega)
    obtain ⟨i1, i2⟩ := spL_ok (t := t) (E := E) (ch := 124) (op := 3) (by omega) (spL_ok (ch := 38) (op := 4) (by omega) hok) (p + 1) c m (by omega)
    have he := spL_end (t := t) (E := E) (ch := 124) (op := 3) (P := fun q => chN t E q ≠ 38) (fun p c m q c' m' e => (spL_end (t := t) (E := E) (ch := 38) (op := 4) (it := ts) (P := fun _ => True) (fun _ _ _ _ _ _ _ => trivial) p c m q c' m' e).2) (p + 1) c m
    rw [if_pos h1, if_pos h1, ho, bd6_s, if_neg one_ne]
    match e : spL t E 124 3 (spL t E 38 4 ts) (p + 1) c m, g1, g2, i2, he with
    | Sum.inl f, g1, g2, i2, he => exact ⟨fun f' hf => by obtain rfl := Sum.inl.inj hf; exact g1 _ rfl, fun q c' m' e => (by cases e)⟩
    | Sum.inr (q, c', m'), g1, g2, i2, he =>
      obtain ⟨n1', n2', said', wa', num', r, c3, b1, b2, b3, b4, b5, b6, b7, b8⟩ := g2 q c' m' rfl
      obtain ⟨a1, a2, a3, a4, a5⟩ := i2 q c' m' rfl
      obtain ⟨he1, he2⟩ := he q c' m' rfl
      obtain ⟨n2', rfl⟩ : ∃ x, n2' = x + 1 := ⟨n2' - 1, by omega⟩
      have b8' : f_X12_readsCondition_b40 tape (nI E) FU said (upd wa 0 (nI (1048576 * 13))) (nI m) fault num (nI 1) (nI (p + 1)) (nI 1) = _ := b8
      rw [b8', bnC_r]
      unfold cB
      rw [f_X12_readsCondition_b92, f_here12 h (by omega), bd1_s, bd1_s, bd1_s, ite_ch h (c := 41) (k := 41) rfl (by omega), ite_ch h (c := 38) (k := 38) rfl (by omega), ite_ch h (c := 124) (k := 124) rfl (by omega)]
      by_cases h3 : chN t E q = 41
      · have hqE := ch_in256 (t := t) (E := E) (p := q) (by omega)
        obtain ⟨said2, s1, s2⟩ := la_all (wa := wa') (Wf := updN (fun _ => 0) 0 (1048576 * 13)) (w := 1) (m := m') (a1 := 1) (by omega) (by rw [wtp_s (w := 0)]; omega) (Or.inr (by rw [wtp_s (w := 0)]; omega)) r c3 FU said' (fun y hy => ⟨by rcases (b1 y hy).1 with z | z; exact Or.inl z; exact Or.inr ⟨z, one_ne⟩, (b1 y hy).2⟩) b5 b4 (by omega) (by omega) (FU_gt (by omega))
        rw [b3] at s2
        have s1' : f_X12_lands said' wa' (nI m') (nI (1 + r.length)) 1 = some (said2, nI 1) := s1
        rw [if_pos h3, if_pos h3, s1', bd2_s, if_pos (by decide), nI_1]
        refine ⟨fun f hf => (by cases hf), fun q2 c2 m2 e => ?_⟩
        cases e
        exact ⟨said2, wa', num', rfl, s2⟩
      · unfold f_X12_wrongAt
        rw [if_neg h3, if_neg h3, if_neg he1, if_neg he2, bd2_s, zI_0]
        refine ⟨fun f hf => ?_, fun q2 c2 m2 e => (by cases e)⟩
        obtain rfl := Sum.inl.inj hf
        exact ⟨_, _, _, _, _, _, _, rfl⟩
  · unfold f_X12_wrongAt
    rw [if_neg h1, if_neg h1, bd2_s, zI_0]
    refine ⟨fun f hf => ?_, fun q2 c2 m2 e => (by cases e)⟩
    obtain rfl := Sum.inl.inj hf
    exact ⟨_, _, _, _, _, _, _, rfl⟩
end RD
