/-! pure: a law, the reference's reader: sums, by level -/
theorem ext_lt {Wf : Nat → Nat} {w i : Nat} (hi : i < w) : ∀ r : List Nat, ext Wf w r i = Wf i
  | [] => rfl
  | op :: r => by
    show updN (ext Wf w r) (w + r.length) (1048576 * rop op) i = Wf i
    rw [updN_n (by omega), ext_lt hi r]
def NT (x : Nat) : Prop := x < 4 ∨ 6 < x
def NS (x : Nat) : Prop := x < 2 ∨ 6 < x
def isT (op : Nat) : Prop := 7 ≤ op ∧ op ≤ 9
def isS (op : Nat) : Prop := 5 ≤ op ∧ op ≤ 9
theorem opT_in {x : Nat} (h : ¬ opT x = 0) : isT (opT x) ∧ sgn x = opT x := by
  have hx := opT_lt h
  exact (by decide +kernel : ∀ x, x < 256 → ¬ opT x = 0 → (7 ≤ opT x ∧ opT x ≤ 9) ∧ sgn x = opT x) x hx h
theorem opS_in {x : Nat} (h : ¬ opS x = 0) : (opS x = 5 ∨ opS x = 6) ∧ sgn x = opS x := by
  have hx := opS_lt h
  exact (by decide +kernel : ∀ x, x < 256 → ¬ opS x = 0 → (opS x = 5 ∨ opS x = 6) ∧ sgn x = opS x) x hx h
theorem sgn_0 {x : Nat} (h1 : opS x = 0) (h2 : opT x = 0) : sgn x = 0 := by unfold sgn; rw [if_pos h1, h2]
section RG
variable {bytes tape : Nat → Int32} {t : Nat → Nat} {n E : Nat}
theorem f_fac12 (h : TX bytes tape t n E) (p : Nat) : f_X12_factOf (chI t E p) = some (if fct (chN t E p) = 0 then -1 else nI (fct (chN t E p) - 1)) := by
  unfold chI chN
  by_cases q : p < E
  · rw [if_pos q, if_pos q]; exact fo_all _ (TX_lt h q)
  · rw [if_neg q, if_neg q]; decide +kernel
theorem rf_fac (h : TX bytes tape t n E) (hE : E ≤ 240) {o k : Nat} (hk : o + k = 6) (hG : ∀ sm, spE t E k = some sm → RfS tape E (o + 1) 2 NS isS sm ∧ ∀ p c m q c' m', sm p c m = Sum.inr (q, c', m') → sgn (chN t E q) = 0) : RfS tape E o 0 (fun _ => True) isS (spF t E (spE t E k)) := by
  intro n4 n1 said wa c m p Wf w base num fault hK hW hm hwp hp hb _ hn1 hn4
  obtain ⟨n4, rfl⟩ : ∃ x, n4 = x + 1 := ⟨n4 - 1, by omega⟩
  by_cases h1 : chN t E p = 91
  · have hpE := ch_in256 (t := t) (E := E) (p := p) (by omega)
    have key : rFL tape E (n4 + 1) n1 said wa m fault num o p w base = if o = 6 then some ((0 : Int32), said, wa, nI m, fI 5 p, num, nI o, nI p, nI w) else rFL tape E n4 n1 said (upd wa w (nI (1048576 * 14))) m fault num (o + 1) (p + 1) (w + 1) base := by
      unfold rFL
      rw [f_X12_readsFactor_b0, f_here12 h (by omega), bd1_s, ite_ch h (c := 91) (k := 91) rfl (by omega), if_pos h1, show (14 : Int32) = nI 14 from rfl, f_opn12 (by omega) (by omega)]
      by_cases e : o = 6
      · rw [if_pos e, if_pos e, bd6_s, if_pos rfl, bd9_s, if_pos rfl]
      · rw [if_neg e, if_neg e, bd6_s, if_neg one_ne]
    unfold spF
    rw [key, if_pos h1]
    cases k with
    | zero =>
      rw [if_pos (by omega)]
      refine ⟨fun f hf => ?_, fun q c' m' e => (by cases e)⟩
      obtain rfl := Sum.inl.inj hf
      exact ⟨_, _, _, _, _, _, _, rfl⟩
    | succ k =>
      rw [if_neg (by omega)]
      obtain ⟨g1, g2⟩ := hG _ rfl
      obtain ⟨w1, w2⟩ := g1 n4 n1 said (upd wa w (nI (1048576 * 14))) c m (p + 1) (updN Wf w (1048576 * 14)) (w + 1) base num fault hK (hW.put (by omega)) (by omega) (by omega) (by omega) (by omega) (by rw [wtp_s]; exact Or.inr (by omega)) (by omega) (by omega)
      have ok := spE_ok (t := t) (E := E) (k + 1) _ rfl (p + 1) c m (by omega)
      have g2 := g2 (p + 1) c m
      show (∀ f, bnC (smA t E (spE t E k) (p + 1) c m) (fun q c' m' => if chN t E q = 93 then Sum.inr (q + 1, c', m') else Sum.inl (fI 1 q)) = Sum.inl f → _) ∧ (∀ q c' m', bnC (smA t E (spE t E k) (p + 1) c m) (fun q c' m' => if chN t E q = 93 then Sum.inr (q + 1, c', m') else Sum.inl (fI 1 q)) = Sum.inr (q, c', m') → _)
      match e : smA t E (spE t E k) (p + 1) c m, w1, w2, ok, g2 with
      | Sum.inl f, w1, w2, ok, g2 =>
        refine ⟨fun f' hf => ?_, fun q c' m' e => (by cases e)⟩
        obtain rfl := Sum.inl.inj hf
        exact w1 _ rfl
      | Sum.inr (q, c', m'), w1, w2, ok, g2 =>
        obtain ⟨n1', said', wa', num', r, c'', m'', r1, r2, r3, r4, r5, r6, r7, r8⟩ := w2 q c' m' rfl
        obtain ⟨o1, o2, o3, o4, o5⟩ := ok.2 q c' m' rfl
        have hs := g2 q c' m' rfl
        obtain ⟨n1', rfl⟩ : ∃ x, n1' = x + 1 := ⟨n1' - 1, by omega⟩
        have hos : f_X12_hasOpenSum wa' (nI (w + 1 + r.length)) (nI base) = some 1 := hos_yes r6 (by omega) (i0 := w) (by omega) (by rw [ext_lt (by omega), updN_s]) (w - base) base FU (by omega) (FU_gt (by omega))
        rw [r8, bnC_r]
        unfold rSt
        rw [f_X12_readsSum_b14, f_here12 h (by omega), bd1_s, bd1_s, f_sgn12 h, bd1_s, hs, if_pos rfl, if_pos rfl, ite_ch h (c := 93) (k := 93) rfl (by omega)]
        by_cases h2 : chN t E q = 93
        · have hqE := ch_in256 (t := t) (E := E) (p := q) (by omega)
          obtain ⟨said2, s1, s2⟩ := cs_all (wa := wa') (Wf := updN Wf w (1048576 * 14)) (w := w + 1) (a1 := 1) (Or.inr (by rw [wtp_s]; omega)) (Or.inr (by rw [wtp_s]; omega)) r c'' m'' FU said' (fun op ho => ⟨(r1 op ho).1, (r1 op ho).2, fun z => absurd z one_ne⟩) r6 r5 (by omega) (by omega) (FU_gt (by omega))
          rw [r3, r4] at s2
          rw [r4] at s1
          have s1' : f_X12_closesSums said' wa' (nI m'') (nI (w + 1 + r.length)) 1 = some (said2, nI m', nI (w + 1)) := s1
          rw [if_pos h2, if_pos h2, hos, bd1_s, if_neg one_ne, s1', bd3_s]
          refine ⟨fun f hf => (by cases hf), fun q2 c2 m2 e => ?_⟩
          cases e
          refine ⟨n1', said2, wa', num', [], c', m', fun op ho => (by cases ho), Nat.le_refl 0, rfl, rfl, s2, (WK.base (r := r) r6).pop, by omega, ?_⟩
          unfold f_X12_readsSum_b163
          rw [show (1 : Int32) = nI 1 from rfl, pk_sub (a := o + 1) (b := 1) (by omega), pk_sub (a := w + 1) (b := 1) (by omega), nI_add, Nat.add_sub_cancel, Nat.add_sub_cancel]
          rfl
        · unfold f_X12_readsSum_b138
          rw [if_neg h2, if_neg h2, hos, bd1_s, if_neg one_ne]
          refine ⟨fun f hf => ?_, fun q2 c2 m2 e => (by cases e)⟩
          obtain rfl := Sum.inl.inj hf
          unfold f_X12_wrongAt
          rw [bd2_s, zI_0]
          exact ⟨_, _, _, _, _, _, _, rfl⟩
  · unfold rFL spF
    rw [f_X12_readsFactor_b0, f_here12 h (by omega), bd1_s, bd1_s, ite_ch h (c := 91) (k := 91) rfl (by omega), if_neg h1, if_neg h1, f_dig12 h (by omega), bd1_s, ite_bI]
    cases h2 : rg 48 57 (chN t E p) with
    | true =>
      have h3 := rg_iff.mp h2
      have hpE := ch_in256 (t := t) (E := E) (p := p) (by omega)
      obtain ⟨n1a, n2a⟩ := f_nm12 h (p0 := p) (by omega) fault 5 p 0 FU (by omega) (by omega) (FU_gt (by omega))
      obtain ⟨r1, r2⟩ := rnA_ok (t := t) (E := E) 5 p 0
      rw [if_pos (rfl : true = true), if_pos (rfl : true = true)]
      match e : rnA t E 5 p 0, n1a, n2a, r1, r2 with
      | Sum.inl f, n1a, n2a, r1, r2 =>
        obtain ⟨w9, q, e1⟩ := n1a f rfl
        have e1' : f_X12_readsNumber tape fault (nI E) num (nI p) = some (0, f, w9, q) := e1
        rw [e1', bd4_s, if_pos rfl, bd9_s, if_pos rfl]
        refine ⟨fun f' hf => ?_, fun q2 c2 m2 e => (by cases e)⟩
        obtain rfl := Sum.inl.inj hf
        exact ⟨_, _, _, _, _, _, _, rfl⟩
      | Sum.inr (q, u), n1a, n2a, r1, r2 =>
        have e1' : f_X12_readsNumber tape fault (nI E) num (nI p) = some (1, fault, nI u, nI q) := n2a q u rfl
        obtain ⟨b1, b2, b3⟩ := r2 q u rfl
        rw [e1', bd4_s, if_neg one_ne, show (0 : Int32) = nI 0 from rfl, f_notes12 (by omega), bd2_s, bd9_s]
        refine ⟨fun f hf => (by cases hf), fun q2 c2 m2 e => ?_⟩
        cases e
        exact ⟨n1, upd said m (nI (1048576 * rop 0 + u)), wa, nI u, [], updC c m (0, u), m + 1, fun op ho => (by cases ho), Nat.le_refl 0, rfl, rfl, hK.put (by omega) (by omega), hW, by omega, if_neg one_ne⟩
    | false =>
      rw [if_neg ft_ne, if_neg ft_ne, f_fac12 h, bd1_s]
      by_cases h3 : fct (chN t E p) = 0
      · rw [if_pos h3, if_pos h3, if_pos rfl]
        unfold f_X12_wrongAt
        rw [bd2_s, zI_0, bd9_s, if_pos rfl]
        refine ⟨fun f' hf => ?_, fun q2 c2 m2 e => (by cases e)⟩
        obtain rfl := Sum.inl.inj hf
        exact ⟨_, _, _, _, _, _, _, rfl⟩
      · have hpE := ch_in256 (t := t) (E := E) (p := p) (fct_lt h3).1
        have h10 := (fct_lt h3).2
        rw [if_neg h3, if_neg h3, if_neg (nI_m1 (by omega)), show (1 : Int32) = nI 1 from rfl, f_notes12 (by omega), bd2_s, bd9_s, nI_add]
        refine ⟨fun f hf => (by cases hf), fun q2 c2 m2 e => ?_⟩
        cases e
        exact ⟨n1, upd said m (nI (1048576 * rop 1 + (fct (chN t E p) - 1))), wa, num, [], updC c m (1, fct (chN t E p) - 1), m + 1, fun op ho => (by cases ho), Nat.le_refl 0, rfl, rfl, hK.put (by omega) (by omega), hW, by omega, if_neg one_ne⟩
theorem chn_end {opf : Nat → Nat} {it : Ps} : ∀ d q c m q' c' m', chn t E opf it d q c m = Sum.inr (q', c', m') → opf (chN t E q') = 0
  | 0, q, c, m, q', c', m', e => by cases e
  | d + 1, q, c, m, q', c', m', e => by
    rw [chn] at e
    by_cases h1 : opf (chN t E q) = 0
    · rw [if_pos h1] at e; cases e; exact h1
    · rw [if_neg h1] at e
      match e2 : it (q + 1) c m, e with
      | Sum.inl f, e => cases e
      | Sum.inr (q1, c1, m1), e => exact chn_end d q1 _ _ q' c' m' e
theorem chn_keep {opf : Nat → Nat} {it : Ps} {P : Nat → Prop} (hi : ∀ p c m q c' m', it p c m = Sum.inr (q, c', m') → P q) : ∀ d q c m q' c' m', P q → chn t E opf it d q c m = Sum.inr (q', c', m') → P q'
  | 0, q, c, m, q', c', m', _, e => by cases e
  | d + 1, q, c, m, q', c', m', hP, e => by
    rw [chn] at e
    by_cases h1 : opf (chN t E q) = 0
    · rw [if_pos h1] at e; cases e; exact hP
    · rw [if_neg h1] at e
      match e2 : it (q + 1) c m, e with
      | Sum.inl f, e => cases e
      | Sum.inr (q1, c1, m1), e => exact chn_keep hi d q1 _ _ q' c' m' (hi _ _ _ _ _ _ e2) e
theorem spB_end {opf : Nat → Nat} {it : Ps} {p : Nat} {c : Cd} {m q : Nat} {c' : Cd} {m' : Nat} (e : spB t E opf it p c m = Sum.inr (q, c', m')) : opf (chN t E q) = 0 := by
  unfold spB at e
  match e2 : it p c m, e with
  | Sum.inl f, e => cases e
  | Sum.inr (q1, c1, m1), e => exact chn_end 300 q1 c1 m1 q c' m' e
theorem smA_end {inn : Option Ps} (p : Nat) (c : Cd) (m q : Nat) (c' : Cd) (m' : Nat) (e : smA t E inn p c m = Sum.inr (q, c', m')) : sgn (chN t E q) = 0 := by
  refine sgn_0 (spB_end e) ?_
  have hi : ∀ p c m q c' m', spB t E opT (spF t E inn) p c m = Sum.inr (q, c', m') → opT (chN t E q) = 0 := fun p c m q c' m' e => spB_end e
  unfold smA at e
  rw [spB] at e
  match e2 : spB t E opT (spF t E inn) p c m, e with
  | Sum.inl f, e => cases e
  | Sum.inr (q1, c1, m1), e => exact chn_keep (P := fun q => opT (chN t E q) = 0) hi 300 q1 c1 m1 q c' m' (hi _ _ _ _ _ _ e2) e
theorem rf_term (h : TX bytes tape t n E) (hE : E ≤ 240) {o : Nat} (ho : o ≤ 6) {fac : Ps} (hF : RfS tape E o 0 (fun _ => True) isS fac) (hi : PsOK E fac) : RfS tape E o 1 NT isT (spB t E opT fac) := by
  intro n4 n1 said wa c m p Wf w base num fault hK hW hm hwp hp hb hT hn1 hn4
  have loop : ∀ d q c m n1 (said wa : Nat → Int32) (num : Int32) (r : List Nat) c'' m'', E - q < d → q ≤ E → m ≤ q → w + 1 ≤ q → E < n1 + q → (∀ op, op ∈ r → isT op) → r.length ≤ 1 → Cl r c'' m'' = c → m'' + r.length = m → KM said c'' m'' → WK wa (ext Wf w r) (w + r.length) → RaS tape E o 1 isT Wf w base fault (chn t E opT fac d q c m) (rSt tape E n1 said wa m'' fault num o q (w + r.length) base) := by
    intro d
    induction d with
    | zero => intro q c m n1 said wa num r c'' m'' h1; omega
    | succ d ih =>
      intro q c m n1 said wa num r c'' m'' hd hq hmq hwq hn1 r1 r2 r3 r4 r5 r6
      rw [chn]
      by_cases h1 : opT (chN t E q) = 0
      · rw [if_pos h1]
        refine ⟨fun f hf => (by cases hf), fun q2 c2 m2 e => ?_⟩
        cases e
        exact ⟨n1, said, wa, num, r, c'', m'', r1, r2, r3, r4, r5, r6, hn1, rfl⟩
      · obtain ⟨⟨t7, t9⟩, ts⟩ := opT_in h1
        have hqE := ch_in256 (t := t) (E := E) (p := q) (opT_lt h1)
        obtain ⟨n1, rfl⟩ : ∃ x, n1 = x + 1 := ⟨n1 - 1, by omega⟩
        obtain ⟨said2, s1, s2⟩ := cs_all (wa := wa) (Wf := Wf) (w := w) (a1 := 0) hT (Or.inl rfl) r c'' m'' FU said (fun op ho => ⟨by have := (r1 op ho).1; omega, (r1 op ho).2, fun _ => (r1 op ho).1⟩) r6 r5 (by omega) (by omega) (FU_gt (by omega))
        rw [r3, r4] at s2
        rw [r4] at s1
        have s1' : f_X12_closesSums said wa (nI m'') (nI (w + r.length)) 0 = some (said2, nI m, nI w) := s1
        have key : rSt tape E (n1 + 1) said wa m'' fault num o q (w + r.length) base = rFL tape E FU n1 said2 (upd wa w (nI (1048576 * rop (opT (chN t E q))))) m fault num o (q + 1) (w + 1) base := by
          unfold rSt rFL
          rw [f_X12_readsSum_b14, f_here12 h (by omega), bd1_s, f_sgn12 h, bd1_s, ts, if_neg h1, rop_5 (by omega), if_neg (nI_m1 (by omega)), if_pos (by rw [show (4 : Int32) = nI 4 from rfl, nle (by omega) (by omega)]; omega)]
          unfold f_X12_readsSum_b38 f_X12_readsSum_b163 f_X12_readsFactor
          rw [s1', bd3_s, show (1048576 : Int32) = nI 1048576 from rfl, pk_mul, sI_n (by omega) (by omega), nI_1, nI_1]
        rw [if_neg h1, key]
        have hrl : rop (opT (chN t E q)) ≤ 12 := rop_le _ (by omega)
        refine RaS.bn (Wf1 := updN Wf w (1048576 * rop (opT (chN t E q)))) hF hi s2 ((WK.base (r := r) r6).put (by omega)) (by omega) (by omega) (by omega) (by omega) trivial (by omega) (by have : FU = 100000 := rfl; omega) (fun q' c' m' n1' said' wa' num' r' c3 m3 a1 a2 a3 a4 a5 b1 b2 b3 b4 b5 b6 b7 => ?_)
        have hr' : r' = [] := List.eq_nil_of_length_eq_zero (by omega)
        subst hr'
        have b3 : c3 = c' := b3
        have b4 : m3 = m' := b4
        subst b3 b4
        exact ih q' (updC c3 m3 (opT (chN t E q), 0)) (m3 + 1) n1' said' wa' num' [opT (chN t E q)] c3 m3 (by omega) a2 (by omega) (by omega) b7 (fun op ho => by cases ho with | head => exact ⟨t7, t9⟩ | tail _ h => cases h) (Nat.le_refl 1) rfl rfl b5 b6
  refine RaS.bn (Wf1 := Wf) hF hi hK hW hm hwp hp hb trivial hn1 hn4 (fun q' c' m' n1' said' wa' num' r' c3 m3 a1 a2 a3 a4 a5 b1 b2 b3 b4 b5 b6 b7 => ?_)
  exact loop 300 q' c' m' n1' said' wa' num' r' c3 m3 (by omega) a2 (by omega) (by omega) b7 (fun op ho => by have hr' : r' = [] := List.eq_nil_of_length_eq_zero (by omega); rw [hr'] at ho; cases ho) (by omega) b3 b4 b5 b6
theorem rf_sum (h : TX bytes tape t n E) (hE : E ≤ 240) {o : Nat} (ho : o ≤ 6) {trm : Ps} (hF : RfS tape E o 1 NT isT trm) (hi : PsOK E trm) : RfS tape E o 2 NS isS (spB t E opS trm) := by
  intro n4 n1 said wa c m p Wf w base num fault hK hW hm hwp hp hb hT hn1 hn4
  have loop : ∀ d q c m n1 (said wa : Nat → Int32) (num : Int32) (r : List Nat) c'' m'', E - q < d → q ≤ E → m ≤ q → w + 1 ≤ q → E < n1 + q → (∀ op, op ∈ r → isS op) → r.length ≤ 2 → Cl r c'' m'' = c → m'' + r.length = m → KM said c'' m'' → WK wa (ext Wf w r) (w + r.length) → RaS tape E o 2 isS Wf w base fault (chn t E opS trm d q c m) (rSt tape E n1 said wa m'' fault num o q (w + r.length) base) := by
    intro d
    induction d with
    | zero => intro q c m n1 said wa num r c'' m'' h1; omega
    | succ d ih =>
      intro q c m n1 said wa num r c'' m'' hd hq hmq hwq hn1 r1 r2 r3 r4 r5 r6
      rw [chn]
      by_cases h1 : opS (chN t E q) = 0
      · rw [if_pos h1]
        refine ⟨fun f hf => (by cases hf), fun q2 c2 m2 e => ?_⟩
        cases e
        exact ⟨n1, said, wa, num, r, c'', m'', r1, r2, r3, r4, r5, r6, hn1, rfl⟩
      · obtain ⟨t7, ts⟩ := opS_in h1
        have hqE := ch_in256 (t := t) (E := E) (p := q) (opS_lt h1)
        obtain ⟨n1, rfl⟩ : ∃ x, n1 = x + 1 := ⟨n1 - 1, by omega⟩
        obtain ⟨said2, s1, s2⟩ := cs_all (wa := wa) (Wf := Wf) (w := w) (a1 := 1) (by unfold NS at hT; omega) (Or.inr (by unfold NS at hT; omega)) r c'' m'' FU said (fun op ho => ⟨(r1 op ho).1, (r1 op ho).2, fun z => absurd z one_ne⟩) r6 r5 (by omega) (by omega) (FU_gt (by omega))
        rw [r3, r4] at s2
        rw [r4] at s1
        have s1' : f_X12_closesSums said wa (nI m'') (nI (w + r.length)) 1 = some (said2, nI m, nI w) := s1
        have key : rSt tape E (n1 + 1) said wa m'' fault num o q (w + r.length) base = rFL tape E FU n1 said2 (upd wa w (nI (1048576 * rop (opS (chN t E q))))) m fault num o (q + 1) (w + 1) base := by
          unfold rSt rFL
          rw [f_X12_readsSum_b14, f_here12 h (by omega), bd1_s, f_sgn12 h, bd1_s, ts, if_neg h1, rop_5 (by omega), if_neg (nI_m1 (by omega)), if_neg (by rw [show (4 : Int32) = nI 4 from rfl, nle (by omega) (by omega)]; omega)]
          unfold f_X12_readsSum_b38 f_X12_readsSum_b163 f_X12_readsFactor
          rw [s1', bd3_s, show (1048576 : Int32) = nI 1048576 from rfl, pk_mul, sI_n (by omega) (by omega), nI_1, nI_1]
        rw [if_neg h1, key]
        have hrl : rop (opS (chN t E q)) = opS (chN t E q) - 3 := rop_5 (by omega)
        refine RaS.bn (Wf1 := updN Wf w (1048576 * rop (opS (chN t E q)))) hF hi s2 ((WK.base (r := r) r6).put (by omega)) (by omega) (by omega) (by omega) (by omega) (by rw [wtp_s]; unfold NT; omega) (by omega) (by have : FU = 100000 := rfl; omega) (fun q' c' m' n1' said' wa' num' r' c3 m3 a1 a2 a3 a4 a5 b1 b2 b3 b4 b5 b6 b7 => ?_)
        have el : (r' ++ [opS (chN t E q)]).length = r'.length + 1 := by rw [List.length_append]; rfl
        have fin := ih q' (updC c' m' (opS (chN t E q), 0)) (m' + 1) n1' said' wa' num' (r' ++ [opS (chN t E q)]) c3 m3 (by omega) a2 (by omega) (by omega) b7 (fun op ho => by
          rcases List.mem_append.mp ho with z | z
          · have := b1 op z; exact ⟨by have := this.1; omega, this.2⟩
          · rw [List.mem_singleton.mp z]; exact ⟨by omega, by omega⟩) (by omega) (by rw [Cl_app, b3, b4]) (by omega) b5 (by rw [ext_app, el, show w + (r'.length + 1) = w + 1 + r'.length by omega]; exact b6)
        rw [el, show w + (r'.length + 1) = w + 1 + r'.length by omega] at fin
        exact fin
  refine RaS.bn (Wf1 := Wf) hF hi hK hW hm hwp hp hb (by unfold NS at hT; unfold NT; omega) hn1 hn4 (fun q' c' m' n1' said' wa' num' r' c3 m3 a1 a2 a3 a4 a5 b1 b2 b3 b4 b5 b6 b7 => ?_)
  exact loop 300 q' c' m' n1' said' wa' num' r' c3 m3 (by omega) a2 (by omega) (by omega) b7 (fun op ho => ⟨by have := (b1 op ho).1; omega, (b1 op ho).2⟩) (by omega) b3 b4 b5 b6
theorem rf_all (h : TX bytes tape t n E) (hE : E ≤ 240) : ∀ k o, o + k = 6 → RfS tape E o 2 NS isS (smA t E (spE t E k)) := by
  intro k
  induction k with
  | zero =>
    intro o hk
    exact rf_sum h hE (by omega) (rf_term h hE (by omega) (rf_fac h hE hk (fun sm e => by cases e)) (spF_ok (spE_ok 0))) (spB_ok (fun _ => opT_lt) (spF_ok (spE_ok 0)))
  | succ k ih =>
    intro o hk
    exact rf_sum h hE (by omega) (rf_term h hE (by omega) (rf_fac h hE hk (fun sm e => by cases e; exact ⟨ih (o + 1) (by omega), smA_end⟩)) (spF_ok (spE_ok (k + 1)))) (spB_ok (fun _ => opT_lt) (spF_ok (spE_ok (k + 1))))
/-- the reference reads a sum -/
theorem rs_sum (h : TX bytes tape t n E) (hE : E ≤ 240) {k o : Nat} (hk : o + k = 6) {said wa : Nat → Int32} {c : Cd} {m p : Nat} {Wf : Nat → Nat} {w : Nat} {num fault : Int32} (hK : KM said c m) (hW : WK wa Wf w) (hm : m ≤ p) (hw : w ≤ p) (hp : p ≤ E) (hT : NS (wtp Wf w)) :
    (∀ f, smA t E (spE t E k) p c m = Sum.inl f → rBad f (f_X12_readsSum said tape wa (nI m) fault (nI E) num (nI o) (nI p) (nI w))) ∧
    (∀ q c' m', smA t E (spE t E k) p c m = Sum.inr (q, c', m') → ∃ said' wa' num', f_X12_readsSum said tape wa (nI m) fault (nI E) num (nI o) (nI p) (nI w) = some (1, said', wa', nI m', fault, num', nI o, nI q, nI w) ∧ KM said' c' m' ∧ WK wa' Wf w) := by
  have hFU : FU = 100000 := rfl
  obtain ⟨g1, g2⟩ := rf_all h hE k o hk FU FU said wa c m p Wf w w num fault hK hW hm hw hp (Nat.le_refl w) hT (by omega) (by omega)
  refine ⟨fun f hf => g1 f hf, fun q c' m' e => ?_⟩
  obtain ⟨n1', said', wa', num', r, c'', m'', r1, r2, r3, r4, r5, r6, r7, r8⟩ := g2 q c' m' e
  obtain ⟨a1, a2, a3, a4, a5⟩ := (smA_ok (t := t) (E := E) (spE_ok k) p c m hp).2 q c' m' e
  have hs := smA_end p c m q c' m' e
  obtain ⟨n1', rfl⟩ : ∃ x, n1' = x + 1 := ⟨n1' - 1, by omega⟩
  have hno : f_X12_hasOpenSum wa' (nI (w + r.length)) (nI w) = some 0 := by
    refine hos_no r6 (by omega) r.length w FU (by omega) (FU_gt (by omega)) (fun i hi1 hi2 => ?_)
    have key : ∀ r : List Nat, (∀ op, op ∈ r → isS op) → ∀ i, w ≤ i → i < w + r.length → ext Wf w r i / 1048576 ≠ 14 := by
      intro r
      induction r with
      | nil => intro _ i h1 h2; exact absurd h2 (by show ¬ i < w + 0; omega)
      | cons op r ih =>
        intro hr i h1 h2
        have hlen : (op :: r).length = r.length + 1 := rfl
        show updN (ext Wf w r) (w + r.length) (1048576 * rop op) i / 1048576 ≠ 14
        by_cases e : i = w + r.length
        · have hop := hr op (List.mem_cons_self)
          rw [e, updN_s, rop_5 hop.1]
          have := hop.2
          omega
        · rw [updN_n e]
          exact ih (fun x hx => hr x (List.mem_cons_of_mem _ hx)) i h1 (by omega)
    exact key r r1 i hi1 hi2
  obtain ⟨said2, s1, s2⟩ := cs_all (wa := wa') (Wf := Wf) (w := w) (a1 := 1) (by unfold NS at hT; omega) (Or.inr (by unfold NS at hT; omega)) r c'' m'' FU said' (fun op ho => ⟨(r1 op ho).1, (r1 op ho).2, fun z => absurd z one_ne⟩) r6 r5 (by omega) (by omega) (FU_gt (by omega))
  rw [r3, r4] at s2
  rw [r4] at s1
  have s1' : f_X12_closesSums said' wa' (nI m'') (nI (w + r.length)) 1 = some (said2, nI m', nI w) := s1
  have r8' : f_X12_readsSum said tape wa (nI m) fault (nI E) num (nI o) (nI p) (nI w) = _ := r8
  refine ⟨said2, wa', num', ?_, s2, WK.base r6⟩
  rw [r8']
  unfold rSt
  rw [f_X12_readsSum_b14, f_here12 h (by omega), bd1_s, bd1_s, f_sgn12 h, bd1_s, hs, if_pos rfl, if_pos rfl, hno, bd1_s, if_pos rfl]
  unfold f_X12_readsSum_b138
  rw [hno, bd1_s, if_pos rfl, s1', bd3_s, ite_self]
end RG
