/-! pure: law, the reference's rules; both readers side by side -/
abbrev R14 := Int32 × (Nat → Int32) × (Nat → Int32) × (Nat → Int32) × (Nat → Int32) × (Nat → Int32) × (Nat → Int32) × Int32 × Int32 × Int32 × Int32 × Int32 × Int32 × Int32
def mBad (f : Int32) (o : Option R14) : Prop := ∃ x1 x2 x3 x4 x5 x6 x7 x9 x10 x11 x12 x13, o = some ((0 : Int32), x1, x2, x3, x4, x5, x6, x7, f, x9, x10, x11, x12, x13)
section LX
variable {bytes tape : Nat → Int32} {t : Nat → Nat} {n E : Nat}
theorem rf_b110 (h : TX bytes tape t n E) (hE : E ≤ 240) {said SF SH SL ST wa : Nat → Int32} {c : Cd} {r m1 q1 : Nat} {fault num op0 w0 : Int32} (hK : KM said c m1) (hm : m1 ≤ q1) (hq : q1 ≤ E) (hr : r < 16) : (∀ f, spCo t E (tsx t E) q1 c m1 = Sum.inl f → mBad f (f_X12_readsRule_b110 tape (nI E) said SF SH SL ST wa (nI m1) fault num op0 (nI q1) (nI r) w0)) ∧ (∀ q2 c2 m2, spCo t E (tsx t E) q1 c m1 = Sum.inr (q2, c2, m2) → ∃ said2 wa2 num2, f_X12_readsRule_b110 tape (nI E) said SF SH SL ST wa (nI m1) fault num op0 (nI q1) (nI r) w0 = some (1, said2, SF, upd SH r (nI m1), SL, upd ST r (nI m2), wa2, nI m2, fault, num2, 0, nI q2, nI (r + 1), 0) ∧ KM said2 c2 m2) := by
  obtain ⟨g1, g2⟩ := rs_cond h hE (tsx_e (t := t) (E := E)) (wa := wa) (num := num) (fault := fault) (op0 := op0) (w0 := w0) hK hm hq
  unfold f_X12_readsRule_b110
  rw [sI_n (by omega) (by omega)]
  refine ⟨fun f hf => ?_, fun q2 c2 m2 e => ?_⟩
  · obtain ⟨x1, x2, x3, x5, x6, x7, x8, e1⟩ := g1 f hf
    rw [e1, bd9_s, if_pos rfl]
    exact ⟨_, _, _, _, _, _, _, _, _, _, _, _, rfl⟩
  · obtain ⟨x1, x2, x3, e1, e2⟩ := g2 q2 c2 m2 e
    rw [e1, bd9_s, if_neg one_ne, sI_n (by omega) (by omega), nI_1]
    exact ⟨x1, x2, x3, rfl, e2⟩
theorem rf_rule (h : TX bytes tape t n E) (hE : E ≤ 240) {said SF SH SL ST wa : Nat → Int32} {c : Cd} {r m p : Nat} {fault num op0 w0 : Int32} (hK : KM said c m) (hm : m ≤ p) (hp : p ≤ E) (hr : r ≤ 16) : (∀ f, spR t E r p c m = Sum.inl f → mBad f (f_X12_readsRule said SF SH SL ST tape wa (nI m) fault (nI E) num op0 (nI p) (nI r) w0)) ∧ (∀ q2 c2 m2 m1, spR t E r p c m = Sum.inr (q2, c2, m2, m1) → ∃ said2 wa2 num2, f_X12_readsRule said SF SH SL ST tape wa (nI m) fault (nI E) num op0 (nI p) (nI r) w0 = some (1, said2, upd SF r (nI m), upd SH r (nI m1), upd SL r (chI t E p), upd ST r (nI m2), wa2, nI m2, fault, num2, 0, nI q2, nI (r + 1), 0) ∧ KM said2 c2 m2) := by
  unfold f_X12_readsRule
  rw [f_here12 h (by omega), bd1_s, ite_ch h (c := 102) (k := 102) rfl (by omega), ite_ch h (c := 101) (k := 101) rfl (by omega), ite_ch h (c := 120) (k := 120) rfl (by omega)]
  by_cases h1 : chN t E p = 102 ∨ chN t E p = 101 ∨ chN t E p = 120
  · have hpE := ch_in256 (t := t) (E := E) (p := p) (by omega)
    have eif : ∀ (X Y : Option R14), (if chN t E p = 102 then X else if chN t E p = 101 then X else if chN t E p = 120 then X else Y) = X := by
      intro X Y
      rcases h1 with z | z | z
      · rw [if_pos z]
      · rw [if_pos z, ite_self]
      · rw [if_pos z, ite_self, ite_self]
    rw [eif]
    unfold f_X12_readsRule_b33 spR
    rw [if_pos h1]
    by_cases h2 : r = 16
    · unfold f_X12_wrongAt
      rw [if_pos h2, if_pos (by rw [h2]; rfl), bd2_s, zI_0]
      exact ⟨fun f' hf => by obtain rfl := Sum.inl.inj hf; exact ⟨_, _, _, _, _, _, _, _, _, _, _, _, rfl⟩, fun q2 c2 m2 m1 e => (by cases e)⟩
    · rw [if_neg h2, if_neg (by rw [lt_16, neq (by omega) (by omega)]; exact h2), sI_n (by omega) (by omega), sI_n (by omega) (by omega), ite_ch h (c := 120) (k := 120) rfl (by omega), nI_1]
      unfold spV
      by_cases h3 : chN t E p = 120
      · obtain ⟨g1, g2⟩ := rf_b110 h hE (SF := upd SF r (nI m)) (SH := SH) (SL := upd SL r (chI t E p)) (ST := ST) (wa := wa) (fault := fault) (num := num) (op0 := 0) (w0 := 0) hK (show m ≤ p + 1 by omega) (by omega) (show r < 16 by omega)
        rw [if_pos h3, if_pos h3]
        show (∀ f, (match spCo t E (tsx t E) (p + 1) c m with | Sum.inl f => Sum.inl f | Sum.inr (q2, c2, m2) => Sum.inr (q2, c2, m2, m) : RR) = Sum.inl f → _) ∧ (∀ q2 c2 m2 m1', (match spCo t E (tsx t E) (p + 1) c m with | Sum.inl f => Sum.inl f | Sum.inr (q2, c2, m2) => Sum.inr (q2, c2, m2, m) : RR) = Sum.inr (q2, c2, m2, m1') → _)
        match e2 : spCo t E (tsx t E) (p + 1) c m, g1, g2 with
        | Sum.inl f, g1, g2 => exact ⟨fun f' hf => by obtain rfl := Sum.inl.inj hf; exact g1 _ rfl, fun q2 c2 m2 m1 e => (by cases e)⟩
        | Sum.inr (q2, c2, m2), g1, g2 =>
          obtain ⟨x1, x2, x3, e3, e4⟩ := g2 q2 c2 m2 rfl
          refine ⟨fun f hf => (by cases hf), fun q3 c3 m3 m4 e => ?_⟩
          cases e
          exact ⟨x1, x2, x3, e3, e4⟩
      · have hNS : NS (wtp (fun _ => 0) 0) := Or.inr (by show 6 < 99; omega)
        obtain ⟨g1, g2⟩ := rs_sum h hE (k := 6) (o := 0) (by omega) (p := p + 1) (wa := wa) (Wf := fun _ => 0) (w := 0) (num := num) (fault := fault) hK (fun i hi => by omega) (by omega) (by omega) (by omega) hNS
        obtain ⟨i1, i2⟩ := smA_ok (t := t) (E := E) (spE_ok (t := t) 6) (p + 1) c m (by omega)
        rw [if_neg h3, if_neg h3]
        match e2 : smA t E (spE t E 6) (p + 1) c m, g1, g2, i2 with
        | Sum.inl f, g1, g2, i2 =>
          obtain ⟨x1, x2, x3, x5, x6, x7, x8, e1⟩ := g1 f rfl
          have e1' : f_X12_readsSum said tape wa (nI m) fault (nI E) num 0 (nI (p + 1)) 0 = _ := e1
          rw [e1', bd9_s, if_pos rfl]
          refine ⟨fun f' hf => ?_, fun q2 c2 m2 m1 e => (by cases e)⟩
          obtain rfl := Sum.inl.inj hf
          exact ⟨_, _, _, _, _, _, _, _, _, _, _, _, rfl⟩
        | Sum.inr (q1, c1, m1), g1, g2, i2 =>
          obtain ⟨x1, x2, x3, e1, k1, -⟩ := g2 q1 c1 m1 rfl
          obtain ⟨a1, a2, a3, a4, a5⟩ := i2 q1 c1 m1 rfl
          have e1' : f_X12_readsSum said tape wa (nI m) fault (nI E) num 0 (nI (p + 1)) 0 = _ := e1
          obtain ⟨g3, g4⟩ := rf_b110 h hE (SF := upd SF r (nI m)) (SH := SH) (SL := upd SL r (chI t E p)) (ST := ST) (wa := x2) (fault := fault) (num := x3) (op0 := nI 0) (w0 := nI 0) k1 (show m1 ≤ q1 by omega) a2 (show r < 16 by omega)
          rw [e1', bd9_s, if_neg one_ne]
          show (∀ f, (match spCo t E (tsx t E) q1 c1 m1 with | Sum.inl f => Sum.inl f | Sum.inr (q2, c2, m2) => Sum.inr (q2, c2, m2, m1) : RR) = Sum.inl f → _) ∧ (∀ q2 c2 m2 m1', (match spCo t E (tsx t E) q1 c1 m1 with | Sum.inl f => Sum.inl f | Sum.inr (q2, c2, m2) => Sum.inr (q2, c2, m2, m1) : RR) = Sum.inr (q2, c2, m2, m1') → _)
          match e2 : spCo t E (tsx t E) q1 c1 m1, g3, g4 with
          | Sum.inl f, g3, g4 => exact ⟨fun f' hf => by obtain rfl := Sum.inl.inj hf; exact g3 _ rfl, fun q2 c2 m2 m1 e => (by cases e)⟩
          | Sum.inr (q2, c2, m2), g3, g4 =>
            obtain ⟨x4, x5, x6, e5, e6⟩ := g4 q2 c2 m2 rfl
            refine ⟨fun f hf => (by cases hf), fun q3 c3 m3 m4 e => ?_⟩
            cases e
            exact ⟨x4, x5, x6, e5, e6⟩
  · unfold spR f_X12_wrongAt
    rw [if_neg (fun z => h1 (Or.inl z)), if_neg (fun z => h1 (Or.inr (Or.inl z))), if_neg (fun z => h1 (Or.inr (Or.inr z))), if_neg h1, bd2_s, zI_0]
    exact ⟨fun f' hf => by obtain rfl := Sum.inl.inj hf; exact ⟨_, _, _, _, _, _, _, _, _, _, _, _, rfl⟩, fun q2 c2 m2 m1 e => (by cases e)⟩
/-- what both know of the rule i -/
def Rl (c : Cd) (m : Nat) (L VF TF TE SL SF SH ST : Nat → Int32) (i : Nat) : Prop := ∃ x m0 m1 m2, x < 256 ∧ L i = nI x ∧ VF i = nI m0 ∧ TF i = nI m1 ∧ TE i = nI m2 ∧ SL i = nI x ∧ SF i = nI m0 ∧ SH i = nI m1 ∧ ST i = nI m2 ∧ m1 < m2 ∧ m2 ≤ m ∧ WG c m1 m2 ∧ isB (c (m2 - 1)).1 ∧ (x ≠ 120 → WG c m0 m1)
theorem Rl.cong {c c' : Cd} {m m' : Nat} {L VF TF TE SL SF SH ST L' VF' TF' TE' SL' SF' SH' ST' : Nat → Int32} {i : Nat} (h : Rl c m L VF TF TE SL SF SH ST i) (hm : m ≤ m') (hc : ∀ j, j < m → c' j = c j) (e1 : L' i = L i) (e2 : VF' i = VF i) (e3 : TF' i = TF i) (e4 : TE' i = TE i) (e5 : SL' i = SL i) (e6 : SF' i = SF i) (e7 : SH' i = SH i) (e8 : ST' i = ST i) : Rl c' m' L' VF' TF' TE' SL' SF' SH' ST' i := by
  obtain ⟨x, m0, m1, m2, a0, a1, a2, a3, a4, a5, a6, a7, a8, a9, a10, a11, a12, a13⟩ := h
  refine ⟨x, m0, m1, m2, a0, by rw [e1, a1], by rw [e2, a2], by rw [e3, a3], by rw [e4, a4], by rw [e5, a5], by rw [e6, a6], by rw [e7, a7], by rw [e8, a8], a9, by omega, a11.cong (fun j hj => hc j (by omega)), by rw [hc (m2 - 1) (by omega)]; exact a12, fun z => (a13 z).cong (fun j hj => hc j (by omega))⟩
theorem rd_F {fu : Nat} {code L TE TF VF : Nat → Int32} {r m e f p l : Int32} (hf : ¬ f = 0) : f_X2_read_b17 bytes (nI n) (fu + 1) code L TE TF VF r m e f p l = some (f, code, L, TE, TF, VF, r, m, e, f, p) := by
  rw [f_X2_read_b17]
  unfold f_X2_read_b80
  by_cases q : (16 : Int32) < l
  · rw [if_pos q]
  · rw [if_neg q, f_failed1 hf, bd1_s, if_neg one_ne]
abbrev R22 := Int32 × (Nat → Int32) × (Nat → Int32) × (Nat → Int32) × (Nat → Int32) × (Nat → Int32) × (Nat → Int32) × (Nat → Int32) × (Nat → Int32) × (Nat → Int32) × (Nat → Int32) × (Nat → Int32) × Int32 × Int32 × Int32 × Int32 × Int32 × Int32 × Int32 × Int32 × Int32 × Int32
def lwBad (CO CF CH CT CD : Nat → Int32) (cl f : Int32) (o : Option R22) : Prop := ∃ x1 x2 x3 x4 x5 x6 y1 y2 y3 y4 y5 y6 y7 y9, o = some (f, CO, CF, CH, CT, CD, x1, x2, x3, x4, x5, x6, cl, y1, y2, y3, y4, y5, y6, y7, 0, y9)
theorem b31_F {fu : Nat} {CO CF CH CT CD said SF SH SL ST wa : Nat → Int32} {cl cm f len num op0 p sm tp w : Int32} : lwBad CO CF CH CT CD cl f (f_X12_law_b31 tape (fu + 1) CO CF CH CT CD said SF SH SL ST wa cl cm f len num op0 p sm tp w 0) := by
  rw [f_X12_law_b31, if_pos rfl]
  unfold f_X12_law_b71
  rw [if_pos rfl]
  exact ⟨_, _, _, _, _, _, _, _, _, _, _, _, _, _, rfl⟩
/-- the reference is about to read a rule, in its loop -/
def mLW (tape : Nat → Int32) (fu : Nat) (CO CF CH CT CD said SF SH SL ST wa : Nat → Int32) (cl : Int32) (m : Nat) (fault : Int32) (E : Nat) (num op0 : Int32) (p r : Nat) (tp w : Int32) : Option R22 := bd14 (f_X12_readsRule said SF SH SL ST tape wa (nI m) fault (nI E) num op0 (nI p) (nI r) w) (fun r4 w5 w6 w7 w8 w9 w10 w11 w12 w13 w14 w15 w16 w17 => if r4 = 0 then f_X12_law_b31 tape fu CO CF CH CT CD w5 w6 w7 w8 w9 w10 cl w11 w12 (nI E) w13 w14 w15 w16 tp w17 0 else f_X12_law_b31 tape fu CO CF CH CT CD w5 w6 w7 w8 w9 w10 cl w11 w12 (nI E) w13 w14 w15 w16 tp w17 1)
theorem law_sim (h : TX bytes tape t n E) (hE : E ≤ 240) (CO CF CH CT CD : Nat → Int32) (cl tp : Int32) : ∀ d r p c m (code L TE TF VF said SF SH SL ST wa : Nat → Int32) (fault num op0 w : Int32) fu1 fu2, r + d = 17 → 1 ≤ d → p ≤ E → m ≤ p → KC code c m → KM said c m → (∀ i, i < r → Rl c m L VF TF TE SL SF SH ST i) → d < fu1 → d < fu2 →
    (∃ f, f ≤ 0 ∧ (∃ o, f_X2_read_b17 bytes (nI n) fu1 code L TE TF VF (nI r) (nI m) (nI E) 0 (nI p) (nI r) = some (f, o)) ∧ lwBad CO CF CH CT CD cl f (mLW tape fu2 CO CF CH CT CD said SF SH SL ST wa cl m fault E num op0 p r tp w)) ∨
    (∃ r' c' m' code' L' TE' TF' VF' said' SF' SH' SL' ST' wa' num' op' w' q' x3 fu', 1 ≤ r' ∧ r' ≤ 16 ∧ m' ≤ 240 ∧ f_X2_read_b17 bytes (nI n) fu1 code L TE TF VF (nI r) (nI m) (nI E) 0 (nI p) (nI r) = some (nI r', code', L', TE', TF', VF', nI r', nI m', nI E, 0, x3) ∧ mLW tape fu2 CO CF CH CT CD said SF SH SL ST wa cl m fault E num op0 p r tp w = f_X12_law_b31 tape (fu' + 1) CO CF CH CT CD said' SF' SH' SL' ST' wa' cl (nI m') fault (nI E) num' op' (nI q') (nI r') tp w' 1 ∧ E ≤ q' ∧ q' ≤ 240 ∧ KC code' c' m' ∧ KM said' c' m' ∧ ∀ i, i < r' → Rl c' m' L' VF' TF' TE' SL' SF' SH' ST' i) := by
  intro d
  induction d with
  | zero => intro r p c m code L TE TF VF said SF SH SL ST wa fault num op0 w fu1 fu2 _ h1; omega
  | succ d ih =>
    intro r p c m code L TE TF VF said SF SH SL ST wa fault num op0 w fu1 fu2 hrd _ hp hm hKC hKM hRl hf1 hf2
    obtain ⟨fu1, rfl⟩ : ∃ x, fu1 = x + 1 := ⟨fu1 - 1, by omega⟩
    obtain ⟨fu1, rfl⟩ : ∃ x, fu1 = x + 1 := ⟨fu1 - 1, by omega⟩
    obtain ⟨fu2, rfl⟩ : ∃ x, fu2 = x + 1 := ⟨fu2 - 1, by omega⟩
    obtain ⟨g1, g2⟩ := cl_rule h hE (L := L) (TE := TE) (TF := TF) (VF := VF) (r := r) hKC hm hp (by omega)
    obtain ⟨g3, g4⟩ := rf_rule h hE (SF := SF) (SH := SH) (SL := SL) (ST := ST) (wa := wa) (fault := fault) (num := num) (op0 := op0) (w0 := w) (r := r) hKM hm hp (by omega)
    obtain ⟨i1, i2⟩ := spR_ok (t := t) (E := E) r p c m hp
    have hl16 : ¬ (16 : Int32) < nI r := by rw [lt_16, nlt (by omega) (by omega)]; omega
    rw [f_X2_read_b17, if_neg hl16, f_failed0, bd1_s, if_pos rfl]
    unfold mLW
    match e : spR t E r p c m, g1, g2, g3, g4, i1, i2 with
    | Sum.inl f, g1, g2, g3, g4, i1, i2 =>
      obtain ⟨x1, x2, x3, x4, x5, x6, x7, x9, e1⟩ := g1 f rfl
      obtain ⟨y1, y2, y3, y4, y5, y6, y7, y9, y10, y11, y12, y13, e2⟩ := g3 f rfl
      obtain ⟨kk, qq, b1, b2, b3, rfl⟩ := i1 f rfl
      have hfn := fI_ne b1 b2 (show qq < 270 by omega)
      have hfl := (fI_all kk b2 qq (by omega) b1).1
      refine Or.inl ⟨fI kk qq, hfl, ?_, ?_⟩
      · unfold f_X2_read_b65
        rw [e1, bd9_s, f_failed1 hfn, bd1_s, if_neg one_ne, f_take9f hfn (by decide), bd2_s, rd_F hfn]
        exact ⟨_, rfl⟩
      · rw [e2, bd14_s, if_pos rfl]
        exact b31_F
    | Sum.inr (q2, c2, m2, m1), g1, g2, g3, g4, i1, i2 =>
      obtain ⟨code2, e1, k1⟩ := g2 q2 c2 m2 m1 rfl
      obtain ⟨said2, wa2, num2, e2, k2⟩ := g4 q2 c2 m2 m1 rfl
      obtain ⟨a0, a1, a2, a3, a4, a5, a6, a7, a8, a9, a10⟩ := i2 q2 c2 m2 m1 rfl
      have ech : chI t E p = nI (t p) := if_pos a0
      have ecn : chN t E p = t p := if_pos a0
      have hRl2 : ∀ i, i < r + 1 → Rl c2 m2 (upd L r (chI t E p)) (upd VF r (nI m)) (upd TF r (nI m1)) (upd TE r (nI m2)) (upd SL r (chI t E p)) (upd SF r (nI m)) (upd SH r (nI m1)) (upd ST r (nI m2)) i := by
        intro i hi
        by_cases ei : i = r
        · subst ei
          refine ⟨t p, m, m1, m2, TX_lt h a0, by rw [pk_us, ech], pk_us, pk_us, pk_us, by rw [pk_us, ech], pk_us, pk_us, pk_us, a4, Nat.le_refl _, a7, a8, fun z => a9 (by rw [ecn]; exact z)⟩
        · exact (hRl i (by omega)).cong (by omega) a6 (pk_un ei) (pk_un ei) (pk_un ei) (pk_un ei) (pk_un ei) (pk_un ei) (pk_un ei) (pk_un ei)
      rw [e1, bd9_s, f_failed0, bd1_s, if_pos rfl, f_atEnd9 (by omega) (by omega), bd1_s, ite_bI, e2, bd14_s, if_neg one_ne]
      by_cases h1 : E ≤ q2
      · refine Or.inr ⟨r + 1, c2, m2, code2, _, _, _, _, said2, _, _, _, _, wa2, num2, 0, 0, q2, nI q2, fu2, by omega, by omega, by omega, ?_, rfl, h1, by omega, k1, k2, hRl2⟩
        rw [if_pos (decide_eq_true h1)]
      · have hdf : ¬ (decide (E ≤ q2) = true) := fun z => h1 (of_decide_eq_true z)
        unfold f_X2_read_b65
        rw [if_neg hdf, show (59 : Int32) = nI 59 from rfl, f_take9 h (by omega) (by omega), f_X12_law_b31, if_neg one_ne, if_neg (show ¬ nI E ≤ nI q2 by rw [nle (by omega) (by omega)]; exact h1), show (59 : Int32) = nI 59 from rfl, f_takes12 h (by omega) (by omega)]
        by_cases h2 : chN t E q2 = 59
        · have hnx := ih (r + 1) (q2 + 1) c2 m2 code2 (upd L r (chI t E p)) (upd TE r (nI m2)) (upd TF r (nI m1)) (upd VF r (nI m)) said2 (upd SF r (nI m)) (upd SH r (nI m1)) (upd SL r (chI t E p)) (upd ST r (nI m2)) wa2 fault num2 0 0 (fu1 + 1) fu2 (by omega) (by omega) (by omega) (by omega) k1 k2 hRl2 (by omega) (by omega)
          unfold f_X12_law_b66 f_X12_law_b67
          rw [if_pos h2, if_pos h2, bd2_s, bd3_s, if_neg one_ne, nI_1]
          exact hnx
        · have hfn := fI_ne (k := 1) (q := q2) (by omega) (by omega) (by omega)
          have hfl := (fI_all 1 (by omega) q2 (by omega) (by omega)).1
          obtain ⟨fu2, rfl⟩ : ∃ x, fu2 = x + 1 := ⟨fu2 - 1, by omega⟩
          unfold f_X12_law_b66 f_X12_law_b67
          rw [if_neg h2, if_neg h2, bd2_s, bd3_s, if_pos rfl, rd_F hfn]
          exact Or.inl ⟨fI 1 q2, hfl, ⟨_, rfl⟩, b31_F⟩
end LX
