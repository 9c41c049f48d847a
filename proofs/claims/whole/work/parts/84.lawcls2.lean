/-! pure: a law, the class's reader: conditions -/
section LT
variable {bytes tape : Nat → Int32} {t : Nat → Nat} {n E : Nat}
theorem cmp_F {p f : Int32} (hf : ¬ f = 0) : f_X2_readComparison bytes (nI E) f p (nI n) = some (12, f, p) := by
  unfold f_X2_readComparison
  rw [f_sign9f hf, bd1_s, if_neg (by decide), if_neg (by decide), if_neg (by decide), f_fail9f hf, bd1_s]
theorem f_cmp2 (h : TX bytes tape t n E) (hE : E ≤ 240) {p : Nat} (hp : p ≤ E) : f_X2_readComparison bytes (nI E) 0 (nI p) (nI n) = if cmpO (chN t E p) = 0 then some (12, fI 1 p, nI p) else some (nI (cmpO (chN t E p)), 0, nI (p + 1)) := by
  unfold f_X2_readComparison f_X2_readComparison_b37 f_X2_readComparison_b66
  rw [f_sign9 h (by omega), bd1_s]
  simp only [ite_ch h (c := 60) (k := 60) rfl (by omega), ite_ch h (c := 62) (k := 62) rfl (by omega), ite_ch h (c := 61) (k := 61) rfl (by omega)]
  by_cases k1 : chN t E p = 60
  · have hpE := ch_in256 (t := t) (E := E) (p := p) (by omega)
    rw [if_pos k1, f_step9 (by omega) hpE, bd1_s, if_neg (by omega), k1]; rfl
  · by_cases k2 : chN t E p = 62
    · have hpE := ch_in256 (t := t) (E := E) (p := p) (by omega)
      rw [if_neg k1, if_pos k2, f_step9 (by omega) hpE, bd1_s, if_neg (by omega), k2]; rfl
    · by_cases k3 : chN t E p = 61
      · have hpE := ch_in256 (t := t) (E := E) (p := p) (by omega)
        rw [if_neg k1, if_neg k2, if_pos k3, f_step9 (by omega) hpE, bd1_s, if_pos k3, k3]; rfl
      · have e0 : cmpO (chN t E p) = 0 := by unfold cmpO; rw [if_neg k1, if_neg k2, if_neg k3]
        rw [if_neg k1, if_neg k2, if_neg k3, if_pos e0, show (1 : Int32) = nI 1 from rfl, f_fail9, bd1_s]
theorem lqF_test {G1 G2 G3 : GT} : LqF bytes n E (fo_X2_readTest G1 G2 G3) := by
  intro code m p f o hm hf
  obtain ⟨c1, m1, e1, h1⟩ := lqF_sums (bytes := bytes) (n := n) (E := E) 37 code m p f o hm hf
  obtain ⟨c2, m2, e2, h2⟩ := lqF_sums (bytes := bytes) (n := n) (E := E) 37 c1 m1 p f o h1 hf
  obtain ⟨c3, m3, e3, h3⟩ := f_emitA (code := c2) h2 12 0
  have e1' : f_X2_readSum DP code bytes (nI m) (nI E) f p (nI n) o = _ := e1
  have e2' : f_X2_readSum DP c1 bytes (nI m1) (nI E) f p (nI n) o = _ := e2
  unfold fo_X2_readTest f_X2_readTest_b100
  rw [f_sign9f hf, bd1_s, if_neg (by decide), if_neg (by decide), e1', bd4_s, cmp_F hf, bd3_s, e2', bd4_s, e3, bd3_s]
  exact ⟨_, _, rfl, h3⟩
theorem al_F {G1 G2 G3 : GT} {fu : Nat} {code : Nat → Int32} {m : Nat} {p f o l j : Int32} (hf : ¬ f = 0) : ∃ code', f_X2_readAll_b9 G1 G2 G3 bytes (nI E) (nI n) o (fu + 1) code (nI m) f p j l = some (code', nI m, f, p) := by
  obtain ⟨c1, e1⟩ := f_leapA (code := code) (a := j) (b := nI m)
  rw [f_X2_readAll_b9]
  unfold f_X2_readAll_b71
  by_cases q : (240 : Int32) ≤ l
  · rw [if_pos q, e1, bd1_s]; exact ⟨_, rfl⟩
  · rw [if_neg q, f_sign9f hf, bd1_s, if_neg (by decide), e1, bd1_s]; exact ⟨_, rfl⟩
theorem an_F {G1 G2 G3 : GT} {fu : Nat} {code : Nat → Int32} {m : Nat} {p f o l j : Int32} (hf : ¬ f = 0) : ∃ code', f_X2_readAny_b9 G1 G2 G3 bytes (nI E) (nI n) o (fu + 1) code (nI m) f p j l = some (code', nI m, f, p) := by
  obtain ⟨c1, e1⟩ := f_leapA (code := code) (a := j) (b := nI m)
  rw [f_X2_readAny_b9]
  unfold f_X2_readAny_b71
  by_cases q : (240 : Int32) ≤ l
  · rw [if_pos q, e1, bd1_s]; exact ⟨_, rfl⟩
  · rw [if_neg q, f_sign9f hf, bd1_s, if_neg (by decide), e1, bd1_s]; exact ⟨_, rfl⟩
theorem lqF_all {G1 G2 G3 : GT} (h3 : LqF bytes n E G3) : LqF bytes n E (fo_X2_readAll G1 G2 G3) := by
  intro code m p f o hm hf
  obtain ⟨code', m', e1, e2⟩ := h3 code m p f o hm hf
  obtain ⟨z, hz, -⟩ := FU_s
  obtain ⟨c2, e3⟩ := al_F (G1 := G1) (G2 := G2) (G3 := G3) (bytes := bytes) (n := n) (E := E) (fu := z) (code := code') (m := m') (p := p) (f := f) (o := o) (l := 0) (j := -1) hf
  unfold fo_X2_readAll
  rw [e1, bd4_s, hz, e3]
  exact ⟨_, _, rfl, e2⟩
theorem lqF_any {G1 G2 G3 : GT} (h2 : LqF bytes n E G2) : LqF bytes n E (fo_X2_readAny G1 G2 G3) := by
  intro code m p f o hm hf
  obtain ⟨code', m', e1, e2⟩ := h2 code m p f o hm hf
  obtain ⟨z, hz, -⟩ := FU_s
  obtain ⟨c2, e3⟩ := an_F (G1 := G1) (G2 := G2) (G3 := G3) (bytes := bytes) (n := n) (E := E) (fu := z) (code := code') (m := m') (p := p) (f := f) (o := o) (l := 0) (j := -1) hf
  unfold fo_X2_readAny
  rw [e1, bd4_s, hz, e3]
  exact ⟨_, _, rfl, e2⟩
theorem lq_all (h : TX bytes tape t n E) (hE : E ≤ 240) {G1 G2 G3 : GT} {o : Nat} {it : Ps} (h3 : LqS bytes n E G3 o it) (hi : PsOK E it) : LqS bytes n E (fo_X2_readAll G1 G2 G3) o (spL t E 38 4 it) := by
  have loop : ∀ d fu l j code c m q, KC code c m → (∀ i, j = some i → i < m) → m ≤ q → q ≤ E → l < q → E - q < d → d < fu → AnS E (lch t E 38 4 it d j q c m) (f_X2_readAll_b9 G1 G2 G3 bytes (nI E) (nI n) (nI o) fu code (nI m) 0 (nI q) (lI j) (nI l)) := by
    intro d
    induction d with
    | zero => intro fu l j code c m q _ _ _ _ _ h1; omega
    | succ d ih =>
      intro fu l j code c m q hK hj hm hq hl hd hf
      obtain ⟨fu, rfl⟩ : ∃ x, fu = x + 1 := ⟨fu - 1, by omega⟩
      obtain ⟨fu', rfl⟩ : ∃ x, fu = x + 1 := ⟨fu - 1, by omega⟩
      obtain ⟨c1, e1, k1⟩ := f_leap1 hK hj (by omega)
      rw [lch, f_X2_readAll_b9, if_neg (nge240 (l := l) (by omega)), f_sign9 h (by omega), bd1_s, ite_ch h (c := 38) (k := 38) rfl (by omega)]
      unfold f_X2_readAll_b71
      rw [e1, bd1_s]
      by_cases q1 : chN t E q = 38
      · have hqE := ch_in256 (t := t) (E := E) (p := q) (by omega)
        have em : f_X1_emit c1 (nI m) 4 0 = some (nI m, upd c1 m (nI (0 * 16 + 4)), nI (m + 1)) := f_emit1 (op := 4) (v := 0) (by omega) (by omega) (by omega)
        rw [if_pos q1, if_pos q1, f_step9 (by omega) hqE, bd1_s, bd1_s, em, bd3_s]
        refine AnS.bn hE h3 hi (k1.put (by omega) (by omega)) (by omega) (by omega) (fun code' m' q' f a1 a3 => ?_) (fun code' q' c' m' a1 a2 a3 a4 a5 => ?_)
        · obtain ⟨c2, e3⟩ := al_F (G1 := G1) (G2 := G2) (G3 := G3) (bytes := bytes) (n := n) (E := E) (fu := fu') (code := code') (m := m') (p := q') (f := f) (o := nI o) (l := nI l + 1) (j := nI m) a3
          rw [e3]; exact ⟨_, _, _, rfl, a1⟩
        · rw [nI_1]
          exact ih (fu' + 1) (l + 1) (some m) code' c' m' q' a1 (fun i hi => by cases hi; omega) (by omega) a3 (by omega) (by omega) (by omega)
      · rw [if_neg q1, if_neg q1]
        exact AnS.good k1
  intro code c m p hK hm hp
  obtain ⟨z, hz, hz2⟩ := FU_s
  unfold fo_X2_readAll
  refine AnS.bn hE h3 hi hK hm hp (fun code' m' q f a1 a3 => ?_) (fun code' q c' m' a1 a2 a3 a4 a5 => ?_)
  · obtain ⟨c2, e3⟩ := al_F (G1 := G1) (G2 := G2) (G3 := G3) (bytes := bytes) (n := n) (E := E) (fu := z) (code := code') (m := m') (p := q) (f := f) (o := nI o) (l := 0) (j := -1) a3
    rw [hz, e3]; exact ⟨_, _, _, rfl, a1⟩
  · exact loop 300 FU 0 none code' c' m' q a1 (fun i hi => by cases hi) (by omega) a3 (by omega) (by omega) (FU_gt (by omega))
theorem lq_any (h : TX bytes tape t n E) (hE : E ≤ 240) {G1 G2 G3 : GT} {o : Nat} {it : Ps} (h2 : LqS bytes n E G2 o it) (hi : PsOK E it) : LqS bytes n E (fo_X2_readAny G1 G2 G3) o (spL t E 124 3 it) := by
  have loop : ∀ d fu l j code c m q, KC code c m → (∀ i, j = some i → i < m) → m ≤ q → q ≤ E → l < q → E - q < d → d < fu → AnS E (lch t E 124 3 it d j q c m) (f_X2_readAny_b9 G1 G2 G3 bytes (nI E) (nI n) (nI o) fu code (nI m) 0 (nI q) (lI j) (nI l)) := by
    intro d
    induction d with
    | zero => intro fu l j code c m q _ _ _ _ _ h1; omega
    | succ d ih =>
      intro fu l j code c m q hK hj hm hq hl hd hf
      obtain ⟨fu, rfl⟩ : ∃ x, fu = x + 1 := ⟨fu - 1, by omega⟩
      obtain ⟨fu', rfl⟩ : ∃ x, fu = x + 1 := ⟨fu - 1, by omega⟩
      obtain ⟨c1, e1, k1⟩ := f_leap1 hK hj (by omega)
      rw [lch, f_X2_readAny_b9, if_neg (nge240 (l := l) (by omega)), f_sign9 h (by omega), bd1_s, ite_ch h (c := 124) (k := 124) rfl (by omega)]
      unfold f_X2_readAny_b71
      rw [e1, bd1_s]
      by_cases q1 : chN t E q = 124
      · have hqE := ch_in256 (t := t) (E := E) (p := q) (by omega)
        have em : f_X1_emit c1 (nI m) 3 0 = some (nI m, upd c1 m (nI (0 * 16 + 3)), nI (m + 1)) := f_emit1 (op := 3) (v := 0) (by omega) (by omega) (by omega)
        rw [if_pos q1, if_pos q1, f_step9 (by omega) hqE, bd1_s, bd1_s, em, bd3_s]
        refine AnS.bn hE h2 hi (k1.put (by omega) (by omega)) (by omega) (by omega) (fun code' m' q' f a1 a3 => ?_) (fun code' q' c' m' a1 a2 a3 a4 a5 => ?_)
        · obtain ⟨c2, e3⟩ := an_F (G1 := G1) (G2 := G2) (G3 := G3) (bytes := bytes) (n := n) (E := E) (fu := fu') (code := code') (m := m') (p := q') (f := f) (o := nI o) (l := nI l + 1) (j := nI m) a3
          rw [e3]; exact ⟨_, _, _, rfl, a1⟩
        · rw [nI_1]
          exact ih (fu' + 1) (l + 1) (some m) code' c' m' q' a1 (fun i hi => by cases hi; omega) (by omega) a3 (by omega) (by omega) (by omega)
      · rw [if_neg q1, if_neg q1]
        exact AnS.good k1
  intro code c m p hK hm hp
  obtain ⟨z, hz, hz2⟩ := FU_s
  unfold fo_X2_readAny
  refine AnS.bn hE h2 hi hK hm hp (fun code' m' q f a1 a3 => ?_) (fun code' q c' m' a1 a2 a3 a4 a5 => ?_)
  · obtain ⟨c2, e3⟩ := an_F (G1 := G1) (G2 := G2) (G3 := G3) (bytes := bytes) (n := n) (E := E) (fu := z) (code := code') (m := m') (p := q) (f := f) (o := nI o) (l := 0) (j := -1) a3
    rw [hz, e3]; exact ⟨_, _, _, rfl, a1⟩
  · exact loop 300 FU 0 none code' c' m' q a1 (fun i hi => by cases hi) (by omega) a3 (by omega) (by omega) (FU_gt (by omega))
theorem lq_test (h : TX bytes tape t n E) (hE : E ≤ 240) {G1 G2 G3 : GT} {o k : Nat} (hk : o + k = 6) (hG : ∀ ts, spC t E k = some ts → LqS bytes n E G1 (o + 1) (spL t E 124 3 (spL t E 38 4 ts)) ∧ LqS bytes n E G3 (o + 1) ts) : LqS bytes n E (fo_X2_readTest G1 G2 G3) o (spT t E (smA t E (spE t E k)) (spC t E k)) := by
  intro code c m p hK hm hp
  show AnS E (spT t E (smA t E (spE t E k)) (spC t E k) p c m) (fo_X2_readTest G1 G2 G3 code bytes (nI m) (nI E) 0 (nI p) (nI n) (nI o))
  unfold fo_X2_readTest f_X2_readTest_b100 spT
  rw [f_sign9 h (by omega), bd1_s, ite_ch h (c := 33) (k := 33) rfl (by omega), ite_ch h (c := 40) (k := 40) rfl (by omega)]
  by_cases h1 : chN t E p = 33
  · have hpE := ch_in256 (t := t) (E := E) (p := p) (by omega)
    rw [if_pos h1, if_pos h1, f_open2 hE hpE (by omega)]
    cases k with
    | zero =>
      rw [if_neg (by omega), bd3_s, if_pos rfl]
      exact AnS.bad (by omega)
    | succ k =>
      rw [if_pos (by omega), bd3_s, if_neg one_ne, nI_1]
      refine AnS.bn hE (hG _ rfl).2 (spC_ok (k + 1) _ rfl) hK (by omega) (by omega) (fun code' m' q f a1 a3 => ?_) (fun code' q c' m' a1 a2 a3 a4 a5 => ?_)
      · obtain ⟨c3, m3, e3, h3⟩ := f_emitA (code := code') a1 2 0
        rw [e3, bd3_s]
        exact ⟨_, _, _, rfl, h3⟩
      · have em : f_X1_emit code' (nI m') 2 0 = some (nI m', upd code' m' (nI (0 * 16 + 2)), nI (m' + 1)) := f_emit1 (op := 2) (v := 0) (by omega) (by omega) (by omega)
        rw [em, bd3_s]
        exact AnS.good (a1.put (by omega) (by omega))
  · rw [if_neg h1, if_neg h1]
    by_cases h2 : chN t E p = 40
    · have hpE := ch_in256 (t := t) (E := E) (p := p) (by omega)
      rw [if_pos h2, if_pos h2, f_open2 hE hpE (by omega)]
      cases k with
      | zero =>
        rw [if_neg (by omega), bd3_s, if_pos rfl]
        exact AnS.bad (by omega)
      | succ k =>
        rw [if_pos (by omega), bd3_s, if_neg one_ne, nI_1]
        refine AnS.bn hE (hG _ rfl).1 (spL_ok (by omega) (spL_ok (by omega) (spC_ok (k + 1) _ rfl))) hK (by omega) (by omega) (fun code' m' q f a1 a3 => ?_) (fun code' q c' m' a1 a2 a3 a4 a5 => ?_)
        · rw [f_take9f a3 (by decide), bd2_s]
          exact ⟨_, _, _, rfl, a1⟩
        · rw [show (41 : Int32) = nI 41 from rfl, f_take9 h (by omega) (by omega)]
          by_cases h2 : chN t E q = 41
          · rw [if_pos h2, if_pos h2, bd2_s]; exact AnS.good a1
          · rw [if_neg h2, if_neg h2, bd2_s]; exact AnS.bad (by omega)
    · rw [if_neg h2, if_neg h2]
      have hs : LqS bytes n E (f_X2_readSum DP) o (smA t E (spE t E k)) := lq_sums h hE k o DP hk (by have : DP = 40 := rfl; omega)
      have hF : LqF bytes n E (f_X2_readSum DP) := lqF_sums 37
      refine AnS.bn hE hs (smA_ok (spE_ok k)) hK hm hp (fun code' m' q f a1 a3 => ?_) (fun code' q c1 m1 a1 a2 a3 a4 a5 => ?_)
      · obtain ⟨x2, y2, u2, v2⟩ := hF code' m' q f (nI o) a1 a3
        obtain ⟨x3, y3, u3, v3⟩ := f_emitA (code := x2) v2 12 0
        rw [cmp_F a3, bd3_s, u2, bd4_s, u3, bd3_s]
        exact ⟨_, _, _, rfl, v3⟩
      · rw [f_cmp2 h hE a3]
        by_cases h3 : cmpO (chN t E q) = 0
        · have hfn := fI_ne (k := 1) (q := q) (by omega) (by omega) (by omega)
          obtain ⟨x2, y2, u2, v2⟩ := hF code' m1 (nI q) (fI 1 q) (nI o) (by omega) hfn
          obtain ⟨x3, y3, u3, v3⟩ := f_emitA (code := x2) v2 12 0
          rw [if_pos h3, if_pos h3, bd3_s, u2, bd4_s, u3, bd3_s]
          exact AnS.bad v3
        · have hqE := ch_in256 (t := t) (E := E) (p := q) (cmp_lt h3)
          have hc12 : cmpO (chN t E q) ≤ 12 := by unfold cmpO; split; omega; split; omega; split; omega; omega
          rw [if_neg h3, if_neg h3, bd3_s]
          refine AnS.bn hE hs (smA_ok (spE_ok k)) a1 (by omega) (by omega) (fun code' m' q9 f b1 b3 => ?_) (fun code' q' c2 m2 b1 b2 b3 b4 b5 => ?_)
          · obtain ⟨x3, y3, u3, v3⟩ := f_emitA (code := code') b1 (nI (cmpO (chN t E q))) 0
            rw [u3, bd3_s]; exact ⟨_, _, _, rfl, v3⟩
          · have em : f_X1_emit code' (nI m2) (nI (cmpO (chN t E q))) 0 = some (nI m2, upd code' m2 (nI (0 * 16 + cmpO (chN t E q))), nI (m2 + 1)) := f_emit1 (v := 0) (by omega) (by omega) (by omega)
            rw [em, bd3_s]
            exact AnS.good (b1.put hc12 (by omega))
theorem lqF_tests (d : Nat) : LqF bytes n E (f_X2_readAny (d + 3)) := lqF_any (lqF_all (lqF_test (G1 := (frec_X2_readAny d).1) (G2 := (frec_X2_readAny d).2.1) (G3 := (frec_X2_readAny d).2.2)))
theorem lq_conds (h : TX bytes tape t n E) (hE : E ≤ 240) : ∀ k o ts, o + k = 6 → spC t E (k + 1) = some ts → (∀ d, 3 * k + 1 ≤ d → LqS bytes n E (f_X2_readTest d) o ts) ∧ (∀ d, 3 * k + 3 ≤ d → LqS bytes n E (f_X2_readAny d) o (spL t E 124 3 (spL t E 38 4 ts))) := by
  intro k
  induction k with
  | zero =>
    intro o ts hk e
    cases e
    have ht : ∀ d, 3 * 0 + 1 ≤ d → LqS bytes n E (f_X2_readTest d) o (spT t E (smA t E (spE t E 0)) (spC t E 0)) := by
      intro d hd
      obtain ⟨d, rfl⟩ : ∃ x, d = x + 1 := ⟨d - 1, by omega⟩
      exact lq_test h hE (G1 := (frec_X2_readAny d).1) (G2 := (frec_X2_readAny d).2.1) (G3 := (frec_X2_readAny d).2.2) hk (fun ts e => by cases e)
    refine ⟨ht, fun d hd => ?_⟩
    obtain ⟨d, rfl⟩ : ∃ x, d = x + 2 := ⟨d - 2, by omega⟩
    have hts := spC_ok (t := t) (E := E) 1 _ rfl
    have ha : LqS bytes n E (frec_X2_readAny (d + 1)).2.1 o (spL t E 38 4 (spT t E (smA t E (spE t E 0)) (spC t E 0))) := lq_all h hE (G1 := (frec_X2_readAny d).1) (G2 := (frec_X2_readAny d).2.1) (G3 := (frec_X2_readAny d).2.2) (ht d (by omega)) hts
    exact lq_any h hE (G1 := (frec_X2_readAny (d + 1)).1) (G2 := (frec_X2_readAny (d + 1)).2.1) (G3 := (frec_X2_readAny (d + 1)).2.2) ha (spL_ok (by omega) hts)
  | succ k ih =>
    intro o ts hk e
    cases e
    have ht : ∀ d, 3 * (k + 1) + 1 ≤ d → LqS bytes n E (f_X2_readTest d) o (spT t E (smA t E (spE t E (k + 1))) (spC t E (k + 1))) := by
      intro d hd
      obtain ⟨d, rfl⟩ : ∃ x, d = x + 1 := ⟨d - 1, by omega⟩
      exact lq_test h hE (G1 := (frec_X2_readAny d).1) (G2 := (frec_X2_readAny d).2.1) (G3 := (frec_X2_readAny d).2.2) hk (fun ts e => ⟨(ih (o + 1) ts (by omega) e).2 d (by omega), (ih (o + 1) ts (by omega) e).1 d (by omega)⟩)
    refine ⟨ht, fun d hd => ?_⟩
    obtain ⟨d, rfl⟩ : ∃ x, d = x + 2 := ⟨d - 2, by omega⟩
    have hts := spC_ok (t := t) (E := E) (k + 2) _ rfl
    have ha : LqS bytes n E (frec_X2_readAny (d + 1)).2.1 o (spL t E 38 4 (spT t E (smA t E (spE t E (k + 1))) (spC t E (k + 1)))) := lq_all h hE (G1 := (frec_X2_readAny d).1) (G2 := (frec_X2_readAny d).2.1) (G3 := (frec_X2_readAny d).2.2) (ht d (by omega)) hts
    exact lq_any h hE (G1 := (frec_X2_readAny (d + 1)).1) (G2 := (frec_X2_readAny (d + 1)).2.1) (G3 := (frec_X2_readAny (d + 1)).2.2) ha (spL_ok (by omega) hts)
end LT
