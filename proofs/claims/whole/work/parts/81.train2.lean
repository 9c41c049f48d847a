/-! pure: training, the reference -/
def AG (x y : Nat → Int32) : Prop := ∀ k, k < 293 → x k = y k
theorem ag_upd {x y : Nat → Int32} (h : AG x y) (i : Nat) (v : Int32) : AG (upd x i v) (upd y i v) := by
  intro k hk
  by_cases e : k = i
  · rw [e, pk_us, pk_us]
  · rw [pk_un e, pk_un e]; exact h k hk
theorem ag_us {x y : Nat → Int32} (h : AG x y) {g : Nat → Nat} {b w : Nat} (hb : b < 8) (hgw : g w < 16) : AG (us x g b w) (us y g b w) := by
  have h2 := ag_upd (ag_upd h (32 + (16 * b + w)) 0) (160 + (16 * b + w)) 0
  unfold us
  split
  · exact h2
  · rw [h2 (32 + (16 * b + g w)) (by omega)]
    exact ag_upd h2 _ _
theorem ag_bear {x y : Nat → Int32} (h : AG x y) {g : Nat → Nat} {b w : Nat} (hb : b < 8) (hw : w < 16) (hgw : g w < 16) : bear x g b w = bear y g b w := by
  unfold bear shr uns
  rw [h (8 + b) (by omega), h (32 + (16 * b + w)) (by omega), h (32 + (16 * b + g w)) (by omega), h 288 (by omega), h (16 + b) (by omega)]
def RS (x : Nat → Int32) : Prop := ∃ (dread ink kind salt tries : Nat → Int32) (day nerve pictures told written xx : Int32), RShelf dread ink kind salt tries day nerve pictures told written xx x
theorem rs_us {x : Nat → Int32} (h : RS x) {g : Nat → Nat} {c w : Nat} (hc : c < 8) (hw : w < 16) (hgw : g w < 16) : RS (us x g c w) := by
  obtain ⟨dread, ink, kind, salt, tries, day, nerve, pictures, told, written, xx, hS⟩ := h
  exact ⟨_, _, _, _, _, _, _, _, _, _, _, us_RS hS hc hw hgw⟩
theorem RS.ag {x y : Nat → Int32} (h : RS x) (ha : AG y x) : RS y := by
  obtain ⟨dread, ink, kind, salt, tries, day, nerve, pictures, told, written, xx, hS⟩ := h
  exact ⟨_, _, _, _, _, _, _, _, _, _, _, hS.cong (fun j hj => rfl) (fun j hj => rfl) (fun j hj => rfl) (fun j hj => rfl) (fun j hj => rfl) ha⟩
theorem RS.tries {x : Nat → Int32} (h : RS x) {j : Nat} (hj : j < 128) : ∃ k, k ≤ 8 ∧ x (160 + j) = nI k := by
  obtain ⟨dread, ink, kind, salt, tries, day, nerve, pictures, told, written, xx, hS⟩ := h
  obtain ⟨-, -, e, k, hk, e2⟩ := hS.2.2.1 j hj
  exact ⟨k, hk, by rw [← e, e2]⟩
def xr (x : Nat → Int32) (g : Nat → Nat) (b : Nat) (s R : Nat → Nat) : Nat → Nat → Int32
  | 0 => x
  | i + 1 => us (xr x g b s R i) g b (s (R i))
def spr (x : Nat → Int32) (g : Nat → Nat) (b : Nat) (s R : Nat → Nat) : Nat → Nat
  | 0 => 0
  | i + 1 => kSp (xr x g b s R i) b (s (R i)) (spr x g b s R i)
section TM
variable {g : Nat → Nat} {b : Nat} {s : Nat → Nat} {N : Nat} {rhymeOf trainsTo aside : Nat → Int32}
theorem xr_cong {x : Nat → Int32} {R R' : Nat → Nat} : ∀ m, (∀ i, i < m → R' i = R i) → xr x g b s R' m = xr x g b s R m ∧ spr x g b s R' m = spr x g b s R m
  | 0, _ => ⟨rfl, rfl⟩
  | m + 1, h => by
    obtain ⟨e1, e2⟩ := xr_cong (x := x) (R := R) (R' := R') m (fun i hi => h i (by omega))
    rw [xr, xr, spr, spr, e1, e2, h m (by omega)]
    exact ⟨rfl, rfl⟩
theorem xr_RS {x : Nat → Int32} (hb : b < 8) (hg : ∀ w, w < 16 → g w < 16) (hs : ∀ k, k < N → s k < 16) (h : RS x) {R : Nat → Nat} : ∀ m, (∀ i, i < m → R i < N) → RS (xr x g b s R m)
  | 0, _ => h
  | m + 1, hR => rs_us (xr_RS hb hg hs h m (fun i hi => hR i (by omega))) hb (hs _ (hR m (by omega))) (hg _ (hs _ (hR m (by omega))))
theorem xr_ag {x y : Nat → Int32} (hb : b < 8) (hg : ∀ w, w < 16 → g w < 16) (hs : ∀ k, k < N → s k < 16) (h : AG x y) {R : Nat → Nat} : ∀ m, (∀ i, i < m → R i < N) → AG (xr x g b s R m) (xr y g b s R m) ∧ spr x g b s R m = spr y g b s R m
  | 0, _ => ⟨h, rfl⟩
  | m + 1, hR => by
    obtain ⟨e1, e2⟩ := xr_ag hb hg hs h m (fun i hi => hR i (by omega)) (R := R)
    have h3 := hs _ (hR m (by omega))
    refine ⟨ag_us e1 hb (hg _ h3), ?_⟩
    rw [spr, spr, e2]
    unfold kSp
    rw [e1 _ (by omega)]
theorem f_all12 (hb : b < 8) (hg : ∀ w, w < 16 → g w < 16 ∧ g (g w) = w ∧ rhymeOf w = nI (g w)) (hN6 : N ≤ 6) (hs : ∀ k, k < N → s k < 16 ∧ trainsTo k = nI (s k)) {X : Nat → Int32} (hX : RS X) (l3 : Int32) : f_X12_triesOf_b66 aside rhymeOf trainsTo (nI N) (nI b) FU X l3 1 0 = some (if tG X g b s N then l3 else 1000000, fa_fill aside X 293) := by
  obtain ⟨dread, ink, kind, salt, tries, day, nerve, pictures, told, written, xx, hS⟩ := hX
  have hQ : SQ dread kind salt nerve rhymeOf X rhymeOf g := SQ.of hS (fun w hw => ⟨(hg w hw).1, (hg w hw).2.1, (hg w hw).2.2, (hg w hw).2.2⟩)
  refine loopNN (fun n a i => f_X12_triesOf_b66 aside rhymeOf trainsTo (nI N) (nI b) n X l3 a i) (fun k => bI (allN (fun k => bear X g b (s k)) k)) 0 N (by omega) (by omega) (a0 := (1 : Int32)) (i0 := 0) rfl rfl _ (fun n k _ hk => ?_) (fun n => ?_)
  · show f_X12_triesOf_b66 aside rhymeOf trainsTo (nI N) (nI b) (n + 1) X l3 _ _ = f_X12_triesOf_b66 aside rhymeOf trainsTo (nI N) (nI b) n X l3 _ _
    obtain ⟨s1, s2⟩ := hs k hk
    rw [f_X12_triesOf_b66, if_neg (by rw [nle (by omega) (by omega)]; omega), gI_n (by omega) (by omega), s2, f_bears12 hQ hb s1, bd1_s, allN]
    unfold f_X12_triesOf_b99 f_X12_triesOf_b100
    cases allN (fun k => bear X g b (s k)) k
    · rw [if_pos bI_0]; rfl
    · rw [if_neg (show ¬ bI true = 0 from one_ne)]
      cases bear X g b (s k)
      · rw [if_pos bI_0]; rfl
      · rw [if_neg (show ¬ bI true = 0 from one_ne)]; rfl
  · show f_X12_triesOf_b66 aside rhymeOf trainsTo (nI N) (nI b) (n + 1) X l3 _ _ = _
    rw [f_X12_triesOf_b66, if_pos (by rw [nle (by omega) (by omega)]; omega), f_copies12, bd1_s]
    unfold f_X12_triesOf_b131 tG
    cases allN (fun k => bear X g b (s k)) N
    · rw [if_pos bI_0, if_neg ft_ne]
    · rw [if_neg bI_nz, if_pos rfl]
theorem f_triesOf12 (hb : b < 8) (hg : ∀ w, w < 16 → g w < 16 ∧ g (g w) = w ∧ rhymeOf w = nI (g w)) (hN6 : N ≤ 6) (hs : ∀ k, k < N → s k < 16 ∧ trainsTo k = nI (s k)) {x : Nat → Int32} (hx : RS x) {R : Nat → Nat} {trainAt : Nat → Int32} {M : Nat} (hM : M ≤ 6) (hR : ∀ i, i < M → R i < N ∧ trainAt i = nI (R i)) : f_X12_triesOf aside x rhymeOf trainAt trainsTo (nI N) (nI b) (nI M) = some (nI (if tG (xr x g b s R M) g b s N then spr x g b s R M else 1000000), fa_fill aside (xr x g b s R M) 293) ∧ spr x g b s R M ≤ 9 * M := by
  have hg1 : ∀ w, w < 16 → g w < 16 := fun w hw => (hg w hw).1
  have hs1 : ∀ k, k < N → s k < 16 := fun k hk => (hs k hk).1
  have hRS : ∀ m, m ≤ M → RS (xr x g b s R m) := fun m hm => xr_RS hb hg1 hs1 hx m (fun i hi => (hR i (by omega)).1)
  have hsp : ∀ m, m ≤ M → spr x g b s R m ≤ 9 * m := by
    intro m
    induction m with
    | zero => intro _; exact Nat.le_refl 0
    | succ m ih =>
      intro hm
      have := ih (by omega)
      rw [spr]
      unfold kSp
      omega
  have key : ∀ e i fu, i + e = M → e < fu → f_X12_triesOf_b5 aside rhymeOf trainAt trainsTo (nI N) (nI b) (nI M) fu (xr x g b s R i) (nI (spr x g b s R i)) (nI i) = f_X12_triesOf_b66 aside rhymeOf trainsTo (nI N) (nI b) FU (xr x g b s R M) (nI (spr x g b s R M)) 1 0 := by
    intro e
    induction e with
    | zero =>
      intro i fu hi hf
      obtain ⟨fu, rfl⟩ : ∃ y, fu = y + 1 := ⟨fu - 1, by omega⟩
      obtain rfl : i = M := by omega
      rw [f_X12_triesOf_b5, if_pos (by rw [nle (by omega) (by omega)]; omega)]
    | succ e ih =>
      intro i fu hi hf
      obtain ⟨fu, rfl⟩ : ∃ y, fu = y + 1 := ⟨fu - 1, by omega⟩
      obtain ⟨r1, r2⟩ := hR i (by omega)
      obtain ⟨s1, s2⟩ := hs (R i) r1
      obtain ⟨k, hk, ek⟩ := (hRS i (by omega)).tries (j := 16 * b + s (R i)) (by omega)
      have h9 := hsp i (by omega)
      have e2 : (160 : Int32) + 16 * nI b + nI (s (R i)) = nI (160 + (16 * b + s (R i))) := by rw [show (160 : Int32) = nI 160 from rfl, show (16 : Int32) = nI 16 from rfl, pk_mul, nI_add, nI_add, Nat.add_assoc]
      have e3 : nI (spr x g b s R i) + 9 - nI k = nI (spr x g b s R (i + 1)) := by
        rw [spr]
        unfold kSp
        rw [ek, nI_clamp (by omega), show (9 : Int32) = nI 9 from rfl, nI_add, pk_sub (by omega), show spr x g b s R i + 9 - k = spr x g b s R i + (9 - k) by omega]
      rw [f_X12_triesOf_b5, if_neg (by rw [nle (by omega) (by omega)]; omega), gI_n (by omega) (by omega), r2, gI_n (by omega) (by omega), s2, e2, gI_n (by omega) (by omega), f_us12 hb s1 (hg1 _ s1) (hg _ s1).2.2, bd1_s, ek, e3, nI_1]
      exact ih (i + 1) fu (by omega) (by omega)
  refine ⟨?_, hsp M (Nat.le_refl M)⟩
  unfold f_X12_triesOf
  have k0 := key M 0 FU (by omega) (FU_gt (by omega))
  have k1 : f_X12_triesOf_b5 aside rhymeOf trainAt trainsTo (nI N) (nI b) (nI M) FU x 0 0 = _ := k0
  rw [k1, f_all12 hb hg hN6 hs (hRS M (Nat.le_refl M))]
  split <;> rfl
theorem f_inRow12 {R : Nat → Nat} {trainAt : Nat → Int32} {m j : Nat} {U : Nat → Bool} (hm : m ≤ 6) (hj : j < 100) (hR : ∀ i, i < m → R i < 100 ∧ trainAt i = nI (R i)) (hU : U j = true ↔ ∃ i, i < m ∧ R i = j) : f_X12_isInRow trainAt (nI m) (nI j) = some (bI (U j)) := by
  unfold f_X12_isInRow
  have key := loopA (fun n i => f_X12_isInRow_b2 trainAt (nI m) (nI j) n i) (fun i => decide (R i ≠ j)) m (some 0) (some 1) (by omega) (fun n k hk hp => ?_) (fun n k hk hp => ?_) (fun n => ?_)
  · have key : f_X12_isInRow_b2 trainAt (nI m) (nI j) FU 0 = _ := key
    rw [key]
    cases e : U j with
    | false =>
      rw [if_pos (show allN (fun i => decide (R i ≠ j)) m = true from allN_iff.mpr (fun i hi => decide_eq_true (show R i ≠ j from fun q => by have := hU.mpr ⟨i, hi, q⟩; rw [e] at this; cases this)))]; rfl
    | true =>
      obtain ⟨i, hi, ei⟩ := hU.mp e
      rw [allN_false hi (decide_eq_false (fun q => q ei)), if_neg (by decide)]; rfl
  · show f_X12_isInRow_b2 trainAt (nI m) (nI j) (n + 1) _ = f_X12_isInRow_b2 trainAt (nI m) (nI j) n _
    obtain ⟨r1, r2⟩ := hR k hk
    rw [f_X12_isInRow_b2, if_neg (by rw [nle (by omega) (by omega)]; omega), gI_n (by omega) (by omega), r2, if_neg (by rw [neq (by omega) (by omega)]; exact of_decide_eq_true hp)]
  · show f_X12_isInRow_b2 trainAt (nI m) (nI j) (n + 1) _ = _
    obtain ⟨r1, r2⟩ := hR k hk
    rw [f_X12_isInRow_b2, if_neg (by rw [nle (by omega) (by omega)]; omega), gI_n (by omega) (by omega), r2, if_pos (by rw [neq (by omega) (by omega)]; exact Decidable.not_not.mp (of_decide_eq_false hp))]
  · show f_X12_isInRow_b2 trainAt (nI m) (nI j) (n + 1) _ = _
    rw [f_X12_isInRow_b2, if_pos (by rw [nle (by omega) (by omega)]; omega)]
def TT : Nat → Nat
  | 0 => 0
  | d + 1 => 1 + 6 * (1 + TT d)
/-- the reference goes over the words behind a row, from j on, and comes back -/
def TrC (g : Nat → Nat) (b : Nat) (s : Nat → Nat) (N : Nat) (rhymeOf trainsTo aside : Nat → Int32) (d : Nat) : Prop :=
    ∀ m (R : Nat → Nat) (U : Nat → Bool) (fs : Int32) (acc : Nat × Int32), m < N → N ≤ m + d + 1 → fa_cnt U N = m → (∀ j, j < N → (U j = true ↔ ∃ i, i < m ∧ R i = j)) → (∀ i, i < m → R i < N) → fs = (if m = 0 then -2 else nI (s (R 0))) → acc.1 ≤ 1000000 →
    ∀ e j f z (now trainAt : Nat → Int32), j + e = N → e < f → e * (1 + TT d) < z → AG now aside → (∀ i, i < m → trainAt i = nI (R i)) →
    ∃ z' now' trainAt', z ≤ z' + e * (1 + TT d) ∧ AG now' aside ∧ (∀ i, i < m → trainAt' i = nI (R i)) ∧ f_X12_trains_b51 rhymeOf trainsTo (nI N) (nI b) (f_X12_trains_b36 rhymeOf trainsTo (nI N) (nI b) z) f aside now trainAt (kids g b s N (dfs g b s N d) U (xr aside g b s R m) (spr aside g b s R m) fs j acc).2 (nI (kids g b s N (dfs g b s N d) U (xr aside g b s R m) (spr aside g b s R m) fs j acc).1) (nI (m + 1)) (nI j) = f_X12_trains_b36 rhymeOf trainsTo (nI N) (nI b) z' aside now' trainAt' (kids g b s N (dfs g b s N d) U (xr aside g b s R m) (spr aside g b s R m) fs N acc).2 (nI (kids g b s N (dfs g b s N d) U (xr aside g b s R m) (spr aside g b s R m) fs N acc).1) (nI m)
theorem tr_level (hb : b < 8) (hg : ∀ w, w < 16 → g w < 16 ∧ g (g w) = w ∧ rhymeOf w = nI (g w)) (hN6 : N ≤ 6) (hs : ∀ k, k < N → s k < 16 ∧ trainsTo k = nI (s k)) (hx : RS aside) {d : Nat} (Hd : ∀ d', d = d' + 1 → TrC g b s N rhymeOf trainsTo aside d') : TrC g b s N rhymeOf trainsTo aside d := by
  have hg1 : ∀ w, w < 16 → g w < 16 := fun w hw => (hg w hw).1
  have hs1 : ∀ k, k < N → s k < 16 := fun k hk => (hs k hk).1
  intro m R U fs acc hm hNm hc hU hR hfs hacc e
  induction e with
  | zero =>
    intro j f z now trainAt hj hf hz ha ht
    obtain ⟨f, rfl⟩ : ∃ y, f = y + 1 := ⟨f - 1, by omega⟩
    obtain rfl : j = N := by omega
    refine ⟨z, now, trainAt, by omega, ha, ht, ?_⟩
    rw [f_X12_trains_b51, if_pos (by rw [nle (by omega) (by omega)]; omega)]
    unfold f_X12_trains_b77
    rw [if_neg (by rw [nlt (by omega) (by omega)]; omega), show (1 : Int32) = nI 1 from rfl, pk_sub (by omega), Nat.add_sub_cancel]
  | succ e ih =>
    intro j f z now trainAt hj hf hz ha ht
    obtain ⟨f, rfl⟩ : ∃ y, f = y + 1 := ⟨f - 1, by omega⟩
    obtain ⟨z, rfl⟩ : ∃ y, z = y + 1 := ⟨z - 1, by omega⟩
    have hQ : (e + 1) * (1 + TT d) = e * (1 + TT d) + (1 + TT d) := Nat.succ_mul _ _
    have hjN : j < N := by omega
    have hin := f_inRow12 (U := U) (trainAt := trainAt) (R := R) (m := m) (j := j) (by omega) (by omega) (fun i hi => ⟨by have := hR i hi; omega, ht i hi⟩) (hU j hjN)
    have em : nI (m + 1) - 1 = nI m := by rw [show (1 : Int32) = nI 1 from rfl, pk_sub (by omega), Nat.add_sub_cancel]
    rw [f_X12_trains_b51, if_neg (by rw [nle (by omega) (by omega)]; omega), em, hin, bd1_s]
    cases hUj : U j with
    | true =>
      rw [if_neg (show ¬ bI true = 0 from one_ne), nI_1]
      have hk1 : kids g b s N (dfs g b s N d) U (xr aside g b s R m) (spr aside g b s R m) fs (j + 1) acc = kids g b s N (dfs g b s N d) U (xr aside g b s R m) (spr aside g b s R m) fs j acc := by rw [kids, if_pos hUj]
      obtain ⟨z', now', trainAt', q1, q2, q3, q4⟩ := ih (j + 1) f (z + 1) now trainAt (by omega) (by omega) (by omega) ha ht
      rw [hk1] at q4
      exact ⟨z', now', trainAt', by omega, q2, q3, q4⟩
    | false =>
      rw [if_pos (show bI false = 0 from rfl)]
      have hR' : ∀ i, i < m + 1 → updN R m j i < N ∧ upd trainAt m (nI j) i = nI (updN R m j i) := by
        intro i hi
        by_cases ei : i = m
        · rw [ei, updN_s, pk_us]; exact ⟨hjN, rfl⟩
        · rw [updN_n ei, pk_un ei]; exact ⟨hR i (by omega), ht i (by omega)⟩
      obtain ⟨c1, c2⟩ := xr_cong (x := aside) (g := g) (b := b) (s := s) (R := R) (R' := updN R m j) m (fun i hi => updN_n (by omega))
      have ex : xr aside g b s (updN R m j) (m + 1) = us (xr aside g b s R m) g b (s j) := by rw [xr, c1, updN_s]
      have es : spr aside g b s (updN R m j) (m + 1) = kSp (xr aside g b s R m) b (s j) (spr aside g b s R m) := by rw [spr, c1, c2, updN_s]
      obtain ⟨t1, t2⟩ := f_triesOf12 (aside := aside) hb hg hN6 hs (hx.ag ha) (M := m + 1) (R := updN R m j) (trainAt := upd trainAt m (nI j)) (by omega) hR'
      obtain ⟨a1, a2⟩ := xr_ag (x := now) (y := aside) hb hg1 hs1 ha (m + 1) (fun i hi => (hR' i hi).1) (R := updN R m j)
      have tge : tG (xr now g b s (updN R m j) (m + 1)) g b s N = tG (us (xr aside g b s R m) g b (s j)) g b s N := by
        rw [← ex]
        exact allN_cong ⟨fun h k hk => by rw [← ag_bear a1 hb (hs1 k hk) (hg1 _ (hs1 k hk))]; exact h k hk, fun h k hk => by rw [ag_bear a1 hb (hs1 k hk) (hg1 _ (hs1 k hk))]; exact h k hk⟩
      rw [a2, es, tge] at t1
      rw [a2, es] at t2
      have hfs' : kFs fs (s j) = nI (s (updN R m j 0)) := by
        unfold kFs
        by_cases e0 : m = 0
        · rw [if_pos (by rw [hfs, if_pos e0]), e0, updN_s]
        · rw [if_neg e0] at hfs
          have h0 := hs1 (R 0) (hR 0 (by omega))
          rw [if_neg (by rw [hfs]; intro q; have h9 := nI_pos (n := s (R 0)) (by omega); rw [q] at h9; exact h9 (by decide)), hfs, updN_n (by omega)]
      have hkl : (kids g b s N (dfs g b s N d) U (xr aside g b s R m) (spr aside g b s R m) fs j acc).1 ≤ 1000000 := Nat.le_trans (kids_le (dfs_le d) j) hacc
      have hk1 : kids g b s N (dfs g b s N d) U (xr aside g b s R m) (spr aside g b s R m) fs (j + 1) acc = dfs g b s N d (updB U j) (us (xr aside g b s R m) g b (s j)) (kSp (xr aside g b s R m) b (s j) (spr aside g b s R m)) (kFs fs (s j)) (vis (us (xr aside g b s R m) g b (s j)) g b s N (kSp (xr aside g b s R m) b (s j) (spr aside g b s R m)) (kFs fs (s j)) (kids g b s N (dfs g b s N d) U (xr aside g b s R m) (spr aside g b s R m) fs j acc)) := by
        rw [kids, if_neg (by rw [hUj]; decide)]
      generalize hV : vis (us (xr aside g b s R m) g b (s j)) g b s N (kSp (xr aside g b s R m) b (s j) (spr aside g b s R m)) (kFs fs (s j)) (kids g b s N (dfs g b s N d) U (xr aside g b s R m) (spr aside g b s R m) fs j acc) = V at hk1
      have hVl : V.1 ≤ 1000000 := by rw [← hV]; exact Nat.le_trans vis_le hkl
      have hV2 : ∀ (K : (Nat → Int32) → (Nat → Int32) → (Nat → Int32) → Int32 → Int32 → Int32 → Option ((Nat → Int32) × (Nat → Int32) × (Nat → Int32) × Int32 × Int32)), f_X12_trains_b77 rhymeOf trainsTo (nI N) (nI b) K aside now trainAt (kids g b s N (dfs g b s N d) U (xr aside g b s R m) (spr aside g b s R m) fs j acc).2 (nI (kids g b s N (dfs g b s N d) U (xr aside g b s R m) (spr aside g b s R m) fs j acc).1) (nI (m + 1)) (nI j) = f_X12_trains_b139 (nI N) (nI b) K aside (fa_fill aside (xr now g b s (updN R m j) (m + 1)) 293) (upd trainAt m (nI j)) V.2 (nI V.1) (nI (m + 1)) := by
        intro K
        unfold f_X12_trains_b77
        rw [if_pos (by rw [nlt (by omega) (by omega)]; omega), em, sI_n (by omega) (by omega), t1, bd2_s, gI_c (c := 0) (k := 0) rfl (by omega) (by omega), (hR' 0 (by omega)).2, gI_n (by have := (hR' 0 (by omega)).1; omega) (by omega), (hs _ (hR' 0 (by omega)).1).2, ← hfs']
        rw [← hV]
        unfold vis
        cases htg : tG (us (xr aside g b s R m) g b (s j)) g b s N with
        | false =>
          rw [if_neg (show ¬ (false = true) by decide), if_pos (by rw [nle (by omega) (by omega)]; exact hkl), if_neg (fun q => by have := q.1; cases this)]
        | true =>
          rw [if_pos rfl, ite_nle (by omega) (by omega)]
          by_cases q : kSp (xr aside g b s R m) b (s j) (spr aside g b s R m) < (kids g b s N (dfs g b s N d) U (xr aside g b s R m) (spr aside g b s R m) fs j acc).1
          · rw [if_neg (by omega), if_pos ⟨rfl, q⟩]
          · rw [if_pos (by omega), if_neg (fun q2 => q q2.2)]
      have hag2 : AG (fa_fill aside (xr now g b s (updN R m j) (m + 1)) 293) aside := fun k hk => fa_fill_in hk
      have hcU : fa_cnt (updB U j) N = m + 1 := by rw [cnt_updB hUj N hjN, hc]
      rw [hV2]
      unfold f_X12_trains_b139
      by_cases hmN : m + 1 = N
      · rw [if_pos (by rw [hmN]), f_X12_trains_b36, if_neg (by rw [show (0 : Int32) = nI 0 from rfl, nle (by omega) (by omega)]; omega), em, gI_n (by omega) (by omega), pk_us, nI_1]
        have hk2 : kids g b s N (dfs g b s N d) U (xr aside g b s R m) (spr aside g b s R m) fs (j + 1) acc = V := by rw [hk1, dfs_used (cnt_full N (by omega)) d]
        obtain ⟨z', now', trainAt', q1, q2, q3, q4⟩ := ih (j + 1) FU z (fa_fill aside (xr now g b s (updN R m j) (m + 1)) 293) (upd trainAt m (nI j)) (by omega) (FU_gt (by omega)) (by omega) hag2 (fun i hi => by rw [pk_un (by omega)]; exact ht i hi)
        rw [hk2] at q4
        exact ⟨z', now', trainAt', by omega, q2, q3, q4⟩
      · obtain ⟨d', rfl⟩ : ∃ y, d = y + 1 := ⟨d - 1, by omega⟩
        have hT : TT (d' + 1) = 1 + 6 * (1 + TT d') := rfl
        have hN2 : N * (1 + TT d') ≤ 6 * (1 + TT d') := Nat.mul_le_mul_right _ hN6
        have hU' : ∀ i, i < N → (updB U j i = true ↔ ∃ k, k < m + 1 ∧ updN R m j k = i) := by
          intro i hi
          by_cases e2 : i = j
          · rw [e2, show updB U j j = true from if_pos rfl]
            exact ⟨fun _ => ⟨m, by omega, updN_s⟩, fun _ => rfl⟩
          · rw [show updB U j i = U i from if_neg e2, hU i hi]
            constructor
            · rintro ⟨k, hk, ek⟩
              exact ⟨k, by omega, by rw [updN_n (by omega)]; exact ek⟩
            · rintro ⟨k, hk, ek⟩
              by_cases e3 : k = m
              · rw [e3, updN_s] at ek; exact absurd ek.symm e2
              · rw [updN_n e3] at ek; exact ⟨k, by omega, ek⟩
        have hdp := Hd d' rfl (m + 1) (updN R m j) (updB U j) (kFs fs (s j)) V (by omega) (by omega) hcU hU' (fun i hi => (hR' i hi).1) (by rw [if_neg (by omega)]; exact hfs') hVl N 0 FU z (fa_fill aside (xr now g b s (updN R m j) (m + 1)) 293) (upd (upd trainAt m (nI j)) (m + 1) (-1)) (by omega) (FU_gt (by omega)) (by omega) hag2 (fun i hi => by rw [pk_un (by omega)]; exact (hR' i hi).2)
        rw [ex, es] at hdp
        obtain ⟨z2, now2, trainAt2, p1, p2, p3, p4⟩ := hdp
        have p4' : f_X12_trains_b51 rhymeOf trainsTo (nI N) (nI b) (f_X12_trains_b36 rhymeOf trainsTo (nI N) (nI b) z) FU aside (fa_fill aside (xr now g b s (updN R m j) (m + 1)) 293) (upd (upd trainAt m (nI j)) (m + 1) (-1)) V.2 (nI V.1) (nI (m + 1 + 1)) (nI 0) = f_X12_trains_b36 rhymeOf trainsTo (nI N) (nI b) z2 aside now2 trainAt2 (dfs g b s N (d' + 1) (updB U j) (us (xr aside g b s R m) g b (s j)) (kSp (xr aside g b s R m) b (s j) (spr aside g b s R m)) (kFs fs (s j)) V).2 (nI (dfs g b s N (d' + 1) (updB U j) (us (xr aside g b s R m) g b (s j)) (kSp (xr aside g b s R m) b (s j) (spr aside g b s R m)) (kFs fs (s j)) V).1) (nI (m + 1)) := p4
        have em2 : nI (m + 1 + 1) - 1 = nI (m + 1) := by rw [show (1 : Int32) = nI 1 from rfl, pk_sub (by omega), Nat.add_sub_cancel]
        obtain ⟨z2, rfl⟩ : ∃ y, z2 = y + 1 := ⟨z2 - 1, by omega⟩
        obtain ⟨z', now', trainAt', q1, q2, q3, q4⟩ := ih (j + 1) FU z2 now2 trainAt2 (by omega) (FU_gt (by omega)) (by omega) p2 (fun i hi => by rw [p3 i (by omega), updN_n (by omega)])
        refine ⟨z', now', trainAt', by omega, q2, q3, ?_⟩
        rw [if_neg (by rw [neq (by omega) (by omega)]; exact hmN), sI_n (by omega) (by omega), nI_1, f_X12_trains_b36, if_neg (by rw [show (0 : Int32) = nI 0 from rfl, nle (by omega) (by omega)]; omega), em2, gI_n (by omega) (by omega), pk_us, show (-1 : Int32) + 1 = nI 0 from rfl, p4', f_X12_trains_b36, if_neg (by rw [show (0 : Int32) = nI 0 from rfl, nle (by omega) (by omega)]; omega), em, gI_n (by omega) (by omega), p3 m (by omega), updN_s, nI_1, ← hk1]
        exact q4
theorem tr_ref (hb : b < 8) (hg : ∀ w, w < 16 → g w < 16 ∧ g (g w) = w ∧ rhymeOf w = nI (g w)) (hN6 : N ≤ 6) (hs : ∀ k, k < N → s k < 16 ∧ trainsTo k = nI (s k)) (hx : RS aside) : ∀ d, TrC g b s N rhymeOf trainsTo aside d
  | 0 => tr_level hb hg hN6 hs hx (fun d' h => by omega)
  | d + 1 => tr_level hb hg hN6 hs hx (fun d' h => by obtain rfl : d' = d := by omega
                                                      exact tr_ref hb hg hN6 hs hx d')
end TM
def aI (a : Nat × Int32) : Prop := a.1 < 1000 ∨ a.1 = 1000000
theorem vis_I {g : Nat → Nat} {b : Nat} {s : Nat → Nat} {N : Nat} {x : Nat → Int32} {sp : Nat} {fs : Int32} {acc : Nat × Int32} (h : sp < 1000) (ha : aI acc) : aI (vis x g b s N sp fs acc) := by
  unfold vis
  split
  · exact Or.inl h
  · exact ha
theorem kids_I {g : Nat → Nat} {b : Nat} {s : Nat → Nat} {N d : Nat} {rc : (Nat → Bool) → (Nat → Int32) → Nat → Int32 → Nat × Int32 → Nat × Int32} (hr : ∀ U x sp fs (acc : Nat × Int32), sp + 9 * d < 1000 → aI acc → aI (rc U x sp fs acc)) {U : Nat → Bool} {x : Nat → Int32} {sp : Nat} {fs : Int32} {acc : Nat × Int32} (h : sp + 9 * (d + 1) < 1000) (ha : aI acc) : ∀ j, aI (kids g b s N rc U x sp fs j acc)
  | 0 => ha
  | j + 1 => by
    have ih := kids_I (g := g) (b := b) (s := s) (N := N) hr (U := U) (x := x) (fs := fs) h ha j
    have hk : kSp x b (s j) sp + 9 * d < 1000 := by unfold kSp; omega
    rw [kids]
    split
    · exact ih
    · exact hr _ _ _ _ _ hk (vis_I (by omega) ih)
theorem dfs_I {g : Nat → Nat} {b : Nat} {s : Nat → Nat} {N : Nat} : ∀ d U x sp fs (acc : Nat × Int32), sp + 9 * d < 1000 → aI acc → aI (dfs g b s N d U x sp fs acc)
  | 0, U, x, sp, fs, acc, _, ha => ha
  | d + 1, U, x, sp, fs, acc, h, ha => by rw [dfs]; exact kids_I (dfs_I d) h ha N
/-! the words, sorted -/
def srt (p : Nat → Bool) (v : Nat → Int32) : Nat → Nat → Int32
  | 0 => v
  | k + 1 => if p k then upd (srt p v k) (fa_cnt p k) (nI k) else srt p v k
theorem srt_at {p : Nat → Bool} {v : Nat → Int32} : ∀ k w, w < k → p w = true → srt p v k (fa_cnt p w) = nI w
  | 0, w, h, _ => by omega
  | k + 1, w, h, hp => by
    rw [srt]
    by_cases e : w = k
    · rw [e] at hp ⊢
      rw [if_pos hp, pk_us]
    · have ih := srt_at (p := p) (v := v) k w (by omega) hp
      split
      · have := cnt_lt (p := p) (b := w) (c := k) (by omega) hp
        rw [pk_un (by omega)]; exact ih
      · exact ih
theorem one_sh : ∀ w, w < 16 → (1 : Int32) <<< (nI w &&& 31) = nI (2 ^ w) := by decide +kernel
theorem lb_nat {t : Nat → Nat} : ∀ n, (∀ i, i < n → t i < 16) → ∃ X, X < 2 ^ 16 ∧ lb t n = nI X
  | 0, _ => ⟨0, by omega, rfl⟩
  | n + 1, h => by
    obtain ⟨X, hX, e⟩ := lb_nat n (fun i hi => h i (by omega))
    have ht := h n (by omega)
    refine ⟨X ||| 2 ^ t n, Nat.or_lt_two_pow hX (Nat.pow_lt_pow_right (by omega) ht), ?_⟩
    rw [lb, e, one_sh _ ht, fa_or]
def eu (t : Nat → Nat) (j : Nat) : Bool := decide (t j < 16) && !bt (lb t j) (t j)
theorem f_unl11 {bytes : Nat → Int32} {t : Nat → Nat} {n k : Nat} (hn : n ≤ 260) (hk : k ≤ 12) (hkn : k ≤ n) (hb : ∀ i, i < k → bytes i = nI (t i)) (h256 : ∀ i, i < k → t i < 256) : f_X11_unlikeWords bytes (nI n) (nI k) = if allN (eu t) k then some (lb t k) else some (-3) := by
  unfold f_X11_unlikeWords
  refine loopG (fun m x i => f_X11_unlikeWords_b4 bytes (nI n) (nI k) m x i) (lb t) (eu t) k (by omega) (a0 := (0 : Int32)) rfl _ _ (fun m j hj hp => ?_) (fun m j hj hp => ?_) (fun m _ => ?_)
  · show f_X11_unlikeWords_b4 _ _ _ (m + 1) _ _ = f_X11_unlikeWords_b4 _ _ _ m _ _
    simp only [eu, Bool.and_eq_true, decide_eq_true_eq, Bool.not_eq_true'] at hp
    rw [f_X11_unlikeWords_b4, if_neg (by rw [nle (by omega) (by omega)]; omega), f_at9 hn (by omega), bd1_s, hb j hj, if_neg (ge16 hp.1), sh1 _ (by omega), hp.2, if_pos (show bI false = 0 from rfl), lb]
  · show f_X11_unlikeWords_b4 _ _ _ (m + 1) _ _ = _
    have h2 := h256 j hj
    rw [f_X11_unlikeWords_b4, if_neg (by rw [nle (by omega) (by omega)]; omega), f_at9 hn (by omega), bd1_s, hb j hj, lt_16, ite_nle (by omega) (by omega)]
    by_cases q : 16 ≤ t j
    · rw [if_pos q]; rfl
    · rw [if_neg q, sh1 _ (by omega)]
      have : bt (lb t j) (t j) = true := by
        cases e : bt (lb t j) (t j)
        · unfold eu at hp; rw [e, decide_eq_true (by omega)] at hp; cases hp
        · rfl
      rw [this, if_neg (by decide)]; rfl
  · show f_X11_unlikeWords_b4 _ _ _ (m + 1) _ _ = _
    rw [f_X11_unlikeWords_b4, if_pos (by rw [nle (by omega) (by omega)]; omega)]
theorem f_areW12 {tape : Nat → Int32} {t : Nat → Nat} {k : Nat} (hk : k ≤ 12) (hb : ∀ i, i < k → tape i &&& 255 = nI (t i)) (h256 : ∀ i, i < k → t i < 256) : f_X12_areWords tape (nI k) = if allN (eu t) k then some 1 else some 0 := by
  unfold f_X12_areWords
  refine loopG (fun m x i => f_X12_areWords_b4 tape (nI k) m x i) (lb t) (eu t) k (by omega) (a0 := (0 : Int32)) rfl _ _ (fun m j hj hp => ?_) (fun m j hj hp => ?_) (fun m _ => ?_)
  · show f_X12_areWords_b4 _ _ (m + 1) _ _ = f_X12_areWords_b4 _ _ m _ _
    simp only [eu, Bool.and_eq_true, decide_eq_true_eq, Bool.not_eq_true'] at hp
    rw [f_X12_areWords_b4, if_neg (by rw [nle (by omega) (by omega)]; omega), f_oct12 (by omega), bd1_s, hb j hj]
    unfold f_X12_isWord
    rw [f_in_eq, if_neg (by rintro (z | z); exact nI_pos (by omega) z; rw [show (15 : Int32) = nI 15 from rfl, nlt (by omega) (by omega)] at z; omega), bd1_s, zI_1, bd1_s, if_neg one_ne, f_has12 _ (by omega), bd1_s, hp.2, if_pos (show bI false = 0 from rfl), lb]
  · show f_X12_areWords_b4 _ _ (m + 1) _ _ = _
    have h2 := h256 j hj
    rw [f_X12_areWords_b4, if_neg (by rw [nle (by omega) (by omega)]; omega), f_oct12 (by omega), bd1_s, hb j hj]
    unfold f_X12_isWord
    rw [f_in_eq]
    by_cases q : 16 ≤ t j
    · rw [if_pos (Or.inr (by rw [show (15 : Int32) = nI 15 from rfl, nlt (by omega) (by omega)]; omega)), bd1_s, zI_0, bd1_s, if_pos rfl]; rfl
    · rw [if_neg (by rintro (z | z); exact nI_pos (by omega) z; rw [show (15 : Int32) = nI 15 from rfl, nlt (by omega) (by omega)] at z; omega), bd1_s, zI_1, bd1_s, if_neg one_ne, f_has12 _ (by omega), bd1_s]
      have : bt (lb t j) (t j) = true := by
        cases e : bt (lb t j) (t j)
        · unfold eu at hp; rw [e, decide_eq_true (by omega)] at hp; cases hp
        · rfl
      rw [this, if_neg (by decide)]; rfl
  · show f_X12_areWords_b4 _ _ (m + 1) _ _ = _
    rw [f_X12_areWords_b4, if_pos (by rw [nle (by omega) (by omega)]; omega)]
theorem lb_cnt {t : Nat → Nat} : ∀ n, (∀ i, i < n → eu t i = true) → fa_cnt (bt (lb t n)) 16 = n
  | 0, _ => by
    have : ∀ k, fa_cnt (bt (lb t 0)) k = 0 := by
      intro k
      induction k with
      | zero => rfl
      | succ k ih => rw [fa_cnt_no (show bt (lb t 0) k = false from b_0 k), ih]
    exact this 16
  | n + 1, h => by
    have hu := h n (by omega)
    simp only [eu, Bool.and_eq_true, decide_eq_true_eq, Bool.not_eq_true'] at hu
    rw [lb, cnt_mark hu.1 (by omega) hu.2, lb_cnt n (fun i hi => h i (by omega))]
theorem f_sort12 {tape : Nat → Int32} {t : Nat → Nat} {k : Nat} {v : Nat → Int32} (hk : k ≤ 6) (hb : ∀ i, i < k → tape i &&& 255 = nI (t i)) (hu : ∀ i, i < k → eu t i = true) (tm : Int32) : f_X12_sortsWords tape v tm (nI k) = some (srt (bt (lb t k)) v 16, nI k) := by
  have ht : ∀ i, i < k → t i < 16 := fun i hi => by have := hu i hi; simp only [eu, Bool.and_eq_true, decide_eq_true_eq] at this; exact this.1
  have hc := lb_cnt k hu
  have inner : ∀ (K : (Nat → Int32) → Int32 → Int32 → Option ((Nat → Int32) × Int32)) (tr : Nat → Int32) (tm : Int32) (w : Nat), w < 16 → f_X12_sortsWords_b18 tape (nI k) K FU tr tm (nI w) 0 0 = if bt (lb t k) w then sI 6 tr tm (nI w) (fun w1 => K w1 (tm + 1) (nI w + 1)) else K tr tm (nI w + 1) := by
    intro K tr tm w hw
    refine loopNN (fun n a i => f_X12_sortsWords_b18 tape (nI k) K n tr tm (nI w) a i) (fun j => bI (bt (lb t j) w)) 0 k (by omega) (by omega) (a0 := (0 : Int32)) (i0 := 0) rfl (by show bI (bt 0 w) = 0; rw [b_0]; rfl) _ (fun n j _ hj => ?_) (fun n => ?_)
    · show f_X12_sortsWords_b18 tape (nI k) K (n + 1) tr tm (nI w) _ _ = f_X12_sortsWords_b18 tape (nI k) K n tr tm (nI w) _ _
      have h1 := ht j hj
      rw [f_X12_sortsWords_b18, if_neg (by rw [nle (by omega) (by omega)]; omega), f_oct12 (by omega), bd1_s, hb j hj, lb, b_or, bt_one _ h1 w (by omega)]
      unfold f_X12_sortsWords_b36
      by_cases e : t j = w
      · rw [if_pos (by rw [e]), decide_eq_true e.symm, Bool.or_true]; rfl
      · rw [if_neg (by rw [neq (by omega) (by omega)]; exact e), decide_eq_false (fun q => e q.symm), Bool.or_false]
    · show f_X12_sortsWords_b18 tape (nI k) K (n + 1) tr tm (nI w) _ _ = _
      rw [f_X12_sortsWords_b18, if_pos (by rw [nle (by omega) (by omega)]; omega), ite_bI]
      rfl
  unfold f_X12_sortsWords
  have key := loop0 (fun n (a : (Nat → Int32) × Int32) i => f_X12_sortsWords_b7 tape (nI k) n a.1 a.2 i) (fun w => (srt (bt (lb t k)) v w, nI (fa_cnt (bt (lb t k)) w))) 16 (by omega) (some (srt (bt (lb t k)) v 16, nI k)) (fun n w hw => ?_) (fun n => ?_)
  · exact key
  · show f_X12_sortsWords_b7 tape (nI k) (n + 1) (srt (bt (lb t k)) v w) (nI (fa_cnt (bt (lb t k)) w)) (nI w) = f_X12_sortsWords_b7 tape (nI k) n (srt (bt (lb t k)) v (w + 1)) (nI (fa_cnt (bt (lb t k)) (w + 1))) (nI w + 1)
    rw [f_X12_sortsWords_b7, if_neg (ge16 hw), inner _ _ _ w hw]
    cases hp : bt (lb t k) w with
    | false => rw [if_neg (by decide), fa_cnt_no hp, srt, if_neg (by rw [hp]; decide)]
    | true =>
      have h1 := cnt_lt (p := bt (lb t k)) (b := w) (c := 16) hw hp
      rw [if_pos rfl, sI_n (by omega) (by omega), fa_cnt_yes hp, srt, if_pos hp, nI_1]
  · show f_X12_sortsWords_b7 tape (nI k) (n + 1) (srt (bt (lb t k)) v 16) (nI (fa_cnt (bt (lb t k)) 16)) (nI 16) = _
    rw [f_X12_sortsWords_b7, if_pos (by decide), hc]
set_option maxHeartbeats 4000000 in
theorem pm_training {v_t_tape_bytes : Nat → Int32} {x_t_tape_size : Int32} {v_t_rhymes_other : Nat → Int32} {v_t_shelf_dread : Nat → Int32} {v_t_shelf_ink : Nat → Int32} {v_t_shelf_kind : Nat → Int32} {v_t_shelf_salt : Nat → Int32} {v_t_shelf_tries : Nat → Int32} {x_t_shelf_day : Int32} {x_t_shelf_nerve : Int32} {x_t_shelf_pictures : Int32} {x_t_shelf_told : Int32} {x_t_shelf_written : Int32} {x_t_shelf_x : Int32} {v_t_kept_dread : Nat → Int32} {v_t_kept_ink : Nat → Int32} {v_t_kept_kind : Nat → Int32} {v_t_kept_salt : Nat → Int32} {v_t_kept_tries : Nat → Int32} {x_t_kept_day : Int32} {x_t_kept_nerve : Int32} {x_t_kept_pictures : Int32} {x_t_kept_told : Int32} {x_t_kept_written : Int32} {x_t_kept_x : Int32} {v_t_letter_words : Nat → Int32} {x_t_letter_size : Int32} {v_t_law_code : Nat → Int32} {v_t_law_letters : Nat → Int32} {v_t_law_valueFrom : Nat → Int32} {v_t_law_testFrom : Nat → Int32} {v_t_law_testEnd : Nat → Int32} {x_t_law_rules : Int32} {x_t_anyKept : Int32} {v_m_now : Nat → Int32} {v_m_kept : Nat → Int32} {v_m_rhymeOf : Nat → Int32} {v_m_wordAt : Nat → Int32} {x_m_wordMany : Int32} {v_m_tape : Nat → Int32} {x_m_taped : Int32} {v_m_codes : Nat → Int32} {v_m_clauseOf : Nat → Int32} {v_m_codeFrom : Nat → Int32} {v_m_codeHalf : Nat → Int32} {v_m_codeTo : Nat → Int32} {x_m_clauses : Int32} {x_m_isKept : Int32} {v_t_trial_dread : Nat → Int32} {v_t_trial_ink : Nat → Int32} {v_t_trial_kind : Nat → Int32} {v_t_trial_salt : Nat → Int32} {v_t_trial_tries : Nat → Int32} {x_t_trainer_bottle : Int32} {x_t_trainer_fewest : Int32} {x_t_trainer_first : Int32} {x_t_trainer_wanted : Int32} {x_t_trial_day : Int32} {x_t_trial_nerve : Int32} {x_t_trial_pictures : Int32} {x_t_trial_told : Int32} {x_t_trial_written : Int32} {x_t_trial_x : Int32} {v_m_aside : Nat → Int32} {v_m_trainAt : Nat → Int32} {v_m_trainsTo : Nat → Int32} {x_m_firstTrained : Int32} {x_m_leastTries : Int32} {x_m_trainMany : Int32} (hI : Inv v_t_tape_bytes x_t_tape_size v_t_rhymes_other v_t_shelf_dread v_t_shelf_ink v_t_shelf_kind v_t_shelf_salt v_t_shelf_tries x_t_shelf_day x_t_shelf_nerve x_t_shelf_pictures x_t_shelf_told x_t_shelf_written x_t_shelf_x v_t_kept_dread v_t_kept_ink v_t_kept_kind v_t_kept_salt v_t_kept_tries x_t_kept_day x_t_kept_nerve x_t_kept_pictures x_t_kept_told x_t_kept_written x_t_kept_x v_t_letter_words x_t_letter_size v_t_law_code v_t_law_letters v_t_law_valueFrom v_t_law_testFrom v_t_law_testEnd x_t_law_rules x_t_anyKept v_m_now v_m_kept v_m_rhymeOf v_m_wordAt x_m_wordMany v_m_tape x_m_taped v_m_codes v_m_clauseOf v_m_codeFrom v_m_codeHalf v_m_codeTo x_m_clauses x_m_isKept) (a1 : Int32) (a2 : Int32) (a3 : Int32) : ∃ (r : Int32) (o_v_t_trial_dread : Nat → Int32) (o_v_t_trial_ink : Nat → Int32) (o_v_t_trial_kind : Nat → Int32) (o_v_t_trial_salt : Nat → Int32) (o_v_t_trial_tries : Nat → Int32) (o_x_t_tape_size : Int32) (o_x_t_trainer_bottle : Int32) (o_x_t_trainer_fewest : Int32) (o_x_t_trainer_first : Int32) (o_x_t_trainer_wanted : Int32) (o_x_t_trial_day : Int32) (o_x_t_trial_nerve : Int32) (o_x_t_trial_pictures : Int32) (o_x_t_trial_told : Int32) (o_x_t_trial_written : Int32) (o_x_t_trial_x : Int32) (o_v_m_aside : Nat → Int32) (o_v_m_now : Nat → Int32) (o_v_m_trainAt : Nat → Int32) (o_v_m_trainsTo : Nat → Int32) (o_x_m_firstTrained : Int32) (o_x_m_leastTries : Int32) (o_x_m_taped : Int32) (o_x_m_trainMany : Int32), f_X11_training v_t_rhymes_other v_t_shelf_dread v_t_shelf_ink v_t_shelf_kind v_t_shelf_salt v_t_shelf_tries v_t_tape_bytes v_t_trial_dread v_t_trial_ink v_t_trial_kind v_t_trial_salt v_t_trial_tries x_t_shelf_day x_t_shelf_nerve x_t_shelf_pictures x_t_shelf_told x_t_shelf_written x_t_shelf_x x_t_tape_size x_t_trainer_bottle x_t_trainer_fewest x_t_trainer_first x_t_trainer_wanted x_t_trial_day x_t_trial_nerve x_t_trial_pictures x_t_trial_told x_t_trial_written x_t_trial_x a1 a2 a3 = some (r, o_v_t_trial_dread, o_v_t_trial_ink, o_v_t_trial_kind, o_v_t_trial_salt, o_v_t_trial_tries, o_x_t_tape_size, o_x_t_trainer_bottle, o_x_t_trainer_fewest, o_x_t_trainer_first, o_x_t_trainer_wanted, o_x_t_trial_day, o_x_t_trial_nerve, o_x_t_trial_pictures, o_x_t_trial_told, o_x_t_trial_written, o_x_t_trial_x) ∧ f_X12_training v_m_aside v_m_now v_m_rhymeOf v_m_tape v_m_trainAt v_m_trainsTo x_m_firstTrained x_m_leastTries x_m_taped x_m_trainMany a1 a2 a3 = some (r, o_v_m_aside, o_v_m_now, o_v_m_trainAt, o_v_m_trainsTo, o_x_m_firstTrained, o_x_m_leastTries, o_x_m_taped, o_x_m_trainMany) ∧ Inv v_t_tape_bytes o_x_t_tape_size v_t_rhymes_other v_t_shelf_dread v_t_shelf_ink v_t_shelf_kind v_t_shelf_salt v_t_shelf_tries x_t_shelf_day x_t_shelf_nerve x_t_shelf_pictures x_t_shelf_told x_t_shelf_written x_t_shelf_x v_t_kept_dread v_t_kept_ink v_t_kept_kind v_t_kept_salt v_t_kept_tries x_t_kept_day x_t_kept_nerve x_t_kept_pictures x_t_kept_told x_t_kept_written x_t_kept_x v_t_letter_words x_t_letter_size v_t_law_code v_t_law_letters v_t_law_valueFrom v_t_law_testFrom v_t_law_testEnd x_t_law_rules x_t_anyKept o_v_m_now v_m_kept v_m_rhymeOf v_m_wordAt x_m_wordMany v_m_tape o_x_m_taped v_m_codes v_m_clauseOf v_m_codeFrom v_m_codeHalf v_m_codeTo x_m_clauses x_m_isKept := by
  have hI0 := hI
  obtain ⟨⟨n, t, hn, rfl, rfl, ht⟩, ⟨g, hg⟩, hS, hK, hL, hW⟩ := hI
  obtain ⟨T, hT2, eT, hnn⟩ := hS.1
  rcases tI_cases T a1 with t1 | ⟨b, hb, eb, -, t1⟩
  · exact ⟨_, _, _, _, _, _, _, _, _, _, _, _, _, _, _, _, _, _, _, _, _, _, _, _, _, by unfold f_X11_training; rw [eT, f_isTold8 hT2, bd1_s, t1, if_pos rfl]; rfl, by unfold f_X12_training; rw [f_isTold12 hnn, bd1_s, t1, if_pos rfl]; rfl, hI0⟩
  subst eb
  by_cases h : a2 < 1 ∨ 6 < a2
  · exact ⟨_, _, _, _, _, _, _, _, _, _, _, _, _, _, _, _, _, _, _, _, _, _, _, _, _, by unfold f_X11_training; rw [eT, f_isTold8 hT2, bd1_s, t1, if_neg one_ne, f_within_eq, if_pos h, bd1_s, if_pos rfl]; rfl, by unfold f_X12_training; rw [f_isTold12 hnn, bd1_s, t1, if_neg one_ne, f_in_eq, if_pos h, bd1_s, if_pos rfl]; rfl, hI0⟩
  by_cases h3 : a3 < 0 ∨ 1 < a3
  · exact ⟨_, _, _, _, _, _, _, _, _, _, _, _, _, _, _, _, _, _, _, _, _, _, _, _, _, by unfold f_X11_training; rw [eT, f_isTold8 hT2, bd1_s, t1, if_neg one_ne, f_within_eq, if_neg h, bd1_s, if_neg one_ne, f_within_eq, if_pos h3, bd1_s, if_pos rfl]; rfl, by unfold f_X12_training; rw [f_isTold12 hnn, bd1_s, t1, if_neg one_ne, f_in_eq, if_neg h, bd1_s, if_neg one_ne, f_in_eq, if_pos h3, bd1_s, if_pos rfl]; rfl, hI0⟩
  obtain ⟨k, hk, rfl⟩ := rg_of (n := 6) (a := a2) (by omega) (fun q => h (Or.inl (by rw [fa_lt] at q ⊢; have : (0 : Int32).toInt = 0 := rfl; have : (1 : Int32).toInt = 1 := rfl; omega))) (fun q => h (Or.inr q))
  have hk1 : 1 ≤ k := by
    rcases Nat.eq_zero_or_pos k with z | z
    · subst z; exact absurd (Or.inl (by decide)) h
    · exact z
  by_cases hkn : k ≤ n
  · have e2 : nI k ≤ nI n := by rw [nle (by omega) (by omega)]; exact hkn
    have hb1 : ∀ i, i < k → v_t_tape_bytes i = nI (t i) := fun i hi => (ht i (by omega)).2.1
    have hb2 : ∀ i, i < k → v_m_tape i &&& 255 = nI (t i) := fun i hi => (ht i (by omega)).2.2
    have h256 : ∀ i, i < k → t i < 256 := fun i hi => (ht i (by omega)).1
    by_cases hall : allN (eu t) k = true
    · have hu : ∀ i, i < k → eu t i = true := allN_iff.mp hall
      have h16 : ∀ i, i < k → t i < 16 := fun i hi => by have := hu i hi; simp only [eu, Bool.and_eq_true, decide_eq_true_eq] at this; exact this.1
      obtain ⟨X, hX, eX⟩ := lb_nat (t := t) k h16
      have hcn := lb_cnt k hu
      let p : Nat → Bool := bt (lb t k)
      let s : Nat → Nat := fun j => (srt (bt (lb t k)) v_m_trainsTo 16 j).toNatClampNeg
      have hs1 : ∀ w, w < 16 → bt (lb t k) w = true → s (fa_cnt (bt (lb t k)) w) = w := fun w hw hp => by show (srt (bt (lb t k)) v_m_trainsTo 16 (fa_cnt (bt (lb t k)) w)).toNatClampNeg = w; rw [srt_at 16 w hw hp, nI_clamp (by omega)]
      have hs2 : ∀ j, j < k → s j < 16 ∧ srt (bt (lb t k)) v_m_trainsTo 16 j = nI (s j) := by
        intro j hj
        obtain ⟨w, hw, hp, e⟩ := cnt_sur (p := bt (lb t k)) (k := 16) (i := j) (by omega)
        have h1 := hs1 w hw hp
        rw [e] at h1
        rw [h1]
        have h2 := srt_at (p := bt (lb t k)) (v := v_m_trainsTo) 16 w hw hp
        rw [e] at h2
        exact ⟨hw, h2⟩
      have hp2 : ∀ w, 16 ≤ w → w < 32 → bt (lb t k) w = false := by
        intro w h1 h2
        cases e : bt (lb t k) w with
        | false => rfl
        | true =>
          obtain ⟨i, hi, ei⟩ := (bt_lb h2 k h16).mp e
          have := h16 i hi
          omega
      have hc0 : ∀ j, fa_cnt (fun _ : Nat => false) j = 0 := by
        intro j
        induction j with
        | zero => rfl
        | succ j ih => rw [fa_cnt_no rfl, ih]
      have hSc := hS.cpy (d2 := v_t_trial_dread) (i2 := v_t_trial_ink) (k2 := v_t_trial_kind) (s2 := v_t_trial_salt) (t2 := v_t_trial_tries)
      have hSa : RShelf (va_cpy v_t_shelf_dread v_t_trial_dread 0 0 128) (va_cpy v_t_shelf_ink v_t_trial_ink 0 0 8) (va_cpy v_t_shelf_kind v_t_trial_kind 0 0 8) (va_cpy v_t_shelf_salt v_t_trial_salt 0 0 8) (va_cpy v_t_shelf_tries v_t_trial_tries 0 0 128) x_t_shelf_day x_t_shelf_nerve x_t_shelf_pictures x_t_shelf_told x_t_shelf_written x_t_shelf_x (fa_fill v_m_now v_m_aside 293) := hSc.cong (fun j hj => rfl) (fun j hj => rfl) (fun j hj => rfl) (fun j hj => rfl) (fun j hj => rfl) (fun j hj => fa_fill_in hj)
      have hg' : ∀ w, w < 16 → g w < 16 ∧ g (g w) = w ∧ v_m_rhymeOf w = nI (g w) := fun w hw => ⟨(hg w hw).1, (hg w hw).2.1, (hg w hw).2.2.2⟩
      have hRS : RS (fa_fill v_m_now v_m_aside 293) := ⟨_, _, _, _, _, _, _, _, _, _, _, hSa⟩
      generalize hR : dfs g b s k 6 (fun _ => false) (fa_fill v_m_now v_m_aside 293) 0 (-2) (vis (fa_fill v_m_now v_m_aside 293) g b s k 0 (-2) (1000000, -2)) = Rr
      have hcl := sc_all (s := s) (p := bt (lb t k)) (wanted := lb t k) (ink := va_cpy v_t_shelf_ink v_t_trial_ink 0 0 8) (kind := va_cpy v_t_shelf_kind v_t_trial_kind 0 0 8) (salt := va_cpy v_t_shelf_salt v_t_trial_salt 0 0 8) (day := x_t_shelf_day) (nerve := x_t_shelf_nerve) (pictures := x_t_shelf_pictures) (told := x_t_shelf_told) (written := x_t_shelf_written) (xx := x_t_shelf_x) hg hb (fun w _ => rfl) hp2 hs1 hcn hk 6 DP (by decide) (fun _ => false) (fa_fill v_m_now v_m_aside 293) (va_cpy v_t_shelf_dread v_t_trial_dread 0 0 128) (va_cpy v_t_shelf_tries v_t_trial_tries 0 0 128) 0 (-2) (1000000, -2) (lb t k) hSa (by omega) (by omega) (fun w _ => by cases bt (lb t k) w <;> rfl)
      rw [hR] at hcl
      have hcl' : f_X10_search DP (va_cpy v_t_shelf_dread v_t_trial_dread 0 0 128) (va_cpy v_t_shelf_kind v_t_trial_kind 0 0 8) v_t_rhymes_other (va_cpy v_t_shelf_salt v_t_trial_salt 0 0 8) (va_cpy v_t_shelf_tries v_t_trial_tries 0 0 128) (nI b) 1000 (-2) (lb t k) x_t_shelf_nerve (lb t k) 0 (-2) = some (va_cpy v_t_shelf_dread v_t_trial_dread 0 0 128, va_cpy v_t_shelf_tries v_t_trial_tries 0 0 128, nI (min Rr.1 1000), Rr.2) := hcl
      have hRl : aI Rr := by rw [← hR]; exact dfs_I 6 _ _ _ _ _ (by omega) (vis_I (by omega) (Or.inr rfl))
      have hRm : Rr.1 ≤ 1000000 := by rcases hRl with z | z <;> omega
      obtain ⟨t3, -⟩ := f_triesOf12 (aside := fa_fill v_m_now v_m_aside 293) (N := k) (b := b) (s := s) (trainsTo := srt (bt (lb t k)) v_m_trainsTo 16) hb hg' hk hs2 (x := v_m_now) (hRS.ag (fun j hj => (fa_fill_in hj).symm)) (R := fun _ => 0) (trainAt := v_m_trainAt) (M := 0) (by omega) (fun i hi => by omega)
      have ag0 : AG v_m_now (fa_fill v_m_now v_m_aside 293) := fun j hj => (fa_fill_in hj).symm
      have tg0 : tG v_m_now g b s k = tG (fa_fill v_m_now v_m_aside 293) g b s k := allN_cong ⟨fun h j hj => by rw [← ag_bear ag0 hb (hs2 j hj).1 (hg _ (hs2 j hj).1).1]; exact h j hj, fun h j hj => by rw [ag_bear ag0 hb (hs2 j hj).1 (hg _ (hs2 j hj).1).1]; exact h j hj⟩
      have ev : vis (fa_fill v_m_now v_m_aside 293) g b s k 0 (-2) (1000000, -2) = (if tG (fa_fill v_m_now v_m_aside 293) g b s k then 0 else 1000000, -2) := by
        unfold vis
        cases tG (fa_fill v_m_now v_m_aside 293) g b s k
        · rw [if_neg (fun q => by have := q.1; cases this), if_neg ft_ne]
        · rw [if_pos ⟨rfl, by show 0 < 1000000; omega⟩, if_pos rfl]
      have t3' : f_X12_triesOf (fa_fill v_m_now v_m_aside 293) v_m_now v_m_rhymeOf v_m_trainAt (srt (bt (lb t k)) v_m_trainsTo 16) (nI k) (nI b) 0 = some (nI (if tG v_m_now g b s k then 0 else 1000000), fa_fill (fa_fill v_m_now v_m_aside 293) v_m_now 293) := t3
      rw [tg0] at t3'
      obtain ⟨z, hz⟩ : ∃ z, FU = z + 1 := ⟨99999, rfl⟩
      have hzv : z = 99999 := by have : FU = 100000 := rfl; omega
      have hTT : TT 5 = 10885 := by decide
      have hkT : k * (1 + TT 5) ≤ 6 * (1 + TT 5) := Nat.mul_le_mul_right _ hk
      have href := tr_ref (g := g) (b := b) (s := s) (N := k) (rhymeOf := v_m_rhymeOf) (trainsTo := srt (bt (lb t k)) v_m_trainsTo 16) (aside := fa_fill v_m_now v_m_aside 293) hb hg' hk hs2 hRS 5 0 (fun _ => 0) (fun _ => false) (-2) (vis (fa_fill v_m_now v_m_aside 293) g b s k 0 (-2) (1000000, -2)) (by omega) (by omega) (hc0 k) (fun j hj => ⟨fun q => (by cases q), fun q => by obtain ⟨i, hi, _⟩ := q; omega⟩) (fun i hi => by omega) rfl vis_le k 0 FU z (fa_fill (fa_fill v_m_now v_m_aside 293) v_m_now 293) (upd v_m_trainAt 0 (-1)) (by omega) (FU_gt (by omega)) (by omega) (fun j hj => fa_fill_in hj) (fun i hi => by omega)
      obtain ⟨z', now', trainAt', f1, f2, -, f4⟩ := href
      obtain ⟨z', rfl⟩ : ∃ y, z' = y + 1 := ⟨z' - 1, by omega⟩
      have f4' : f_X12_trains_b51 v_m_rhymeOf (srt (bt (lb t k)) v_m_trainsTo 16) (nI k) (nI b) (f_X12_trains_b36 v_m_rhymeOf (srt (bt (lb t k)) v_m_trainsTo 16) (nI k) (nI b) z) FU (fa_fill v_m_now v_m_aside 293) (fa_fill (fa_fill v_m_now v_m_aside 293) v_m_now 293) (upd v_m_trainAt 0 (-1)) (vis (fa_fill v_m_now v_m_aside 293) g b s k 0 (-2) (1000000, -2)).2 (nI (vis (fa_fill v_m_now v_m_aside 293) g b s k 0 (-2) (1000000, -2)).1) (nI (0 + 1)) (nI 0) = f_X12_trains_b36 v_m_rhymeOf (srt (bt (lb t k)) v_m_trainsTo 16) (nI k) (nI b) (z' + 1) (fa_fill v_m_now v_m_aside 293) now' trainAt' (dfs g b s k 6 (fun _ => false) (fa_fill v_m_now v_m_aside 293) 0 (-2) (vis (fa_fill v_m_now v_m_aside 293) g b s k 0 (-2) (1000000, -2))).2 (nI (dfs g b s k 6 (fun _ => false) (fa_fill v_m_now v_m_aside 293) 0 (-2) (vis (fa_fill v_m_now v_m_aside 293) g b s k 0 (-2) (1000000, -2))).1) (nI 0) := f4
      rw [hR, ev] at f4'
      have htr : f_X12_trains v_m_aside v_m_now v_m_rhymeOf v_m_trainAt (srt (bt (lb t k)) v_m_trainsTo 16) x_m_firstTrained x_m_leastTries (nI k) (nI b) = some (fa_fill v_m_now v_m_aside 293, now', trainAt', Rr.2, nI Rr.1) := by
        unfold f_X12_trains
        rw [f_copies12, bd1_s, t3', bd2_s, sI_c (c := 0) (k := 0) rfl (by omega) (by omega), hz, f_X12_trains_b36, if_neg (by decide), gI_c (c := (1 : Int32) - 1) (k := 0) rfl (by omega) (by omega), pk_us]
        have f5 : f_X12_trains_b51 v_m_rhymeOf (srt (bt (lb t k)) v_m_trainsTo 16) (nI k) (nI b) (f_X12_trains_b36 v_m_rhymeOf (srt (bt (lb t k)) v_m_trainsTo 16) (nI k) (nI b) z) FU (fa_fill v_m_now v_m_aside 293) (fa_fill (fa_fill v_m_now v_m_aside 293) v_m_now 293) (upd v_m_trainAt 0 (-1)) (-2) (nI (if tG (fa_fill v_m_now v_m_aside 293) g b s k then 0 else 1000000)) 1 (-1 + 1) = _ := f4'
        rw [f5, f_X12_trains_b36, if_pos (by decide)]
      have h0 : (0 : Int32) ≤ lb t k := by rw [eX]; exact nI_pos' (by omega)
      have hsN : RShelf v_t_shelf_dread v_t_shelf_ink v_t_shelf_kind v_t_shelf_salt v_t_shelf_tries x_t_shelf_day x_t_shelf_nerve x_t_shelf_pictures x_t_shelf_told x_t_shelf_written x_t_shelf_x now' := hS.cong (fun j hj => rfl) (fun j hj => rfl) (fun j hj => rfl) (fun j hj => rfl) (fun j hj => rfl) (fun j hj => by rw [f2 j hj, fa_fill_in hj])
      have hrf : f_X12_training v_m_aside v_m_now v_m_rhymeOf v_m_tape v_m_trainAt v_m_trainsTo x_m_firstTrained x_m_leastTries (nI n) x_m_trainMany (nI b) (nI k) a3 = if nI Rr.1 = 1000000 then some (-4, fa_fill v_m_now v_m_aside 293, now', trainAt', srt (bt (lb t k)) v_m_trainsTo 16, Rr.2, nI Rr.1, 0, nI k) else if a3 = 0 then some (nI Rr.1, fa_fill v_m_now v_m_aside 293, now', trainAt', srt (bt (lb t k)) v_m_trainsTo 16, Rr.2, nI Rr.1, 0, nI k) else some (Rr.2, fa_fill v_m_now v_m_aside 293, now', trainAt', srt (bt (lb t k)) v_m_trainsTo 16, Rr.2, nI Rr.1, 0, nI k) := by
        unfold f_X12_training f_X12_training_b91
        rw [f_isTold12 hnn, bd1_s, t1, if_neg one_ne, f_in_eq, if_neg h, bd1_s, if_neg one_ne, f_in_eq, if_neg h3, bd1_s, if_neg one_ne, if_pos e2, f_areW12 (by omega) hb2 h256, if_pos hall, bd1_s, if_neg one_ne, f_sort12 hk hb2 hu, bd2_s, htr, bd5_s]
      have hcf : f_X11_training v_t_rhymes_other v_t_shelf_dread v_t_shelf_ink v_t_shelf_kind v_t_shelf_salt v_t_shelf_tries v_t_tape_bytes v_t_trial_dread v_t_trial_ink v_t_trial_kind v_t_trial_salt v_t_trial_tries x_t_shelf_day x_t_shelf_nerve x_t_shelf_pictures x_t_shelf_told x_t_shelf_written x_t_shelf_x (nI n) x_t_trainer_bottle x_t_trainer_fewest x_t_trainer_first x_t_trainer_wanted x_t_trial_day x_t_trial_nerve x_t_trial_pictures x_t_trial_told x_t_trial_written x_t_trial_x (nI b) (nI k) a3 = bd7 (if (1000 : Int32) ≤ nI (min Rr.1 1000) then some ((0 : Int32), va_cpy v_t_shelf_dread v_t_trial_dread 0 0 128, va_cpy v_t_shelf_tries v_t_trial_tries 0 0 128, nI b, nI (min Rr.1 1000), Rr.2, lb t k) else some (1, va_cpy v_t_shelf_dread v_t_trial_dread 0 0 128, va_cpy v_t_shelf_tries v_t_trial_tries 0 0 128, nI b, nI (min Rr.1 1000), Rr.2, lb t k)) (fun r18 w19 w20 w21 w22 w23 w24 => if r18 = 0 then some (-4, w19, va_cpy v_t_shelf_ink v_t_trial_ink 0 0 8, va_cpy v_t_shelf_kind v_t_trial_kind 0 0 8, va_cpy v_t_shelf_salt v_t_trial_salt 0 0 8, w20, 0, w21, w22, w23, w24, x_t_shelf_day, x_t_shelf_nerve, x_t_shelf_pictures, x_t_shelf_told, x_t_shelf_written, x_t_shelf_x) else if a3 = 0 then some (w22, w19, va_cpy v_t_shelf_ink v_t_trial_ink 0 0 8, va_cpy v_t_shelf_kind v_t_trial_kind 0 0 8, va_cpy v_t_shelf_salt v_t_trial_salt 0 0 8, w20, 0, w21, w22, w23, w24, x_t_shelf_day, x_t_shelf_nerve, x_t_shelf_pictures, x_t_shelf_told, x_t_shelf_written, x_t_shelf_x) else some (w23, w19, va_cpy v_t_shelf_ink v_t_trial_ink 0 0 8, va_cpy v_t_shelf_kind v_t_trial_kind 0 0 8, va_cpy v_t_shelf_salt v_t_trial_salt 0 0 8, w20, 0, w21, w22, w23, w24, x_t_shelf_day, x_t_shelf_nerve, x_t_shelf_pictures, x_t_shelf_told, x_t_shelf_written, x_t_shelf_x)) := by
        unfold f_X11_training f_X11_training_b113 f_X9_empty f_X10_canTrain f_X10_canTrain_b46
        rw [eT, f_isTold8 hT2, bd1_s, t1, if_neg one_ne, f_within_eq, if_neg h, bd1_s, if_neg one_ne, f_within_eq, if_neg h3, bd1_s, if_neg one_ne, f_has9 n k hn (by omega), if_pos hkn, bd1_s, if_neg one_ne, f_unl11 hn (by omega) hkn hb1 h256, if_pos hall, bd1_s, bd1_s, if_pos h0, f_copy8, bd11_s, hcl', bd4_s, zI_0, zI_1]
      rw [hcf, hrf, show (1000 : Int32) = nI 1000 from rfl, show (1000000 : Int32) = nI 1000000 from rfl]
      rcases hRl with z1 | z1
      · rw [if_neg (by rw [nle (by omega) (by omega)]; omega), bd7_s, if_neg one_ne, if_neg (show ¬ nI Rr.1 = nI 1000000 by rw [neq (by omega) (by omega)]; omega), show min Rr.1 1000 = Rr.1 by omega]
        by_cases ha : a3 = 0
        · rw [if_pos ha, if_pos ha]
          exact ⟨_, _, _, _, _, _, _, _, _, _, _, _, _, _, _, _, _, _, _, _, _, _, _, _, _, rfl, rfl, RTape.empty, ⟨g, hg⟩, hsN, hK, hL, hW⟩
        · rw [if_neg ha, if_neg ha]
          exact ⟨_, _, _, _, _, _, _, _, _, _, _, _, _, _, _, _, _, _, _, _, _, _, _, _, _, rfl, rfl, RTape.empty, ⟨g, hg⟩, hsN, hK, hL, hW⟩
      · rw [if_pos (by rw [nle (by omega) (by omega)]; omega), bd7_s, if_pos rfl, if_pos (by rw [z1])]
        exact ⟨_, _, _, _, _, _, _, _, _, _, _, _, _, _, _, _, _, _, _, _, _, _, _, _, _, rfl, rfl, RTape.empty, ⟨g, hg⟩, hsN, hK, hL, hW⟩
    · exact ⟨_, _, _, _, _, _, _, _, _, _, _, _, _, _, _, _, _, _, _, _, _, _, _, _, _, by unfold f_X11_training f_X9_empty; rw [eT, f_isTold8 hT2, bd1_s, t1, if_neg one_ne, f_within_eq, if_neg h, bd1_s, if_neg one_ne, f_within_eq, if_neg h3, bd1_s, if_neg one_ne, f_has9 n k hn (by omega), if_pos hkn, bd1_s, if_neg one_ne, f_unl11 hn (by omega) hkn hb1 h256, if_neg hall, bd1_s, bd1_s, if_neg (by decide)], by unfold f_X12_training; rw [f_isTold12 hnn, bd1_s, t1, if_neg one_ne, f_in_eq, if_neg h, bd1_s, if_neg one_ne, f_in_eq, if_neg h3, bd1_s, if_neg one_ne, if_pos e2, f_areW12 (by omega) hb2 h256, if_neg hall, bd1_s, if_pos rfl], RTape.empty, ⟨g, hg⟩, hS, hK, hL, hW⟩
  · have e2 : ¬ nI k ≤ nI n := by rw [nle (by omega) (by omega)]; exact hkn
    exact ⟨_, _, _, _, _, _, _, _, _, _, _, _, _, _, _, _, _, _, _, _, _, _, _, _, _, by unfold f_X11_training; rw [eT, f_isTold8 hT2, bd1_s, t1, if_neg one_ne, f_within_eq, if_neg h, bd1_s, if_neg one_ne, f_within_eq, if_neg h3, bd1_s, if_neg one_ne, f_has9 n k hn (by omega), if_neg hkn, bd1_s, if_pos rfl]; rfl, by unfold f_X12_training; rw [f_isTold12 hnn, bd1_s, t1, if_neg one_ne, f_in_eq, if_neg h, bd1_s, if_neg one_ne, f_in_eq, if_neg h3, bd1_s, if_neg one_ne, if_neg e2]; rfl, hI0⟩
