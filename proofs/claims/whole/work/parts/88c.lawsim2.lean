/-! pure: a law's code is run: the reference; both reckon the same -/
theorem f_reck12 {op : Nat} (h5 : 5 ≤ op) (h12 : op ≤ 12) (x y : Int32) {v : Int32} (h : rk op x y = some v) : f_X12_reckon (nI (rop op)) x y = some v := by
  unfold f_X12_reckon f_X12_reckon_b74 f_X12_reckon_b85 f_X12_reckon_b96
  unfold rk at h
  rcases (show op = 5 ∨ op = 6 ∨ op = 7 ∨ op = 8 ∨ op = 9 ∨ op = 10 ∨ op = 11 ∨ op = 12 by omega) with rfl | rfl | rfl | rfl | rfl | rfl | rfl | rfl
  · exact h
  · exact h
  · exact h
  · have h : (if y = 0 then none else some (x / y)) = some v := h
    show dI x y (fun g1 => some g1) = some v
    by_cases hy : y = 0
    · rw [if_pos hy] at h; cases h
    · rw [if_neg hy] at h; rw [dI_n hy]; exact h
  · have h : (if y = 0 then none else some (x - x / y * y)) = some v := h
    show rI x y (fun g1 => some g1) = some v
    by_cases hy : y = 0
    · rw [if_pos hy] at h; cases h
    · rw [if_neg hy] at h; rw [rI_n hy]; exact h
  · have h : some (if y ≤ x then (0 : Int32) else 1) = some v := h
    show (if y ≤ x then some (0 : Int32) else some 1) = some v
    rw [← h]; split <;> rfl
  · have h : some (if x ≤ y then (0 : Int32) else 1) = some v := h
    show (if x ≤ y then some (0 : Int32) else some 1) = some v
    rw [← h]; split <;> rfl
  · have h : some (if x = y then (1 : Int32) else 0) = some v := h
    show (if x = y then some (1 : Int32) else some 0) = some v
    rw [← h]; split <;> rfl
theorem rk_bool {op : Nat} (h10 : 10 ≤ op) (x y : Int32) {v : Int32} (h : rk op x y = some v) : v = 0 ∨ v = 1 := by
  unfold rk at h
  rw [if_neg (by omega), if_neg (by omega), if_neg (by omega), if_neg (by omega), if_neg (by omega)] at h
  by_cases e1 : op = 10
  · rw [if_pos e1] at h
    obtain rfl := Option.some.inj h
    split
    · exact Or.inl rfl
    · exact Or.inr rfl
  · rw [if_neg e1] at h
    by_cases e2 : op = 11
    · rw [if_pos e2] at h
      obtain rfl := Option.some.inj h
      split
      · exact Or.inl rfl
      · exact Or.inr rfl
    · rw [if_neg e2] at h
      obtain rfl := Option.some.inj h
      split
      · exact Or.inr rfl
      · exact Or.inl rfl
theorem rk_none {op : Nat} (x y : Int32) (h : rk op x y = none) : (op = 8 ∨ op = 9) ∧ y = 0 := by
  unfold rk at h
  by_cases e8 : op = 8
  · refine ⟨Or.inl e8, ?_⟩
    rw [if_neg (by omega), if_neg (by omega), if_neg (by omega), if_pos e8] at h
    by_cases hy : y = 0
    · exact hy
    · rw [if_neg hy] at h; cases h
  · by_cases e9 : op = 9
    · refine ⟨Or.inr e9, ?_⟩
      rw [if_neg (by omega), if_neg (by omega), if_neg (by omega), if_neg e8, if_pos e9] at h
      by_cases hy : y = 0
      · exact hy
      · rw [if_neg hy] at h; cases h
    · exfalso
      rw [if_neg e8, if_neg e9] at h
      split at h
      · cases h
      · split at h
        · cases h
        · split at h
          · cases h
          · split at h
            · cases h
            · split at h <;> cases h
theorem rk_some {op : Nat} (x y : Int32) {v : Int32} (h : rk op x y = some v) (h89 : op = 8 ∨ op = 9) : ¬ y = 0 := by
  intro hy
  unfold rk at h
  rcases h89 with rfl | rfl
  · have h : (if y = 0 then none else some (x / y)) = some v := h
    rw [if_pos hy] at h; cases h
  · have h : (if y = 0 then none else some (x - x / y * y)) = some v := h
    rw [if_pos hy] at h; cases h
def bl (x : Int32) : Prop := x = 0 ∨ x = 1
theorem sim_ref {codes : Nat → Int32} {c : Cd} {a b : Nat} {F : Nat → Int32} (hK : KM codes c b) (hb : b ≤ 240) (hW : WG c a b) : ∀ n k s st fu, b - k < n → b - k < fu → a ≤ k → k ≤ b → s.length = dp c a 0 (k - a) → s.length ≤ 30 → (isB (c (k - 1)).1 → ∀ x, s = [x] → bl x) → StR st s → (∃ st', f_X12_reckonsTo_b16 codes F (nI b) fu st (nI s.length) (nI 0) (nI k) = some (av c b F n k s, st')) ∧ (isB (c (b - 1)).1 → bl (av c b F n k s)) := by
  intro n
  induction n with
  | zero => intro k s st fu h1; omega
  | succ n ih =>
    intro k s st fu hn hf hak hkb hlen hl30 hbl hst
    obtain ⟨fu, rfl⟩ : ∃ x, fu = x + 1 := ⟨fu - 1, by omega⟩
    rw [av, f_X12_reckonsTo_b16]
    rcases Nat.lt_or_ge k b with hk | hk
    · have hok := hW.2.1 (k - a) (by omega)
      rw [show a + (k - a) = k by omega, ← hlen] at hok
      obtain ⟨o1, o2, o3, o4, o5, o6, o7⟩ := hok
      obtain ⟨c1, c2, c3⟩ := hK k hk
      have hr12 := rop_le _ c1
      have hds := dp_s (c := c) hak
      rw [← hlen] at hds
      have next : ∀ (s' : List Int32) (st' : Nat → Int32), s'.length = eff (c k).1 s.length → s'.length ≤ 30 → (isB (c k).1 → ∀ x, s' = [x] → bl x) → StR st' s' → (∃ st2, f_X12_reckonsTo_b16 codes F (nI b) fu st' (nI s'.length) (nI 0) (nI (k + 1)) = some (av c b F n (k + 1) s', st2)) ∧ (isB (c (b - 1)).1 → bl (av c b F n (k + 1) s')) := fun s' st' e1 e2 e3 e4 => ih (k + 1) s' st' fu (by omega) (by omega) (by omega) (by omega) (by rw [e1, hds]) e2 e3 e4
      rw [if_neg (show ¬ b ≤ k by omega), if_neg (by rw [nle (by omega) (by omega)]; omega), gI_n (by omega) (by omega), c3, show (1048576 : Int32) = nI 1048576 from rfl, dI_n (nI_ne0 (by omega) (by omega)), pk_div (by omega) (by omega) (by omega), show (1048576 * rop (c k).1 + (c k).2) / 1048576 = rop (c k).1 by omega, gI_n (by omega) (by omega), c3, rI_n (nI_ne0 (by omega) (by omega)), pk_rem (by omega) (by omega) (by omega), show (1048576 * rop (c k).1 + (c k).2) % 1048576 = (c k).2 by omega]
      unfold f_X12_reckonsTo_b63 f_X12_reckonsTo_b85 f_X12_reckonsTo_b135 f_X12_reckonsTo_b155 f_X12_reckonsTo_b192 f_X12_reckonsTo_b203 f_X12_reckonsTo_b230
      by_cases e0 : (c k).1 = 0
      · rw [if_pos e0, e0, if_pos (show nI (rop 0) = 0 from rfl), if_pos (show nI (rop 0) = 0 from rfl), sI_n (by omega) (by omega), nI_1, nI_1]
        exact next (nI (c k).2 :: s) _ (by rw [e0]; rfl) (by have := o2 (by omega); show s.length + 1 ≤ 30; omega) (fun z => by rw [e0] at z; rcases z with z | z <;> omega) (str_push hst)
      rw [if_neg e0]
      by_cases e1 : (c k).1 = 1
      · have hv := o3 e1
        rw [if_pos e1, e1, if_neg (show ¬ nI (rop 1) = 0 by decide), if_pos (show nI (rop 1) = 1 from rfl), if_neg (show ¬ nI (rop 1) = 0 by decide), gI_n (by omega) (by omega), sI_n (by omega) (by omega), nI_1, nI_1]
        exact next (F (c k).2 :: s) _ (by rw [e1]; rfl) (by have := o2 (by omega); show s.length + 1 ≤ 30; omega) (fun z => by rw [e1] at z; rcases z with z | z <;> omega) (str_push hst)
      rw [if_neg e1]
      by_cases e2 : (c k).1 = 2
      · obtain ⟨g1, g2⟩ := o4 e2
        obtain ⟨x, rfl⟩ := len1 g1
        have hx : st 0 = x := hst.1
        have hxb := hbl g2 x rfl
        rw [if_pos e2, e2, if_neg (show ¬ nI (rop 2) = 0 by decide), if_neg (show ¬ nI (rop 2) = 1 by decide), if_pos (show nI (rop 2) = 10 from rfl), show nI [x].length - 1 = nI 0 from pk_sub (a := 1) (b := 1) (by omega), gI_n (by omega) (by omega), hx, sI_n (by omega) (by omega), nI_1]
        have ev : (1 : Int32) - x = (if hd0 [x] = 0 then 1 else 0) := by rcases hxb with rfl | rfl <;> decide
        rw [ev]
        exact next [if hd0 [x] = 0 then 1 else 0] (upd st 0 _) (by rw [e2]; rfl) (by show 1 ≤ 30; omega) (fun _ y hy => by cases hy; unfold bl; split; exact Or.inr rfl; exact Or.inl rfl) ⟨pk_us, trivial⟩
      rw [if_neg e2]
      by_cases e34 : (c k).1 = 3 ∨ (c k).1 = 4
      · obtain ⟨g1, g2, g3, g4, g5, g6⟩ := o5 e34
        obtain ⟨x, rfl⟩ := len1 g1
        have hx : st 0 = x := hst.1
        have hxb := hbl g2 x rfl
        have jump := ih (c k).2 [x] st fu (by omega) (by omega) (by omega) g4 (by rw [dp_leap hak g3 (by rw [← hlen]; exact g1) g6]; rfl) (by show 1 ≤ 30; omega) (fun _ y hy => by cases hy; exact hxb) hst
        have fall := next [] st (by show 0 = eff (c k).1 1; unfold eff; rw [if_neg (by omega), if_neg (by omega)]) (by show 0 ≤ 30; omega) (fun _ y hy => by cases hy) trivial
        rcases e34 with e3 | e4
        · rw [if_pos e3, e3, if_neg (show ¬ nI (rop 3) = 0 by decide), if_neg (show ¬ nI (rop 3) = 1 by decide), if_neg (show ¬ nI (rop 3) = 10 by decide), if_neg (show ¬ nI (rop 3) = 11 by decide), if_pos (show nI (rop 3) = 12 from rfl), show nI [x].length - 1 = nI 0 from pk_sub (a := 1) (b := 1) (by omega), gI_n (by omega) (by omega), hx, if_pos (show nI (rop 3) = 12 from rfl), nI_add, Nat.zero_add, nI_1]
          rcases hxb with rfl | rfl
          · rw [if_neg (show ¬ (0 : Int32) = 1 by decide), if_pos (show hd0 [(0 : Int32)] = 0 from rfl)]; exact fall
          · rw [if_pos (show (1 : Int32) = 1 from rfl), if_neg (show ¬ hd0 [(1 : Int32)] = 0 by decide)]; exact jump
        · rw [if_neg (show ¬ (c k).1 = 3 by omega), if_pos e4, e4, if_neg (show ¬ nI (rop 4) = 0 by decide), if_neg (show ¬ nI (rop 4) = 1 by decide), if_neg (show ¬ nI (rop 4) = 10 by decide), if_pos (show nI (rop 4) = 11 from rfl), show nI [x].length - 1 = nI 0 from pk_sub (a := 1) (b := 1) (by omega), gI_n (by omega) (by omega), hx, if_neg (show ¬ nI (rop 4) = 12 by decide), nI_add, Nat.zero_add, nI_1]
          rcases hxb with rfl | rfl
          · rw [if_pos (show (0 : Int32) = 0 from rfl), if_pos (show hd0 [(0 : Int32)] = 0 from rfl)]; exact jump
          · rw [if_neg (show ¬ (1 : Int32) = 0 by decide), if_neg (show ¬ hd0 [(1 : Int32)] = 0 by decide)]; exact fall
      · have h5 : 5 ≤ (c k).1 := by omega
        obtain ⟨y, x, r, rfl⟩ := len2 (o6 h5)
        have hl2 : (y :: x :: r).length = r.length + 1 + 1 := rfl
        have hy : st (r.length + 1) = y := hst.1
        have hx : st r.length = x := hst.2.1
        have hr : StR st r := hst.2.2
        have er : rop (c k).1 = (c k).1 - 3 := rop_5 h5
        have ne : ∀ x : Nat, x < 20 → ¬ rop (c k).1 = x → ∀ y : Int32, y = nI x → ¬ nI (rop (c k).1) = y := fun x hx hne y hy => by rw [hy, neq (by omega) (by omega)]; exact hne
        rw [if_neg (show ¬ (c k).1 = 3 by omega), if_neg (show ¬ (c k).1 = 4 by omega), if_neg (ne 0 (by omega) (by omega) 0 rfl), if_neg (ne 1 (by omega) (by omega) 1 rfl), if_neg (ne 10 (by omega) (by omega) 10 rfl), if_neg (ne 11 (by omega) (by omega) 11 rfl), if_neg (ne 12 (by omega) (by omega) 12 rfl), hl2, show (1 : Int32) = nI 1 from rfl, pk_sub (a := r.length + 1 + 1) (b := 1) (by omega), Nat.add_sub_cancel, pk_sub (a := r.length + 1) (b := 1) (by omega), Nat.add_sub_cancel, gI_n (by omega) (by omega), gI_n (by omega) (by omega), gI_n (by omega) (by omega), hx, hy]
        show (∃ st', _ = some ((match rk (c k).1 x y with | none => 0 | some z => av c b F n (k + 1) (z :: r)), st')) ∧ (_ → bl (match rk (c k).1 x y with | none => 0 | some z => av c b F n (k + 1) (z :: r)))
        cases hrk : rk (c k).1 x y with
        | none =>
          obtain ⟨h89, hy0⟩ := rk_none x y hrk
          refine ⟨?_, fun _ => Or.inl rfl⟩
          rcases h89 with e8 | e9
          · rw [if_pos (show nI (rop (c k).1) = 5 by rw [e8]; rfl), if_pos hy0]; exact ⟨_, rfl⟩
          · rw [if_neg (ne 5 (by omega) (by omega) 5 rfl), if_pos (show nI (rop (c k).1) = 6 by rw [e9]; rfl), if_pos hy0]; exact ⟨_, rfl⟩
        | some z =>
          have fin := next (z :: r) (upd st r.length z) (by show r.length + 1 = eff (c k).1 (r.length + 1 + 1); unfold eff; rw [if_neg (by omega), if_neg (by omega)]; omega) (by show r.length + 1 ≤ 30; omega) (fun hB q hq => by
            cases hq
            rcases hB with z1 | z1
            · omega
            · exact rk_bool z1 x y hrk) (str_push hr)
          have e203 : bd1 (f_X12_reckon (nI (rop (c k).1)) x y) (fun r3 => sI 260 st (nI r.length) r3 (fun w4 => f_X12_reckonsTo_b16 codes F (nI b) fu w4 (nI (r.length + 1)) (nI 0) (nI k + nI 1))) = f_X12_reckonsTo_b16 codes F (nI b) fu (upd st r.length z) (nI (r.length + 1)) (nI 0) (nI (k + 1)) := by
            rw [f_reck12 h5 o1 x y hrk, bd1_s, sI_n (by omega) (by omega), nI_add]
          rw [e203]
          have hif : ∀ (o1 o2 o3 o4 o5 : Option (Int32 × (Nat → Int32))), ((c k).1 = 8 ∨ (c k).1 = 9 → ¬ y = 0) → (if nI (rop (c k).1) = 5 then (if y = 0 then o1 else o5) else if nI (rop (c k).1) = 6 then (if y = 0 then o2 else o5) else o5) = o5 := by
            intro o1 o2 o3 o4 o5 hne
            by_cases e8 : (c k).1 = 8
            · rw [if_pos (show nI (rop (c k).1) = 5 by rw [e8]; rfl), if_neg (hne (Or.inl e8))]
            · rw [if_neg (ne 5 (by omega) (by omega) 5 rfl)]
              by_cases e9 : (c k).1 = 9
              · rw [if_pos (show nI (rop (c k).1) = 6 by rw [e9]; rfl), if_neg (hne (Or.inr e9))]
              · rw [if_neg (ne 6 (by omega) (by omega) 6 rfl)]
          rw [hif _ _ none none _ (fun h89 => rk_some x y hrk h89)]
          exact fin
    · obtain rfl : k = b := by omega
      rw [hW.2.2] at hlen
      obtain ⟨x, rfl⟩ := len1 hlen
      have hx : st 0 = x := hst.1
      rw [if_pos (Nat.le_refl k), if_pos (show nI k ≤ nI k by rw [nle (by omega) (by omega)]; omega), gI_c (c := 0) (k := 0) rfl (by omega) (by omega), hx]
      exact ⟨⟨_, rfl⟩, fun hB => hbl hB x rfl⟩
theorem reval_of {code codes : Nat → Int32} {c : Cd} {a b : Nat} (hC : KC code c b) (hM : KM codes c b) (hb : b ≤ 240) (hW : WG c a b) : REval code (nI a) (nI b) codes (nI a) (nI b) (fun F => av c b F (b - a + 1) a []) ∧ (isB (c (b - 1)).1 → ∀ F, bl (av c b F (b - a + 1) a [])) := by
  have hab := hW.1
  have hd0 : ([] : List Int32).length = dp c a 0 (a - a) := by rw [Nat.sub_self]; rfl
  have hnB : ∀ x : Int32, ([] : List Int32) = [x] → bl x := fun x hx => by cases hx
  refine ⟨⟨fun F G h => av_F hW h _ _ _ (Nat.le_refl a), fun F st h rf => ?_, fun F st => ?_⟩, fun hB F => ?_⟩
  · exact sim_cls (F := F) hC hb hW (b - a + 1) a [] st 0 FU (by omega) (FU_gt (by omega)) (Nat.le_refl a) (by omega) (by omega) hd0 (by show 0 ≤ 30; omega) trivial
  · obtain ⟨⟨st', e⟩, -⟩ := sim_ref (F := F) hM hb hW (b - a + 1) a [] st FU (by omega) (FU_gt (by omega)) (Nat.le_refl a) (by omega) hd0 (by show 0 ≤ 30; omega) (fun _ => hnB) trivial
    unfold f_X12_reckonsTo
    rw [dI_n (by decide), show (260 : Int32) = nI 260 from rfl, pk_div (by omega) (by omega) (by omega), show a / 260 = 0 by omega, show nI 260 * nI 0 = nI 0 from rfl]
    exact ⟨st', e⟩
  · exact (sim_ref (F := F) hM hb hW (b - a + 1) a [] (fun _ => 0) FU (by omega) (FU_gt (by omega)) (Nat.le_refl a) (by omega) hd0 (by show 0 ≤ 30; omega) (fun _ => hnB) trivial).2 hB
