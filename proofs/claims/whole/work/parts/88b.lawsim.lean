/-! pure: a law's code is run: by a machine of lists, by the class, by the reference -/
def rk (op : Nat) (x y : Int32) : Option Int32 := if op = 5 then some (x + y) else if op = 6 then some (x - y) else if op = 7 then some (x * y) else if op = 8 then (if y = 0 then none else some (x / y)) else if op = 9 then (if y = 0 then none else some (x - x / y * y)) else if op = 10 then some (if y ≤ x then 0 else 1) else if op = 11 then some (if x ≤ y then 0 else 1) else some (if x = y then 1 else 0)
def hd0 (s : List Int32) : Int32 := match s with
  | [] => 0
  | x :: _ => x
def av (c : Cd) (b : Nat) (F : Nat → Int32) : Nat → Nat → List Int32 → Int32
  | 0, _, _ => 0
  | n + 1, k, s => if b ≤ k then hd0 s else if (c k).1 = 0 then av c b F n (k + 1) (nI (c k).2 :: s) else if (c k).1 = 1 then av c b F n (k + 1) (F (c k).2 :: s) else if (c k).1 = 2 then av c b F n (k + 1) ((if hd0 s = 0 then 1 else 0) :: s.tail) else if (c k).1 = 3 then (if hd0 s = 0 then av c b F n (k + 1) s.tail else av c b F n (c k).2 s) else if (c k).1 = 4 then (if hd0 s = 0 then av c b F n (c k).2 s else av c b F n (k + 1) s.tail) else match rk (c k).1 (hd0 s.tail) (hd0 s) with
      | none => 0
      | some x => av c b F n (k + 1) (x :: s.tail.tail)
/-- an array bears a stack -/
def StR (st : Nat → Int32) : List Int32 → Prop
  | [] => True
  | x :: s => st s.length = x ∧ StR st s
theorem str_upd {st : Nat → Int32} {i : Nat} {v : Int32} : ∀ {s : List Int32}, StR st s → s.length ≤ i → StR (upd st i v) s
  | [], _, _ => trivial
  | x :: s, h, hi => by
    have hl : (x :: s).length = s.length + 1 := rfl
    exact ⟨by rw [pk_un (by omega)]; exact h.1, str_upd h.2 (by omega)⟩
theorem str_push {st : Nat → Int32} {x : Int32} {s : List Int32} (h : StR st s) : StR (upd st s.length x) (x :: s) := ⟨pk_us, str_upd h (Nat.le_refl _)⟩
theorem len1 {s : List Int32} (h : s.length = 1) : ∃ x, s = [x] := by
  match s, h with
  | [x], _ => exact ⟨x, rfl⟩
theorem len2 {s : List Int32} (h : 2 ≤ s.length) : ∃ y x r, s = y :: x :: r := by
  match s, h with
  | y :: x :: r, _ => exact ⟨y, x, r, rfl⟩
theorem dp_s {c : Cd} {a k : Nat} (h : a ≤ k) : dp c a 0 (k + 1 - a) = eff (c k).1 (dp c a 0 (k - a)) := by
  rw [show k + 1 - a = (k - a) + 1 by omega, dp, show a + (k - a) = k by omega]
/-- where a leap lands the stack has the height that it had -/
theorem dp_leap {c : Cd} {a k : Nat} (h : a ≤ k) (hk : k < (c k).2) (h1 : dp c a 0 (k - a) = 1) (h2 : dp c k 1 ((c k).2 - k) = 1) : dp c a 0 ((c k).2 - a) = 1 := by
  rw [show (c k).2 - a = (k - a) + ((c k).2 - k) by omega, dp_add, h1, show a + (k - a) = k by omega, h2]
theorem av_F {c : Cd} {a b : Nat} {F G : Nat → Int32} (hW : WG c a b) (hF : ∀ j, j < 10 → F j = G j) : ∀ n k s, a ≤ k → av c b F n k s = av c b G n k s
  | 0, k, s, _ => rfl
  | n + 1, k, s, hk => by
    have ih := av_F hW hF n
    rw [av, av]
    by_cases hb : b ≤ k
    · rw [if_pos hb, if_pos hb]
    · have hok := hW.2.1 (k - a) (by omega)
      rw [show a + (k - a) = k by omega] at hok
      obtain ⟨o1, o2, o3, o4, o5, o6, o7⟩ := hok
      have hj : (c k).1 = 3 ∨ (c k).1 = 4 → a ≤ (c k).2 := fun q => by have := (o5 q).2.2.1; omega
      rw [if_neg hb, if_neg hb]
      by_cases e0 : (c k).1 = 0
      · rw [if_pos e0, if_pos e0]; exact ih _ _ (by omega)
      rw [if_neg e0, if_neg e0]
      by_cases e1 : (c k).1 = 1
      · rw [if_pos e1, if_pos e1, hF _ (o3 e1)]; exact ih _ _ (by omega)
      rw [if_neg e1, if_neg e1]
      by_cases e2 : (c k).1 = 2
      · rw [if_pos e2, if_pos e2]; exact ih _ _ (by omega)
      rw [if_neg e2, if_neg e2]
      by_cases e3 : (c k).1 = 3
      · rw [if_pos e3, if_pos e3, ih (k + 1) s.tail (by omega), ih (c k).2 s (hj (Or.inl e3))]
      rw [if_neg e3, if_neg e3]
      by_cases e4 : (c k).1 = 4
      · rw [if_pos e4, if_pos e4, ih (k + 1) s.tail (by omega), ih (c k).2 s (hj (Or.inr e4))]
      rw [if_neg e4, if_neg e4]
      cases rk (c k).1 (hd0 s.tail) (hd0 s) with
      | none => rfl
      | some x => exact ih _ _ (by omega)
/-! the class -/
theorem dec_15 {v op : Nat} (ho : op < 16) : nI (v * 16 + op) &&& 15 = nI op := by
  rw [show (15 : Int32) = nI (2 ^ 4 - 1) from rfl, fa_mask, show (v * 16 + op) % 2 ^ 4 = op by omega]
theorem dec_sh {v op : Nat} (hv : v < 100000) (ho : op < 16) : nI (v * 16 + op) >>> ((4 : Int32) &&& 31) = nI v := by
  apply b_ext
  intro i hi
  have e : nI (v * 16 + op) >>> ((4 : Int32) &&& 31) = nI (v * 16 + op) >>> (nI 4 &&& 31) := rfl
  rw [e, b_sshr 4 (by omega) _ hi, bt_nat v hi]
  by_cases h : 4 + i < 32
  · rw [if_pos h, bt_nat _ h, Nat.testBit_eq_decide_div_mod_eq, Nat.testBit_eq_decide_div_mod_eq, Nat.pow_add, ← Nat.div_div_eq_div_mul, show (v * 16 + op) / 2 ^ 4 = v by omega]
  · rw [if_neg h, bt_nat _ (by omega)]
    have h1 : (v * 16 + op).testBit 31 = false := Nat.testBit_lt_two_pow (by omega)
    have h2 : v.testBit i = false := Nat.testBit_lt_two_pow (Nat.lt_of_lt_of_le (show v < 2 ^ 28 by omega) (Nat.pow_le_pow_right (by omega) (by omega)))
    rw [h1, h2]
theorem f_push1 {st : Nat → Int32} {h : Nat} {x : Int32} (hh : h < 32) : f_X1_push st (nI h) x = some (upd st h x, nI (h + 1)) := by
  unfold f_X1_push f_X1_push_b36
  rw [if_neg (nI_pos (by omega)), if_neg (by rw [show (32 : Int32) = nI 32 from rfl, nle (by omega) (by omega)]; omega), sI_n (by omega) (by omega), nI_1]
theorem f_pop1 {st : Nat → Int32} {h : Nat} (hh : h < 32) : f_X1_pop st (nI (h + 1)) = some (st h, nI h) := by
  unfold f_X1_pop
  rw [if_neg (by rw [show (0 : Int32) = nI 0 from rfl, nle (by omega) (by omega)]; omega), if_pos (by rw [show (32 : Int32) = nI 32 from rfl, nle (by omega) (by omega)]; omega), show (1 : Int32) = nI 1 from rfl, pk_sub (by omega), Nat.add_sub_cancel, gI_n (by omega) (by omega)]
theorem f_reck1 {op : Nat} (h5 : 5 ≤ op) (h12 : op ≤ 12) (x y : Int32) : f_X1_reckon 0 (nI op) x y = match rk op x y with
    | none => some (0, 1)
    | some v => some (v, 0) := by
  unfold f_X1_reckon f_X1_reckon_b93 f_X1_reckon_b105 f_X1_reckon_b110 f_X1_reckon_b134 f_X1_reckon_b70 f_X1_reckon_b81 f_X1_reckon_b92 rk
  rw [if_pos (show (0 : Int32) = 0 from rfl), zI_0, zI_1]
  rcases (show op = 5 ∨ op = 6 ∨ op = 7 ∨ op = 8 ∨ op = 9 ∨ op = 10 ∨ op = 11 ∨ op = 12 by omega) with rfl | rfl | rfl | rfl | rfl | rfl | rfl | rfl
  · rfl
  · rfl
  · rfl
  · show (if y = 0 then _ else _) = _
    by_cases hy : y = 0
    · rw [if_pos hy, if_pos hy]; simp [hy]
    · rw [if_neg hy, if_neg hy, if_pos (show nI 8 = 8 from rfl), dI_n hy]; simp [hy]
  · show (if y = 0 then _ else _) = _
    by_cases hy : y = 0
    · rw [if_pos hy, if_pos hy]; simp [hy]
    · rw [if_neg hy, if_neg hy, if_neg (show ¬ nI 9 = 8 by decide), rI_n hy]; simp [hy]
  · show (if y ≤ x then _ else _) = _
    by_cases hy : y ≤ x <;> simp [hy]
  · show (if x ≤ y then _ else _) = _
    by_cases hy : x ≤ y <;> simp [hy]
  · show (if x = y then _ else _) = _
    by_cases hy : x = y <;> simp [hy]
theorem sim_cls {code : Nat → Int32} {c : Cd} {a b : Nat} {F : Nat → Int32} (hK : KC code c b) (hb : b ≤ 240) (hW : WG c a b) : ∀ n k s st cnt fu, b - k < n → b - k < fu → a ≤ k → k ≤ b → cnt ≤ k → s.length = dp c a 0 (k - a) → s.length ≤ 30 → StR st s → ∃ st' h' rf', f_X1_run_b15 code F (nI b) fu st (nI s.length) 0 (nI k) (nI cnt) = some (av c b F n k s, st', h', rf') := by
  intro n
  induction n with
  | zero => intro k s st cnt fu h1; omega
  | succ n ih =>
    intro k s st cnt fu hn hf hak hkb hcnt hlen hl30 hst
    obtain ⟨fu, rfl⟩ : ∃ x, fu = x + 1 := ⟨fu - 1, by omega⟩
    rw [av, f_X1_run_b15]
    rcases Nat.lt_or_ge k b with hk | hk
    · have hok := hW.2.1 (k - a) (by omega)
      rw [show a + (k - a) = k by omega, ← hlen] at hok
      obtain ⟨o1, o2, o3, o4, o5, o6, o7⟩ := hok
      obtain ⟨c1, c2, c3⟩ := hK k hk
      have hds := dp_s (c := c) hak
      rw [← hlen] at hds
      have hn240 := nge240 (l := cnt) (by omega)
      have next : ∀ (s' : List Int32) (st' : Nat → Int32), s'.length = eff (c k).1 s.length → s'.length ≤ 30 → StR st' s' → ∃ st2 h' rf', f_X1_run_b15 code F (nI b) fu st' (nI s'.length) 0 (nI (k + 1)) (nI (cnt + 1)) = some (av c b F n (k + 1) s', st2, h', rf') := fun s' st' e1 e2 e3 => ih (k + 1) s' st' (cnt + 1) fu (by omega) (by omega) (by omega) (by omega) (by omega) (by rw [e1, hds]) e2 e3
      rw [if_neg (show ¬ b ≤ k by omega), if_neg hn240, if_neg (by rw [nle (by omega) (by omega)]; omega), if_pos rfl]
      unfold f_X1_stepAt
      rw [if_neg (nI_pos (by omega)), if_neg (nge240 (l := k) (by omega)), gI_n (by omega) (by omega), c3]
      unfold f_X1_stepAt_b21 f_X1_stepAt_b74 f_X1_stepAt_b75 f_X1_stepAt_b100 f_X1_stepAt_b118 f_X1_stepAt_b134 f_X1_stepAt_b145 f_X1_stepAt_b191
      rw [dec_15 (by omega), dec_sh c2 (by omega)]
      by_cases e0 : (c k).1 = 0
      · rw [if_pos e0, e0, if_pos (show nI 0 = 0 from rfl), f_push1 (by omega), bd2_s, bd4_s, nI_1, nI_1]
        exact next (nI (c k).2 :: s) _ (by rw [e0]; rfl) (by have := o2 (by omega); show s.length + 1 ≤ 30; omega) (str_push hst)
      rw [if_neg e0, if_neg (nI_ne0 (by omega) (by omega))]
      by_cases e1 : (c k).1 = 1
      · have hv := o3 e1
        rw [if_pos e1, e1, if_pos (show nI 1 = 1 from rfl), if_neg (nI_pos (by omega)), if_neg (by rw [show (10 : Int32) = nI 10 from rfl, nle (by omega) (by omega)]; omega), gI_n (by omega) (by omega), f_push1 (by omega), bd2_s, bd4_s, nI_1, nI_1]
        exact next (F (c k).2 :: s) _ (by rw [e1]; rfl) (by have := o2 (by omega); show s.length + 1 ≤ 30; omega) (str_push hst)
      have ne : ∀ x : Nat, x < 20 → ¬ (c k).1 = x → ∀ y : Int32, y = nI x → ¬ nI (c k).1 = y := fun x hx hne y hy => by rw [hy, neq (by omega) (by omega)]; exact hne
      rw [if_neg e1, if_neg (ne 1 (by omega) e1 1 rfl)]
      by_cases e2 : (c k).1 = 2
      · obtain ⟨x, rfl⟩ := len1 (o4 e2).1
        have hx : st 0 = x := hst.1
        have hp : f_X1_pop st (nI [x].length) = some (st 0, nI 0) := f_pop1 (h := 0) (by omega)
        rw [if_pos e2, e2, if_pos (show nI 2 = 2 from rfl), hp, bd2_s, hx, f_push1 (by omega), bd2_s, f_push1 (by omega), bd2_s]
        have fin := fun v : Int32 => next [v] (upd st 0 v) (by rw [e2]; rfl) (by show 1 ≤ 30; omega) ⟨pk_us, trivial⟩
        show ∃ st' h' rf', bd4 (if x = 0 then _ else _) _ = some (av c b F n (k + 1) [if x = 0 then 1 else 0], _) 
        by_cases hx0 : x = 0
        · rw [if_pos hx0, if_pos hx0, bd4_s, nI_1, nI_1]; exact fin 1
        · rw [if_neg hx0, if_neg hx0, bd4_s, nI_1, nI_1]; exact fin 0
      rw [if_neg e2, if_neg (ne 2 (by omega) e2 2 rfl)]
      by_cases e34 : (c k).1 = 3 ∨ (c k).1 = 4
      · obtain ⟨g1, g2, g3, g4, g5, g6⟩ := o5 e34
        obtain ⟨x, rfl⟩ := len1 g1
        have hx : st 0 = x := hst.1
        have hp : f_X1_pop st (nI [x].length) = some (st 0, nI 0) := f_pop1 (h := 0) (by omega)
        have hmx : mxI (nI (c k).2) (nI k + 1) = nI (c k).2 := by
          unfold mxI
          rw [nI_1, if_neg (by rw [nlt (by omega) (by omega)]; omega)]
        have jump : ∃ st2 h' rf', f_X1_run_b15 code F (nI b) fu (upd st 0 x) (nI 1) 0 (nI (c k).2) (nI (cnt + 1)) = some (av c b F n (c k).2 [x], st2, h', rf') := ih (c k).2 [x] (upd st 0 x) (cnt + 1) fu (by omega) (by omega) (by omega) g4 (by omega) (by rw [dp_leap hak g3 (by rw [← hlen]; exact g1) g6]; rfl) (by show 1 ≤ 30; omega) ⟨pk_us, trivial⟩
        have fall := next [] st (by show 0 = eff (c k).1 1; unfold eff; rw [if_neg (by omega), if_neg (by omega)]) (by show 0 ≤ 30; omega) trivial
        rw [hp, bd2_s, hx, f_push1 (by omega), bd2_s, hmx, nI_1]
        rcases e34 with e3 | e4
        · rw [if_pos e3, e3, if_pos (show nI 3 = 3 from rfl), if_pos (show nI 3 = 3 from rfl), if_pos (show nI 3 = 3 from rfl)]
          show ∃ st' h' rf', bd4 (if x = 0 then _ else _) _ = some (if x = 0 then av c b F n (k + 1) [] else av c b F n (c k).2 [x], _)
          by_cases hx0 : x = 0
          · rw [if_pos hx0, if_pos hx0, if_neg (by decide), bd4_s, nI_1]; exact fall
          · rw [if_neg hx0, if_neg hx0, if_pos rfl, bd4_s, nI_1]; exact jump
        · rw [if_neg (show ¬ (c k).1 = 3 by omega), if_pos e4, e4, if_neg (show ¬ nI 4 = 3 by decide), if_pos (show nI 4 = 4 from rfl), if_neg (show ¬ nI 4 = 3 by decide), if_neg (show ¬ nI 4 = 3 by decide)]
          show ∃ st' h' rf', bd4 (if x = 0 then _ else _) _ = some (if x = 0 then av c b F n (c k).2 [x] else av c b F n (k + 1) [], _)
          by_cases hx0 : x = 0
          · rw [if_pos hx0, if_pos hx0, if_pos rfl, bd4_s, nI_1]; exact jump
          · rw [if_neg hx0, if_neg hx0, if_neg (by decide), bd4_s, nI_1]; exact fall
      · have h5 : 5 ≤ (c k).1 := by omega
        obtain ⟨y, x, r, rfl⟩ := len2 (o6 h5)
        have hl2 : (y :: x :: r).length = r.length + 1 + 1 := rfl
        have hy : st (r.length + 1) = y := hst.1
        have hx : st r.length = x := hst.2.1
        have hr : StR st r := hst.2.2
        rw [if_neg (show ¬ (c k).1 = 3 by omega), if_neg (show ¬ (c k).1 = 4 by omega), if_neg (ne 3 (by omega) (by omega) 3 rfl), if_neg (ne 4 (by omega) (by omega) 4 rfl), hl2, f_pop1 (by omega), bd2_s, f_pop1 (by omega), bd2_s, hx, hy, f_reck1 h5 o1]
        show ∃ st' h' rf', _ = some ((match rk (c k).1 x y with | none => 0 | some z => av c b F n (k + 1) (z :: r)), st', h', rf')
        cases hrk : rk (c k).1 x y with
        | none =>
          show ∃ st' h' rf', bd4 (bd2 (some ((0 : Int32), (1 : Int32))) _) _ = _
          obtain ⟨fu, rfl⟩ : ∃ z, fu = z + 1 := ⟨fu - 1, by omega⟩
          rw [bd2_s, f_push1 (by omega), bd2_s, bd4_s, f_X1_run_b15, if_neg one_ne, ite_self, ite_self]
          unfold f_X1_run_b47 f_X1_run_b62
          rw [if_neg one_ne]
          exact ⟨_, _, _, rfl⟩
        | some z =>
          show ∃ st' h' rf', bd4 (bd2 (some (z, (0 : Int32))) _) _ = some (av c b F n (k + 1) (z :: r), st', h', rf')
          rw [bd2_s, f_push1 (by omega), bd2_s, bd4_s, nI_1, nI_1]
          exact next (z :: r) (upd st r.length z) (by show r.length + 1 = eff (c k).1 (r.length + 1 + 1); unfold eff; rw [if_neg (by omega), if_neg (by omega)]; omega) (by show r.length + 1 ≤ 30; omega) (str_push hr)
    · obtain rfl : k = b := by omega
      rw [hW.2.2] at hlen
      obtain ⟨x, rfl⟩ := len1 hlen
      have hx : st 0 = x := hst.1
      have hp : f_X1_pop st (nI [x].length) = some (st 0, nI 0) := f_pop1 (h := 0) (by omega)
      rw [if_pos (Nat.le_refl k), if_pos (show nI k ≤ nI k by rw [nle (by omega) (by omega)]; omega), ite_self]
      unfold f_X1_run_b47 f_X1_run_b62
      rw [if_pos rfl, hp, bd2_s, hx]
      exact ⟨_, _, _, rfl⟩
