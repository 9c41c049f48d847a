/-! pure: treaty -/
def rst (t : Nat → Nat) (R C r c : Nat) : Bool := allN (fun i => decide (t (2 * (i * C + c)) ≤ t (2 * (r * C + c)))) R && allN (fun j => decide (t (2 * (r * C + j) + 1) ≤ t (2 * (r * C + c) + 1))) C
def lft (t : Nat → Nat) (i j : Nat) : Bool := !(decide (nI (t (2 * j)) - nI (t (2 * i)) < 0)) && (!(decide (nI (t (2 * j + 1)) - nI (t (2 * i + 1)) < 0)) && !(decide ((nI (t (2 * j)) - nI (t (2 * i))) + (nI (t (2 * j + 1)) - nI (t (2 * i + 1))) ≤ 0)))
def brg (t : Nat → Nat) (N i : Nat) : Bool := allN (fun j => !lft t i j) N
theorem ix_lt {R C r c : Nat} (hr : r < R) (hc : c < C) : r * C + c < R * C := by
  have h : (r + 1) * C ≤ R * C := Nat.mul_le_mul_right C hr
  rw [Nat.succ_mul] at h
  omega
section TR
variable {bytes tape : Nat → Int32} {t : Nat → Nat} {n : Nat}
theorem f_one5 (hn : n ≤ 260) (ht : ∀ i, i < n → t i < 256 ∧ bytes i = nI (t i) ∧ tape i &&& 255 = nI (t i)) {i : Nat} (hi : 2 * i + 1 < n) : f_X5_forOne bytes (nI n) (nI i) = some (nI (t (2 * i))) := by
  unfold f_X5_forOne
  rw [two_mul_nI, f_at9 hn (by omega), bd1_s, (ht _ (by omega)).2.1]
theorem f_oth5 (hn : n ≤ 260) (ht : ∀ i, i < n → t i < 256 ∧ bytes i = nI (t i) ∧ tape i &&& 255 = nI (t i)) {i : Nat} (hi : 2 * i + 1 < n) : f_X5_forOther bytes (nI n) (nI i) = some (nI (t (2 * i + 1))) := by
  unfold f_X5_forOther
  rw [two_mul_nI, nI_1, f_at9 hn (by omega), bd1_s, (ht _ (by omega)).2.1]
theorem f_one12 (hn : n ≤ 260) (ht : ∀ i, i < n → t i < 256 ∧ bytes i = nI (t i) ∧ tape i &&& 255 = nI (t i)) {C r c : Nat} (hi : 2 * (r * C + c) + 1 < n) : f_X12_one tape (nI C) (nI r) (nI c) = some (nI (t (2 * (r * C + c)))) := by
  unfold f_X12_one
  rw [pk_mul, nI_add, two_mul_nI, Nat.mul_comm C r, f_oct12 (by omega), bd1_s, (ht _ (by omega)).2.2]
theorem f_oth12 (hn : n ≤ 260) (ht : ∀ i, i < n → t i < 256 ∧ bytes i = nI (t i) ∧ tape i &&& 255 = nI (t i)) {C r c : Nat} (hi : 2 * (r * C + c) + 1 < n) : f_X12_other tape (nI C) (nI r) (nI c) = some (nI (t (2 * (r * C + c) + 1))) := by
  unfold f_X12_other
  rw [pk_mul, nI_add, two_mul_nI, Nat.mul_comm C r, nI_1, f_oct12 (by omega), bd1_s, (ht _ (by omega)).2.2]
theorem f_rest5 (hn : n ≤ 260) (ht : ∀ i, i < n → t i < 256 ∧ bytes i = nI (t i) ∧ tape i &&& 255 = nI (t i)) {R C r c : Nat} (hR : R ≤ 6) (hC : C ≤ 6) (hr : r < R) (hc : c < C) (hi : 2 * (R * C) ≤ n) : f_X5_isRest bytes (nI n) (nI R) (nI C) (nI r) (nI c) = some (bI (rst t R C r c)) := by
  have hx := ix_lt hr hc
  unfold f_X5_isRest rst
  rw [pk_mul, nI_add, loopA (fun m i => f_X5_isRest_b11 bytes (nI n) (nI R) (nI C) (nI r) (nI c) m (nI (r * C + c)) i) (fun i => decide (t (2 * (i * C + c)) ≤ t (2 * (r * C + c)))) R (f_X5_isRest_b48 bytes (nI n) (nI C) (nI r) FU (nI (r * C + c)) 0) (some 0) (by omega) (fun m k hk hp => ?_) (fun m k hk hp => ?_) (fun m => ?_)]
  · rw [loopA (fun m i => f_X5_isRest_b48 bytes (nI n) (nI C) (nI r) m (nI (r * C + c)) i) (fun j => decide (t (2 * (r * C + j) + 1) ≤ t (2 * (r * C + c) + 1))) C (some 1) (some 0) (by omega) (fun m k hk hp => ?_) (fun m k hk hp => ?_) (fun m => ?_)]
    · cases allN (fun i => decide (t (2 * (i * C + c)) ≤ t (2 * (r * C + c)))) R <;> cases allN (fun j => decide (t (2 * (r * C + j) + 1) ≤ t (2 * (r * C + c) + 1))) C <;> rfl
    · have hy := ix_lt hr hk
      show f_X5_isRest_b48 _ _ _ _ (m + 1) _ _ = f_X5_isRest_b48 _ _ _ _ m _ _
      rw [f_X5_isRest_b48, if_neg (by rw [nle (by omega) (by omega)]; omega), pk_mul, nI_add, f_oth5 hn ht (by omega), bd1_s, f_oth5 hn ht (by omega), bd1_s, if_pos]
      rw [nle (by have := (ht (2 * (r * C + k) + 1) (by omega)).1; omega) (by have := (ht (2 * (r * C + c) + 1) (by omega)).1; omega)]
      exact of_decide_eq_true hp
    · have hy := ix_lt hr hk
      show f_X5_isRest_b48 _ _ _ _ (m + 1) _ _ = _
      rw [f_X5_isRest_b48, if_neg (by rw [nle (by omega) (by omega)]; omega), pk_mul, nI_add, f_oth5 hn ht (by omega), bd1_s, f_oth5 hn ht (by omega), bd1_s, if_neg]
      rw [nle (by have := (ht (2 * (r * C + k) + 1) (by omega)).1; omega) (by have := (ht (2 * (r * C + c) + 1) (by omega)).1; omega)]
      exact of_decide_eq_false hp
    · show f_X5_isRest_b48 _ _ _ _ (m + 1) _ _ = _
      rw [f_X5_isRest_b48, if_pos (by rw [nle (by omega) (by omega)]; omega)]
  · have hy := ix_lt hk hc
    show f_X5_isRest_b11 _ _ _ _ _ _ (m + 1) _ _ = f_X5_isRest_b11 _ _ _ _ _ _ m _ _
    rw [f_X5_isRest_b11, if_neg (by rw [nle (by omega) (by omega)]; omega), pk_mul, nI_add, f_one5 hn ht (by omega), bd1_s, f_one5 hn ht (by omega), bd1_s, if_pos]
    rw [nle (by have := (ht (2 * (k * C + c)) (by omega)).1; omega) (by have := (ht (2 * (r * C + c)) (by omega)).1; omega)]
    exact of_decide_eq_true hp
  · have hy := ix_lt hk hc
    show f_X5_isRest_b11 _ _ _ _ _ _ (m + 1) _ _ = _
    rw [f_X5_isRest_b11, if_neg (by rw [nle (by omega) (by omega)]; omega), pk_mul, nI_add, f_one5 hn ht (by omega), bd1_s, f_one5 hn ht (by omega), bd1_s, if_neg]
    rw [nle (by have := (ht (2 * (k * C + c)) (by omega)).1; omega) (by have := (ht (2 * (r * C + c)) (by omega)).1; omega)]
    exact of_decide_eq_false hp
  · show f_X5_isRest_b11 _ _ _ _ _ _ (m + 1) _ _ = _
    rw [f_X5_isRest_b11, if_pos (by rw [nle (by omega) (by omega)]; omega)]
theorem f_rest12 (hn : n ≤ 260) (ht : ∀ i, i < n → t i < 256 ∧ bytes i = nI (t i) ∧ tape i &&& 255 = nI (t i)) {R C r c : Nat} (hR : R ≤ 6) (hC : C ≤ 6) (hr : r < R) (hc : c < C) (hi : 2 * (R * C) ≤ n) : f_X12_rests tape (nI R) (nI C) (nI r) (nI c) = some (bI (rst t R C r c)) := by
  have hx := ix_lt hr hc
  unfold f_X12_rests rst
  rw [loopA (fun m i => f_X12_rests_b3 tape (nI R) (nI C) (nI r) (nI c) m i) (fun i => decide (t (2 * (i * C + c)) ≤ t (2 * (r * C + c)))) R (f_X12_rests_b40 tape (nI C) (nI r) (nI c) FU 0) (some 0) (by omega) (fun m k hk hp => ?_) (fun m k hk hp => ?_) (fun m => ?_)]
  · rw [loopA (fun m i => f_X12_rests_b40 tape (nI C) (nI r) (nI c) m i) (fun j => decide (t (2 * (r * C + j) + 1) ≤ t (2 * (r * C + c) + 1))) C (some 1) (some 0) (by omega) (fun m k hk hp => ?_) (fun m k hk hp => ?_) (fun m => ?_)]
    · cases allN (fun i => decide (t (2 * (i * C + c)) ≤ t (2 * (r * C + c)))) R <;> cases allN (fun j => decide (t (2 * (r * C + j) + 1) ≤ t (2 * (r * C + c) + 1))) C <;> rfl
    · have hy := ix_lt hr hk
      show f_X12_rests_b40 _ _ _ _ (m + 1) _ = f_X12_rests_b40 _ _ _ _ m _
      rw [f_X12_rests_b40, if_neg (by rw [nle (by omega) (by omega)]; omega), f_oth12 hn ht (by omega), bd1_s, f_oth12 hn ht (by omega), bd1_s, if_pos]
      rw [nle (by have := (ht (2 * (r * C + k) + 1) (by omega)).1; omega) (by have := (ht (2 * (r * C + c) + 1) (by omega)).1; omega)]
      exact of_decide_eq_true hp
    · have hy := ix_lt hr hk
      show f_X12_rests_b40 _ _ _ _ (m + 1) _ = _
      rw [f_X12_rests_b40, if_neg (by rw [nle (by omega) (by omega)]; omega), f_oth12 hn ht (by omega), bd1_s, f_oth12 hn ht (by omega), bd1_s, if_neg]
      rw [nle (by have := (ht (2 * (r * C + k) + 1) (by omega)).1; omega) (by have := (ht (2 * (r * C + c) + 1) (by omega)).1; omega)]
      exact of_decide_eq_false hp
    · show f_X12_rests_b40 _ _ _ _ (m + 1) _ = _
      rw [f_X12_rests_b40, if_pos (by rw [nle (by omega) (by omega)]; omega)]
  · have hy := ix_lt hk hc
    show f_X12_rests_b3 _ _ _ _ _ (m + 1) _ = f_X12_rests_b3 _ _ _ _ _ m _
    rw [f_X12_rests_b3, if_neg (by rw [nle (by omega) (by omega)]; omega), f_one12 hn ht (by omega), bd1_s, f_one12 hn ht (by omega), bd1_s, if_pos]
    rw [nle (by have := (ht (2 * (k * C + c)) (by omega)).1; omega) (by have := (ht (2 * (r * C + c)) (by omega)).1; omega)]
    exact of_decide_eq_true hp
  · have hy := ix_lt hk hc
    show f_X12_rests_b3 _ _ _ _ _ (m + 1) _ = _
    rw [f_X12_rests_b3, if_neg (by rw [nle (by omega) (by omega)]; omega), f_one12 hn ht (by omega), bd1_s, f_one12 hn ht (by omega), bd1_s, if_neg]
    rw [nle (by have := (ht (2 * (k * C + c)) (by omega)).1; omega) (by have := (ht (2 * (r * C + c)) (by omega)).1; omega)]
    exact of_decide_eq_false hp
  · show f_X12_rests_b3 _ _ _ _ _ (m + 1) _ = _
    rw [f_X12_rests_b3, if_pos (by rw [nle (by omega) (by omega)]; omega)]
theorem f_left5 (hn : n ≤ 260) (ht : ∀ i, i < n → t i < 256 ∧ bytes i = nI (t i) ∧ tape i &&& 255 = nI (t i)) {i j : Nat} (hi : 2 * i + 1 < n) (hj : 2 * j + 1 < n) : f_X5_isLeftFor bytes (nI n) (nI i) (nI j) = some (bI (lft t i j)) := by
  unfold f_X5_isLeftFor f_X5_isLeftFor_b45 f_X5_isLeftFor_b46 lft
  rw [f_one5 hn ht hj, bd1_s, f_one5 hn ht hi, bd1_s, f_oth5 hn ht hj, bd1_s, f_oth5 hn ht hi, bd1_s, zI_0, zI_1]
  by_cases h1 : nI (t (2 * j)) - nI (t (2 * i)) < 0
  · rw [if_pos h1, decide_eq_true h1]; rfl
  rw [if_neg h1, decide_eq_false h1]
  by_cases h2 : nI (t (2 * j + 1)) - nI (t (2 * i + 1)) < 0
  · rw [if_pos h2, decide_eq_true h2]; rfl
  rw [if_neg h2, decide_eq_false h2]
  by_cases h3 : (nI (t (2 * j)) - nI (t (2 * i))) + (nI (t (2 * j + 1)) - nI (t (2 * i + 1))) ≤ 0
  · rw [if_pos h3, decide_eq_true h3]; rfl
  rw [if_neg h3, decide_eq_false h3]; rfl
theorem f_brg12 (hn : n ≤ 260) (ht : ∀ i, i < n → t i < 256 ∧ bytes i = nI (t i) ∧ tape i &&& 255 = nI (t i)) {R C k : Nat} (hR : R ≤ 6) (hC : C ≤ 6) (hC0 : 0 < C) (hi : 2 * (R * C) ≤ n) (hk : k < R * C) : f_X12_isBargain tape (nI R) (nI C) (nI (k / C)) (nI (k % C)) = some (bI (brg t (R * C) k)) := by
  have hdm : ∀ j, j / C * C + j % C = j := fun j => by rw [Nat.mul_comm]; exact Nat.div_add_mod j C
  have hN : R * C ≤ 36 := Nat.mul_le_mul hR hC
  have hc : ¬ nI C = 0 := nI_ne0 hC0 (by omega)
  unfold f_X12_isBargain brg
  rw [loopA (fun m i => f_X12_isBargain_b3 tape (nI R) (nI C) (nI (k / C)) (nI (k % C)) m i) (fun j => !lft t k j) (R * C) (some 1) (some 0) (by omega) (fun m j hj hp => ?_) (fun m j hj hp => ?_) (fun m => ?_)]
  · cases allN (fun j => !lft t k j) (R * C) <;> rfl
  · show f_X12_isBargain_b3 _ _ _ _ _ (m + 1) _ = f_X12_isBargain_b3 _ _ _ _ _ m _
    rw [f_X12_isBargain_b3, pk_mul, if_neg (by rw [nle (by omega) (by omega)]; omega), dI_n hc, rI_n hc, pk_rem (by omega) hC0 (by omega), pk_div (by omega) hC0 (by omega), f_one12 hn ht (by rw [hdm]; omega), bd1_s, f_one12 hn ht (by rw [hdm]; omega), bd1_s, dI_n hc, rI_n hc, pk_rem (by omega) hC0 (by omega), pk_div (by omega) hC0 (by omega), f_oth12 hn ht (by rw [hdm]; omega), bd1_s, f_oth12 hn ht (by rw [hdm]; omega), bd1_s, hdm, hdm]
    simp only [f_X12_isBargain_b79]
    unfold lft at hp
    by_cases h1 : nI (t (2 * j)) - nI (t (2 * k)) < 0
    · rw [if_pos h1]
    rw [if_neg h1]
    by_cases h2 : nI (t (2 * j + 1)) - nI (t (2 * k + 1)) < 0
    · rw [if_pos h2]
    rw [if_neg h2]
    by_cases h3 : (nI (t (2 * j)) - nI (t (2 * k))) + (nI (t (2 * j + 1)) - nI (t (2 * k + 1))) ≤ 0
    · rw [if_pos h3]
    · rw [decide_eq_false h1, decide_eq_false h2, decide_eq_false h3] at hp; cases hp
  · show f_X12_isBargain_b3 _ _ _ _ _ (m + 1) _ = _
    rw [f_X12_isBargain_b3, pk_mul, if_neg (by rw [nle (by omega) (by omega)]; omega), dI_n hc, rI_n hc, pk_rem (by omega) hC0 (by omega), pk_div (by omega) hC0 (by omega), f_one12 hn ht (by rw [hdm]; omega), bd1_s, f_one12 hn ht (by rw [hdm]; omega), bd1_s, dI_n hc, rI_n hc, pk_rem (by omega) hC0 (by omega), pk_div (by omega) hC0 (by omega), f_oth12 hn ht (by rw [hdm]; omega), bd1_s, f_oth12 hn ht (by rw [hdm]; omega), bd1_s, hdm, hdm]
    unfold lft at hp
    by_cases h1 : nI (t (2 * j)) - nI (t (2 * k)) < 0
    · rw [decide_eq_true h1] at hp; cases hp
    rw [if_neg h1]
    by_cases h2 : nI (t (2 * j + 1)) - nI (t (2 * k + 1)) < 0
    · rw [decide_eq_false h1, decide_eq_true h2] at hp; cases hp
    rw [if_neg h2]
    by_cases h3 : (nI (t (2 * j)) - nI (t (2 * k))) + (nI (t (2 * j + 1)) - nI (t (2 * k + 1))) ≤ 0
    · rw [decide_eq_false h1, decide_eq_false h2, decide_eq_true h3] at hp; cases hp
    · rw [if_neg h3]
  · show f_X12_isBargain_b3 _ _ _ _ _ (m + 1) _ = _
    rw [f_X12_isBargain_b3, pk_mul, if_pos (by rw [nle (by omega) (by omega)]; omega)]
/-- is the place of the row-major number i at rest -/
def rsP (t : Nat → Nat) (R C i : Nat) : Bool := rst t R C (i / C) (i % C)
theorem rsP_ix {t : Nat → Nat} {R C r c : Nat} (hc : c < C) : rsP t R C (r * C + c) = rst t R C r c := by
  have h1 : (r * C + c) / C = r := by rw [Nat.mul_comm, Nat.mul_add_div (by omega), Nat.div_eq_of_lt hc]; rfl
  have h2 : (r * C + c) % C = c := by rw [Nat.mul_comm, Nat.mul_add_mod, Nat.mod_eq_of_lt hc]
  unfold rsP
  rw [h1, h2]
theorem f_rests5 (hn : n ≤ 260) (ht : ∀ i, i < n → t i < 256 ∧ bytes i = nI (t i) ∧ tape i &&& 255 = nI (t i)) {R C : Nat} (hR : R ≤ 6) (hC : C ≤ 6) (hi : 2 * (R * C) ≤ n) : f_X5_rests bytes (nI n) (nI R) (nI C) = some (nI (fa_cnt (rsP t R C) (R * C))) := by
  unfold f_X5_rests
  refine loopNN (fun m x i => f_X5_rests_b5 bytes (nI n) (nI R) (nI C) m x i) (fun r => nI (fa_cnt (rsP t R C) (r * C))) 0 R (by omega) (by omega) (a0 := (0 : Int32)) (i0 := 0) rfl (by rw [Nat.zero_mul]; rfl) _ (fun m r _ hr => ?_) (fun m => ?_)
  · show f_X5_rests_b5 _ _ _ _ (m + 1) _ _ = f_X5_rests_b5 _ _ _ _ m _ _
    rw [f_X5_rests_b5, if_neg (by rw [nle (by omega) (by omega)]; omega)]
    generalize f_X5_rests_b5 bytes (nI n) (nI R) (nI C) m = K
    refine loopNN (fun m x i => f_X5_rests_b14 bytes (nI n) (nI R) (nI C) K m x (nI r) i) (fun c => nI (fa_cnt (rsP t R C) (r * C + c))) 0 C (by omega) (by omega) (a0 := nI (fa_cnt (rsP t R C) (r * C))) (i0 := 0) rfl rfl _ (fun m c _ hc => ?_) (fun m => ?_)
    · show f_X5_rests_b14 _ _ _ _ _ (m + 1) _ _ _ = f_X5_rests_b14 _ _ _ _ _ m _ _ _
      rw [f_X5_rests_b14, if_neg (by rw [nle (by omega) (by omega)]; omega), f_rest5 hn ht hR hC hr hc hi, bd1_s, ite_bI]
      simp only [f_X5_rests_b39]
      rw [show r * C + (c + 1) = (r * C + c) + 1 from rfl]
      cases e : rst t R C r c with
      | true => rw [if_pos rfl, fa_cnt_yes (by rw [rsP_ix hc]; exact e), nI_1]
      | false => rw [if_neg (by simp), fa_cnt_no (by rw [rsP_ix hc]; exact e)]; simp
    · show f_X5_rests_b14 _ _ _ _ _ (m + 1) _ _ _ = _
      rw [f_X5_rests_b14, if_pos (by rw [nle (by omega) (by omega)]; omega), Nat.succ_mul]
  · show f_X5_rests_b5 _ _ _ _ (m + 1) _ _ = _
    rw [f_X5_rests_b5, if_pos (by rw [nle (by omega) (by omega)]; omega)]
theorem ansE_s {β : Type} {e : Nat → Option β} {r : β} {N k : Nat} (hk : k < N) : ansE e r N (N - k) = (e k).getD (ansE e r N (N - (k + 1))) := by
  obtain ⟨m, hm⟩ : ∃ m, N - k = m + 1 := ⟨N - k - 1, by omega⟩
  rw [hm, ansE, show N - (m + 1) = k by omega, show N - (k + 1) = m by omega]
def rsE (t : Nat → Nat) (R C i : Nat) : Option Int32 := if rsP t R C i then some (nI (6 * (i / C) + i % C)) else none
theorem rsE_ix {t : Nat → Nat} {R C r c : Nat} (hc : c < C) : rsE t R C (r * C + c) = if rst t R C r c then some (nI (6 * r + c)) else none := by
  have h1 : (r * C + c) / C = r := by rw [Nat.mul_comm, Nat.mul_add_div (by omega), Nat.div_eq_of_lt hc]; rfl
  have h2 : (r * C + c) % C = c := by rw [Nat.mul_comm, Nat.mul_add_mod, Nat.mod_eq_of_lt hc]
  unfold rsE
  rw [rsP_ix hc, h1, h2]
theorem f_first5 (hn : n ≤ 260) (ht : ∀ i, i < n → t i < 256 ∧ bytes i = nI (t i) ∧ tape i &&& 255 = nI (t i)) {R C : Nat} (hR : R ≤ 6) (hC : C ≤ 6) (hi : 2 * (R * C) ≤ n) : f_X5_firstRest bytes (nI n) (nI R) (nI C) = some (ansE (rsE t R C) (-2) (R * C) (R * C)) := by
  unfold f_X5_firstRest
  have outer : ∀ m r, r ≤ R → R - r < m → f_X5_firstRest_b2 bytes (nI n) (nI R) (nI C) m (nI r) = some (ansE (rsE t R C) (-2) (R * C) (R * C - r * C)) := by
    intro m
    induction m with
    | zero => intro r _ h; omega
    | succ m ih =>
      intro r hr hm
      rcases Nat.lt_or_ge r R with h | h
      · rw [f_X5_firstRest_b2, if_neg (by rw [nle (by omega) (by omega)]; omega)]
        have ih2 := ih (r + 1) h (by omega)
        rw [← nI_1] at ih2
        revert ih2
        generalize f_X5_firstRest_b2 bytes (nI n) (nI R) (nI C) m = K
        intro ih2
        have inner : ∀ m c, c ≤ C → C - c < m → f_X5_firstRest_b10 bytes (nI n) (nI R) (nI C) K m (nI r) (nI c) = some (ansE (rsE t R C) (-2) (R * C) (R * C - (r * C + c))) := by
          intro m
          induction m with
          | zero => intro c _ h; omega
          | succ m ih =>
            intro c hc hm
            rcases Nat.lt_or_ge c C with h' | h'
            · rw [f_X5_firstRest_b10, if_neg (by rw [nle (by omega) (by omega)]; omega), f_rest5 hn ht hR hC h h' hi, bd1_s, ite_bI, nI_1, ih (c + 1) h' (by omega), ansE_s (ix_lt h h'), rsE_ix h', show r * C + (c + 1) = r * C + c + 1 from rfl, show (6 : Int32) = nI 6 from rfl, pk_mul, nI_add]
              cases rst t R C r c <;> rfl
            · have e : c = C := by omega
              subst e
              rw [f_X5_firstRest_b10, if_pos (by rw [nle (by omega) (by omega)]; omega), ih2, Nat.succ_mul]
        have h9 := inner FU 0 (Nat.zero_le C) (FU_gt (by omega))
        rw [Nat.add_zero] at h9
        exact h9
      · have e : r = R := by omega
        subst e
        rw [f_X5_firstRest_b2, if_pos (by rw [nle (by omega) (by omega)]; omega), Nat.sub_self]; rfl
  have h9 := outer FU 0 (Nat.zero_le R) (FU_gt (by omega))
  rw [Nat.zero_mul, Nat.sub_zero] at h9
  exact h9
theorem f_barg5 (hn : n ≤ 260) (ht : ∀ i, i < n → t i < 256 ∧ bytes i = nI (t i) ∧ tape i &&& 255 = nI (t i)) {N : Nat} (hN : N ≤ 36) (hi : 2 * N ≤ n) : f_X5_bargains bytes (nI n) (nI N) = some (nI (fa_cnt (brg t N) N)) := by
  unfold f_X5_bargains
  refine loopNN (fun m x i => f_X5_bargains_b4 bytes (nI n) (nI N) m x i) (fun r => nI (fa_cnt (brg t N) r)) 0 N (by omega) (by omega) (a0 := (0 : Int32)) (i0 := 0) rfl rfl _ (fun m r _ hr => ?_) (fun m => ?_)
  · show f_X5_bargains_b4 _ _ _ (m + 1) _ _ = f_X5_bargains_b4 _ _ _ m _ _
    rw [f_X5_bargains_b4, if_neg (by rw [nle (by omega) (by omega)]; omega)]
    generalize f_X5_bargains_b4 bytes (nI n) (nI N) m = K
    refine loopNN (fun m x i => f_X5_bargains_b15 bytes (nI n) (nI N) K m (nI (fa_cnt (brg t N) r)) (nI r) x i) (fun c => bI (!allN (fun j => !lft t r j) c)) 0 N (by omega) (by omega) (a0 := (0 : Int32)) (i0 := 0) rfl rfl _ (fun m c _ hc => ?_) (fun m => ?_)
    · show f_X5_bargains_b15 _ _ _ _ (m + 1) _ _ _ _ = f_X5_bargains_b15 _ _ _ _ m _ _ _ _
      rw [f_X5_bargains_b15, if_neg (by rw [nle (by omega) (by omega)]; omega), f_left5 hn ht (by omega) (by omega), bd1_s, ite_bI, ite_bI, allN]
      simp only [f_X5_bargains_b41, f_X5_bargains_b36]
      cases allN (fun j => !lft t r j) c <;> cases lft t r c <;> rfl
    · show f_X5_bargains_b15 _ _ _ _ (m + 1) _ _ _ _ = _
      rw [f_X5_bargains_b15, if_pos (by rw [nle (by omega) (by omega)]; omega), ite_bI]
      simp only [f_X5_bargains_b60]
      cases e : brg t N r with
      | true => rw [fa_cnt_yes e, ← nI_1]; unfold brg at e; rw [e]; rfl
      | false => rw [fa_cnt_no e]; unfold brg at e; rw [e]; simp
  · show f_X5_bargains_b4 _ _ _ (m + 1) _ _ = _
    rw [f_X5_bargains_b4, if_pos (by rw [nle (by omega) (by omega)]; omega)]
end TR
/-- a count from the end -/
def cD (p : Nat → Bool) (N : Nat) : Nat → Nat
  | 0 => 0
  | m + 1 => cD p N m + if p (N - (m + 1)) then 1 else 0
theorem cD_s {p : Nat → Bool} {N k : Nat} (hk : k < N) : cD p N (N - k) = cD p N (N - (k + 1)) + if p k then 1 else 0 := by
  obtain ⟨m, hm⟩ : ∃ m, N - k = m + 1 := ⟨N - k - 1, by omega⟩
  rw [hm, cD, show N - (m + 1) = k by omega, show N - (k + 1) = m by omega]
theorem cD_all {p : Nat → Bool} {N : Nat} : ∀ m, m ≤ N → cD p N m + fa_cnt p (N - m) = fa_cnt p N
  | 0, _ => by rw [cD, Nat.sub_zero, Nat.zero_add]
  | m + 1, h => by
    have ih := cD_all (p := p) (N := N) m (by omega)
    obtain ⟨k, hk⟩ : ∃ k, N - m = k + 1 := ⟨N - m - 1, by omega⟩
    rw [hk, fa_cnt] at ih
    rw [cD, show N - (m + 1) = k by omega]
    omega
theorem cD_N (p : Nat → Bool) (N : Nat) : cD p N N = fa_cnt p N := by
  have h := cD_all (p := p) (N := N) N (Nat.le_refl N)
  rw [Nat.sub_self, fa_cnt] at h
  omega
def trS (t : Nat → Nat) (R C k : Nat) : Int32 × Int32 × Int32 := (nI (cD (rsP t R C) (R * C) (R * C - k)), ansE (rsE t R C) (-2) (R * C) (R * C - k), nI (cD (brg t (R * C)) (R * C) (R * C - k)))
def trA (a3 : Int32) (x : Int32 × Int32 × Int32) : Int32 := if a3 = 0 then x.1 else if a3 = 1 then x.2.1 else x.2.2
set_option maxHeartbeats 4000000 in
theorem pm_treaty {v_t_tape_bytes : Nat → Int32} {x_t_tape_size : Int32} {v_t_rhymes_other : Nat → Int32} {v_t_shelf_dread : Nat → Int32} {v_t_shelf_ink : Nat → Int32} {v_t_shelf_kind : Nat → Int32} {v_t_shelf_salt : Nat → Int32} {v_t_shelf_tries : Nat → Int32} {x_t_shelf_day : Int32} {x_t_shelf_nerve : Int32} {x_t_shelf_pictures : Int32} {x_t_shelf_told : Int32} {x_t_shelf_written : Int32} {x_t_shelf_x : Int32} {v_t_kept_dread : Nat → Int32} {v_t_kept_ink : Nat → Int32} {v_t_kept_kind : Nat → Int32} {v_t_kept_salt : Nat → Int32} {v_t_kept_tries : Nat → Int32} {x_t_kept_day : Int32} {x_t_kept_nerve : Int32} {x_t_kept_pictures : Int32} {x_t_kept_told : Int32} {x_t_kept_written : Int32} {x_t_kept_x : Int32} {v_t_letter_words : Nat → Int32} {x_t_letter_size : Int32} {v_t_law_code : Nat → Int32} {v_t_law_letters : Nat → Int32} {v_t_law_valueFrom : Nat → Int32} {v_t_law_testFrom : Nat → Int32} {v_t_law_testEnd : Nat → Int32} {x_t_law_rules : Int32} {x_t_anyKept : Int32} {v_m_now : Nat → Int32} {v_m_kept : Nat → Int32} {v_m_rhymeOf : Nat → Int32} {v_m_wordAt : Nat → Int32} {x_m_wordMany : Int32} {v_m_tape : Nat → Int32} {x_m_taped : Int32} {v_m_codes : Nat → Int32} {v_m_clauseOf : Nat → Int32} {v_m_codeFrom : Nat → Int32} {v_m_codeHalf : Nat → Int32} {v_m_codeTo : Nat → Int32} {x_m_clauses : Int32} {x_m_isKept : Int32} (hI : Inv v_t_tape_bytes x_t_tape_size v_t_rhymes_other v_t_shelf_dread v_t_shelf_ink v_t_shelf_kind v_t_shelf_salt v_t_shelf_tries x_t_shelf_day x_t_shelf_nerve x_t_shelf_pictures x_t_shelf_told x_t_shelf_written x_t_shelf_x v_t_kept_dread v_t_kept_ink v_t_kept_kind v_t_kept_salt v_t_kept_tries x_t_kept_day x_t_kept_nerve x_t_kept_pictures x_t_kept_told x_t_kept_written x_t_kept_x v_t_letter_words x_t_letter_size v_t_law_code v_t_law_letters v_t_law_valueFrom v_t_law_testFrom v_t_law_testEnd x_t_law_rules x_t_anyKept v_m_now v_m_kept v_m_rhymeOf v_m_wordAt x_m_wordMany v_m_tape x_m_taped v_m_codes v_m_clauseOf v_m_codeFrom v_m_codeHalf v_m_codeTo x_m_clauses x_m_isKept) (a1 : Int32) (a2 : Int32) (a3 : Int32) : ∃ (r : Int32) (o_x_t_tape_size : Int32) (o_x_m_taped : Int32), f_X11_treaty v_t_tape_bytes x_t_tape_size a1 a2 a3 = some (r, o_x_t_tape_size) ∧ f_X12_treaty v_m_tape x_m_taped a1 a2 a3 = some (r, o_x_m_taped) ∧ Inv v_t_tape_bytes o_x_t_tape_size v_t_rhymes_other v_t_shelf_dread v_t_shelf_ink v_t_shelf_kind v_t_shelf_salt v_t_shelf_tries x_t_shelf_day x_t_shelf_nerve x_t_shelf_pictures x_t_shelf_told x_t_shelf_written x_t_shelf_x v_t_kept_dread v_t_kept_ink v_t_kept_kind v_t_kept_salt v_t_kept_tries x_t_kept_day x_t_kept_nerve x_t_kept_pictures x_t_kept_told x_t_kept_written x_t_kept_x v_t_letter_words x_t_letter_size v_t_law_code v_t_law_letters v_t_law_valueFrom v_t_law_testFrom v_t_law_testEnd x_t_law_rules x_t_anyKept v_m_now v_m_kept v_m_rhymeOf v_m_wordAt x_m_wordMany v_m_tape o_x_m_taped v_m_codes v_m_clauseOf v_m_codeFrom v_m_codeHalf v_m_codeTo x_m_clauses x_m_isKept := by
  have hI0 := hI
  obtain ⟨⟨n, t, hn, rfl, rfl, ht⟩, hR, hS, hK, hL, hW⟩ := hI
  by_cases h : a1 < 1 ∨ 6 < a1
  · exact ⟨-1, _, _, by simp [f_X11_treaty, f_X11_treaty_b44, f_within_eq, h, bd1], by simp [f_X12_treaty, f_X12_treaty_b41, f_in_eq, h, bd1], hI0⟩
  by_cases h2 : a2 < 1 ∨ 6 < a2
  · exact ⟨-1, _, _, by simp [f_X11_treaty, f_X11_treaty_b44, f_within_eq, h, h2, bd1], by simp [f_X12_treaty, f_X12_treaty_b41, f_in_eq, h, h2, bd1], hI0⟩
  by_cases h3 : a3 < 0 ∨ 2 < a3
  · exact ⟨-1, _, _, by simp [f_X11_treaty, f_X11_treaty_b44, f_within_eq, h, h2, h3, bd1], by simp [f_X12_treaty, f_X12_treaty_b41, f_in_eq, h, h2, h3, bd1], hI0⟩
  obtain ⟨R, hRr, rfl⟩ := rg_of (n := 6) (a := a1) (by omega) (fun q => h (Or.inl (by rw [fa_lt] at q ⊢; have : (0 : Int32).toInt = 0 := rfl; have : (1 : Int32).toInt = 1 := rfl; omega))) (fun q => h (Or.inr q))
  obtain ⟨C, hC, rfl⟩ := rg_of (n := 6) (a := a2) (by omega) (fun q => h2 (Or.inl (by rw [fa_lt] at q ⊢; have : (0 : Int32).toInt = 0 := rfl; have : (1 : Int32).toInt = 1 := rfl; omega))) (fun q => h2 (Or.inr q))
  have hC0 : 0 < C := by
    rcases Nat.eq_zero_or_pos C with e | e
    · subst e; exact absurd (Or.inl (by decide)) h2
    · exact e
  have hN : R * C ≤ 36 := Nat.mul_le_mul hRr hC
  have e3 : (2 : Int32) * nI R * nI C = nI (2 * (R * C)) := by rw [two_mul_nI, pk_mul, Nat.mul_assoc]
  by_cases hkn : 2 * (R * C) ≤ n
  · have e2 : nI (2 * (R * C)) ≤ nI n := by rw [nle (by omega) (by omega)]; exact hkn
    refine ⟨trA a3 (trS t R C 0), 0, 0, ?_, ?_, RTape.empty, hR, hS, hK, hL, hW⟩
    · unfold f_X11_treaty
      rw [f_within_eq, if_neg h, bd1_s, if_neg one_ne, f_within_eq, if_neg h2, bd1_s, if_neg one_ne, f_within_eq, if_neg h3, bd1_s, if_neg one_ne, e3, f_has9 n _ hn (by omega), if_pos hkn, bd1_s, if_neg one_ne, pk_mul, f_barg5 hn ht hN hkn, bd1_s, f_rests5 hn ht hRr hC hkn, bd1_s, f_first5 hn ht hRr hC hkn, bd1_s]
      unfold trA trS
      rw [Nat.sub_zero, cD_N, cD_N]
      simp only [f_X11_treaty_b94, f_X11_treaty_b96]
      by_cases q0 : a3 = 0
      · subst q0; rfl
      by_cases q2 : a3 = 2
      · subst q2; rfl
      have q1 : a3 = 1 := by
        obtain ⟨k, hk, rfl⟩ := rg_of (n := 2) (by omega) (fun q => h3 (Or.inl q)) (fun q => h3 (Or.inr q))
        rcases (show k = 0 ∨ k = 1 ∨ k = 2 by omega) with rfl | rfl | rfl
        · exact absurd rfl q0
        · rfl
        · exact absurd rfl q2
      subst q1; rfl
    · unfold f_X12_treaty
      rw [f_in_eq, if_neg h, bd1_s, if_neg one_ne, f_in_eq, if_neg h2, bd1_s, if_neg one_ne, f_in_eq, if_neg h3, bd1_s, if_neg one_ne, e3, if_pos e2, pk_mul]
      have hc : ¬ nI C = 0 := nI_ne0 hC0 (by omega)
      refine loopDD (fun m (x : Int32 × Int32 × Int32) i => f_X12_treaty_b65 v_m_tape (nI R) (nI C) a3 m 0 x.1 x.2.1 x.2.2 i) (trS t R C) (R * C) (by omega) (a0 := ((0 : Int32), (-2 : Int32), (0 : Int32))) (i0 := nI (R * C) - 1) rfl (by unfold trS; rw [Nat.sub_self]; rfl) _ (fun m k hk => ?_) (fun m => ?_)
      · show f_X12_treaty_b65 _ _ _ _ (m + 1) _ _ _ _ _ = f_X12_treaty_b65 _ _ _ _ m _ _ _ _ _
        have hrr : k / C < R := by rw [Nat.div_lt_iff_lt_mul hC0]; exact hk
        have hcc : k % C < C := Nat.mod_lt _ hC0
        rw [f_X12_treaty_b65, if_neg (nI_pos (by omega)), dI_n hc, rI_n hc, pk_rem (by omega) hC0 (by omega), pk_div (by omega) hC0 (by omega), f_brg12 hn ht hRr hC hC0 hkn hk, bd1_s]
        have h93 : ∀ (K : Int32 → Int32 → Int32 → Int32 → Int32 → Option (Int32 × Int32)) (l4 l5 l6 : Int32), f_X12_treaty_b93 v_m_tape (nI R) (nI C) a3 K 0 l4 l5 l6 (nI k) = if rst t R C (k / C) (k % C) then K 0 (l4 + 1) (nI (6 * (k / C) + k % C)) l6 (nI k + (-1)) else K 0 l4 l5 l6 (nI k + (-1)) := by
          intro K l4 l5 l6
          unfold f_X12_treaty_b93 f_X12_treaty_b133
          rw [dI_n hc, rI_n hc, pk_rem (by omega) hC0 (by omega), pk_div (by omega) hC0 (by omega), f_rest12 hn ht hRr hC hrr hcc hkn, bd1_s, dI_n hc, rI_n hc, pk_rem (by omega) hC0 (by omega), pk_div (by omega) hC0 (by omega), ite_bI, show (6 : Int32) = nI 6 from rfl, pk_mul, nI_add, Nat.mul_comm (k / C) 6]
        rw [h93, h93, ite_bI]
        unfold trS
        rw [cD_s hk, cD_s hk, ansE_s hk]
        simp only [rsE]
        have er : rsP t R C k = rst t R C (k / C) (k % C) := rfl
        rw [er]
        cases rst t R C (k / C) (k % C) <;> cases brg t (R * C) k <;> simp [nI_1]
      · show f_X12_treaty_b65 _ _ _ _ (m + 1) _ _ _ _ _ = _
        rw [f_X12_treaty_b65, if_pos (by decide)]
        simp only [f_X12_treaty_b160, trA]
        split
        · rfl
        · split <;> rfl
  · have e2 : ¬ nI (2 * (R * C)) ≤ nI n := by rw [nle (by omega) (by omega)]; exact hkn
    exact ⟨-1, _, _, by simp [f_X11_treaty, f_X11_treaty_b44, f_within_eq, h, h2, h3, bd1, e3, f_has9 n (2 * (R * C)) hn (by omega), hkn], by simp [f_X12_treaty, f_X12_treaty_b41, f_in_eq, h, h2, h3, bd1, e3, e2], hI0⟩
