/-! pure: changes -/
theorem mn_nI {a b : Nat} (ha : a < 2 ^ 31) (hb : b < 2 ^ 31) : mnI (nI a) (nI b) = nI (min a b) := by
  unfold mnI
  rw [ite_nlt hb ha]
  split
  · rw [show min a b = b by omega]
  · rw [show min a b = a by omega]
theorem f_min12 {a b : Nat} (ha : a < 2 ^ 31) (hb : b < 2 ^ 31) : f_X12_min (nI a) (nI b) = some (nI (min a b)) := by
  unfold f_X12_min f_X12_min_b10
  rw [ite_nle hb ha]
  split
  · rw [show min a b = b by omega]
  · rw [show min a b = a by omega]
theorem cell_b : ∀ i, i < 48 → mxI 0 (mnI (nI i) 47) = nI i := by decide +kernel
theorem f_cell6 {i b : Nat} (hi : i < 48) (hb : b < 8) : f_X6_cell (nI i) (nI b) = some (nI (8 * i + b)) := by
  unfold f_X6_cell
  rw [f_bounded_eq, cell_b i hi, bd1_s, and7 b hb, show (8 : Int32) = nI 8 from rfl, pk_mul, nI_add, Nat.mul_comm i 8]
theorem f_any12 {dread kind salt : Nat → Int32} {nerve : Int32} {other now rhymeOf : Nat → Int32} {g : Nat → Nat} (h : SQ dread kind salt nerve other now rhymeOf g) {T : Nat} (hnn : ∀ b, b < 8 → now b = nI (T / 2 ^ b % 2)) {w : Nat} (hw : w < 16) : f_X12_anyBears now rhymeOf (nI w) = some (bI (!allN (fun b => !(tl T b && bear now g b w)) 8)) := by
  unfold f_X12_anyBears
  rw [loopA (fun n i => f_X12_anyBears_b2 now rhymeOf (nI w) n i) (fun b => !(tl T b && bear now g b w)) 8 (some 0) (some 1) (by omega) (fun n k hk hp => ?_) (fun n k hk hp => ?_) (fun n => ?_)]
  · cases allN (fun b => !(tl T b && bear now g b w)) 8 <;> rfl
  · show f_X12_anyBears_b2 _ _ _ (n + 1) _ = f_X12_anyBears_b2 _ _ _ n _
    rw [f_X12_anyBears_b2, if_neg (ge8 hk), f_isTold12 hnn, bd1_s, tI_tl hk, f_bears12 h hk hw, bd1_s, ite_bI, ite_bI]
    simp only [f_X12_anyBears_b27]
    revert hp
    cases tl T k <;> cases bear now g k w <;> simp
  · show f_X12_anyBears_b2 _ _ _ (n + 1) _ = _
    rw [f_X12_anyBears_b2, if_neg (ge8 hk), f_isTold12 hnn, bd1_s, tI_tl hk, f_bears12 h hk hw, bd1_s, ite_bI, ite_bI]
    revert hp
    cases tl T k <;> cases bear now g k w <;> simp
  · show f_X12_anyBears_b2 _ _ _ (n + 1) _ = _
    rw [f_X12_anyBears_b2, if_pos (by decide)]
theorem bits_0 {p : Nat → Bool} : (bitsI p 8 = 0) = (allN (fun b => !p b) 8 = true) := by
  apply propext
  rw [allN_iff]
  constructor
  · intro h b hb
    have h2 := bt_bitsI (p := p) (show b < 32 by omega) 8 (by omega)
    rw [h, b_0, decide_eq_true hb, Bool.true_and] at h2
    rw [← h2]; rfl
  · intro h
    apply b_ext
    intro i hi
    rw [bt_bitsI hi 8 (by omega), b_0]
    by_cases h8 : i < 8
    · have := h i h8
      rw [decide_eq_true h8, Bool.true_and]
      revert this; cases p i <;> simp
    · rw [decide_eq_false h8, Bool.false_and]
section CH
variable {n : Nat} {br : Nat → Nat → Bool} {w : Nat → Nat} {bearing words wordAt now rhymeOf : Nat → Int32}
/-- what the planner reads of the letter -/
def CB (n : Nat) (br : Nat → Nat → Bool) (bearing words : Nat → Int32) : Prop := ∀ i, i < n → f_X6_bearersAt bearing words (nI i) = some (bitsI (br i) 8)
/-- what the reference reads -/
def RB (n : Nat) (br : Nat → Nat → Bool) (now rhymeOf wordAt : Nat → Int32) : Prop := ∀ i, i < n → (f_X12_anyBears now rhymeOf (wordAt i) = some (bI (smB br i))) ∧ ∀ b, b < 8 → ∀ (A B : Option ((Nat → Int32) × Int32)), bd1 (f_X12_isTold now (nI b)) (fun r2 => if r2 = 0 then A else bd1 (f_X12_bears now rhymeOf (nI b) (wordAt i)) (fun r4 => if r4 = 0 then A else B)) = if br i b then B else A
/-- cells of the class -/
def TC (n : Nat) (br : Nat → Nat → Bool) (v : Nat → Int32) : Nat → Nat → Int32
  | 0 => v
  | m + 1 => if smB br (n - (m + 1)) then rfl_ (TC n br v m) (8 * (n - (m + 1))) 8 (fun b => nI (cv n br (m + 1) b)) else TC n br v m
theorem TC_at {v : Nat → Int32} : ∀ m, m ≤ n → ∀ j b, 1 ≤ j → j ≤ m → b < 8 → smB br (n - j) = true → TC n br v m (8 * (n - j) + b) = nI (cv n br j b)
  | 0, _, j, b, h1, h2, _, _ => by omega
  | m + 1, hm, j, b, h1, h2, hb, hs => by
    rw [TC]
    by_cases e : j = m + 1
    · subst e
      rw [if_pos hs, rfl_in (by omega) (by omega), show 8 * (n - (m + 1)) + b - 8 * (n - (m + 1)) = b by omega]
    · have ih := TC_at (v := v) m (by omega) j b h1 (by omega) hb hs
      split
      · rw [rfl_out (by omega)]; exact ih
      · exact ih
def pcI (n : Nat) (br : Nat → Nat → Bool) : Nat → Int32
  | 0 => 0
  | m + 1 => if smB br (n - (m + 1)) then pcI n br m else pcI n br m + 1
def nxI (n : Nat) (br : Nat → Nat → Bool) (m : Nat) : Int32 := if nxM n br m = 0 then -1 else nI (n - nxM n br m)
theorem f_cost6 (hn : n ≤ 48) (hB : CB n br bearing words) {v : Nat → Int32} {m b : Nat} (hm : m + 1 ≤ n) (hb : b < 8) (e : smB br (n - (m + 1)) = true) {tc : Nat → Int32} (htc : ∀ j, 8 * (n - (m + 1)) + 8 ≤ j → tc j = TC n br v m j) : f_X6_costAt bearing words tc (nI (rL n br m)) (nI (n - (m + 1))) (nI b) (nxI n br m) = some (nI (cv n br (m + 1) b)) := by
  have hl := rL_le n br m
  obtain ⟨x1, x2, x3⟩ := nxM_ok n br m
  unfold f_X6_costAt f_X6_costAt_b44 cv nxI
  rw [hB _ (by omega), bd1_s, sh1 _ (by omega), bt_bitsI (by omega) 8 (by omega), decide_eq_true hb, Bool.true_and, ite_bI]
  cases ec : br (n - (m + 1)) b with
  | false => rfl
  | true =>
    rw [if_pos rfl, if_pos rfl, rD_s, e, ec, if_pos rfl, if_pos rfl, x2 b]
    by_cases h0 : nxM n br m = 0
    · rw [if_pos h0, if_pos rfl, h0, rD]
      rw [show min 0 (rL n br m + 1) = 0 by omega]; rfl
    · have hs : smB br (n - nxM n br m) = true := by rcases x3 with x3 | x3; exact absurd x3 h0; exact x3
      rw [if_neg h0, if_neg (fun q => by have h9 := nI_pos (n := n - nxM n br m) (by omega); rw [q] at h9; exact h9 (by decide)), f_cell6 (by omega) hb, bd1_s, gI_n (by omega) (by omega), htc _ (by omega), TC_at m (by omega) (nxM n br m) b (by omega) x1 hb hs, nI_1, mn_nI]
      · unfold cv
        cases ep : br (n - nxM n br m) b with
        | true => rfl
        | false =>
          obtain ⟨m', hm'⟩ : ∃ m', nxM n br m = m' + 1 := ⟨nxM n br m - 1, by omega⟩
          rw [if_neg (by decide), hm', rD_s, ← hm', hs, ep, if_pos rfl, if_neg (by decide), show min 1000 (rL n br m + 1) = min 1000000 (rL n br m + 1) by omega]
      · have : cv n br (nxM n br m) b ≤ 1000000 := by
          have hv : ∀ j, rD n br j b ≤ 1000000 := by
            intro j
            induction j with
            | zero => rw [rD]; omega
            | succ j ih => rw [rD_s]; split <;> (try split) <;> omega
          have := hv (nxM n br m)
          unfold cv; split <;> omega
        omega
      · omega
theorem f_reck6 (hn : n ≤ 48) (hB : CB n br bearing words) (v : Nat → Int32) (c p : Int32) : f_X6_reckonChanges bearing words v c p (nI n) = some (TC n br v n, nI (rL n br n), pcI n br n) := by
  unfold f_X6_reckonChanges
  refine loopDD (fun m (x : (Nat → Int32) × Int32 × Int32 × Int32) i => f_X6_reckonChanges_b22 bearing words m x.1 x.2.1 x.2.2.1 x.2.2.2 i) (fun k => (TC n br v (n - k), nI (rL n br (n - k)), pcI n br (n - k), nxI n br (n - k))) n (by omega) (a0 := (v, (0 : Int32), (0 : Int32), (-1 : Int32))) (i0 := nI n - 1) rfl (by rw [Nat.sub_self]; have h0 : rL n br 0 = 0 := Nat.le_zero.mp (rL_le n br 0); rw [h0]; rfl) _ (fun m k hk => ?_) (fun m => ?_)
  · show f_X6_reckonChanges_b22 _ _ (m + 1) _ _ _ _ _ = f_X6_reckonChanges_b22 _ _ m _ _ _ _ _
    obtain ⟨j, hj⟩ : ∃ j, n - k = j + 1 := ⟨n - k - 1, by omega⟩
    have ek : n - (j + 1) = k := by omega
    rw [show n - (k + 1) = j by omega, hj]
    rw [f_X6_reckonChanges_b22, if_neg (nI_pos (by omega)), hB k hk, bd1_s]
    generalize f_X6_reckonChanges_b22 bearing words m = K
    cases e : smB br k with
    | false =>
      have e0 : bitsI (br k) 8 = 0 := by rw [bits_0]; unfold smB at e; revert e; cases allN (fun b => !br k b) 8 <;> simp
      rw [if_pos e0]
      have r1 : rL n br (j + 1) = rL n br j := minF_cong 8 (fun b _ => by rw [rD_s, ek, e, if_neg (by decide)])
      have n1 : nxM n br (j + 1) = nxM n br j := by rw [nxM, ek, e, if_neg (by decide)]
      unfold f_X6_reckonChanges_b104
      rw [TC, pcI, ek, e, if_neg (by decide), if_neg (by decide), r1]
      unfold nxI
      rw [n1]
    | true =>
      have e0 : ¬ bitsI (br k) 8 = 0 := by rw [bits_0]; unfold smB at e; revert e; cases allN (fun b => !br k b) 8 <;> simp
      rw [if_neg e0]
      have n1 : nxM n br (j + 1) = j + 1 := by rw [nxM, ek, e, if_pos rfl]
      have e' : smB br (n - (j + 1)) = true := by rw [ek]; exact e
      have hcm := cv_min n br (m := j) (by omega) e'
      have hn1 : nxI n br (j + 1) = nI k := by unfold nxI; rw [n1, if_neg (by omega), ek]
      rw [hn1, ← hcm, TC, pcI, e', if_pos rfl, if_pos rfl, ek]
      refine loopNN (fun m (x : (Nat → Int32) × Int32) i => f_X6_reckonChanges_b54 bearing words K m x.1 (nI (rL n br j)) (pcI n br j) (nxI n br j) (nI k) x.2 i) (fun b => (rfl_ (TC n br v j) (8 * k) b (fun b => nI (cv n br (j + 1) b)), nI (minF 1000 (cv n br (j + 1)) b))) 0 8 (by omega) (by omega) (a0 := (TC n br v j, (1000 : Int32))) (i0 := 0) rfl (by rw [rfl_0]; rfl) _ (fun m b _ hb => ?_) (fun m => ?_)
      · show f_X6_reckonChanges_b54 _ _ _ (m + 1) _ _ _ _ _ _ _ = f_X6_reckonChanges_b54 _ _ _ m _ _ _ _ _ _ _
        have hcst := f_cost6 hn hB (v := v) (m := j) (b := b) (by omega) hb e' (tc := rfl_ (TC n br v j) (8 * k) b (fun b => nI (cv n br (j + 1) b))) (fun q hq => rfl_out (by omega))
        rw [ek] at hcst
        have hcv : cv n br (j + 1) b ≤ 1000 := by
          unfold cv
          split
          · have hl := rL_le n br j
            rename_i hbr
            rw [rD_s, e', hbr, if_pos rfl, if_pos rfl]; omega
          · omega
        have hmn := (minF_le (z := 1000) (f := cv n br (j + 1)) b).1
        rw [f_X6_reckonChanges_b54, if_neg (ge8 hb), hcst, bd1_s, f_cell6 (by omega) hb, bd1_s, sI_n (by omega) (by omega), mn_nI (by omega) (by omega), minF]
        rw [← rfl_s]
      · show f_X6_reckonChanges_b54 _ _ _ (m + 1) _ _ _ _ _ _ _ = _
        rw [f_X6_reckonChanges_b54, if_pos (by decide)]
        unfold f_X6_reckonChanges_b104
        rfl
  · show f_X6_reckonChanges_b22 _ _ (m + 1) _ _ _ _ _ = _
    rw [f_X6_reckonChanges_b22, if_pos (by decide), Nat.sub_zero]
/-- the row of bottles -/
def BT (n : Nat) (br : Nat → Nat → Bool) (v : Nat → Int32) : Nat → Nat → Int32
  | 0 => v
  | i + 1 => upd (BT n br v i) i (if smB br i then nI (fw n br (i + 1)) else -2)
def cuI (c : Nat) : Int32 := if c = 8 then -1 else nI c
theorem cuI_m1 {c : Nat} (hc : c ≤ 8) : (cuI c = -1) = (c = 8) := by
  unfold cuI
  by_cases h : c = 8
  · rw [if_pos h]; exact propext ⟨fun _ => h, fun _ => rfl⟩
  · rw [if_neg h]; exact propext ⟨fun q => by have h9 := nI_pos (n := c) (by omega); rw [q] at h9; exact absurd (by decide) h9, fun q => absurd q h⟩
theorem cuI_eq {c b : Nat} (hc : c ≤ 8) (hb : b < 8) : (cuI c = nI b) = (c = b) := by
  unfold cuI
  by_cases h : c = 8
  · rw [if_pos h]
    exact propext ⟨fun q => by have h9 := nI_pos (n := b) (by omega); rw [← q] at h9; exact absurd (by decide) h9, fun q => by omega⟩
  · rw [if_neg h, neq (by omega) (by omega)]
theorem ansE_at {β : Type} {p : Nat → Bool} {F : Nat → β} {r : β} {N j : Nat} (hj : j < N) (hp : p j = true) (hno : ∀ i, i < j → p i = false) : ansE (fun i => if p i then some (F i) else none) r N N = F j := by
  have key : ∀ d k, k + d = j → ansE (fun i => if p i then some (F i) else none) r N (N - k) = F j := by
    intro d
    induction d with
    | zero => intro k hk; rw [ansE_s (by omega), show k = j by omega, hp, if_pos rfl]; rfl
    | succ d ih =>
      intro k hk
      rw [ansE_s (by omega), hno k (by omega), if_neg (by decide)]
      exact ih (k + 1) (by omega)
  have := key j 0 (by omega)
  rw [Nat.sub_zero] at this
  exact this
theorem f_choose6 (hn : n ≤ 48) (hB : CB n br bearing words) (v tcv : Nat → Int32) : f_X6_chooseBottles bearing v words (TC n br tcv n) (nI (rL n br n)) (nI n) = some (BT n br v n) := by
  unfold f_X6_chooseBottles
  refine loopNN (fun m (x : (Nat → Int32) × Int32 × Int32) i => f_X6_chooseBottles_b9 bearing words (TC n br tcv n) (nI n) m x.1 x.2.1 x.2.2 i) (fun i => (BT n br v i, nI (fR n br i), cuI (fw n br i))) 0 n (by omega) (by omega) (a0 := (v, nI (rL n br n), (-1 : Int32))) (i0 := 0) rfl (by unfold fR; rw [fw, fc_8, Nat.sub_zero]; rfl) _ (fun m i _ hi => ?_) (fun m => ?_)
  · show f_X6_chooseBottles_b9 _ _ _ _ (m + 1) _ _ _ _ = f_X6_chooseBottles_b9 _ _ _ _ m _ _ _ _
    rw [f_X6_chooseBottles_b9, if_neg (by rw [nle (by omega) (by omega)]; omega), if_neg (by rw [show (48 : Int32) = nI 48 from rfl, nle (by omega) (by omega)]; omega), sI_n (by omega) (by omega), hB i hi, bd1_s]
    generalize f_X6_chooseBottles_b9 bearing words (TC n br tcv n) (nI n) m = K
    cases e : smB br i with
    | false =>
      have e0 : bitsI (br i) 8 = 0 := by rw [bits_0]; unfold smB at e; revert e; cases allN (fun b => !br i b) 8 <;> simp
      rw [if_pos e0, fR_skip n br hi e, BT, e, if_neg (by decide), show fw n br (i + 1) = fw n br i by rw [fw, e, if_neg (by decide)]]
      rfl
    | true =>
      have e0 : ¬ bitsI (br i) 8 = 0 := by rw [bits_0]; unfold smB at e; revert e; cases allN (fun b => !br i b) 8 <;> simp
      obtain ⟨s1, s2, s3, s4, s5⟩ := fw_step n br hn hi e
      have hR := fR_le n br (i := i) hn
      have hcw := fw_le n br hn i (by omega)
      have hij : n - (n - i) = i := by omega
      have hcell : ∀ b, b < 8 → TC n br tcv n (8 * i + b) = nI (cv n br (n - i) b) := fun b hb => by
        have := TC_at (n := n) (br := br) (v := tcv) n (Nat.le_refl n) (n - i) b (by omega) (by omega) hb (by rw [hij]; exact e)
        rw [hij] at this
        exact this
      have hcvd : ∀ b, (br i b = true → cv n br (n - i) b = rD n br (n - i) b) ∧ (br i b = false → cv n br (n - i) b = 1000 ∧ rD n br (n - i) b = 1000000) := fun b => by
        unfold cv
        rw [hij]
        constructor
        · intro h; rw [h, if_pos rfl]
        · intro h
          obtain ⟨m', hm'⟩ : ∃ m', n - i = m' + 1 := ⟨n - i - 1, by omega⟩
          rw [h, if_neg (by decide), hm', rD_s, show n - (m' + 1) = i by omega, e, h, if_pos rfl, if_neg (by decide)]
          exact ⟨rfl, rfl⟩
      have hpq : ∀ b, (fc (cv n br (n - i)) (fw n br i) b = fR n br i) ↔ (fc (rD n br (n - i)) (fw n br i) b = fR n br i) := fun b => by
        cases hb : br i b with
        | true => unfold fc; rw [(hcvd b).1 hb]
        | false =>
          unfold fc
          rw [((hcvd b).2 hb).1, ((hcvd b).2 hb).2]
          constructor <;> intro h <;> omega
      rw [if_neg e0]
      have hfin : ansE (fun b => if decide (fc (cv n br (n - i)) (fw n br i) b = fR n br i) then some (nI b) else none) (-2) 8 8 = nI (fw n br (i + 1)) := ansE_at (F := nI) s1 (decide_eq_true ((hpq _).mpr s4)) (fun b hb => decide_eq_false (fun q => s5 b hb ((hpq b).mp q)))
      refine loopDD (fun m x b => f_X6_chooseBottles_b49 (TC n br tcv n) K m x (nI (fR n br i)) (cuI (fw n br i)) (nI i) b) (fun b => upd (BT n br v i) i (ansE (fun b => if decide (fc (cv n br (n - i)) (fw n br i) b = fR n br i) then some (nI b) else none) (-2) 8 (8 - b))) 8 (by omega) (a0 := upd (BT n br v i) i (-2)) (i0 := 7) (by decide) rfl _ (fun m b hb => ?_) (fun m => ?_)
      · show f_X6_chooseBottles_b49 _ _ (m + 1) _ _ _ _ _ = f_X6_chooseBottles_b49 _ _ m _ _ _ _ _
        rw [f_X6_chooseBottles_b49, if_neg (nI_pos (by omega)), ansE_s hb]
        have hcv31 : cv n br (n - i) b ≤ 1000 := by
          cases hbr : br i b with
          | true =>
            rw [(hcvd b).1 hbr]
            obtain ⟨m', hm'⟩ : ∃ m', n - i = m' + 1 := ⟨n - i - 1, by omega⟩
            have hl := rL_le n br m'
            rw [hm', rD_s, show n - (m' + 1) = i by omega, e, hbr, if_pos rfl, if_pos rfl]; omega
          | false => rw [((hcvd b).2 hbr).1]; omega
        have h70 : ∀ s : Nat, s ≤ 1 → ∀ (X : Nat → Int32), f_X6_chooseBottles_b70 (TC n br tcv n) K (f_X6_chooseBottles_b49 (TC n br tcv n) K m) X (nI s) (nI (fR n br i)) (cuI (fw n br i)) (nI i) (nI b) = f_X6_chooseBottles_b49 (TC n br tcv n) K m (if s + cv n br (n - i) b = fR n br i then upd X i (nI b) else X) (nI (fR n br i)) (cuI (fw n br i)) (nI i) (nI b + (-1)) := by
          intro s hs X
          unfold f_X6_chooseBottles_b70 f_X6_chooseBottles_b98
          rw [f_cell6 (by omega) hb, bd1_s, gI_n (by omega) (by omega), hcell b hb, nI_add, ite_neq (by omega) (by omega), sI_n (by omega) (by omega)]
          split <;> rfl
        have hs : fc (cv n br (n - i)) (fw n br i) b = (if fw n br i = 8 ∨ fw n br i = b then 0 else 1) + cv n br (n - i) b := by unfold fc; omega
        have hup : ∀ (c : Prop) [Decidable c] (y : Int32), (if c then upd (upd (BT n br v i) i y) i (nI b) else upd (BT n br v i) i y) = upd (BT n br v i) i ((if decide c then some (nI b) else none).getD y) := by
          intro c _ y
          by_cases hc : c
          · rw [if_pos hc, decide_eq_true hc, if_pos rfl, fa_upd_twice]; rfl
          · rw [if_neg hc, decide_eq_false hc, if_neg (by decide)]; rfl
        rw [hs]
        by_cases c8 : fw n br i = 8
        · rw [if_pos (by rw [cuI_m1 hcw]; exact c8), if_pos (Or.inl c8)]
          unfold f_X6_chooseBottles_b65
          rw [show (0 : Int32) = nI 0 from rfl, h70 0 (by omega), hup]
        · rw [if_neg (by rw [cuI_m1 hcw]; exact c8)]
          by_cases cb : fw n br i = b
          · rw [if_pos (by rw [cuI_eq hcw hb]; exact cb), if_pos (Or.inr cb)]
            unfold f_X6_chooseBottles_b65
            rw [show (0 : Int32) = nI 0 from rfl, h70 0 (by omega), hup]
          · rw [if_neg (by rw [cuI_eq hcw hb]; exact cb), if_neg (show ¬ (fw n br i = 8 ∨ fw n br i = b) by omega)]
            refine Eq.trans (h70 1 (by omega) _) ?_
            rw [hup]
      · show f_X6_chooseBottles_b49 _ _ (m + 1) _ _ _ _ _ = _
        have hcu : cuI (fw n br (i + 1)) = nI (fw n br (i + 1)) := by unfold cuI; rw [if_neg (by omega)]
        rw [f_X6_chooseBottles_b49, if_pos (by decide), Nat.sub_zero, hfin, gI_n (by omega) (by omega), pk_us, f_cell6 (by omega) s1, bd1_s, gI_n (by omega) (by omega), hcell _ s1, (hcvd _).1 s2, s3]
        unfold f_X6_chooseBottles_b122
        rw [hcu, BT, e, if_pos rfl]
  · show f_X6_chooseBottles_b9 _ _ _ _ (m + 1) _ _ _ _ = _
    rw [f_X6_chooseBottles_b9, if_pos (by rw [nle (by omega) (by omega)]; omega)]; rfl
/-- rows of the reference -/
def LF (n : Nat) (br : Nat → Nat → Bool) (v : Nat → Int32) : Nat → Nat → Int32
  | 0 => rfl_ v (8 * n) 8 (fun _ => 0)
  | m + 1 => rfl_ (LF n br v m) (8 * (n - (m + 1))) 8 (fun b => nI (rD n br (m + 1) b))
theorem LF_at {v : Nat → Int32} : ∀ m, m ≤ n → ∀ j b, j ≤ m → b < 8 → LF n br v m (8 * (n - j) + b) = nI (rD n br j b)
  | 0, _, j, b, h2, hb => by
    have e : j = 0 := by omega
    subst e
    rw [LF, Nat.sub_zero, rfl_in (by omega) (by omega)]; rfl
  | m + 1, hm, j, b, h2, hb => by
    rw [LF]
    by_cases e : j = m + 1
    · subst e
      rw [rfl_in (by omega) (by omega), show 8 * (n - (m + 1)) + b - 8 * (n - (m + 1)) = b by omega]
    · rw [rfl_out (by omega)]
      exact LF_at m (by omega) j b (by omega) hb
theorem rD_31 (m b : Nat) : rD n br m b ≤ 1000000 := by
  induction m with
  | zero => rw [rD]; omega
  | succ j ih => rw [rD_s]; split <;> (try split) <;> omega
theorem f_least12 {v : Nat → Int32} {i m : Nat} (hi : i ≤ 48) (h : ∀ b, b < 8 → v (8 * i + b) = nI (rD n br m b)) : f_X12_leastAt v (nI i) = some (nI (rL n br m)) := by
  unfold f_X12_leastAt rL
  refine loopNN (fun q x b => f_X12_leastAt_b6 v (nI i) q x b) (fun b => nI (minF 1000000 (rD n br m) b)) 0 8 (by omega) (by omega) (a0 := (1000000 : Int32)) (i0 := 0) rfl rfl _ (fun q b _ hb => ?_) (fun q => ?_)
  · show f_X12_leastAt_b6 _ _ (q + 1) _ _ = f_X12_leastAt_b6 _ _ q _ _
    have h1 := rD_31 (n := n) (br := br) m b
    have h2 := (minF_le (z := 1000000) (f := rD n br m) b).1
    rw [f_X12_leastAt_b6, if_neg (ge8 hb), show (8 : Int32) = nI 8 from rfl, pk_mul, nI_add, gI_n (by omega) (by omega), h b hb, f_min12 (by omega) (by omega), bd1_s, minF]
  · show f_X12_leastAt_b6 _ _ (q + 1) _ _ = _
    rw [f_X12_leastAt_b6, if_pos (by decide)]
theorem f_lays12 (hn : n ≤ 48) (hB : RB n br now rhymeOf wordAt) (v : Nat → Int32) (x : Int32) : f_X12_laysChanges v now rhymeOf wordAt x (nI n) = some (LF n br v n, pcI n br n) := by
  unfold f_X12_laysChanges
  refine loopNN (fun q x b => f_X12_laysChanges_b7 now rhymeOf wordAt (nI n) q x 0 b) (fun b => rfl_ v (8 * n) b (fun _ => 0)) 0 8 (by omega) (by omega) (a0 := v) (i0 := 0) rfl (rfl_0 _ _ _) _ (fun q b _ hb => ?_) (fun q => ?_)
  · show f_X12_laysChanges_b7 _ _ _ _ (q + 1) _ _ _ = f_X12_laysChanges_b7 _ _ _ _ q _ _ _
    rw [f_X12_laysChanges_b7, if_neg (ge8 hb), show (8 : Int32) = nI 8 from rfl, pk_mul, nI_add, sI_n (by omega) (by omega), rfl_s v (8 * n) b (fun _ => 0)]
  · show f_X12_laysChanges_b7 _ _ _ _ (q + 1) _ _ _ = _
    rw [f_X12_laysChanges_b7, if_pos (by decide)]
    refine loopDD (fun m (x : (Nat → Int32) × Int32) i => f_X12_laysChanges_b41 now rhymeOf wordAt m x.1 x.2 i) (fun k => (LF n br v (n - k), pcI n br (n - k))) n (by omega) (a0 := (rfl_ v (8 * n) 8 (fun _ => 0), (0 : Int32))) (i0 := nI n - 1) rfl (by rw [Nat.sub_self]; rfl) _ (fun m k hk => ?_) (fun m => ?_)
    · show f_X12_laysChanges_b41 _ _ _ (m + 1) _ _ _ = f_X12_laysChanges_b41 _ _ _ m _ _ _
      obtain ⟨j, hj⟩ : ∃ j, n - k = j + 1 := ⟨n - k - 1, by omega⟩
      have ek : n - (j + 1) = k := by omega
      rw [show n - (k + 1) = j by omega, hj]
      obtain ⟨hb1, hb2⟩ := hB k hk
      rw [f_X12_laysChanges_b41, if_neg (nI_pos (by omega)), gI_n (by omega) (by omega), hb1, bd1_s, ite_bI]
      generalize f_X12_laysChanges_b41 now rhymeOf wordAt m = K
      have hpc : pcI n br (j + 1) = if smB br k then pcI n br j else pcI n br j + 1 := by rw [pcI, ek]
      have h70 : ∀ y, f_X12_laysChanges_b70 now rhymeOf wordAt K (LF n br v j) y (nI k) (bI (smB br k)) = K (LF n br v (j + 1)) y (nI k + (-1)) := by
        intro y
        unfold f_X12_laysChanges_b70
        rw [nI_1, f_least12 (m := j) (by omega) (fun b hb => by have h5 := LF_at (n := n) (br := br) (v := v) j (by omega) j b (Nat.le_refl j) hb; rw [show n - j = k + 1 by omega] at h5; exact h5), bd1_s, LF, ek]
        refine loopNN (fun m x b => f_X12_laysChanges_b81 now rhymeOf wordAt K m x y (nI k) (bI (smB br k)) (nI (rL n br j)) b) (fun b => rfl_ (LF n br v j) (8 * k) b (fun b => nI (rD n br (j + 1) b))) 0 8 (by omega) (by omega) (a0 := LF n br v j) (i0 := 0) rfl (rfl_0 _ _ _) _ (fun m b _ hb => ?_) (fun m => ?_)
        · show f_X12_laysChanges_b81 _ _ _ _ (m + 1) _ _ _ _ _ _ = f_X12_laysChanges_b81 _ _ _ _ m _ _ _ _ _ _
          have h5 := LF_at (n := n) (br := br) (v := v) j (by omega) j b (Nat.le_refl j) hb
          rw [show n - j = k + 1 by omega] at h5
          have h1 := rD_31 (n := n) (br := br) j b
          have hl := rL_le n br j
          rw [f_X12_laysChanges_b81, if_neg (ge8 hb), nI_1, show (8 : Int32) = nI 8 from rfl, pk_mul, nI_add, gI_n (by omega) (by omega), rfl_out (by omega), h5, gI_n (by omega) (by omega), hb2 b hb, ite_bI, ← rfl_s]
          simp only [f_X12_laysChanges_b132, f_X12_laysChanges_b136, f_X12_laysChanges_b137, f_X12_laysChanges_b178]
          rw [show (8 : Int32) = nI 8 from rfl, pk_mul, nI_add, nI_1 (rL n br j), f_min12 (by omega) (by omega), bd1_s, sI_n (by omega) (by omega), sI_n (by omega) (by omega), sI_n (by omega) (by omega), rD_s, ek]
          cases smB br k with
          | false => rfl
          | true =>
            cases br k b with
            | true => rfl
            | false => rfl
        · show f_X12_laysChanges_b81 _ _ _ _ (m + 1) _ _ _ _ _ _ = _
          rw [f_X12_laysChanges_b81, if_pos (by decide)]
      rw [h70, h70, hpc]
      cases smB br k <;> rfl
    · show f_X12_laysChanges_b41 _ _ _ (m + 1) _ _ _ = _
      rw [f_X12_laysChanges_b41, if_pos (by decide), Nat.sub_zero]
/-- the first least as the reference finds it -/
def agI (f : Nat → Nat) : Nat → Int32
  | 0 => -1
  | k + 1 => if f k < minF 1000000 f k then nI k else agI f k
theorem agI_ok {f : Nat → Nat} : ∀ k, minF 1000000 f k < 1000000 → ∃ j, j < k ∧ agI f k = nI j ∧ f j = minF 1000000 f k ∧ ∀ i, i < j → f i ≠ minF 1000000 f k
  | 0, h => by rw [minF] at h; omega
  | k + 1, h => by
    rw [minF] at h
    obtain ⟨h1, h2, h3⟩ := minF_le (z := 1000000) (f := f) k
    rw [agI, minF]
    by_cases c : f k < minF 1000000 f k
    · rw [if_pos c, Nat.min_eq_right (Nat.le_of_lt c)]
      exact ⟨k, Nat.lt_succ_self k, rfl, rfl, fun i hi e => by have := h2 i hi; omega⟩
    · rw [if_neg c, Nat.min_eq_left (Nat.le_of_not_lt c)]
      obtain ⟨j, q1, q2, q3, q4⟩ := agI_ok (f := f) k (by omega)
      exact ⟨j, by omega, q2, q3, q4⟩
theorem f_row12 (hn : n ≤ 48) (hB : RB n br now rhymeOf wordAt) (v lv : Nat → Int32) (x : Int32) : f_X12_laysRow (LF n br lv n) now rhymeOf v wordAt x (nI n) = some (BT n br v n, nI (rL n br n)) := by
  rw [← fg_end n br hn]
  unfold f_X12_laysRow
  refine loopNN (fun m (x : (Nat → Int32) × Int32 × Int32) i => f_X12_laysRow_b9 (LF n br lv n) now rhymeOf wordAt (nI n) m x.1 x.2.1 x.2.2 i) (fun i => (BT n br v i, nI (fg n br i), cuI (fw n br i))) 0 n (by omega) (by omega) (a0 := (v, (0 : Int32), (-1 : Int32))) (i0 := 0) rfl rfl _ (fun m i _ hi => ?_) (fun m => ?_)
  · show f_X12_laysRow_b9 _ _ _ _ _ (m + 1) _ _ _ _ = f_X12_laysRow_b9 _ _ _ _ _ m _ _ _ _
    obtain ⟨hb1, hb2⟩ := hB i hi
    rw [f_X12_laysRow_b9, if_neg (by rw [nle (by omega) (by omega)]; omega), sI_n (by omega) (by omega), gI_n (by omega) (by omega), hb1, bd1_s, ite_bI]
    generalize f_X12_laysRow_b9 (LF n br lv n) now rhymeOf wordAt (nI n) m = K
    cases e : smB br i with
    | false =>
      rw [if_neg (by decide), BT, e, if_neg (by decide), show fw n br (i + 1) = fw n br i by rw [fw, e, if_neg (by decide)], show fg n br (i + 1) = fg n br i by rw [fg, e, if_neg (by decide)]]
      rfl
    | true =>
      obtain ⟨s1, s2, s3, s4, s5⟩ := fw_step n br hn hi e
      have hR := fR_le n br (i := i) hn
      have hcw := fw_le n br hn i (by omega)
      have hcell : ∀ b, b < 8 → LF n br lv n (8 * i + b) = nI (rD n br (n - i) b) := fun b hb => by
        have := LF_at (n := n) (br := br) (v := lv) n (Nat.le_refl n) (n - i) b (by omega) hb
        rw [show n - (n - i) = i by omega] at this
        exact this
      have hfin : agI (fc (rD n br (n - i)) (fw n br i)) 8 = nI (fw n br (i + 1)) := by
        have hlt : minF 1000000 (fc (rD n br (n - i)) (fw n br i)) 8 < 1000000 := by unfold fR at hR; omega
        obtain ⟨j, q1, q2, q3, q4⟩ := agI_ok (f := fc (rD n br (n - i)) (fw n br i)) 8 hlt
        have : j = fw n br (i + 1) := by
          rcases Nat.lt_trichotomy j (fw n br (i + 1)) with q | q | q
          · exact absurd q3 (s5 j q)
          · exact q
          · exact absurd s4 (q4 _ q)
        rw [q2, this]
      rw [if_pos rfl]
      refine loopNN (fun m (x : Int32 × Int32) b => f_X12_laysRow_b51 (LF n br lv n) K m (upd (BT n br v i) i (-2)) (nI (fg n br i)) (cuI (fw n br i)) (nI i) x.1 x.2 b) (fun b => (agI (fc (rD n br (n - i)) (fw n br i)) b, nI (minF 1000000 (fc (rD n br (n - i)) (fw n br i)) b))) 0 8 (by omega) (by omega) (a0 := ((-1 : Int32), (1000000 : Int32))) (i0 := 0) rfl rfl _ (fun m b _ hb => ?_) (fun m => ?_)
      · show f_X12_laysRow_b51 _ _ (m + 1) _ _ _ _ _ _ _ = f_X12_laysRow_b51 _ _ m _ _ _ _ _ _ _
        have h1 := rD_31 (n := n) (br := br) (n - i) b
        have h2 := (minF_le (z := 1000000) (f := fc (rD n br (n - i)) (fw n br i)) b).1
        rw [f_X12_laysRow_b51, if_neg (ge8 hb), show (8 : Int32) = nI 8 from rfl, pk_mul, nI_add, gI_n (by omega) (by omega), hcell b hb]
        have h86 : ∀ s : Nat, s ≤ 1 → fc (rD n br (n - i)) (fw n br i) b = rD n br (n - i) b + s → ∀ X : Nat → Int32, f_X12_laysRow_b86 K (f_X12_laysRow_b51 (LF n br lv n) K m) X (nI (fg n br i)) (nI (rD n br (n - i) b)) (nI s) (cuI (fw n br i)) (nI i) (agI (fc (rD n br (n - i)) (fw n br i)) b) (nI (minF 1000000 (fc (rD n br (n - i)) (fw n br i)) b)) (nI b) = f_X12_laysRow_b51 (LF n br lv n) K m X (nI (fg n br i)) (cuI (fw n br i)) (nI i) (agI (fc (rD n br (n - i)) (fw n br i)) (b + 1)) (nI (minF 1000000 (fc (rD n br (n - i)) (fw n br i)) (b + 1))) (nI b + 1) := by
          intro s hs hfc X
          unfold f_X12_laysRow_b86 f_X12_laysRow_b106
          rw [nI_add, ← hfc, ite_nlt (by omega) (by omega), agI, minF]
          by_cases c : fc (rD n br (n - i)) (fw n br i) b < minF 1000000 (fc (rD n br (n - i)) (fw n br i)) b
          · rw [if_pos c, if_pos c, show min (minF 1000000 (fc (rD n br (n - i)) (fw n br i)) b) (fc (rD n br (n - i)) (fw n br i) b) = fc (rD n br (n - i)) (fw n br i) b by omega]
          · rw [if_neg c, if_neg c, show min (minF 1000000 (fc (rD n br (n - i)) (fw n br i)) b) (fc (rD n br (n - i)) (fw n br i) b) = minF 1000000 (fc (rD n br (n - i)) (fw n br i)) b by omega]
        by_cases c8 : fw n br i = 8
        · rw [if_pos (by rw [cuI_m1 hcw]; exact c8)]
          exact h86 0 (by omega) (by unfold fc; rw [if_pos (Or.inl c8)]) _
        · rw [if_neg (by rw [cuI_m1 hcw]; exact c8)]
          by_cases cb : fw n br i = b
          · rw [if_pos (by rw [cuI_eq hcw hb]; exact cb)]
            exact h86 0 (by omega) (by unfold fc; rw [if_pos (Or.inr cb)]) _
          · rw [if_neg (by rw [cuI_eq hcw hb]; exact cb)]
            exact h86 1 (by omega) (by unfold fc; rw [if_neg (by omega)]) _
      · show f_X12_laysRow_b51 _ _ (m + 1) _ _ _ _ _ _ _ = _
        have hcu : cuI (fw n br (i + 1)) = nI (fw n br (i + 1)) := by unfold cuI; rw [if_neg (by omega)]
        have hfg : fg n br (i + 1) = fg n br i + (if fw n br i = 8 ∨ fw n br i = fw n br (i + 1) then 0 else 1) := by
          rw [fg, e, if_pos rfl, show fw n br (i + 1) = fs8 (fc (rD n br (n - i)) (fw n br i)) by rw [fw, e, if_pos rfl]]
        rw [f_X12_laysRow_b51, if_pos (by decide)]
        simp only []
        rw [hfin]
        unfold f_X12_laysRow_b132 f_X12_laysRow_b141
        rw [sI_n (by omega) (by omega), fa_upd_twice, hcu, hfg, BT, e, if_pos rfl]
        by_cases c8 : fw n br i = 8
        · rw [if_pos (by rw [cuI_m1 hcw]; exact c8), if_pos (Or.inl c8)]; rfl
        · rw [if_neg (by rw [cuI_m1 hcw]; exact c8)]
          by_cases cb : fw n br i = fw n br (i + 1)
          · rw [if_pos (by rw [eq_comm, cuI_eq hcw s1]; exact cb), if_pos (Or.inr cb)]; rfl
          · rw [if_neg (by rw [eq_comm, cuI_eq hcw s1]; exact cb), if_neg (by omega), sI_n (by omega) (by omega), fa_upd_twice, nI_1]
  · show f_X12_laysRow_b9 _ _ _ _ _ (m + 1) _ _ _ _ = _
    rw [f_X12_laysRow_b9, if_pos (by rw [nle (by omega) (by omega)]; omega)]
end CH
theorem BT_at {n : Nat} {br : Nat → Nat → Bool} {v u : Nat → Int32} : ∀ i k, k < i → BT n br v i k = BT n br u i k
  | 0, k, h => by omega
  | i + 1, k, h => by
    rw [BT, BT]
    by_cases e : k = i
    · subst e; rw [pk_us, pk_us]
    · rw [pk_un e, pk_un e]; exact BT_at i k (by omega)
set_option maxHeartbeats 4000000 in
theorem pm_changes {v_t_tape_bytes : Nat → Int32} {x_t_tape_size : Int32} {v_t_rhymes_other : Nat → Int32} {v_t_shelf_dread : Nat → Int32} {v_t_shelf_ink : Nat → Int32} {v_t_shelf_kind : Nat → Int32} {v_t_shelf_salt : Nat → Int32} {v_t_shelf_tries : Nat → Int32} {x_t_shelf_day : Int32} {x_t_shelf_nerve : Int32} {x_t_shelf_pictures : Int32} {x_t_shelf_told : Int32} {x_t_shelf_written : Int32} {x_t_shelf_x : Int32} {v_t_kept_dread : Nat → Int32} {v_t_kept_ink : Nat → Int32} {v_t_kept_kind : Nat → Int32} {v_t_kept_salt : Nat → Int32} {v_t_kept_tries : Nat → Int32} {x_t_kept_day : Int32} {x_t_kept_nerve : Int32} {x_t_kept_pictures : Int32} {x_t_kept_told : Int32} {x_t_kept_written : Int32} {x_t_kept_x : Int32} {v_t_letter_words : Nat → Int32} {x_t_letter_size : Int32} {v_t_law_code : Nat → Int32} {v_t_law_letters : Nat → Int32} {v_t_law_valueFrom : Nat → Int32} {v_t_law_testFrom : Nat → Int32} {v_t_law_testEnd : Nat → Int32} {x_t_law_rules : Int32} {x_t_anyKept : Int32} {v_m_now : Nat → Int32} {v_m_kept : Nat → Int32} {v_m_rhymeOf : Nat → Int32} {v_m_wordAt : Nat → Int32} {x_m_wordMany : Int32} {v_m_tape : Nat → Int32} {x_m_taped : Int32} {v_m_codes : Nat → Int32} {v_m_clauseOf : Nat → Int32} {v_m_codeFrom : Nat → Int32} {v_m_codeHalf : Nat → Int32} {v_m_codeTo : Nat → Int32} {x_m_clauses : Int32} {x_m_isKept : Int32} {v_t_row_bearing : Nat → Int32} {v_t_row_bottles : Nat → Int32} {v_t_row_toCome : Nat → Int32} {x_t_row_changes : Int32} {x_t_row_pictures : Int32} {v_m_leastFrom : Nat → Int32} {v_m_rowNow : Nat → Int32} {x_m_changesNow : Int32} {x_m_left0 : Int32} (hI : Inv v_t_tape_bytes x_t_tape_size v_t_rhymes_other v_t_shelf_dread v_t_shelf_ink v_t_shelf_kind v_t_shelf_salt v_t_shelf_tries x_t_shelf_day x_t_shelf_nerve x_t_shelf_pictures x_t_shelf_told x_t_shelf_written x_t_shelf_x v_t_kept_dread v_t_kept_ink v_t_kept_kind v_t_kept_salt v_t_kept_tries x_t_kept_day x_t_kept_nerve x_t_kept_pictures x_t_kept_told x_t_kept_written x_t_kept_x v_t_letter_words x_t_letter_size v_t_law_code v_t_law_letters v_t_law_valueFrom v_t_law_testFrom v_t_law_testEnd x_t_law_rules x_t_anyKept v_m_now v_m_kept v_m_rhymeOf v_m_wordAt x_m_wordMany v_m_tape x_m_taped v_m_codes v_m_clauseOf v_m_codeFrom v_m_codeHalf v_m_codeTo x_m_clauses x_m_isKept) (a1 : Int32) : ∃ (r : Int32) (o_v_t_row_bearing : Nat → Int32) (o_v_t_row_bottles : Nat → Int32) (o_v_t_row_toCome : Nat → Int32) (o_x_t_row_changes : Int32) (o_x_t_row_pictures : Int32) (o_v_m_leastFrom : Nat → Int32) (o_v_m_rowNow : Nat → Int32) (o_x_m_changesNow : Int32) (o_x_m_left0 : Int32), f_X11_changes v_t_letter_words v_t_rhymes_other v_t_row_bearing v_t_row_bottles v_t_row_toCome v_t_shelf_dread v_t_shelf_kind v_t_shelf_salt x_t_letter_size x_t_row_changes x_t_row_pictures x_t_shelf_nerve x_t_shelf_told a1 = some (r, o_v_t_row_bearing, o_v_t_row_bottles, o_v_t_row_toCome, o_x_t_row_changes, o_x_t_row_pictures) ∧ f_X12_changes v_m_leastFrom v_m_now v_m_rhymeOf v_m_rowNow v_m_wordAt x_m_changesNow x_m_left0 x_m_wordMany a1 = some (r, o_v_m_leastFrom, o_v_m_rowNow, o_x_m_changesNow, o_x_m_left0) ∧ Inv v_t_tape_bytes x_t_tape_size v_t_rhymes_other v_t_shelf_dread v_t_shelf_ink v_t_shelf_kind v_t_shelf_salt v_t_shelf_tries x_t_shelf_day x_t_shelf_nerve x_t_shelf_pictures x_t_shelf_told x_t_shelf_written x_t_shelf_x v_t_kept_dread v_t_kept_ink v_t_kept_kind v_t_kept_salt v_t_kept_tries x_t_kept_day x_t_kept_nerve x_t_kept_pictures x_t_kept_told x_t_kept_written x_t_kept_x v_t_letter_words x_t_letter_size v_t_law_code v_t_law_letters v_t_law_valueFrom v_t_law_testFrom v_t_law_testEnd x_t_law_rules x_t_anyKept v_m_now v_m_kept v_m_rhymeOf v_m_wordAt x_m_wordMany v_m_tape x_m_taped v_m_codes v_m_clauseOf v_m_codeFrom v_m_codeHalf v_m_codeTo x_m_clauses x_m_isKept := by
  have hI0 := hI
  obtain ⟨hT, ⟨g, hg⟩, hS, hK, ⟨n, w, hn, rfl, rfl, hw⟩, hW⟩ := hI
  have hQ := SQ.of hS hg
  obtain ⟨⟨T, hT2, rfl, hnn⟩, hb2, -⟩ := hS
  by_cases h1 : (a1 < 0 ∨ 47 < a1) ∧ (a1 < 100 ∨ 101 < a1)
  · exact ⟨-1, v_t_row_bearing, v_t_row_bottles, v_t_row_toCome, x_t_row_changes, x_t_row_pictures, v_m_leastFrom, v_m_rowNow, x_m_changesNow, x_m_left0, by simp [f_X11_changes, f_within_eq, h1.1, h1.2, bd1], by simp [f_X12_changes, f_in_eq, h1.1, h1.2, bd1], hI0⟩
  have hcl : f_X11_changes v_t_letter_words v_t_rhymes_other v_t_row_bearing v_t_row_bottles v_t_row_toCome v_t_shelf_dread v_t_shelf_kind v_t_shelf_salt (nI n) x_t_row_changes x_t_row_pictures x_t_shelf_nerve (nI T) a1 = f_X11_changes_b23 v_t_letter_words v_t_rhymes_other v_t_shelf_dread v_t_shelf_kind v_t_shelf_salt (nI n) x_t_shelf_nerve (nI T) a1 v_t_row_bearing v_t_row_bottles v_t_row_toCome x_t_row_changes x_t_row_pictures := by
    unfold f_X11_changes
    rw [f_within_eq, bd1_s, f_within_eq, bd1_s]
    by_cases q1 : a1 < 0 ∨ 47 < a1
    · by_cases q2 : a1 < 100 ∨ 101 < a1
      · exact absurd ⟨q1, q2⟩ h1
      · rw [if_pos q1, if_pos rfl, if_neg q2, if_neg one_ne]
    · rw [if_neg q1, if_neg one_ne]
  have hrf : f_X12_changes v_m_leastFrom v_m_now v_m_rhymeOf v_m_rowNow v_m_wordAt x_m_changesNow x_m_left0 (nI n) a1 = f_X12_changes_b23 v_m_now v_m_rhymeOf v_m_wordAt (nI n) a1 v_m_leastFrom v_m_rowNow x_m_changesNow x_m_left0 := by
    unfold f_X12_changes
    rw [f_in_eq, bd1_s, f_in_eq, bd1_s]
    by_cases q1 : a1 < 100 ∨ 101 < a1
    · by_cases q2 : a1 < 0 ∨ 47 < a1
      · exact absurd ⟨q2, q1⟩ h1
      · rw [if_pos q1, if_pos rfl, if_neg q2, if_neg one_ne]
    · rw [if_neg q1, if_neg one_ne]
  rw [hcl, hrf]
  unfold f_X11_changes_b23 f_X12_changes_b23
  by_cases h2 : ¬ (100 : Int32) ≤ a1 ∧ ¬ a1 < nI n
  · rw [if_neg h2.1, if_neg h2.1, if_neg h2.2, if_neg h2.2]
    exact ⟨-4, _, _, _, _, _, _, _, _, _, rfl, rfl, hI0⟩
  have hite : ∀ {ρ : Type} (A B : ρ), (if (100 : Int32) ≤ a1 then A else if a1 < nI n then A else B) = A := by
    intro ρ A B
    by_cases q : (100 : Int32) ≤ a1
    · rw [if_pos q]
    · rw [if_neg q]
      by_cases q2 : a1 < nI n
      · rw [if_pos q2]
      · exact absurd ⟨q, q2⟩ h2
  rw [hite, hite]
  have hRB : RB n (fun i b => tl T b && bear v_m_now g b (w i)) v_m_now v_m_rhymeOf v_m_wordAt := by
    intro i hi
    obtain ⟨w1, w2, w3⟩ := hw i hi
    rw [w3]
    refine ⟨f_any12 hQ hnn w1, fun b hb A B => ?_⟩
    rw [f_isTold12 hnn, bd1_s, tI_tl hb, f_bears12 hQ hb w1, bd1_s, ite_bI, ite_bI]
    show _ = if (tl T b && bear v_m_now g b (w i)) = true then B else A
    cases tl T b <;> cases bear v_m_now g b (w i) <;> rfl
  have hplan : f_X6_plan v_t_shelf_dread v_t_shelf_kind v_t_rhymes_other v_t_shelf_salt v_t_row_bearing v_t_row_bottles v_t_letter_words v_t_row_toCome x_t_shelf_nerve (nI T) x_t_row_changes x_t_row_pictures (nI n) = some (rfl_ v_t_row_bearing 0 16 (fun u => bitsI (fun b => tl T b && bear v_m_now g b u) 8), BT n (fun i b => tl T b && bear v_m_now g b (w i)) v_t_row_bottles n, TC n (fun i b => tl T b && bear v_m_now g b (w i)) v_t_row_toCome n, nI (rL n (fun i b => tl T b && bear v_m_now g b (w i)) n), pcI n (fun i b => tl T b && bear v_m_now g b (w i)) n) := by
    unfold f_X6_plan
    refine loopNN (fun m x i => f_X6_plan_b2 v_t_shelf_dread v_t_shelf_kind v_t_rhymes_other v_t_shelf_salt v_t_letter_words x_t_shelf_nerve (nI T) (nI n) m x v_t_row_bottles v_t_row_toCome x_t_row_changes x_t_row_pictures i) (fun u => rfl_ v_t_row_bearing 0 u (fun u => bitsI (fun b => tl T b && bear v_m_now g b u) 8)) 0 16 (by omega) (by omega) (a0 := v_t_row_bearing) (i0 := 0) rfl (rfl_0 _ _ _) _ (fun m u _ hu => ?_) (fun m => ?_)
    · show f_X6_plan_b2 _ _ _ _ _ _ _ _ (m + 1) _ _ _ _ _ _ = f_X6_plan_b2 _ _ _ _ _ _ _ _ m _ _ _ _ _ _
      rw [f_X6_plan_b2, if_neg (ge16 hu), f_bb8 hQ hT2 hu, bd1_s, sI_n (by omega) (by omega), ← rfl_s, Nat.zero_add]
    · show f_X6_plan_b2 _ _ _ _ _ _ _ _ (m + 1) _ _ _ _ _ _ = _
      have hCB : CB n (fun i b => tl T b && bear v_m_now g b (w i)) (rfl_ v_t_row_bearing 0 16 (fun u => bitsI (fun b => tl T b && bear v_m_now g b u) 8)) v_t_letter_words := by
        intro i hi
        obtain ⟨w1, w2, w3⟩ := hw i hi
        unfold f_X6_bearersAt
        rw [f_wordAt3 (by omega), bd1_s, w2, and15 _ w1, gI_n (by omega) (by omega), rfl_in (by omega) (by omega), Nat.sub_zero]
      rw [f_X6_plan_b2, if_pos (by decide), f_reck6 hn hCB, bd3_s, f_choose6 hn hCB, bd1_s]
  refine ⟨if a1 = 100 then nI (rL n (fun i b => tl T b && bear v_m_now g b (w i)) n) else if a1 = 101 then pcI n (fun i b => tl T b && bear v_m_now g b (w i)) n else BT n (fun i b => tl T b && bear v_m_now g b (w i)) v_t_row_bottles n a1.toNatClampNeg, rfl_ v_t_row_bearing 0 16 (fun u => bitsI (fun b => tl T b && bear v_m_now g b u) 8), BT n (fun i b => tl T b && bear v_m_now g b (w i)) v_t_row_bottles n, TC n (fun i b => tl T b && bear v_m_now g b (w i)) v_t_row_toCome n, nI (rL n (fun i b => tl T b && bear v_m_now g b (w i)) n), pcI n (fun i b => tl T b && bear v_m_now g b (w i)) n, LF n (fun i b => tl T b && bear v_m_now g b (w i)) v_m_leastFrom n, BT n (fun i b => tl T b && bear v_m_now g b (w i)) v_m_rowNow n, nI (rL n (fun i b => tl T b && bear v_m_now g b (w i)) n), pcI n (fun i b => tl T b && bear v_m_now g b (w i)) n, ?_, ?_, hI0⟩
  · unfold f_X11_changes_b43 f_X11_changes_b92
    rw [hplan, bd5_s]
    by_cases q0 : a1 = 100
    · rw [if_pos q0, if_pos q0]
    rw [if_neg q0, if_neg q0]
    by_cases q1 : a1 = 101
    · rw [if_pos q1, if_pos q1]
    rw [if_neg q1, if_neg q1]
    obtain ⟨k, hk, rfl⟩ : ∃ k, k < n ∧ a1 = nI k := by
      by_cases q2 : a1 < 0 ∨ 47 < a1
      · exfalso
        have h3 : ¬ (a1 < 100 ∨ 101 < a1) := fun q => h1 ⟨q2, q⟩
        obtain ⟨k, hk, rfl⟩ := rg_of (n := 101) (a := a1) (by omega) (fun q => h3 (Or.inl (fa_trans q (by decide)))) (fun q => h3 (Or.inr q))
        have : ¬ nI k < (100 : Int32) := fun q => h3 (Or.inl q)
        rw [show (100 : Int32) = nI 100 from rfl, nlt (by omega) (by omega)] at this
        rcases (show k = 100 ∨ k = 101 by omega) with e | e
        · subst e; exact q0 rfl
        · subst e; exact q1 rfl
      · obtain ⟨k, hk, rfl⟩ := rg_of (n := 47) (a := a1) (by omega) (fun q => q2 (Or.inl q)) (fun q => q2 (Or.inr q))
        refine ⟨k, ?_, rfl⟩
        by_cases q3 : nI k < nI n
        · rw [nlt (by omega) (by omega)] at q3; exact q3
        · exact absurd ⟨by rw [show (100 : Int32) = nI 100 from rfl, nle (by omega) (by omega)]; omega, q3⟩ h2
    unfold f_X6_bottleAt f_X6_bottleAt_b21
    rw [if_neg (nI_pos (by omega)), if_neg (by rw [show (48 : Int32) = nI 48 from rfl, nle (by omega) (by omega)]; omega), gI_n (by omega) (by omega), bd1_s, nI_clamp (by omega)]
  · unfold f_X12_changes_b40 f_X12_changes_b80
    rw [f_lays12 hn hRB, bd2_s, f_row12 hn hRB, bd2_s]
    by_cases q0 : a1 = 100
    · rw [if_pos q0, if_pos q0]
    rw [if_neg q0, if_neg q0]
    by_cases q1 : a1 = 101
    · rw [if_pos q1, if_pos q1]
    rw [if_neg q1, if_neg q1]
    obtain ⟨k, hk, rfl⟩ : ∃ k, k < n ∧ a1 = nI k := by
      by_cases q2 : a1 < 0 ∨ 47 < a1
      · exfalso
        have h3 : ¬ (a1 < 100 ∨ 101 < a1) := fun q => h1 ⟨q2, q⟩
        obtain ⟨k, hk, rfl⟩ := rg_of (n := 101) (a := a1) (by omega) (fun q => h3 (Or.inl (fa_trans q (by decide)))) (fun q => h3 (Or.inr q))
        have : ¬ nI k < (100 : Int32) := fun q => h3 (Or.inl q)
        rw [show (100 : Int32) = nI 100 from rfl, nlt (by omega) (by omega)] at this
        rcases (show k = 100 ∨ k = 101 by omega) with e | e
        · subst e; exact q0 rfl
        · subst e; exact q1 rfl
      · obtain ⟨k, hk, rfl⟩ := rg_of (n := 47) (a := a1) (by omega) (fun q => q2 (Or.inl q)) (fun q => q2 (Or.inr q))
        refine ⟨k, ?_, rfl⟩
        by_cases q3 : nI k < nI n
        · rw [nlt (by omega) (by omega)] at q3; exact q3
        · exact absurd ⟨by rw [show (100 : Int32) = nI 100 from rfl, nle (by omega) (by omega)]; omega, q3⟩ h2
    rw [gI_n (by omega) (by omega), nI_clamp (by omega), BT_at n k hk]
