/-! pure: leastSalt, mixture, whose, next -/
def allN (p : Nat → Bool) : Nat → Bool
  | 0 => true
  | k + 1 => allN p k && p k
theorem allN_iff {p : Nat → Bool} : ∀ {n : Nat}, allN p n = true ↔ ∀ k, k < n → p k = true
  | 0 => ⟨fun _ k hk => by omega, fun _ => rfl⟩
  | n + 1 => by
    rw [allN, Bool.and_eq_true, allN_iff]
    constructor
    · rintro ⟨h1, h2⟩ k hk
      by_cases e : k = n
      · subst e; exact h2
      · exact h1 k (by omega)
    · intro h
      exact ⟨fun k hk => h k (by omega), h n (by omega)⟩
theorem allN_false {p : Nat → Bool} {n k : Nat} (hk : k < n) (h : p k = false) : allN p n = false := by
  cases e : allN p n with
  | false => rfl
  | true => rw [allN_iff.mp e k hk] at h; cases h
theorem allN_cong {p q : Nat → Bool} {n m : Nat} (h : (∀ k, k < n → p k = true) ↔ (∀ k, k < m → q k = true)) : allN p n = allN q m := by
  cases e : allN q m with
  | true => exact allN_iff.mpr (h.mpr (allN_iff.mp e))
  | false =>
    cases e2 : allN p n with
    | false => rfl
    | true => rw [allN_iff.mpr (h.mp (allN_iff.mp e2))] at e; cases e
/-- a loop that ends with 'no' at the first place that fails -/
theorem loopA {β : Type} (L : Nat → Int32 → Option β) (p : Nat → Bool) (N : Nat) (yes no : Option β) (hN : N < 99999) (hstep : ∀ n k, k < N → p k = true → L (n + 1) (nI k) = L n (nI k + 1)) (hout : ∀ n k, k < N → p k = false → L (n + 1) (nI k) = no) (hexit : ∀ n, L (n + 1) (nI N) = yes) : L FU 0 = if allN p N then yes else no := by
  have key : ∀ n k, k ≤ N → N - k < n → (∀ j, j < k → p j = true) → L n (nI k) = if allN p N then yes else no := by
    intro n
    induction n with
    | zero => intro k _ h; omega
    | succ n ih =>
      intro k hk hn hp
      rcases Nat.lt_or_ge k N with h | h
      · cases e : p k with
        | true =>
          rw [hstep n k h e, nI_1]
          refine ih (k + 1) h (by omega) (fun j hj => ?_)
          by_cases ej : j = k
          · subst ej; exact e
          · exact hp j (by omega)
        | false => rw [hout n k h e, allN_false h e]; rfl
      · have e : k = N := by omega
        subst e
        rw [hexit n, allN_iff.mpr hp]; rfl
  exact key FU 0 (Nat.zero_le N) (FU_gt (by omega)) (fun j hj => by omega)
/-- a loop that may end at each place with its own answer -/
def ansE {β : Type} (e : Nat → Option β) (r : β) (N : Nat) : Nat → β
  | 0 => r
  | m + 1 => (e (N - (m + 1))).getD (ansE e r N m)
theorem loopF {α β : Type} (L : Nat → α → Int32 → Option β) (a : Nat → α) (N : Nat) (hN : N < 99999) (e : Nat → Option β) (r : β)
    (hstep : ∀ n k, k < N → e k = none → L (n + 1) (a k) (nI k) = L n (a (k + 1)) (nI k + 1)) (hout : ∀ n k x, k < N → e k = some x → L (n + 1) (a k) (nI k) = some x) (hexit : ∀ n, L (n + 1) (a N) (nI N) = some r) : L FU (a 0) 0 = some (ansE e r N N) := by
  have key : ∀ n k, k ≤ N → N - k < n → L n (a k) (nI k) = some (ansE e r N (N - k)) := by
    intro n
    induction n with
    | zero => intro k _ h; omega
    | succ n ih =>
      intro k hk hn
      rcases Nat.lt_or_ge k N with h | h
      · obtain ⟨m, hm⟩ : ∃ m, N - k = m + 1 := ⟨N - k - 1, by omega⟩
        rw [hm, ansE, show N - (m + 1) = k by omega]
        cases he : e k with
        | none =>
          rw [hstep n k h he, nI_1, ih (k + 1) h (by omega), show N - (k + 1) = m by omega]
          rfl
        | some x => rw [hout n k x h he]; rfl
      · have e : k = N := by omega
        subst e
        rw [hexit n, Nat.sub_self]; rfl
  exact key FU 0 (Nat.zero_le N) (FU_gt (by omega))
/-! bits -/
theorem bt_one : ∀ w, w < 16 → ∀ i, i < 32 → bt ((1 : Int32) <<< (nI w &&& 31)) i = decide (i = w) := by decide +kernel
theorem bt1 : ∀ i, i < 32 → bt 1 i = decide (i = 0) := by decide +kernel
theorem sh1 (x : Int32) {w : Nat} (hw : w < 32) : (x >>> (nI w &&& 31)) &&& 1 = bI (bt x w) := by
  apply b_ext
  intro i hi
  rw [b_and, b_sshr w hw x hi, bt1 i hi]
  by_cases h0 : i = 0
  · subst h0
    rw [Nat.add_zero, if_pos hw]
    cases bt x w
    · simp [bI, b_0]
    · simp [bI]; decide
  · simp only [h0, decide_false, Bool.and_false]
    cases bt x w
    · rw [bI_0, b_0]
    · rw [bI_1, bt1 i hi]; simp [h0]
theorem bt_bitsI {p : Nat → Bool} {i : Nat} (hi : i < 32) : ∀ n, n ≤ 16 → bt (bitsI p n) i = (decide (i < n) && p i)
  | 0, _ => by rw [bitsI, b_0]; simp
  | n + 1, h => by
    rw [bitsI]
    by_cases hp : p n = true
    · rw [if_pos hp, b_or, bt_bitsI hi n (by omega), bt_one n (by omega) i hi]
      by_cases e : i = n
      · subst e; simp [hp]
      · have : decide (i < n + 1) = decide (i < n) := by simp; omega
        rw [this]; simp [e]
    · rw [if_neg hp, bt_bitsI hi n (by omega)]
      by_cases e : i = n
      · subst e; simp [hp]
      · have : decide (i < n + 1) = decide (i < n) := by simp; omega
        rw [this]
/-- the words of the letter as bits -/
def lb (w : Nat → Nat) : Nat → Int32
  | 0 => 0
  | i + 1 => lb w i ||| ((1 : Int32) <<< (nI (w i) &&& 31))
theorem bt_lb {w : Nat → Nat} {v : Nat} (hv : v < 32) : ∀ n, (∀ i, i < n → w i < 16) → (bt (lb w n) v = true ↔ ∃ i, i < n ∧ w i = v)
  | 0, _ => by rw [lb, b_0]; constructor; (intro h; cases h); (rintro ⟨i, hi, -⟩; omega)
  | n + 1, h => by
    rw [lb, b_or, bt_one _ (h n (by omega)) v hv, Bool.or_eq_true, bt_lb hv n (fun i hi => h i (by omega)), decide_eq_true_eq]
    constructor
    · rintro (⟨i, hi, e⟩ | e)
      · exact ⟨i, by omega, e⟩
      · exact ⟨n, by omega, e.symm⟩
    · rintro ⟨i, hi, e⟩
      by_cases ei : i = n
      · subst ei; exact Or.inr e.symm
      · exact Or.inl ⟨i, by omega, e⟩
theorem f_wordAt3 {words : Nat → Int32} {i : Nat} (hi : i < 48) : f_X3_wordAt words (nI i) = some (words i) := by
  unfold f_X3_wordAt f_X3_wordAt_b20
  rw [if_neg (nI_pos (by omega)), if_neg (by rw [show (48 : Int32) = nI 48 from rfl, nle (by omega) (by omega)]; omega), gI_n hi (by omega)]
theorem f_bits3 {words : Nat → Int32} {n : Nat} {w : Nat → Nat} (hn : n ≤ 48) (hw : ∀ i, i < n → w i < 16 ∧ words i = nI (w i)) : f_X3_bits words (nI n) = some (lb w n) := by
  unfold f_X3_bits
  refine loop0 (fun m a i => f_X3_bits_b4 words (nI n) m a i) (lb w) n (by omega) _ (fun m k hk => ?_) (fun m => ?_)
  · show f_X3_bits_b4 words (nI n) (m + 1) _ _ = f_X3_bits_b4 words (nI n) m _ _
    rw [f_X3_bits_b4, if_neg (by rw [nle (by omega) (by omega)]; omega), f_wordAt3 (by omega), bd1_s, (hw k hk).2, lb]
  · show f_X3_bits_b4 words (nI n) (m + 1) _ _ = _
    rw [f_X3_bits_b4, if_pos (by rw [nle (by omega) (by omega)]; omega)]
section LS
variable {dread kind salt : Nat → Int32} {nerve : Int32} {other now rhymeOf : Nat → Int32} {g : Nat → Nat}
theorem f_bws8 (h : SQ dread kind salt nerve other now rhymeOf g) {b : Nat} (hb : b < 8) (x s : Int32) : f_X8_bearsWithSalt dread kind other nerve (nI b) x s = some (bI (allN (fun w => !(bt x w) || decide (shr now g b w s ≤ now 288)) 16)) := by
  unfold f_X8_bearsWithSalt
  rw [loopA (fun n i => f_X8_bearsWithSalt_b3 dread kind other nerve (nI b) x s n i) (fun w => !(bt x w) || decide (shr now g b w s ≤ now 288)) 16 (some 1) (some 0) (by omega) (fun n k hk hp => ?_) (fun n k hk hp => ?_) (fun n => ?_)]
  · cases allN (fun w => !(bt x w) || decide (shr now g b w s ≤ now 288)) 16 <;> rfl
  · show f_X8_bearsWithSalt_b3 dread kind other nerve (nI b) x s (n + 1) _ = f_X8_bearsWithSalt_b3 dread kind other nerve (nI b) x s n _
    rw [f_X8_bearsWithSalt_b3, if_neg (ge16 hk), f_uns8 h hb hk, bd1_s, f_bounded_eq, bd1_s, sh1 x (by omega), h.2.2.1]
    simp only [f_X8_bearsWithSalt_b46, bI_eq0]
    cases hx : bt x k
    · simp
    · rw [hx] at hp
      simp only [Bool.not_true, Bool.false_or, decide_eq_true_eq] at hp
      rw [if_neg (by simp), if_pos (show mxI 0 (mnI (uns now g b k - s) 99) ≤ now 288 from hp)]
  · show f_X8_bearsWithSalt_b3 dread kind other nerve (nI b) x s (n + 1) _ = _
    rw [f_X8_bearsWithSalt_b3, if_neg (ge16 hk), f_uns8 h hb hk, bd1_s, f_bounded_eq, bd1_s, sh1 x (by omega), h.2.2.1]
    simp only [f_X8_bearsWithSalt_b46, bI_eq0]
    cases hx : bt x k
    · rw [hx] at hp; simp at hp
    · rw [hx] at hp
      simp only [Bool.not_true, Bool.false_or, decide_eq_false_iff_not] at hp
      rw [if_neg (by simp), if_neg (show ¬ mxI 0 (mnI (uns now g b k - s) 99) ≤ now 288 from hp)]
  · show f_X8_bearsWithSalt_b3 dread kind other nerve (nI b) x s (n + 1) _ = _
    rw [f_X8_bearsWithSalt_b3, if_pos (by decide)]
theorem f_bab12 (h : SQ dread kind salt nerve other now rhymeOf g) {b n : Nat} {wordAt : Nat → Int32} {w : Nat → Nat} (hb : b < 8) (hn : n ≤ 48) (hw : ∀ i, i < n → w i < 16 ∧ wordAt i = nI (w i)) {s : Int32} (hs : Rg s 99) : f_X12_bearsAllBy now rhymeOf wordAt (nI n) (nI b) s = some (bI (allN (fun i => decide (shr now g b (w i) s ≤ now 288)) n)) := by
  unfold f_X12_bearsAllBy
  rw [loopA (fun m i => f_X12_bearsAllBy_b2 now rhymeOf wordAt (nI n) (nI b) s m i) (fun i => decide (shr now g b (w i) s ≤ now 288)) n (some 1) (some 0) (by omega) (fun m k hk hp => ?_) (fun m k hk hp => ?_) (fun m => ?_)]
  · cases allN (fun i => decide (shr now g b (w i) s ≤ now 288)) n <;> rfl
  · show f_X12_bearsAllBy_b2 now rhymeOf wordAt (nI n) (nI b) s (m + 1) _ = f_X12_bearsAllBy_b2 now rhymeOf wordAt (nI n) (nI b) s m _
    rw [f_X12_bearsAllBy_b2, if_neg (by rw [nle (by omega) (by omega)]; omega), gI_n (by omega) (by omega), (hw k hk).2, f_shrBy12 h hb (hw k hk).1 hs, bd1_s, show (288 : Int32) = nI 288 from rfl, gI_n (by omega) (by omega), if_pos (of_decide_eq_true hp)]
  · show f_X12_bearsAllBy_b2 now rhymeOf wordAt (nI n) (nI b) s (m + 1) _ = _
    rw [f_X12_bearsAllBy_b2, if_neg (by rw [nle (by omega) (by omega)]; omega), gI_n (by omega) (by omega), (hw k hk).2, f_shrBy12 h hb (hw k hk).1 hs, bd1_s, show (288 : Int32) = nI 288 from rfl, gI_n (by omega) (by omega), if_neg (of_decide_eq_false hp)]
  · show f_X12_bearsAllBy_b2 now rhymeOf wordAt (nI n) (nI b) s (m + 1) _ = _
    rw [f_X12_bearsAllBy_b2, if_pos (by rw [nle (by omega) (by omega)]; omega)]
theorem all_words {n : Nat} {w : Nat → Nat} (hw : ∀ i, i < n → w i < 16) (q : Nat → Bool) : allN (fun v => !(bt (lb w n) v) || q v) 16 = allN (fun i => q (w i)) n := by
  apply allN_cong
  constructor
  · intro h i hi
    have h1 := h (w i) (hw i hi)
    have h2 : bt (lb w n) (w i) = true := (bt_lb (by have := hw i hi; omega) n hw).mpr ⟨i, hi, rfl⟩
    rw [h2] at h1
    simpa using h1
  · intro h v hv
    cases e : bt (lb w n) v with
    | false => rfl
    | true =>
      obtain ⟨i, hi, rfl⟩ := (bt_lb (by omega) n hw).mp e
      simpa using h i hi
end LS
set_option maxHeartbeats 4000000 in
theorem pm_leastSalt {v_t_tape_bytes : Nat → Int32} {x_t_tape_size : Int32} {v_t_rhymes_other : Nat → Int32} {v_t_shelf_dread : Nat → Int32} {v_t_shelf_ink : Nat → Int32} {v_t_shelf_kind : Nat → Int32} {v_t_shelf_salt : Nat → Int32} {v_t_shelf_tries : Nat → Int32} {x_t_shelf_day : Int32} {x_t_shelf_nerve : Int32} {x_t_shelf_pictures : Int32} {x_t_shelf_told : Int32} {x_t_shelf_written : Int32} {x_t_shelf_x : Int32} {v_t_kept_dread : Nat → Int32} {v_t_kept_ink : Nat → Int32} {v_t_kept_kind : Nat → Int32} {v_t_kept_salt : Nat → Int32} {v_t_kept_tries : Nat → Int32} {x_t_kept_day : Int32} {x_t_kept_nerve : Int32} {x_t_kept_pictures : Int32} {x_t_kept_told : Int32} {x_t_kept_written : Int32} {x_t_kept_x : Int32} {v_t_letter_words : Nat → Int32} {x_t_letter_size : Int32} {v_t_law_code : Nat → Int32} {v_t_law_letters : Nat → Int32} {v_t_law_valueFrom : Nat → Int32} {v_t_law_testFrom : Nat → Int32} {v_t_law_testEnd : Nat → Int32} {x_t_law_rules : Int32} {x_t_anyKept : Int32} {v_m_now : Nat → Int32} {v_m_kept : Nat → Int32} {v_m_rhymeOf : Nat → Int32} {v_m_wordAt : Nat → Int32} {x_m_wordMany : Int32} {v_m_tape : Nat → Int32} {x_m_taped : Int32} {v_m_codes : Nat → Int32} {v_m_clauseOf : Nat → Int32} {v_m_codeFrom : Nat → Int32} {v_m_codeHalf : Nat → Int32} {v_m_codeTo : Nat → Int32} {x_m_clauses : Int32} {x_m_isKept : Int32} (hI : Inv v_t_tape_bytes x_t_tape_size v_t_rhymes_other v_t_shelf_dread v_t_shelf_ink v_t_shelf_kind v_t_shelf_salt v_t_shelf_tries x_t_shelf_day x_t_shelf_nerve x_t_shelf_pictures x_t_shelf_told x_t_shelf_written x_t_shelf_x v_t_kept_dread v_t_kept_ink v_t_kept_kind v_t_kept_salt v_t_kept_tries x_t_kept_day x_t_kept_nerve x_t_kept_pictures x_t_kept_told x_t_kept_written x_t_kept_x v_t_letter_words x_t_letter_size v_t_law_code v_t_law_letters v_t_law_valueFrom v_t_law_testFrom v_t_law_testEnd x_t_law_rules x_t_anyKept v_m_now v_m_kept v_m_rhymeOf v_m_wordAt x_m_wordMany v_m_tape x_m_taped v_m_codes v_m_clauseOf v_m_codeFrom v_m_codeHalf v_m_codeTo x_m_clauses x_m_isKept) (a1 : Int32) : ∃ (r : Int32), f_X11_leastSalt v_t_letter_words v_t_rhymes_other v_t_shelf_dread v_t_shelf_kind v_t_shelf_salt x_t_letter_size x_t_shelf_nerve x_t_shelf_told a1 = some r ∧ f_X12_leastSalt v_m_now v_m_rhymeOf v_m_wordAt x_m_wordMany a1 = some r ∧ Inv v_t_tape_bytes x_t_tape_size v_t_rhymes_other v_t_shelf_dread v_t_shelf_ink v_t_shelf_kind v_t_shelf_salt v_t_shelf_tries x_t_shelf_day x_t_shelf_nerve x_t_shelf_pictures x_t_shelf_told x_t_shelf_written x_t_shelf_x v_t_kept_dread v_t_kept_ink v_t_kept_kind v_t_kept_salt v_t_kept_tries x_t_kept_day x_t_kept_nerve x_t_kept_pictures x_t_kept_told x_t_kept_written x_t_kept_x v_t_letter_words x_t_letter_size v_t_law_code v_t_law_letters v_t_law_valueFrom v_t_law_testFrom v_t_law_testEnd x_t_law_rules x_t_anyKept v_m_now v_m_kept v_m_rhymeOf v_m_wordAt x_m_wordMany v_m_tape x_m_taped v_m_codes v_m_clauseOf v_m_codeFrom v_m_codeHalf v_m_codeTo x_m_clauses x_m_isKept := by
  have hI0 := hI
  obtain ⟨hT, ⟨g, hg⟩, hS, hK, ⟨n, w, hn, rfl, rfl, hw⟩, hW⟩ := hI
  have hQ := SQ.of hS hg
  obtain ⟨⟨T, hT2, rfl, hnn⟩, hb2, -⟩ := hS
  rcases tI_cases T a1 with h0 | ⟨b, hb, rfl, hb1, h1⟩
  · exact ⟨-1, by simp [f_X11_leastSalt, f_isTold8 hT2, h0, bd1], by simp [f_X12_leastSalt, f_isTold12 hnn, h0, bd1], hI0⟩
  · obtain ⟨-, -, k3, ⟨s, hs, es⟩, -, -⟩ := hb2 b hb
    have es2 : v_m_now (16 + b) = nI s := by rw [← k3]; exact es
    have gt : ∀ j, j < 100 - s → ¬ (99 : Int32) < nI s + nI j := fun j hj => by rw [show (99 : Int32) = nI 99 from rfl, nI_add, nlt (by omega) (by omega)]; omega
    refine ⟨ansE (fun j => if allN (fun i => decide (shr v_m_now g b (w i) (nI (s + j)) ≤ v_m_now 288)) n then some (nI j) else none) 100 (100 - s) (100 - s), ?_, ?_, hI0⟩
    · unfold f_X11_leastSalt
      rw [f_isTold8 hT2, bd1_s, h1, if_neg one_ne, f_salt8 hb, bd1_s, f_bits3 hn (fun i hi => ⟨(hw i hi).1, (hw i hi).2.1⟩), bd1_s, es]
      refine loopF (fun m (_ : Unit) i => f_X11_leastSalt_b33 v_t_rhymes_other v_t_shelf_dread v_t_shelf_kind x_t_shelf_nerve (nI b) m (nI s) (lb w n) i) (fun _ => ()) (100 - s) (by omega) _ 100 (fun m k hk he => ?_) (fun m k x hk he => ?_) (fun m => ?_)
      · show f_X11_leastSalt_b33 _ _ _ _ _ (m + 1) _ _ _ = f_X11_leastSalt_b33 _ _ _ _ _ m _ _ _
        rw [f_X11_leastSalt_b33, if_neg (gt k hk), nI_add, f_bws8 hQ hb, bd1_s, all_words (fun i hi => (hw i hi).1) (fun v => decide (shr v_m_now g b v (nI (s + k)) ≤ v_m_now 288))]
        cases e : allN (fun i => decide (shr v_m_now g b (w i) (nI (s + k)) ≤ v_m_now 288)) n with
        | true => simp [e] at he
        | false => rw [if_pos (show bI false = 0 from rfl)]
      · show f_X11_leastSalt_b33 _ _ _ _ _ (m + 1) _ _ _ = _
        rw [f_X11_leastSalt_b33, if_neg (gt k hk), nI_add, f_bws8 hQ hb, bd1_s, all_words (fun i hi => (hw i hi).1) (fun v => decide (shr v_m_now g b v (nI (s + k)) ≤ v_m_now 288))]
        cases e : allN (fun i => decide (shr v_m_now g b (w i) (nI (s + k)) ≤ v_m_now 288)) n with
        | true => simp [e] at he; rw [if_neg (show ¬ bI true = 0 by decide), he]
        | false => simp [e] at he
      · show f_X11_leastSalt_b33 _ _ _ _ _ (m + 1) _ _ _ = _
        rw [f_X11_leastSalt_b33, if_pos (by rw [show (99 : Int32) = nI 99 from rfl, nI_add, nlt (by omega) (by omega)]; omega)]
    · unfold f_X12_leastSalt
      rw [f_isTold12 hnn, bd1_s, h1, if_neg one_ne]
      refine loopF (fun m (_ : Unit) i => f_X12_leastSalt_b12 v_m_now v_m_rhymeOf v_m_wordAt (nI n) (nI b) m i) (fun _ => ()) (100 - s) (by omega) _ 100 (fun m k hk he => ?_) (fun m k x hk he => ?_) (fun m => ?_)
      · show f_X12_leastSalt_b12 _ _ _ _ _ (m + 1) _ = f_X12_leastSalt_b12 _ _ _ _ _ m _
        rw [f_X12_leastSalt_b12, show (16 : Int32) + nI b = nI (16 + b) from nI_add 16 b, gI_n (by omega) (by omega), es2, if_neg (gt k hk), gI_n (by omega) (by omega), es2, nI_add, f_bab12 hQ hb hn (fun i hi => ⟨(hw i hi).1, (hw i hi).2.2⟩) ⟨s + k, by omega, rfl⟩, bd1_s]
        cases e : allN (fun i => decide (shr v_m_now g b (w i) (nI (s + k)) ≤ v_m_now 288)) n with
        | true => simp [e] at he
        | false => rw [if_pos (show bI false = 0 from rfl)]
      · show f_X12_leastSalt_b12 _ _ _ _ _ (m + 1) _ = _
        rw [f_X12_leastSalt_b12, show (16 : Int32) + nI b = nI (16 + b) from nI_add 16 b, gI_n (by omega) (by omega), es2, if_neg (gt k hk), gI_n (by omega) (by omega), es2, nI_add, f_bab12 hQ hb hn (fun i hi => ⟨(hw i hi).1, (hw i hi).2.2⟩) ⟨s + k, by omega, rfl⟩, bd1_s]
        cases e : allN (fun i => decide (shr v_m_now g b (w i) (nI (s + k)) ≤ v_m_now 288)) n with
        | true =>
          simp [e] at he
          unfold f_X12_leastSalt_b54 f_X12_leastSalt_b76
          rw [if_neg (show ¬ bI true = 0 by decide), show (16 : Int32) + nI b = nI (16 + b) from nI_add 16 b, gI_n (by omega) (by omega), es2, nI_add, if_pos (by rw [show (99 : Int32) = nI 99 from rfl, nle (by omega) (by omega)]; omega), he]
        | false => simp [e] at he
      · show f_X12_leastSalt_b12 _ _ _ _ _ (m + 1) _ = _
        unfold f_X12_leastSalt_b12 f_X12_leastSalt_b54 f_X12_leastSalt_b76
        rw [show (16 : Int32) + nI b = nI (16 + b) from nI_add 16 b, gI_n (by omega) (by omega), es2, nI_add, if_pos (by rw [show (99 : Int32) = nI 99 from rfl, nlt (by omega) (by omega)]; omega), gI_n (by omega) (by omega), es2, nI_add, if_neg (by rw [show (99 : Int32) = nI 99 from rfl, nle (by omega) (by omega)]; omega)]
