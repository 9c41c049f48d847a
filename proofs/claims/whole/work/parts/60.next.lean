/-! pure: next -/
theorem loopNN {α β : Type} (L : Nat → α → Int32 → Option β) (a : Nat → α) (s N : Nat) (hs : s ≤ N) (hN : N < 99999) {a0 : α} {i0 : Int32} (hi : nI s = i0) (h0 : a s = a0) (r : Option β)
    (hstep : ∀ n k, s ≤ k → k < N → L (n + 1) (a k) (nI k) = L n (a (k + 1)) (nI k + 1)) (hexit : ∀ n, L (n + 1) (a N) (nI N) = r) : L FU a0 i0 = r := by
  have key : ∀ n k, s ≤ k → k ≤ N → N - k < n → L n (a k) (nI k) = r := by
    intro n
    induction n with
    | zero => intro k _ _ h; omega
    | succ n ih =>
      intro k hsk hk hn
      rcases Nat.lt_or_ge k N with h | h
      · rw [hstep n k hsk h, nI_1]
        exact ih (k + 1) (by omega) h (by omega)
      · have e : k = N := by omega
        subst e
        exact hexit n
  have h := key FU s (Nat.le_refl s) hs (FU_gt (by omega))
  rw [h0, hi] at h
  exact h
theorem ite_nlt {ρ : Type} {a b : Nat} (ha : a < 2 ^ 31) (hb : b < 2 ^ 31) {x y : ρ} : (if nI a < nI b then x else y) = (if a < b then x else y) := by
  by_cases h : a < b
  · rw [if_pos h, if_pos (by rw [nlt ha hb]; exact h)]
  · rw [if_neg h, if_neg (by rw [nlt ha hb]; exact h)]
theorem ite_nle {ρ : Type} {a b : Nat} (ha : a < 2 ^ 31) (hb : b < 2 ^ 31) {x y : ρ} : (if nI a ≤ nI b then x else y) = (if a ≤ b then x else y) := by
  by_cases h : a ≤ b
  · rw [if_pos h, if_pos (by rw [nle ha hb]; exact h)]
  · rw [if_neg h, if_neg (by rw [nle ha hb]; exact h)]
theorem ite_neq {ρ : Type} {a b : Nat} (ha : a < 2 ^ 31) (hb : b < 2 ^ 31) {x y : ρ} : (if nI a = nI b then x else y) = (if a = b then x else y) := by
  by_cases h : a = b
  · rw [if_pos h, if_pos (by rw [neq ha hb]; exact h)]
  · rw [if_neg h, if_neg (by rw [neq ha hb]; exact h)]
theorem ite_bI {ρ : Type} (c : Bool) {x y : ρ} : (if bI c = 0 then x else y) = (if c then y else x) := by cases c <;> rfl
theorem bc256 : ∀ t, t < 256 → f_J6_bitCount_0f7a4 (nI t) = some (nI (fa_cnt (tl t) 8)) := by decide +kernel
theorem bt_bits8 {x : Int32} {p : Nat → Bool} (h : ∀ i, i < 32 → bt x i = (decide (i < 8) && p i)) : ∃ t, t < 256 ∧ x = nI t ∧ ∀ i, i < 8 → tl t i = p i := by
  obtain ⟨t, ht, e⟩ := m255 x
  have e2 : x &&& 255 = x := by
    apply b_ext
    intro i hi
    rw [b_and, b_255, h i hi]
    cases decide (i < 8) <;> simp
  rw [e2] at e
  refine ⟨t, ht, e, fun i hi => ?_⟩
  have h2 := h i (by omega)
  rw [e, bt_nI ht (by omega)] at h2
  simpa [hi] using h2
theorem bc8 {x : Int32} {p : Nat → Bool} (h : ∀ i, i < 32 → bt x i = (decide (i < 8) && p i)) : f_J6_bitCount_0f7a4 x = some (nI (fa_cnt p 8)) := by
  obtain ⟨t, ht, rfl, hp⟩ := bt_bits8 h
  rw [bc256 t ht, fa_cnt_cong hp]
theorem fa_cnt_mono {p q : Nat → Bool} : ∀ n, (∀ k, k < n → p k = true → q k = true) → fa_cnt p n ≤ fa_cnt q n
  | 0, _ => Nat.le_refl 0
  | n + 1, h => by
    have ih := fa_cnt_mono n (fun k hk => h k (by omega))
    have h2 := h n (by omega)
    rw [fa_cnt, fa_cnt]
    cases e : p n
    · simp only [Bool.false_eq_true, if_false]; omega
    · rw [h2 e]; simp only [if_true]; omega
/-- the greater part that a word leaves -/
def gR (now : Nat → Int32) (g : Nat → Nat) (c w : Nat) : Nat := fa_cnt (fun b => tl c b && bear now g b w) 8
def gB (now : Nat → Int32) (g : Nat → Nat) (c w : Nat) : Nat := if gR now g c w < fa_cnt (tl c) 8 - gR now g c w then fa_cnt (tl c) 8 - gR now g c w else gR now g c w
theorem gR_le (now : Nat → Int32) (g : Nat → Nat) (c w : Nat) : gR now g c w ≤ fa_cnt (tl c) 8 := fa_cnt_mono 8 (fun k _ h => by simp at h; exact h.1)
theorem gB_le (now : Nat → Int32) (g : Nat → Nat) (c w : Nat) : gB now g c w ≤ 8 := by
  have h1 := gR_le now g c w
  have h2 := fa_cnt_le (tl c) 8
  unfold gB
  split <;> omega
theorem mx_gB (now : Nat → Int32) (g : Nat → Nat) (c w : Nat) : mxI (nI (gR now g c w)) (nI (fa_cnt (tl c) 8) - nI (gR now g c w)) = nI (gB now g c w) := by
  have h1 := gR_le now g c w
  have h2 := fa_cnt_le (tl c) 8
  unfold mxI gB
  rw [pk_sub h1, ite_nlt (by omega) (by omega)]
  split <;> rfl
theorem f_max12 {a b : Nat} (ha : a < 2 ^ 31) (hb : b < 2 ^ 31) : f_X12_max (nI a) (nI b) = some (nI (if a < b then b else a)) := by
  unfold f_X12_max f_X12_max_b10
  rw [ite_nle ha hb]
  by_cases h : a ≤ b
  · rw [if_pos h]
    by_cases h2 : a < b
    · rw [if_pos h2]
    · rw [if_neg h2, show a = b by omega]
  · rw [if_neg h, if_neg (by omega)]
theorem f_has12 (x : Int32) {i : Nat} (hi : i < 32) : f_X12_has x (nI i) = some (bI (bt x i)) := by
  unfold f_X12_has f_X12_has_b14
  rw [sh1 x hi]
  cases bt x i
  · rw [if_neg (by decide)]; exact zI_0
  · exact zI_1
theorem nI_bI (c : Bool) : bI c = nI (if c then 1 else 0) := by cases c <;> rfl
theorem f_bits12 (x : Int32) : f_X12_bits x = some (nI (fa_cnt (bt x) 16)) := by
  unfold f_X12_bits
  refine loop0 (fun n a i => f_X12_bits_b4 x n a i) (fun k => nI (fa_cnt (bt x) k)) 16 (by omega) _ (fun n k hk => ?_) (fun n => ?_)
  · show f_X12_bits_b4 x (n + 1) _ _ = f_X12_bits_b4 x n _ _
    rw [f_X12_bits_b4, if_neg (ge16 hk), sh1 x (by omega), fa_cnt, nI_bI, nI_add]
  · show f_X12_bits_b4 x (n + 1) _ _ = _
    rw [f_X12_bits_b4, if_pos (by decide)]
theorem cnt16 {c : Nat} (hc : c < 256) : fa_cnt (bt (nI c)) 16 = fa_cnt (tl c) 8 := by
  have h1 : fa_cnt (bt (nI c)) 8 = fa_cnt (tl c) 8 := fa_cnt_cong (fun k hk => by rw [bt_nI hc (by omega)]; simp [hk])
  rw [← h1]
  have h2 : ∀ m, fa_cnt (bt (nI c)) (8 + m) = fa_cnt (bt (nI c)) 8 ∨ 8 < m := by
    intro m
    induction m with
    | zero => exact Or.inl rfl
    | succ m ih =>
      rcases Nat.lt_or_ge m 8 with h | h
      · refine Or.inl ?_
        rcases ih with ih | ih
        · rw [show 8 + (m + 1) = (8 + m) + 1 by omega, fa_cnt_no (by rw [bt_nI hc (by omega), decide_eq_false (by omega)]; rfl), ih]
        · omega
      · exact Or.inr (by omega)
  rcases h2 8 with h | h
  · exact h
  · omega
theorem f_gr12 {dread kind salt : Nat → Int32} {nerve : Int32} {other now rhymeOf : Nat → Int32} {g : Nat → Nat} (h : SQ dread kind salt nerve other now rhymeOf g) {c w : Nat} (hc : c < 256) (hw : w < 16) : f_X12_greaterBy now rhymeOf (nI c) (nI w) = some (nI (gB now g c w)) := by
  unfold f_X12_greaterBy
  refine loop0 (fun n a i => f_X12_greaterBy_b5 now rhymeOf (nI c) (nI w) n a i) (fun k => nI (fa_cnt (fun b => tl c b && bear now g b w) k)) 8 (by omega) _ (fun n k hk => ?_) (fun n => ?_)
  · show f_X12_greaterBy_b5 now rhymeOf (nI c) (nI w) (n + 1) _ _ = f_X12_greaterBy_b5 now rhymeOf (nI c) (nI w) n _ _
    rw [f_X12_greaterBy_b5, if_neg (ge8 hk), f_has12 _ (by omega), bd1_s, f_bears12 h hk hw, bd1_s, bt_nI hc (by omega), decide_eq_true hk, Bool.true_and]
    simp only [f_X12_greaterBy_b35, fa_cnt, bI_eq0]
    rcases Bool.eq_false_or_eq_true (tl c k) with h1 | h1 <;> rcases Bool.eq_false_or_eq_true (bear now g k w) with h2 | h2 <;> simp [h1, h2, nI_1]
  · show f_X12_greaterBy_b5 now rhymeOf (nI c) (nI w) (n + 1) _ _ = _
    have h1 := gR_le now g c w
    have h2 := fa_cnt_le (tl c) 8
    rw [f_X12_greaterBy_b5, if_pos (by decide), f_bits12, bd1_s, cnt16 hc]
    show bd1 (f_X12_max (nI (gR now g c w)) (nI (fa_cnt (tl c) 8) - nI (gR now g c w))) _ = _
    rw [pk_sub h1, f_max12 (by omega) (by omega), bd1_s]; rfl
/-- the first best word of the first k -/
def bi (now : Nat → Int32) (g : Nat → Nat) (c : Nat) : Nat → Nat
  | 0 => 0
  | k + 1 => if gB now g c (bi now g c k) ≤ gB now g c k then bi now g c k else k
theorem bi_s (now : Nat → Int32) (g : Nat → Nat) (c k : Nat) : bi now g c (k + 1) = if gB now g c (bi now g c k) ≤ gB now g c k then bi now g c k else k := rfl
theorem bi_lt (now : Nat → Int32) (g : Nat → Nat) (c : Nat) : ∀ k, bi now g c (k + 1) ≤ k
  | 0 => by rw [bi]; split <;> exact Nat.le_refl 0
  | k + 1 => by
    have ih := bi_lt now g c k
    rw [bi]; split <;> omega
def biA (now : Nat → Int32) (g : Nat → Nat) (c : Nat) (k : Nat) : Int32 × Int32 := if k = 0 then (0, 9) else (nI (bi now g c k), nI (gB now g c (bi now g c k)))
set_option maxHeartbeats 4000000 in
theorem pm_next {v_t_tape_bytes : Nat → Int32} {x_t_tape_size : Int32} {v_t_rhymes_other : Nat → Int32} {v_t_shelf_dread : Nat → Int32} {v_t_shelf_ink : Nat → Int32} {v_t_shelf_kind : Nat → Int32} {v_t_shelf_salt : Nat → Int32} {v_t_shelf_tries : Nat → Int32} {x_t_shelf_day : Int32} {x_t_shelf_nerve : Int32} {x_t_shelf_pictures : Int32} {x_t_shelf_told : Int32} {x_t_shelf_written : Int32} {x_t_shelf_x : Int32} {v_t_kept_dread : Nat → Int32} {v_t_kept_ink : Nat → Int32} {v_t_kept_kind : Nat → Int32} {v_t_kept_salt : Nat → Int32} {v_t_kept_tries : Nat → Int32} {x_t_kept_day : Int32} {x_t_kept_nerve : Int32} {x_t_kept_pictures : Int32} {x_t_kept_told : Int32} {x_t_kept_written : Int32} {x_t_kept_x : Int32} {v_t_letter_words : Nat → Int32} {x_t_letter_size : Int32} {v_t_law_code : Nat → Int32} {v_t_law_letters : Nat → Int32} {v_t_law_valueFrom : Nat → Int32} {v_t_law_testFrom : Nat → Int32} {v_t_law_testEnd : Nat → Int32} {x_t_law_rules : Int32} {x_t_anyKept : Int32} {v_m_now : Nat → Int32} {v_m_kept : Nat → Int32} {v_m_rhymeOf : Nat → Int32} {v_m_wordAt : Nat → Int32} {x_m_wordMany : Int32} {v_m_tape : Nat → Int32} {x_m_taped : Int32} {v_m_codes : Nat → Int32} {v_m_clauseOf : Nat → Int32} {v_m_codeFrom : Nat → Int32} {v_m_codeHalf : Nat → Int32} {v_m_codeTo : Nat → Int32} {x_m_clauses : Int32} {x_m_isKept : Int32} (hI : Inv v_t_tape_bytes x_t_tape_size v_t_rhymes_other v_t_shelf_dread v_t_shelf_ink v_t_shelf_kind v_t_shelf_salt v_t_shelf_tries x_t_shelf_day x_t_shelf_nerve x_t_shelf_pictures x_t_shelf_told x_t_shelf_written x_t_shelf_x v_t_kept_dread v_t_kept_ink v_t_kept_kind v_t_kept_salt v_t_kept_tries x_t_kept_day x_t_kept_nerve x_t_kept_pictures x_t_kept_told x_t_kept_written x_t_kept_x v_t_letter_words x_t_letter_size v_t_law_code v_t_law_letters v_t_law_valueFrom v_t_law_testFrom v_t_law_testEnd x_t_law_rules x_t_anyKept v_m_now v_m_kept v_m_rhymeOf v_m_wordAt x_m_wordMany v_m_tape x_m_taped v_m_codes v_m_clauseOf v_m_codeFrom v_m_codeHalf v_m_codeTo x_m_clauses x_m_isKept) (a1 : Int32) (a2 : Int32) : ∃ (r : Int32), f_X11_next v_t_rhymes_other v_t_shelf_dread v_t_shelf_kind v_t_shelf_salt x_t_shelf_nerve x_t_shelf_told a1 a2 = some r ∧ f_X12_next v_m_now v_m_rhymeOf a1 a2 = some r ∧ Inv v_t_tape_bytes x_t_tape_size v_t_rhymes_other v_t_shelf_dread v_t_shelf_ink v_t_shelf_kind v_t_shelf_salt v_t_shelf_tries x_t_shelf_day x_t_shelf_nerve x_t_shelf_pictures x_t_shelf_told x_t_shelf_written x_t_shelf_x v_t_kept_dread v_t_kept_ink v_t_kept_kind v_t_kept_salt v_t_kept_tries x_t_kept_day x_t_kept_nerve x_t_kept_pictures x_t_kept_told x_t_kept_written x_t_kept_x v_t_letter_words x_t_letter_size v_t_law_code v_t_law_letters v_t_law_valueFrom v_t_law_testFrom v_t_law_testEnd x_t_law_rules x_t_anyKept v_m_now v_m_kept v_m_rhymeOf v_m_wordAt x_m_wordMany v_m_tape x_m_taped v_m_codes v_m_clauseOf v_m_codeFrom v_m_codeHalf v_m_codeTo x_m_clauses x_m_isKept := by
  have hI0 := hI
  obtain ⟨hT, ⟨g, hg⟩, hS, hK, hL, hW⟩ := hI
  have hQ := SQ.of hS hg
  obtain ⟨⟨T, hT2, rfl, hnn⟩, hb2, -⟩ := hS
  by_cases h0 : a1 = 0
  · subst h0
    exact ⟨-1, by simp [f_X11_next, f_X11_next_b27], by simp [f_X12_next, f_X12_next_b31, f_in_eq, bd1, show ((0 : Int32) < 1) from by decide], hI0⟩
  by_cases hz : a1 &&& (nI T ^^^ (-1)) = 0
  · obtain ⟨c, hc, rfl, hct⟩ : ∃ c, c < 256 ∧ a1 = nI c ∧ ∀ i, i < 8 → tl c i = (tl T i && bt a1 i) := by
      refine bt_bits8 (fun i hi => ?_)
      have e : bt (a1 &&& (nI T ^^^ (-1))) i = false := by rw [hz, b_0]
      rw [b_and, b_xor, b_m1 i hi, bt_nI hT2 hi] at e
      revert e
      cases decide (i < 8) <;> cases tl T i <;> cases bt a1 i <;> simp
    have hc0 : 0 < c := by
      rcases Nat.eq_zero_or_pos c with e | e
      · subst e; exact absurd rfl h0
      · exact e
    have hr : ¬ (nI c < 1 ∨ 255 < nI c) := by
      rintro (q | q)
      · rw [show (1 : Int32) = nI 1 from rfl, nlt (by omega) (by omega)] at q; omega
      · rw [show (255 : Int32) = nI 255 from rfl, nlt (by omega) (by omega)] at q; omega
    by_cases h : a2 < 0 ∨ 1 < a2
    · exact ⟨-1, by simp [f_X11_next, f_X11_next_b27, h0, hz, f_within_eq, h, bd1], by simp [f_X12_next, f_X12_next_b31, f_in_eq, bd1, hr, f_toldSet12 hT2 hnn, hz, h], hI0⟩
    refine ⟨if a2 = 0 then nI (bi v_m_now g c 16) else nI (gB v_m_now g c (bi v_m_now g c 16)), ?_, ?_, hI0⟩
    · unfold f_X11_next
      rw [if_neg h0, if_pos hz, f_within_eq, if_neg h, bd1_s, if_neg one_ne, bc8 (p := tl c) (fun i hi => bt_nI hc hi), bd1_s]
      refine loopNN (fun m (x : Int32 × Int32) i => f_X11_next_b44 v_t_rhymes_other v_t_shelf_dread v_t_shelf_kind v_t_shelf_salt x_t_shelf_nerve (nI T) (nI c) a2 m (nI (fa_cnt (tl c) 8)) x.1 x.2 i) (biA v_m_now g c) 0 16 (by omega) (by omega) (a0 := ((0 : Int32), (9 : Int32))) (i0 := 0) rfl rfl _ (fun m k _ hk => ?_) (fun m => ?_)
      · show f_X11_next_b44 _ _ _ _ _ _ _ _ (m + 1) _ _ _ _ = f_X11_next_b44 _ _ _ _ _ _ _ _ m _ _ _ _
        rw [f_X11_next_b44, if_neg (ge16 hk), f_bb8 hQ hT2 hk, bd1_s, bc8 (p := fun b => tl c b && bear v_m_now g b k) (fun i hi => ?_), bd1_s]
        · show (if (biA v_m_now g c k).2 ≤ mxI (nI (gR v_m_now g c k)) (nI (fa_cnt (tl c) 8) - nI (gR v_m_now g c k)) then _ else f_X11_next_b93 _ _ _ _ _ (mxI (nI (gR v_m_now g c k)) (nI (fa_cnt (tl c) 8) - nI (gR v_m_now g c k))) _) = _
          rw [mx_gB]
          simp only [f_X11_next_b93]
          have g1 := gB_le v_m_now g c k
          unfold biA
          rw [if_neg (show ¬ k + 1 = 0 by omega), bi]
          by_cases hk0 : k = 0
          · subst hk0
            rw [if_pos rfl, if_neg (by rw [show (9 : Int32) = nI 9 from rfl, nle (by omega) (by omega)]; omega), bi, if_pos (Nat.le_refl _)]
          · have g2 := gB_le v_m_now g c (bi v_m_now g c k)
            rw [if_neg hk0]
            simp only []
            rw [ite_nle (by omega) (by omega)]
            split <;> rfl
        · rw [b_and, bt_bitsI hi 8 (by omega), bt_nI hc hi]
          by_cases h8 : i < 8
          · have := hct i h8
            rw [bt_nI hc hi] at this
            simp only [h8, decide_true, Bool.true_and] at this ⊢
            revert this
            cases tl c i <;> cases tl T i <;> cases bear v_m_now g i k <;> simp
          · simp [h8]
      · show f_X11_next_b44 _ _ _ _ _ _ _ _ (m + 1) _ _ _ _ = _
        rw [f_X11_next_b44, if_pos (by decide)]
        simp only [f_X11_next_b110, biA]
        split <;> rfl
    · unfold f_X12_next
      rw [f_in_eq, if_neg hr, bd1_s, if_neg one_ne, f_toldSet12 hT2 hnn, bd1_s, if_pos hz, f_in_eq, if_neg h, bd1_s, if_neg one_ne]
      refine loopNN (fun m x i => f_X12_next_b38 v_m_now v_m_rhymeOf (nI c) a2 m x i) (fun k => nI (bi v_m_now g c k)) 1 16 (by omega) (by omega) (a0 := (0 : Int32)) (i0 := 1) rfl (by have h9 : bi v_m_now g c 1 = 0 := Nat.le_zero.mp (bi_lt v_m_now g c 0); show nI (bi v_m_now g c 1) = 0; rw [h9]; rfl) _ (fun m k h1k hk => ?_) (fun m => ?_)
      · show f_X12_next_b38 _ _ _ _ (m + 1) _ _ = f_X12_next_b38 _ _ _ _ m _ _
        obtain ⟨j, rfl⟩ : ∃ j, k = j + 1 := ⟨k - 1, by omega⟩
        have hb := bi_lt v_m_now g c j
        have g1 := gB_le v_m_now g c (j + 1)
        have g2 := gB_le v_m_now g c (bi v_m_now g c (j + 1))
        rw [f_X12_next_b38, if_neg (ge16 hk), f_gr12 hQ hc hk, bd1_s, f_gr12 hQ hc (by omega), bd1_s, ite_nle (by omega) (by omega)]
        simp only [f_X12_next_b64]
        rw [bi_s v_m_now g c (j + 1)]
        split <;> rfl
      · show f_X12_next_b38 _ _ _ _ (m + 1) _ _ = _
        have hb : bi v_m_now g c 16 ≤ 15 := bi_lt v_m_now g c 15
        rw [f_X12_next_b38, if_pos (by decide), f_gr12 hQ hc (w := bi v_m_now g c 16) (by omega), bd1_s]
        simp only [f_X12_next_b84]
        split <;> rfl
  · refine ⟨-1, by unfold f_X11_next; rw [if_neg h0, if_neg hz]; rfl, ?_, hI0⟩
    unfold f_X12_next f_X12_next_b31
    rw [f_in_eq, bd1_s]
    split
    · rfl
    · rw [if_neg one_ne, f_toldSet12 hT2 hnn, bd1_s, if_neg hz]
