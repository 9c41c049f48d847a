/-! pure: mixture, whose, next -/
section MX
variable {dread kind salt : Nat → Int32} {nerve : Int32} {other now rhymeOf : Nat → Int32} {g : Nat → Nat}
/-- a mixture bears a word -/
def mxb (now : Nat → Int32) (g : Nat → Nat) (a b : Nat) (i : Int32) (w : Nat) : Bool := decide ((i * shr now g a w (now (16 + a)) + (8 - i) * shr now g b w (now (16 + b))) / 8 ≤ now 288)
theorem f_mb8 (h : SQ dread kind salt nerve other now rhymeOf g) {a b : Nat} (ha : a < 8) (hb : b < 8) (i x : Int32) : f_X8_mixtureBears dread kind other salt nerve (nI a) (nI b) i x = some (bI (allN (fun w => !(bt x w) || mxb now g a b i w) 16)) := by
  unfold f_X8_mixtureBears
  rw [loopA (fun n j => f_X8_mixtureBears_b3 dread kind other salt nerve (nI a) (nI b) i x n j) (fun w => !(bt x w) || mxb now g a b i w) 16 (some 1) (some 0) (by omega) (fun n k hk hp => ?_) (fun n k hk hp => ?_) (fun n => ?_)]
  · cases allN (fun w => !(bt x w) || mxb now g a b i w) 16 <;> rfl
  · show f_X8_mixtureBears_b3 dread kind other salt nerve (nI a) (nI b) i x (n + 1) _ = f_X8_mixtureBears_b3 dread kind other salt nerve (nI a) (nI b) i x n _
    rw [f_X8_mixtureBears_b3, if_neg (ge16 hk), f_shr8 h ha hk, bd1_s, f_shr8 h hb hk, bd1_s, dI_n (by decide), sh1 x (by omega), h.2.2.1]
    simp only [f_X8_mixtureBears_b58]
    cases hx : bt x k
    · rw [if_pos (show bI false = 0 from rfl)]
    · rw [hx] at hp
      simp only [Bool.not_true, Bool.false_or, mxb, decide_eq_true_eq] at hp
      rw [if_neg (show ¬ bI true = 0 by decide), if_pos hp]
  · show f_X8_mixtureBears_b3 dread kind other salt nerve (nI a) (nI b) i x (n + 1) _ = _
    rw [f_X8_mixtureBears_b3, if_neg (ge16 hk), f_shr8 h ha hk, bd1_s, f_shr8 h hb hk, bd1_s, dI_n (by decide), sh1 x (by omega), h.2.2.1]
    simp only [f_X8_mixtureBears_b58]
    cases hx : bt x k
    · rw [hx] at hp; simp at hp
    · rw [hx] at hp
      simp only [Bool.not_true, Bool.false_or, mxb, decide_eq_false_iff_not] at hp
      rw [if_neg (show ¬ bI true = 0 by decide), if_neg hp]
  · show f_X8_mixtureBears_b3 dread kind other salt nerve (nI a) (nI b) i x (n + 1) _ = _
    rw [f_X8_mixtureBears_b3, if_pos (by decide)]
theorem f_mx12 (h : SQ dread kind salt nerve other now rhymeOf g) {a b n : Nat} {wordAt : Nat → Int32} {w : Nat → Nat} (ha : a < 8) (hb : b < 8) (hn : n ≤ 48) (hw : ∀ i, i < n → w i < 16 ∧ wordAt i = nI (w i)) (i : Int32) : f_X12_mixes now rhymeOf wordAt (nI n) (nI a) (nI b) i = some (bI (allN (fun j => mxb now g a b i (w j)) n)) := by
  unfold f_X12_mixes
  rw [loopA (fun m j => f_X12_mixes_b3 now rhymeOf wordAt (nI n) (nI a) (nI b) i m j) (fun j => mxb now g a b i (w j)) n (some 1) (some 0) (by omega) (fun m k hk hp => ?_) (fun m k hk hp => ?_) (fun m => ?_)]
  · cases allN (fun j => mxb now g a b i (w j)) n <;> rfl
  · show f_X12_mixes_b3 now rhymeOf wordAt (nI n) (nI a) (nI b) i (m + 1) _ = f_X12_mixes_b3 now rhymeOf wordAt (nI n) (nI a) (nI b) i m _
    rw [f_X12_mixes_b3, if_neg (by rw [nle (by omega) (by omega)]; omega), gI_n (by omega) (by omega), (hw k hk).2, f_shr12 h ha (hw k hk).1, bd1_s, f_shr12 h hb (hw k hk).1, bd1_s, dI_n (by decide), show (288 : Int32) = nI 288 from rfl, gI_n (by omega) (by omega), if_pos (of_decide_eq_true hp)]
  · show f_X12_mixes_b3 now rhymeOf wordAt (nI n) (nI a) (nI b) i (m + 1) _ = _
    rw [f_X12_mixes_b3, if_neg (by rw [nle (by omega) (by omega)]; omega), gI_n (by omega) (by omega), (hw k hk).2, f_shr12 h ha (hw k hk).1, bd1_s, f_shr12 h hb (hw k hk).1, bd1_s, dI_n (by decide), show (288 : Int32) = nI 288 from rfl, gI_n (by omega) (by omega), if_neg (of_decide_eq_false hp)]
  · show f_X12_mixes_b3 now rhymeOf wordAt (nI n) (nI a) (nI b) i (m + 1) _ = _
    rw [f_X12_mixes_b3, if_pos (by rw [nle (by omega) (by omega)]; omega)]
end MX
/-- what a count down from 8 finds -/
def mS (c : Nat → Bool) : Nat → Int32 × Int32
  | 0 => (-2, 0)
  | m + 1 => if c (8 - m) then (nI (8 - m), (mS c m).2 + 1) else mS c m
theorem mS_s {c : Nat → Bool} {k : Nat} (hk : k < 9) : mS c (9 - k) = if c k then (nI k, (mS c (9 - (k + 1))).2 + 1) else mS c (9 - (k + 1)) := by
  obtain ⟨m, hm⟩ : ∃ m, 9 - k = m + 1 := ⟨8 - k, by omega⟩
  rw [hm, mS, show 8 - m = k by omega, show 9 - (k + 1) = m by omega]
theorem loopDD {α β : Type} (L : Nat → α → Int32 → Option β) (a : Nat → α) (N : Nat) (hN : N < 99999) {a0 : α} {i0 : Int32} (hi : nI N - 1 = i0) (h0 : a N = a0) (r : Option β)
    (hstep : ∀ n k, k < N → L (n + 1) (a (k + 1)) (nI k) = L n (a k) (nI k + (-1))) (hexit : ∀ n, L (n + 1) (a 0) (-1) = r) : L FU a0 i0 = r := by
  have h := loopD L a N r hstep hexit FU N (Nat.le_refl N) (FU_gt (by omega))
  rw [h0, hi] at h
  exact h
set_option maxHeartbeats 4000000 in
theorem pm_mixture {v_t_tape_bytes : Nat → Int32} {x_t_tape_size : Int32} {v_t_rhymes_other : Nat → Int32} {v_t_shelf_dread : Nat → Int32} {v_t_shelf_ink : Nat → Int32} {v_t_shelf_kind : Nat → Int32} {v_t_shelf_salt : Nat → Int32} {v_t_shelf_tries : Nat → Int32} {x_t_shelf_day : Int32} {x_t_shelf_nerve : Int32} {x_t_shelf_pictures : Int32} {x_t_shelf_told : Int32} {x_t_shelf_written : Int32} {x_t_shelf_x : Int32} {v_t_kept_dread : Nat → Int32} {v_t_kept_ink : Nat → Int32} {v_t_kept_kind : Nat → Int32} {v_t_kept_salt : Nat → Int32} {v_t_kept_tries : Nat → Int32} {x_t_kept_day : Int32} {x_t_kept_nerve : Int32} {x_t_kept_pictures : Int32} {x_t_kept_told : Int32} {x_t_kept_written : Int32} {x_t_kept_x : Int32} {v_t_letter_words : Nat → Int32} {x_t_letter_size : Int32} {v_t_law_code : Nat → Int32} {v_t_law_letters : Nat → Int32} {v_t_law_valueFrom : Nat → Int32} {v_t_law_testFrom : Nat → Int32} {v_t_law_testEnd : Nat → Int32} {x_t_law_rules : Int32} {x_t_anyKept : Int32} {v_m_now : Nat → Int32} {v_m_kept : Nat → Int32} {v_m_rhymeOf : Nat → Int32} {v_m_wordAt : Nat → Int32} {x_m_wordMany : Int32} {v_m_tape : Nat → Int32} {x_m_taped : Int32} {v_m_codes : Nat → Int32} {v_m_clauseOf : Nat → Int32} {v_m_codeFrom : Nat → Int32} {v_m_codeHalf : Nat → Int32} {v_m_codeTo : Nat → Int32} {x_m_clauses : Int32} {x_m_isKept : Int32} (hI : Inv v_t_tape_bytes x_t_tape_size v_t_rhymes_other v_t_shelf_dread v_t_shelf_ink v_t_shelf_kind v_t_shelf_salt v_t_shelf_tries x_t_shelf_day x_t_shelf_nerve x_t_shelf_pictures x_t_shelf_told x_t_shelf_written x_t_shelf_x v_t_kept_dread v_t_kept_ink v_t_kept_kind v_t_kept_salt v_t_kept_tries x_t_kept_day x_t_kept_nerve x_t_kept_pictures x_t_kept_told x_t_kept_written x_t_kept_x v_t_letter_words x_t_letter_size v_t_law_code v_t_law_letters v_t_law_valueFrom v_t_law_testFrom v_t_law_testEnd x_t_law_rules x_t_anyKept v_m_now v_m_kept v_m_rhymeOf v_m_wordAt x_m_wordMany v_m_tape x_m_taped v_m_codes v_m_clauseOf v_m_codeFrom v_m_codeHalf v_m_codeTo x_m_clauses x_m_isKept) (a1 : Int32) (a2 : Int32) (a3 : Int32) : ∃ (r : Int32), f_X11_mixture v_t_letter_words v_t_rhymes_other v_t_shelf_dread v_t_shelf_kind v_t_shelf_salt x_t_letter_size x_t_shelf_nerve x_t_shelf_told a1 a2 a3 = some r ∧ f_X12_mixture v_m_now v_m_rhymeOf v_m_wordAt x_m_wordMany a1 a2 a3 = some r ∧ Inv v_t_tape_bytes x_t_tape_size v_t_rhymes_other v_t_shelf_dread v_t_shelf_ink v_t_shelf_kind v_t_shelf_salt v_t_shelf_tries x_t_shelf_day x_t_shelf_nerve x_t_shelf_pictures x_t_shelf_told x_t_shelf_written x_t_shelf_x v_t_kept_dread v_t_kept_ink v_t_kept_kind v_t_kept_salt v_t_kept_tries x_t_kept_day x_t_kept_nerve x_t_kept_pictures x_t_kept_told x_t_kept_written x_t_kept_x v_t_letter_words x_t_letter_size v_t_law_code v_t_law_letters v_t_law_valueFrom v_t_law_testFrom v_t_law_testEnd x_t_law_rules x_t_anyKept v_m_now v_m_kept v_m_rhymeOf v_m_wordAt x_m_wordMany v_m_tape x_m_taped v_m_codes v_m_clauseOf v_m_codeFrom v_m_codeHalf v_m_codeTo x_m_clauses x_m_isKept := by
  have hI0 := hI
  obtain ⟨hT, ⟨g, hg⟩, hS, hK, ⟨n, w, hn, rfl, rfl, hw⟩, hW⟩ := hI
  have hQ := SQ.of hS hg
  obtain ⟨⟨T, hT2, rfl, hnn⟩, hb2, -⟩ := hS
  rcases tI_cases T a1 with h0 | ⟨a, ha, rfl, -, h1⟩
  · exact ⟨-1, by simp [f_X11_mixture, f_X11_mixture_b36, f_isTold8 hT2, h0, bd1], by simp [f_X12_mixture, f_X12_mixture_b30, f_isTold12 hnn, h0, bd1], hI0⟩
  rcases tI_cases T a2 with h0 | ⟨b, hb, rfl, -, h2⟩
  · exact ⟨-1, by simp [f_X11_mixture, f_X11_mixture_b36, f_isTold8 hT2, h0, h1, bd1], by simp [f_X12_mixture, f_X12_mixture_b30, f_isTold12 hnn, h0, h1, bd1], hI0⟩
  by_cases hab : nI a = nI b
  · exact ⟨-1, by simp [f_X11_mixture, f_X11_mixture_b36, f_isTold8 hT2, h1, h2, bd1, hab], by simp [f_X12_mixture, f_X12_mixture_b30, f_isTold12 hnn, h1, h2, bd1, hab], hI0⟩
  by_cases h : a3 < 0 ∨ 1 < a3
  · exact ⟨-1, by simp [f_X11_mixture, f_X11_mixture_b36, f_isTold8 hT2, h1, h2, bd1, f_within_eq, h], by simp [f_X12_mixture, f_X12_mixture_b30, f_isTold12 hnn, h1, h2, bd1, f_in_eq, h], hI0⟩
  refine ⟨if a3 = 0 then (mS (fun i => allN (fun j => mxb v_m_now g a b (nI i) (w j)) n) 9).1 else (mS (fun i => allN (fun j => mxb v_m_now g a b (nI i) (w j)) n) 9).2, ?_, ?_, hI0⟩
  · unfold f_X11_mixture
    rw [f_isTold8 hT2, bd1_s, h1, if_neg one_ne, f_isTold8 hT2, bd1_s, h2, if_neg one_ne, if_neg hab, f_within_eq, if_neg h, bd1_s, if_neg one_ne, f_bits3 hn (fun i hi => ⟨(hw i hi).1, (hw i hi).2.1⟩), bd1_s]
    refine loopDD (fun m (x : Int32 × Int32) i => f_X11_mixture_b58 v_t_rhymes_other v_t_shelf_dread v_t_shelf_kind v_t_shelf_salt x_t_shelf_nerve (nI a) (nI b) a3 m (lb w n) x.1 x.2 i) (fun k => mS (fun i => allN (fun j => mxb v_m_now g a b (nI i) (w j)) n) (9 - k)) 9 (by omega) (a0 := ((-2 : Int32), (0 : Int32))) (i0 := 8) (by decide) rfl _ (fun m k hk => ?_) (fun m => ?_)
    · show f_X11_mixture_b58 _ _ _ _ _ _ _ _ (m + 1) _ _ _ _ = f_X11_mixture_b58 _ _ _ _ _ _ _ _ m _ _ _ _
      rw [f_X11_mixture_b58, if_neg (nI_pos (by omega)), f_mb8 hQ ha hb, bd1_s, all_words (fun i hi => (hw i hi).1) (mxb v_m_now g a b (nI k)), mS_s hk]
      simp only [f_X11_mixture_b86]
      cases e : allN (fun j => mxb v_m_now g a b (nI k) (w j)) n with
      | true => rw [if_neg (show ¬ bI true = 0 by decide), if_pos rfl]
      | false => rw [if_pos (show bI false = 0 from rfl), if_neg (by simp)]
    · show f_X11_mixture_b58 _ _ _ _ _ _ _ _ (m + 1) _ _ _ _ = _
      rw [f_X11_mixture_b58, if_pos (by decide)]
      simp only [f_X11_mixture_b103]
      split <;> rfl
  · unfold f_X12_mixture
    rw [f_isTold12 hnn, bd1_s, h1, if_neg one_ne, f_isTold12 hnn, bd1_s, h2, if_neg one_ne, if_neg hab, f_in_eq, if_neg h, bd1_s, if_neg one_ne]
    refine loopDD (fun m (x : Int32 × Int32) i => f_X12_mixture_b43 v_m_now v_m_rhymeOf v_m_wordAt (nI n) (nI a) (nI b) a3 m x.1 x.2 i) (fun k => mS (fun i => allN (fun j => mxb v_m_now g a b (nI i) (w j)) n) (9 - k)) 9 (by omega) (a0 := ((-2 : Int32), (0 : Int32))) (i0 := 8) (by decide) rfl _ (fun m k hk => ?_) (fun m => ?_)
    · show f_X12_mixture_b43 _ _ _ _ _ _ _ (m + 1) _ _ _ = f_X12_mixture_b43 _ _ _ _ _ _ _ m _ _ _
      rw [f_X12_mixture_b43, if_neg (nI_pos (by omega)), f_mx12 hQ ha hb hn (fun i hi => ⟨(hw i hi).1, (hw i hi).2.2⟩), bd1_s, mS_s hk]
      simp only [f_X12_mixture_b72]
      cases e : allN (fun j => mxb v_m_now g a b (nI k) (w j)) n with
      | true => rw [if_neg (show ¬ bI true = 0 by decide), if_pos rfl]
      | false => rw [if_pos (show bI false = 0 from rfl), if_neg (by simp)]
    · show f_X12_mixture_b43 _ _ _ _ _ _ _ (m + 1) _ _ _ = _
      rw [f_X12_mixture_b43, if_pos (by decide)]
      simp only [f_X12_mixture_b89]
      split <;> rfl
/-! whose -/
theorem bt_nI {T i : Nat} (hT : T < 256) (hi : i < 32) : bt (nI T) i = (decide (i < 8) && tl T i) := by
  rw [← told_bits T hT]
  exact bt_bitsI hi 8 (by omega)
theorem f_bb8 {dread kind salt : Nat → Int32} {nerve : Int32} {other now rhymeOf : Nat → Int32} {g : Nat → Nat} {T : Nat} (h : SQ dread kind salt nerve other now rhymeOf g) (hT : T < 256) {w : Nat} (hw : w < 16) : f_X8_bottlesBearing dread kind other salt nerve (nI T) (nI w) = some (bitsI (fun b => tl T b && bear now g b w) 8) := by
  unfold f_X8_bottlesBearing
  refine loop0 (fun n a i => f_X8_bottlesBearing_b4 dread kind other salt nerve (nI T) (nI w) n a i) (bitsI (fun b => tl T b && bear now g b w)) 8 (by omega) _ (fun n k hk => ?_) (fun n => ?_)
  · show f_X8_bottlesBearing_b4 dread kind other salt nerve (nI T) (nI w) (n + 1) _ _ = f_X8_bottlesBearing_b4 dread kind other salt nerve (nI T) (nI w) n _ _
    rw [f_X8_bottlesBearing_b4, if_neg (ge8 hk), f_isTold8 hT, bd1_s, tI_tl hk, f_bears8 h hk hw, bd1_s]
    simp only [f_X8_bottlesBearing_b34, f_X8_bottlesBearing_b35, bI_eq0, bitsI]
    rcases Bool.eq_false_or_eq_true (tl T k) with h1 | h1 <;> rcases Bool.eq_false_or_eq_true (bear now g k w) with h2 | h2 <;> simp [h1, h2, or0]
  · show f_X8_bottlesBearing_b4 dread kind other salt nerve (nI T) (nI w) (n + 1) _ _ = _
    rw [f_X8_bottlesBearing_b4, if_pos (by decide)]
/-- writers by the first k askings -/
def wrs (T : Nat) (now : Nat → Int32) (g : Nat → Nat) (t : Nat → Nat) : Nat → Int32
  | 0 => nI T
  | k + 1 => if t (2 * k + 1) = 1 then wrs T now g t k &&& bitsI (fun b => tl T b && bear now g b (t (2 * k))) 8 else wrs T now g t k &&& (bitsI (fun b => tl T b && bear now g b (t (2 * k))) 8 ^^^ (-1))
theorem wrs_bt {T : Nat} {now : Nat → Int32} {g t : Nat → Nat} (hT : T < 256) {i : Nat} (hi : i < 32) : ∀ n, bt (wrs T now g t n) i = (decide (i < 8) && (tl T i && allN (fun k => bear now g i (t (2 * k)) == decide (t (2 * k + 1) = 1)) n))
  | 0 => by rw [wrs, bt_nI hT hi, allN]; simp
  | n + 1 => by
    rw [wrs, allN]
    by_cases e : t (2 * n + 1) = 1
    · rw [if_pos e, b_and, wrs_bt hT hi n, bt_bitsI hi 8 (by omega)]
      simp only [e]
      cases decide (i < 8) <;> cases tl T i <;> cases bear now g i (t (2 * n)) <;> cases allN (fun k => bear now g i (t (2 * k)) == decide (t (2 * k + 1) = 1)) n <;> rfl
    · rw [if_neg e, b_and, b_xor, b_m1 i hi, wrs_bt hT hi n, bt_bitsI hi 8 (by omega)]
      simp only [e]
      cases decide (i < 8) <;> cases tl T i <;> cases bear now g i (t (2 * n)) <;> cases allN (fun k => bear now g i (t (2 * k)) == decide (t (2 * k + 1) = 1)) n <;> rfl
theorem two_mul_nI (k : Nat) : (2 : Int32) * nI k = nI (2 * k) := by rw [show (2 : Int32) = nI 2 from rfl, pk_mul]
set_option maxHeartbeats 4000000 in
theorem pm_whose {v_t_tape_bytes : Nat → Int32} {x_t_tape_size : Int32} {v_t_rhymes_other : Nat → Int32} {v_t_shelf_dread : Nat → Int32} {v_t_shelf_ink : Nat → Int32} {v_t_shelf_kind : Nat → Int32} {v_t_shelf_salt : Nat → Int32} {v_t_shelf_tries : Nat → Int32} {x_t_shelf_day : Int32} {x_t_shelf_nerve : Int32} {x_t_shelf_pictures : Int32} {x_t_shelf_told : Int32} {x_t_shelf_written : Int32} {x_t_shelf_x : Int32} {v_t_kept_dread : Nat → Int32} {v_t_kept_ink : Nat → Int32} {v_t_kept_kind : Nat → Int32} {v_t_kept_salt : Nat → Int32} {v_t_kept_tries : Nat → Int32} {x_t_kept_day : Int32} {x_t_kept_nerve : Int32} {x_t_kept_pictures : Int32} {x_t_kept_told : Int32} {x_t_kept_written : Int32} {x_t_kept_x : Int32} {v_t_letter_words : Nat → Int32} {x_t_letter_size : Int32} {v_t_law_code : Nat → Int32} {v_t_law_letters : Nat → Int32} {v_t_law_valueFrom : Nat → Int32} {v_t_law_testFrom : Nat → Int32} {v_t_law_testEnd : Nat → Int32} {x_t_law_rules : Int32} {x_t_anyKept : Int32} {v_m_now : Nat → Int32} {v_m_kept : Nat → Int32} {v_m_rhymeOf : Nat → Int32} {v_m_wordAt : Nat → Int32} {x_m_wordMany : Int32} {v_m_tape : Nat → Int32} {x_m_taped : Int32} {v_m_codes : Nat → Int32} {v_m_clauseOf : Nat → Int32} {v_m_codeFrom : Nat → Int32} {v_m_codeHalf : Nat → Int32} {v_m_codeTo : Nat → Int32} {x_m_clauses : Int32} {x_m_isKept : Int32} (hI : Inv v_t_tape_bytes x_t_tape_size v_t_rhymes_other v_t_shelf_dread v_t_shelf_ink v_t_shelf_kind v_t_shelf_salt v_t_shelf_tries x_t_shelf_day x_t_shelf_nerve x_t_shelf_pictures x_t_shelf_told x_t_shelf_written x_t_shelf_x v_t_kept_dread v_t_kept_ink v_t_kept_kind v_t_kept_salt v_t_kept_tries x_t_kept_day x_t_kept_nerve x_t_kept_pictures x_t_kept_told x_t_kept_written x_t_kept_x v_t_letter_words x_t_letter_size v_t_law_code v_t_law_letters v_t_law_valueFrom v_t_law_testFrom v_t_law_testEnd x_t_law_rules x_t_anyKept v_m_now v_m_kept v_m_rhymeOf v_m_wordAt x_m_wordMany v_m_tape x_m_taped v_m_codes v_m_clauseOf v_m_codeFrom v_m_codeHalf v_m_codeTo x_m_clauses x_m_isKept) (a1 : Int32) : ∃ (r : Int32) (o_x_t_tape_size : Int32) (o_x_m_taped : Int32), f_X11_whose v_t_rhymes_other v_t_shelf_dread v_t_shelf_kind v_t_shelf_salt v_t_tape_bytes x_t_shelf_nerve x_t_shelf_told x_t_tape_size a1 = some (r, o_x_t_tape_size) ∧ f_X12_whose v_m_now v_m_rhymeOf v_m_tape x_m_taped a1 = some (r, o_x_m_taped) ∧ Inv v_t_tape_bytes o_x_t_tape_size v_t_rhymes_other v_t_shelf_dread v_t_shelf_ink v_t_shelf_kind v_t_shelf_salt v_t_shelf_tries x_t_shelf_day x_t_shelf_nerve x_t_shelf_pictures x_t_shelf_told x_t_shelf_written x_t_shelf_x v_t_kept_dread v_t_kept_ink v_t_kept_kind v_t_kept_salt v_t_kept_tries x_t_kept_day x_t_kept_nerve x_t_kept_pictures x_t_kept_told x_t_kept_written x_t_kept_x v_t_letter_words x_t_letter_size v_t_law_code v_t_law_letters v_t_law_valueFrom v_t_law_testFrom v_t_law_testEnd x_t_law_rules x_t_anyKept v_m_now v_m_kept v_m_rhymeOf v_m_wordAt x_m_wordMany v_m_tape o_x_m_taped v_m_codes v_m_clauseOf v_m_codeFrom v_m_codeHalf v_m_codeTo x_m_clauses x_m_isKept := by
  have hI0 := hI
  obtain ⟨⟨n, t, hn, rfl, rfl, ht⟩, ⟨g, hg⟩, hS, hK, hL, hW⟩ := hI
  have hQ := SQ.of hS hg
  obtain ⟨⟨T, hT2, e, hnn⟩, hb2, -⟩ := id hS
  subst e
  by_cases h : a1 < 1 ∨ 12 < a1
  · exact ⟨-1, _, _, by simp [f_X11_whose, f_X11_whose_b23, f_within_eq, h, bd1], by simp [f_X12_whose, f_X12_whose_b20, f_in_eq, h, bd1], hI0⟩
  · obtain ⟨k, hk, rfl⟩ := rg_of (n := 12) (a := a1) (by omega) (fun q => h (Or.inl (by rw [fa_lt] at q ⊢; have : (0 : Int32).toInt = 0 := rfl; have : (1 : Int32).toInt = 1 := rfl; omega))) (fun q => h (Or.inr q))
    by_cases hkn : 2 * k ≤ n
    · have e2 : nI (2 * k) ≤ nI n := by rw [nle (by omega) (by omega)]; exact hkn
      have hb : ∀ i, i < 2 * k → v_t_tape_bytes i = nI (t i) ∧ v_m_tape i &&& 255 = nI (t i) ∧ t i < 256 := fun i hi => ⟨(ht i (by omega)).2.1, (ht i (by omega)).2.2, (ht i (by omega)).1⟩
      refine ⟨if allN (fun j => decide (t (2 * j) < 16) && decide (t (2 * j + 1) ≤ 1)) k then wrs T v_m_now g t k else -3, 0, 0, ?_, ?_, RTape.empty, ⟨g, hg⟩, hS, hK, hL, hW⟩
      · unfold f_X11_whose
        rw [f_within_eq, if_neg h, bd1_s, if_neg one_ne, two_mul_nI, f_has9 n (2 * k) hn (by omega), if_pos hkn, bd1_s, if_neg one_ne]
        have key : f_X11_writersBy v_t_rhymes_other v_t_shelf_dread v_t_shelf_kind v_t_shelf_salt v_t_tape_bytes x_t_shelf_nerve (nI T) (nI n) (nI k) = some (if allN (fun j => decide (t (2 * j) < 16) && decide (t (2 * j + 1) ≤ 1)) k then wrs T v_m_now g t k else -3) := by
          unfold f_X11_writersBy
          have gen : ∀ m j, j ≤ k → k - j < m → (∀ i, i < j → (decide (t (2 * i) < 16) && decide (t (2 * i + 1) ≤ 1)) = true) → f_X11_writersBy_b10 v_t_rhymes_other v_t_shelf_dread v_t_shelf_kind v_t_shelf_salt v_t_tape_bytes x_t_shelf_nerve (nI T) (nI n) (nI k) m (wrs T v_m_now g t j) (nI j) = some (if allN (fun j => decide (t (2 * j) < 16) && decide (t (2 * j + 1) ≤ 1)) k then wrs T v_m_now g t k else -3) := by
            intro m
            induction m with
            | zero => intro j _ h; omega
            | succ m ih =>
              intro j hj hm hp
              rcases Nat.lt_or_ge j k with hlt | hge
              · rw [f_X11_writersBy_b10, if_neg (by rw [nle (by omega) (by omega)]; omega), two_mul_nI, f_at9 hn (by omega), bd1_s, nI_1, f_at9 hn (by omega), bd1_s, (hb (2 * j) (by omega)).1, (hb (2 * j + 1) (by omega)).1]
                have h16 : (16 : Int32) ≤ nI (t (2 * j)) ↔ ¬ t (2 * j) < 16 := by
                  rw [show (16 : Int32) = nI 16 from rfl, nle (by omega) (by have := (hb (2 * j) (by omega)).2.2; omega)]; omega
                have h1 : nI (t (2 * j + 1)) ≤ (1 : Int32) ↔ t (2 * j + 1) ≤ 1 := by
                  rw [show (1 : Int32) = nI 1 from rfl, nle (by have := (hb (2 * j + 1) (by omega)).2.2; omega) (by omega)]
                have h1e : nI (t (2 * j + 1)) = (1 : Int32) ↔ t (2 * j + 1) = 1 := by
                  rw [show (1 : Int32) = nI 1 from rfl, neq (by have := (hb (2 * j + 1) (by omega)).2.2; omega) (by omega)]
                by_cases q1 : t (2 * j) < 16
                · rw [if_neg (by rw [h16]; omega)]
                  by_cases q2 : t (2 * j + 1) ≤ 1
                  · rw [if_pos (h1.mpr q2), f_bb8 hQ hT2 q1, bd1_s]
                    have ih2 := ih (j + 1) hlt (by omega) (fun i hi => by
                      by_cases ei : i = j
                      · subst ei; simp [q1, q2]
                      · exact hp i (by omega))
                    simp only [f_X11_writersBy_b84]
                    rw [nI_1, ← ih2, wrs]
                    by_cases q3 : t (2 * j + 1) = 1
                    · rw [if_pos (h1e.mpr q3), if_pos q3]
                    · rw [if_neg (by rw [h1e]; exact q3), if_neg q3]
                  · rw [if_neg (by rw [h1]; exact q2), allN_false hlt (by simp [q2])]; rfl
                · rw [if_pos (by rw [h16]; exact q1), allN_false hlt (by simp [q1])]; rfl
              · have ej : j = k := by omega
                subst ej
                rw [f_X11_writersBy_b10, if_pos (by rw [nle (by omega) (by omega)]; omega), allN_iff.mpr hp]; rfl
          exact gen FU 0 (Nat.zero_le k) (FU_gt (by omega)) (fun i hi => by omega)
        rw [key, bd1_s]
        rfl
      · unfold f_X12_whose
        rw [f_in_eq, if_neg h, bd1_s, if_neg one_ne, two_mul_nI, if_pos e2]
        rw [loopA (fun m i => f_X12_whose_b29 v_m_now v_m_rhymeOf v_m_tape (nI k) m 0 i) (fun j => decide (t (2 * j) < 16) && decide (t (2 * j + 1) ≤ 1)) k (f_X12_whose_b73 v_m_now v_m_rhymeOf v_m_tape (nI k) FU 0 0 0) (some (-3, 0)) (by omega) (fun m j hj hp => ?_) (fun m j hj hp => ?_) (fun m => ?_)]
        · by_cases hall : allN (fun j => decide (t (2 * j) < 16) && decide (t (2 * j + 1) ≤ 1)) k = true
          · rw [if_pos hall, if_pos hall]
            have hgood := allN_iff.mp hall
            have hg16 : ∀ j, j < k → t (2 * j) < 16 ∧ t (2 * j + 1) ≤ 1 := fun j hj => by simpa using hgood j hj
            have ew : wrs T v_m_now g t k = bitsI (fun b => tl T b && allN (fun j => bear v_m_now g b (t (2 * j)) == decide (t (2 * j + 1) = 1)) k) 8 := by
              apply b_ext
              intro i hi
              rw [wrs_bt hT2 hi, bt_bitsI hi 8 (by omega)]
            rw [ew]
            refine loop0 (fun m a i => f_X12_whose_b73 v_m_now v_m_rhymeOf v_m_tape (nI k) m 0 a i) (bitsI (fun b => tl T b && allN (fun j => bear v_m_now g b (t (2 * j)) == decide (t (2 * j + 1) = 1)) k)) 8 (by omega) _ (fun m b hb8 => ?_) (fun m => ?_)
            · show f_X12_whose_b73 _ _ _ _ (m + 1) _ _ _ = f_X12_whose_b73 _ _ _ _ m _ _ _
              rw [f_X12_whose_b73, if_neg (ge8 hb8), f_isTold12 hnn, bd1_s, tI_tl hb8]
              have inner : ∀ (K : Int32 → Int32 → Int32 → Option (Int32 × Int32)) (S : Int32), f_X12_whose_b89 v_m_now v_m_rhymeOf v_m_tape (nI k) K FU 0 S (nI b) (bI (tl T b)) 0 = K 0 (if (tl T b && allN (fun j => bear v_m_now g b (t (2 * j)) == decide (t (2 * j + 1) = 1)) k) then S ||| ((1 : Int32) <<< (nI b &&& 31)) else S) (nI b + 1) := by
                intro K S
                have gen : ∀ m j c, j ≤ k → k - j < m → c = (tl T b && allN (fun j => bear v_m_now g b (t (2 * j)) == decide (t (2 * j + 1) = 1)) j) → f_X12_whose_b89 v_m_now v_m_rhymeOf v_m_tape (nI k) K m 0 S (nI b) (bI c) (nI j) = K 0 (if (tl T b && allN (fun j => bear v_m_now g b (t (2 * j)) == decide (t (2 * j + 1) = 1)) k) then S ||| ((1 : Int32) <<< (nI b &&& 31)) else S) (nI b + 1) := by
                  intro m
                  induction m with
                  | zero => intro j c _ h; omega
                  | succ m ih =>
                    intro j c hj hm hc
                    rw [f_X12_whose_b89]
                    rcases Nat.lt_or_ge j k with hlt | hge
                    · rw [if_neg (by rw [nle (by omega) (by omega)]; omega)]
                      cases c with
                      | false =>
                        rw [if_pos (show bI false = 0 from rfl)]
                        have hf : (tl T b && allN (fun j => bear v_m_now g b (t (2 * j)) == decide (t (2 * j + 1) = 1)) k) = false := by
                          cases ht' : tl T b with
                          | false => rfl
                          | true =>
                            rw [ht', Bool.true_and] at hc
                            rw [Bool.true_and]
                            cases ha : allN (fun j => bear v_m_now g b (t (2 * j)) == decide (t (2 * j + 1) = 1)) k with
                            | false => rfl
                            | true =>
                              have h2 := allN_iff.mpr (fun i (hi : i < j) => allN_iff.mp ha i (by omega))
                              rw [h2] at hc; cases hc
                        rw [hf]
                        simp only [f_X12_whose_b148, f_X12_whose_b159]
                        rw [if_pos (show bI false = 0 from rfl), if_neg (by simp)]
                      | true =>
                        rw [if_neg (show ¬ bI true = 0 by decide), two_mul_nI, f_oct12 (by omega), bd1_s, (hb (2 * j) (by omega)).2.1, f_bears12 hQ hb8 (hg16 j hlt).1, bd1_s, nI_1, f_oct12 (by omega), bd1_s, (hb (2 * j + 1) (by omega)).2.1]
                        have h1e : nI (t (2 * j + 1)) = (1 : Int32) ↔ t (2 * j + 1) = 1 := by
                          rw [show (1 : Int32) = nI 1 from rfl, neq (by have := (hb (2 * j + 1) (by omega)).2.2; omega) (by omega)]
                        have ih2 := fun c hc => ih (j + 1) c hlt (by omega) hc
                        have e9 : nI j + 1 = nI (j + 1) := nI_1 j
                        simp only [f_X12_whose_b132, f_X12_whose_b140]
                        rw [e9]
                        have hc2 : ∀ c', c' = (bear v_m_now g b (t (2 * j)) == decide (t (2 * j + 1) = 1)) → c' = (tl T b && allN (fun j => bear v_m_now g b (t (2 * j)) == decide (t (2 * j + 1) = 1)) (j + 1)) := by
                          intro c' e'
                          rw [allN, ← Bool.and_assoc, ← hc, Bool.true_and, e']
                        by_cases q3 : t (2 * j + 1) = 1
                        · rw [if_pos (h1e.mpr q3)]
                          cases hbr : bear v_m_now g b (t (2 * j)) with
                          | true => rw [if_pos (show bI true = 1 from rfl)]; exact ih2 true (hc2 true (by simp [hbr, q3]))
                          | false => rw [if_neg (show ¬ bI false = 1 by decide)]; exact ih2 false (hc2 false (by simp [hbr, q3]))
                        · rw [if_neg (by rw [h1e]; exact q3)]
                          cases hbr : bear v_m_now g b (t (2 * j)) with
                          | true => rw [if_neg (show ¬ bI true = 0 by decide)]; exact ih2 false (hc2 false (by simp [hbr, q3]))
                          | false => rw [if_pos (show bI false = 0 from rfl)]; exact ih2 true (hc2 true (by simp [hbr, q3]))
                    · have ej : j = k := by omega
                      subst ej
                      rw [if_pos (by rw [nle (by omega) (by omega)]; omega), ← hc]
                      simp only [f_X12_whose_b148, f_X12_whose_b159]
                      cases c
                      · rw [if_pos (show bI false = 0 from rfl), if_neg (by simp)]
                      · rw [if_neg (show ¬ bI true = 0 by decide), if_pos rfl]
                exact gen FU 0 (tl T b) (Nat.zero_le k) (FU_gt (by omega)) (by rw [allN, Bool.and_true])
              rw [inner, bitsI]
            · show f_X12_whose_b73 _ _ _ _ (m + 1) _ _ _ = _
              rw [f_X12_whose_b73, if_pos (by decide)]
          · rw [if_neg hall, if_neg hall]
        · show f_X12_whose_b29 _ _ _ _ (m + 1) _ _ = f_X12_whose_b29 _ _ _ _ m _ _
          simp only [Bool.and_eq_true, decide_eq_true_eq] at hp
          rw [f_X12_whose_b29, if_neg (by rw [nle (by omega) (by omega)]; omega), two_mul_nI, f_oct12 (by omega), bd1_s, (hb (2 * j) (by omega)).2.1]
          unfold f_X12_isWord
          rw [f_in_eq, if_neg, bd1_s, zI_1, bd1_s, if_neg one_ne, nI_1, f_oct12 (by omega), bd1_s, (hb (2 * j + 1) (by omega)).2.1, if_pos, nI_1]
          · rw [show (1 : Int32) = nI 1 from rfl, nle (by omega) (by omega)]; exact hp.2
          · rintro (q | q)
            · exact nI_pos (by omega) q
            · rw [show (15 : Int32) = nI 15 from rfl, nlt (by omega) (by omega)] at q; omega
        · show f_X12_whose_b29 _ _ _ _ (m + 1) _ _ = _
          have h255 := (hb (2 * j) (by omega)).2.2
          have h255' := (hb (2 * j + 1) (by omega)).2.2
          rw [f_X12_whose_b29, if_neg (by rw [nle (by omega) (by omega)]; omega), two_mul_nI, f_oct12 (by omega), bd1_s, (hb (2 * j) (by omega)).2.1]
          unfold f_X12_isWord f_X12_whose_b60
          rw [f_in_eq]
          by_cases q1 : t (2 * j) < 16
          · have q2 : ¬ t (2 * j + 1) ≤ 1 := fun q => by simp [q1, q] at hp
            rw [if_neg, bd1_s, zI_1, bd1_s, if_neg one_ne, nI_1, f_oct12 (by omega), bd1_s, (hb (2 * j + 1) (by omega)).2.1, if_neg]
            · rw [show (1 : Int32) = nI 1 from rfl, nle (by omega) (by omega)]; exact q2
            · rintro (q | q)
              · exact nI_pos (by omega) q
              · rw [show (15 : Int32) = nI 15 from rfl, nlt (by omega) (by omega)] at q; omega
          · rw [if_pos (Or.inr (by rw [show (15 : Int32) = nI 15 from rfl, nlt (by omega) (by omega)]; omega)), bd1_s, zI_0, bd1_s, if_pos rfl]
        · show f_X12_whose_b29 _ _ _ _ (m + 1) _ _ = _
          rw [f_X12_whose_b29, if_pos (by rw [nle (by omega) (by omega)]; omega)]
    · have e2 : ¬ nI (2 * k) ≤ nI n := by rw [nle (by omega) (by omega)]; exact hkn
      exact ⟨-1, _, _, by simp [f_X11_whose, f_X11_whose_b23, f_within_eq, h, bd1, two_mul_nI, f_has9 n (2 * k) hn (by omega), hkn], by simp [f_X12_whose, f_X12_whose_b20, f_in_eq, h, bd1, two_mul_nI, e2], hI0⟩
