/-! pure: what a shelf answers -/
theorem f_dread8 {v : Nat → Int32} {b w : Nat} (hb : b < 8) (hw : w < 16) : f_X8_dreadOf v (nI b) (nI w) = some (v (16 * b + w)) := by
  unfold f_X8_dreadOf
  rw [and7 b hb, and15 w hw, show (16 : Int32) = nI 16 from rfl, pk_mul, nI_add, gI_n (by omega) (by omega), Nat.mul_comm b 16]
theorem f_tries8 {v : Nat → Int32} {b w : Nat} (hb : b < 8) (hw : w < 16) : f_X8_triesOf v (nI b) (nI w) = some (v (16 * b + w)) := by
  unfold f_X8_triesOf
  rw [and7 b hb, and15 w hw, show (16 : Int32) = nI 16 from rfl, pk_mul, nI_add, gI_n (by omega) (by omega), Nat.mul_comm b 16]
theorem f_dread12 {v : Nat → Int32} {b w : Nat} (hb : b < 8) (hw : w < 16) : f_X12_dreadOf v (nI b) (nI w) = some (v (32 + (16 * b + w))) := by
  unfold f_X12_dreadOf
  rw [show (16 : Int32) = nI 16 from rfl, show (32 : Int32) = nI 32 from rfl, pk_mul, nI_add, nI_add, gI_n (by omega) (by omega), Nat.add_assoc]
theorem f_kind8 {v : Nat → Int32} {b : Nat} (hb : b < 8) : f_X8_kindOf v (nI b) = some (v b) := by
  unfold f_X8_kindOf
  rw [and7 b hb, gI_n (by omega) (by omega)]
theorem f_salt8 {v : Nat → Int32} {b : Nat} (hb : b < 8) : f_X8_saltOf v (nI b) = some (v b) := by
  unfold f_X8_saltOf
  rw [and7 b hb, gI_n (by omega) (by omega)]
theorem f_ink8 {v : Nat → Int32} {b : Nat} (hb : b < 8) : f_X8_inkOf v (nI b) = some (v b) := by
  unfold f_X8_inkOf
  rw [and7 b hb, gI_n (by omega) (by omega)]
theorem f_of4 {v : Nat → Int32} {w : Nat} (hw : w < 16) : f_X4_of v (nI w) = some (v w) := by
  unfold f_X4_of
  rw [and15 w hw, gI_n (by omega) (by omega)]
def uns (now : Nat → Int32) (g : Nat → Nat) (b w : Nat) : Int32 :=
  if now (8 + b) = 0 then now (32 + (16 * b + w)) else if now (8 + b) = 1 then 2 * now (32 + (16 * b + w)) else if now (8 + b) = 2 then now (32 + (16 * b + w)) / 2 else if now (8 + b) = 3 then 0 else (now (32 + (16 * b + w)) + now (32 + (16 * b + g w)) + 1) / 2
def shr (now : Nat → Int32) (g : Nat → Nat) (b w : Nat) (s : Int32) : Int32 := bnd (uns now g b w - s)
theorem bnd_neg : ∀ k, k < 100 → bnd (0 - nI k) = 0 := by decide +kernel
/-- the shelf and the array hold the same, as far as the answers below ask -/
def SQ (dread kind salt : Nat → Int32) (nerve : Int32) (other now rhymeOf : Nat → Int32) (g : Nat → Nat) : Prop :=
  (∀ b, b < 8 → kind b = now (8 + b) ∧ salt b = now (16 + b) ∧ Rg (now (16 + b)) 99) ∧ (∀ j, j < 128 → dread j = now (32 + j)) ∧ nerve = now 288 ∧ ∀ w, w < 16 → g w < 16 ∧ other w = nI (g w) ∧ rhymeOf w = nI (g w)
theorem SQ.of {dread ink kind salt tries : Nat → Int32} {day nerve pictures told written x : Int32} {now other rhymeOf : Nat → Int32} {g : Nat → Nat} (h : RShelf dread ink kind salt tries day nerve pictures told written x now) (hg : ∀ w, w < 16 → g w < 16 ∧ g (g w) = w ∧ other w = nI (g w) ∧ rhymeOf w = nI (g w)) : SQ dread kind salt nerve other now rhymeOf g := by
  obtain ⟨-, h2, h3, ⟨h4, -⟩, -⟩ := h
  refine ⟨fun b hb => ?_, fun j hj => (h3 j hj).1, h4, fun w hw => ⟨(hg w hw).1, (hg w hw).2.2⟩⟩
  obtain ⟨g1, g2, g3, g4, g5, g6⟩ := h2 b hb
  exact ⟨g1, g3, by rw [← g3]; exact g4⟩
section SH
variable {dread kind salt : Nat → Int32} {nerve : Int32} {other now rhymeOf : Nat → Int32} {g : Nat → Nat}
theorem f_uns8 (h : SQ dread kind salt nerve other now rhymeOf g) {b w : Nat} (hb : b < 8) (hw : w < 16) : f_X8_unsalted dread kind other (nI b) (nI w) = some (uns now g b w) := by
  obtain ⟨h1, h2, h3, h4⟩ := h
  unfold f_X8_unsalted uns
  rw [f_kind8 hb, (h1 b hb).1]
  simp only [bd1]
  rw [f_dread8 hb hw, h2 _ (by omega), f_of4 hw, (h4 w hw).2.1]
  simp only [bd1]
  rw [f_dread8 hb (h4 w hw).1, h2 _ (by have := (h4 w hw).1; omega)]
  simp only [bd1]
  rw [dI_n (by decide), dI_n (by decide)]
  split
  · rfl
  · split
    · rfl
    · split
      · rfl
      · split <;> rfl
theorem f_shr8 (h : SQ dread kind salt nerve other now rhymeOf g) {b w : Nat} (hb : b < 8) (hw : w < 16) : f_X8_shrinking dread kind other salt (nI b) (nI w) = some (shr now g b w (now (16 + b))) := by
  unfold f_X8_shrinking
  rw [f_uns8 h hb hw]
  simp only [bd1]
  rw [f_salt8 hb, (h.1 b hb).2.1]
  simp only [bd1]
  rw [f_bounded_eq]
  rfl
theorem f_shrBy12 (h : SQ dread kind salt nerve other now rhymeOf g) {b w : Nat} (hb : b < 8) (hw : w < 16) {s : Int32} (hs : Rg s 99) : f_X12_shrinkingBy now rhymeOf (nI b) (nI w) s = some (shr now g b w s) := by
  obtain ⟨h1, h2, h3, h4⟩ := h
  unfold f_X12_shrinkingBy shr uns
  rw [f_dread12 hb hw]
  simp only [bd1]
  rw [show (8 : Int32) = nI 8 from rfl, nI_add, gI_n (by omega) (by omega)]
  simp only [f_limit_eq]
  rw [gI_n (by omega) (by omega), (h4 w hw).2.2, f_dread12 hb (h4 w hw).1]
  simp only [bd1]
  rw [dI_n (by decide), dI_n (by decide)]
  split
  · rfl
  · split
    · rfl
    · split
      · rfl
      · split
        · obtain ⟨k, hk, rfl⟩ := hs
          rw [bnd_neg k (by omega)]
        · rfl
theorem f_shr12 (h : SQ dread kind salt nerve other now rhymeOf g) {b w : Nat} (hb : b < 8) (hw : w < 16) : f_X12_shrinking now rhymeOf (nI b) (nI w) = some (shr now g b w (now (16 + b))) := by
  unfold f_X12_shrinking
  rw [show (16 : Int32) = nI 16 from rfl, nI_add, gI_n (by omega) (by omega), f_shrBy12 h hb hw (h.1 b hb).2.2]
  rfl
/-- does b bear w -/
def bear (now : Nat → Int32) (g : Nat → Nat) (b w : Nat) : Bool := decide (¬ now 288 < shr now g b w (now (16 + b)))
def bI (c : Bool) : Int32 := if c then 1 else 0
theorem bI_0 : bI false = 0 := rfl
theorem bI_1 : bI true = 1 := rfl
theorem bI_eq0 (c : Bool) : (bI c = 0) = (c = false) := by cases c <;> simp [bI]
theorem f_bears8 (h : SQ dread kind salt nerve other now rhymeOf g) {b w : Nat} (hb : b < 8) (hw : w < 16) : f_X8_bears dread kind other salt nerve (nI b) (nI w) = some (bI (bear now g b w)) := by
  unfold f_X8_bears f_X8_bears_b18
  rw [f_shr8 h hb hw, h.2.2.1]
  simp only [bd1, zI_0, zI_1, bear, bI]
  by_cases hc : now 288 < shr now g b w (now (16 + b)) <;> simp [hc]
theorem f_bears12 (h : SQ dread kind salt nerve other now rhymeOf g) {b w : Nat} (hb : b < 8) (hw : w < 16) : f_X12_bears now rhymeOf (nI b) (nI w) = some (bI (bear now g b w)) := by
  unfold f_X12_bears f_X12_bears_b22
  rw [f_shr12 h hb hw]
  simp only [bd1]
  rw [show (288 : Int32) = nI 288 from rfl, gI_n (by omega) (by omega)]
  simp only [zI_0, zI_1, bear, bI]
  by_cases hc : now 288 < shr now g b w (now (16 + b)) <;> simp [hc]
/-- bits by a test -/
def bitsI (p : Nat → Bool) : Nat → Int32
  | 0 => 0
  | k + 1 => if p k then bitsI p k ||| ((1 : Int32) <<< (nI k &&& 31)) else bitsI p k
theorem or0 (x : Int32) : x ||| 0 = x := by
  apply b_ext
  intro i hi
  rw [b_or, b_0, Bool.or_false]
theorem f_wb8 (h : SQ dread kind salt nerve other now rhymeOf g) {b : Nat} (hb : b < 8) : f_X8_wordsBorneBy dread kind other salt nerve (nI b) = some (bitsI (bear now g b) 16) := by
  unfold f_X8_wordsBorneBy
  refine loop0 (fun n a i => f_X8_wordsBorneBy_b4 dread kind other salt nerve (nI b) n a i) (bitsI (bear now g b)) 16 (by omega) _ (fun n k hk => ?_) (fun n => ?_)
  · show f_X8_wordsBorneBy_b4 dread kind other salt nerve (nI b) (n + 1) _ _ = f_X8_wordsBorneBy_b4 dread kind other salt nerve (nI b) n _ _
    rw [f_X8_wordsBorneBy_b4, if_neg (by rw [show (16 : Int32) = nI 16 from rfl, nle (by omega) (by omega)]; omega), f_bears8 h hb hk]
    simp only [bd1, f_X8_wordsBorneBy_b27, bI_eq0, bitsI]
    cases bear now g b k
    · simp [or0]
    · simp
  · show f_X8_wordsBorneBy_b4 dread kind other salt nerve (nI b) (n + 1) _ _ = _
    rw [f_X8_wordsBorneBy_b4, if_pos (by decide)]
theorem f_wb12 (h : SQ dread kind salt nerve other now rhymeOf g) {b : Nat} (hb : b < 8) : f_X12_bornBy now rhymeOf (nI b) = some (bitsI (bear now g b) 16) := by
  unfold f_X12_bornBy
  refine loop0 (fun n a i => f_X12_bornBy_b4 now rhymeOf (nI b) n a i) (bitsI (bear now g b)) 16 (by omega) _ (fun n k hk => ?_) (fun n => ?_)
  · show f_X12_bornBy_b4 now rhymeOf (nI b) (n + 1) _ _ = f_X12_bornBy_b4 now rhymeOf (nI b) n _ _
    rw [f_X12_bornBy_b4, if_neg (by rw [show (16 : Int32) = nI 16 from rfl, nle (by omega) (by omega)]; omega), f_bears12 h hb hk]
    simp only [bd1, f_X12_bornBy_b25, bI_eq0, bitsI]
    cases bear now g b k <;> simp
  · show f_X12_bornBy_b4 now rhymeOf (nI b) (n + 1) _ _ = _
    rw [f_X12_bornBy_b4, if_pos (by decide)]
end SH
/-- sums -/
def sumI (f : Nat → Int32) : Nat → Int32
  | 0 => 0
  | k + 1 => sumI f k + f k
theorem f_sum8 {v : Nat → Int32} {b : Nat} (hb : b < 8) : f_X8_dreadOfAll v (nI b) = some (sumI (fun w => v (16 * b + w)) 16) := by
  unfold f_X8_dreadOfAll
  refine loop0 (fun n a i => f_X8_dreadOfAll_b4 v (nI b) n a i) (sumI (fun w => v (16 * b + w))) 16 (by omega) _ (fun n k hk => ?_) (fun n => ?_)
  · show f_X8_dreadOfAll_b4 v (nI b) (n + 1) _ _ = f_X8_dreadOfAll_b4 v (nI b) n _ _
    rw [f_X8_dreadOfAll_b4, if_neg (by rw [show (16 : Int32) = nI 16 from rfl, nle (by omega) (by omega)]; omega), f_dread8 hb hk]
    simp only [bd1, sumI]
  · show f_X8_dreadOfAll_b4 v (nI b) (n + 1) _ _ = _
    rw [f_X8_dreadOfAll_b4, if_pos (by decide)]
theorem f_sum12 {v : Nat → Int32} {b : Nat} (hb : b < 8) : f_X12_dreadSum v (nI b) = some (sumI (fun w => v (32 + (16 * b + w))) 16) := by
  unfold f_X12_dreadSum
  refine loop0 (fun n a i => f_X12_dreadSum_b4 v (nI b) n a i) (sumI (fun w => v (32 + (16 * b + w)))) 16 (by omega) _ (fun n k hk => ?_) (fun n => ?_)
  · show f_X12_dreadSum_b4 v (nI b) (n + 1) _ _ = f_X12_dreadSum_b4 v (nI b) n _ _
    rw [f_X12_dreadSum_b4, if_neg (by rw [show (16 : Int32) = nI 16 from rfl, nle (by omega) (by omega)]; omega), f_dread12 hb hk]
    simp only [bd1, sumI]
  · show f_X12_dreadSum_b4 v (nI b) (n + 1) _ _ = _
    rw [f_X12_dreadSum_b4, if_pos (by decide)]
theorem sumI_cong {f g : Nat → Int32} : ∀ n, (∀ k, k < n → f k = g k) → sumI f n = sumI g n
  | 0, _ => rfl
  | n + 1, h => by rw [sumI, sumI, sumI_cong n (fun k hk => h k (by omega)), h n (by omega)]
set_option maxHeartbeats 4000000 in
theorem pm_bottleIs {v_t_tape_bytes : Nat → Int32} {x_t_tape_size : Int32} {v_t_rhymes_other : Nat → Int32} {v_t_shelf_dread : Nat → Int32} {v_t_shelf_ink : Nat → Int32} {v_t_shelf_kind : Nat → Int32} {v_t_shelf_salt : Nat → Int32} {v_t_shelf_tries : Nat → Int32} {x_t_shelf_day : Int32} {x_t_shelf_nerve : Int32} {x_t_shelf_pictures : Int32} {x_t_shelf_told : Int32} {x_t_shelf_written : Int32} {x_t_shelf_x : Int32} {v_t_kept_dread : Nat → Int32} {v_t_kept_ink : Nat → Int32} {v_t_kept_kind : Nat → Int32} {v_t_kept_salt : Nat → Int32} {v_t_kept_tries : Nat → Int32} {x_t_kept_day : Int32} {x_t_kept_nerve : Int32} {x_t_kept_pictures : Int32} {x_t_kept_told : Int32} {x_t_kept_written : Int32} {x_t_kept_x : Int32} {v_t_letter_words : Nat → Int32} {x_t_letter_size : Int32} {v_t_law_code : Nat → Int32} {v_t_law_letters : Nat → Int32} {v_t_law_valueFrom : Nat → Int32} {v_t_law_testFrom : Nat → Int32} {v_t_law_testEnd : Nat → Int32} {x_t_law_rules : Int32} {x_t_anyKept : Int32} {v_m_now : Nat → Int32} {v_m_kept : Nat → Int32} {v_m_rhymeOf : Nat → Int32} {v_m_wordAt : Nat → Int32} {x_m_wordMany : Int32} {v_m_tape : Nat → Int32} {x_m_taped : Int32} {v_m_codes : Nat → Int32} {v_m_clauseOf : Nat → Int32} {v_m_codeFrom : Nat → Int32} {v_m_codeHalf : Nat → Int32} {v_m_codeTo : Nat → Int32} {x_m_clauses : Int32} {x_m_isKept : Int32} (hI : Inv v_t_tape_bytes x_t_tape_size v_t_rhymes_other v_t_shelf_dread v_t_shelf_ink v_t_shelf_kind v_t_shelf_salt v_t_shelf_tries x_t_shelf_day x_t_shelf_nerve x_t_shelf_pictures x_t_shelf_told x_t_shelf_written x_t_shelf_x v_t_kept_dread v_t_kept_ink v_t_kept_kind v_t_kept_salt v_t_kept_tries x_t_kept_day x_t_kept_nerve x_t_kept_pictures x_t_kept_told x_t_kept_written x_t_kept_x v_t_letter_words x_t_letter_size v_t_law_code v_t_law_letters v_t_law_valueFrom v_t_law_testFrom v_t_law_testEnd x_t_law_rules x_t_anyKept v_m_now v_m_kept v_m_rhymeOf v_m_wordAt x_m_wordMany v_m_tape x_m_taped v_m_codes v_m_clauseOf v_m_codeFrom v_m_codeHalf v_m_codeTo x_m_clauses x_m_isKept) (a1 : Int32) (a2 : Int32) : ∃ (r : Int32), f_X11_bottleIs v_t_rhymes_other v_t_shelf_dread v_t_shelf_ink v_t_shelf_kind v_t_shelf_salt x_t_shelf_nerve x_t_shelf_told a1 a2 = some r ∧ f_X12_bottleIs v_m_now v_m_rhymeOf a1 a2 = some r ∧ Inv v_t_tape_bytes x_t_tape_size v_t_rhymes_other v_t_shelf_dread v_t_shelf_ink v_t_shelf_kind v_t_shelf_salt v_t_shelf_tries x_t_shelf_day x_t_shelf_nerve x_t_shelf_pictures x_t_shelf_told x_t_shelf_written x_t_shelf_x v_t_kept_dread v_t_kept_ink v_t_kept_kind v_t_kept_salt v_t_kept_tries x_t_kept_day x_t_kept_nerve x_t_kept_pictures x_t_kept_told x_t_kept_written x_t_kept_x v_t_letter_words x_t_letter_size v_t_law_code v_t_law_letters v_t_law_valueFrom v_t_law_testFrom v_t_law_testEnd x_t_law_rules x_t_anyKept v_m_now v_m_kept v_m_rhymeOf v_m_wordAt x_m_wordMany v_m_tape x_m_taped v_m_codes v_m_clauseOf v_m_codeFrom v_m_codeHalf v_m_codeTo x_m_clauses x_m_isKept := by
  have hI0 := hI
  obtain ⟨hT, ⟨g, hg⟩, hS, hK, hL, hW⟩ := hI
  have hQ := SQ.of hS hg
  obtain ⟨⟨T, hT2, e, hn⟩, hb2, hd3, hrest⟩ := hS
  subst e
  rcases tI_cases T a1 with h0 | ⟨b, hb, rfl, hb1, h1⟩
  · exact ⟨-1, by simp [f_X11_bottleIs, f_isTold8 hT2, h0, bd1], by simp [f_X12_bottleIs, f_isTold12 hn, h0, bd1], hI0⟩
  · obtain ⟨k1, -, k3, -, k5, -⟩ := hb2 b hb
    have hs : sumI (fun w => v_t_shelf_dread (16 * b + w)) 16 = sumI (fun w => v_m_now (32 + (16 * b + w))) 16 := sumI_cong 16 (fun w hw => (hd3 (16 * b + w) (by omega)).1)
    simp only [f_X11_bottleIs, f_X12_bottleIs, f_isTold8 hT2, f_isTold12 hn, h1, bd1, if_neg one_ne, f_kind8 hb, f_salt8 hb, f_ink8 hb, f_wb8 hQ hb, f_wb12 hQ hb, f_sum8 hb, f_sum12 hb, show (8 : Int32) = nI 8 from rfl, show (16 : Int32) = nI 16 from rfl, show (24 : Int32) = nI 24 from rfl, nI_add]
    rw [gI_n (by omega) (by omega), gI_n (by omega) (by omega), gI_n (by omega) (by omega), k1, k3, k5, hs]
    by_cases c0 : a2 = 0
    · exact ⟨_, by rw [if_pos c0], by rw [if_pos c0], hI0⟩
    by_cases c1 : a2 = 1
    · exact ⟨_, by rw [if_neg c0, if_pos c1], by rw [if_neg c0, if_pos c1], hI0⟩
    by_cases c2 : a2 = 2
    · exact ⟨_, by rw [if_neg c0, if_neg c1, if_pos c2], by rw [if_neg c0, if_neg c1, if_pos c2], hI0⟩
    by_cases c3 : a2 = 3
    · exact ⟨_, by rw [if_neg c0, if_neg c1, if_neg c2, if_pos c3], by rw [if_neg c0, if_neg c1, if_neg c2, if_pos c3], hI0⟩
    by_cases c4 : a2 = 4
    · exact ⟨_, by rw [if_neg c0, if_neg c1, if_neg c2, if_neg c3, if_pos c4], by rw [if_neg c0, if_neg c1, if_neg c2, if_neg c3, if_pos c4], hI0⟩
    · exact ⟨_, by rw [if_neg c0, if_neg c1, if_neg c2, if_neg c3, if_neg c4], by rw [if_neg c0, if_neg c1, if_neg c2, if_neg c3, if_neg c4], hI0⟩
set_option maxHeartbeats 4000000 in
theorem pm_fear {v_t_tape_bytes : Nat → Int32} {x_t_tape_size : Int32} {v_t_rhymes_other : Nat → Int32} {v_t_shelf_dread : Nat → Int32} {v_t_shelf_ink : Nat → Int32} {v_t_shelf_kind : Nat → Int32} {v_t_shelf_salt : Nat → Int32} {v_t_shelf_tries : Nat → Int32} {x_t_shelf_day : Int32} {x_t_shelf_nerve : Int32} {x_t_shelf_pictures : Int32} {x_t_shelf_told : Int32} {x_t_shelf_written : Int32} {x_t_shelf_x : Int32} {v_t_kept_dread : Nat → Int32} {v_t_kept_ink : Nat → Int32} {v_t_kept_kind : Nat → Int32} {v_t_kept_salt : Nat → Int32} {v_t_kept_tries : Nat → Int32} {x_t_kept_day : Int32} {x_t_kept_nerve : Int32} {x_t_kept_pictures : Int32} {x_t_kept_told : Int32} {x_t_kept_written : Int32} {x_t_kept_x : Int32} {v_t_letter_words : Nat → Int32} {x_t_letter_size : Int32} {v_t_law_code : Nat → Int32} {v_t_law_letters : Nat → Int32} {v_t_law_valueFrom : Nat → Int32} {v_t_law_testFrom : Nat → Int32} {v_t_law_testEnd : Nat → Int32} {x_t_law_rules : Int32} {x_t_anyKept : Int32} {v_m_now : Nat → Int32} {v_m_kept : Nat → Int32} {v_m_rhymeOf : Nat → Int32} {v_m_wordAt : Nat → Int32} {x_m_wordMany : Int32} {v_m_tape : Nat → Int32} {x_m_taped : Int32} {v_m_codes : Nat → Int32} {v_m_clauseOf : Nat → Int32} {v_m_codeFrom : Nat → Int32} {v_m_codeHalf : Nat → Int32} {v_m_codeTo : Nat → Int32} {x_m_clauses : Int32} {x_m_isKept : Int32} (hI : Inv v_t_tape_bytes x_t_tape_size v_t_rhymes_other v_t_shelf_dread v_t_shelf_ink v_t_shelf_kind v_t_shelf_salt v_t_shelf_tries x_t_shelf_day x_t_shelf_nerve x_t_shelf_pictures x_t_shelf_told x_t_shelf_written x_t_shelf_x v_t_kept_dread v_t_kept_ink v_t_kept_kind v_t_kept_salt v_t_kept_tries x_t_kept_day x_t_kept_nerve x_t_kept_pictures x_t_kept_told x_t_kept_written x_t_kept_x v_t_letter_words x_t_letter_size v_t_law_code v_t_law_letters v_t_law_valueFrom v_t_law_testFrom v_t_law_testEnd x_t_law_rules x_t_anyKept v_m_now v_m_kept v_m_rhymeOf v_m_wordAt x_m_wordMany v_m_tape x_m_taped v_m_codes v_m_clauseOf v_m_codeFrom v_m_codeHalf v_m_codeTo x_m_clauses x_m_isKept) (a1 : Int32) (a2 : Int32) (a3 : Int32) : ∃ (r : Int32), f_X11_fear v_t_rhymes_other v_t_shelf_dread v_t_shelf_kind v_t_shelf_salt v_t_shelf_tries x_t_shelf_told a1 a2 a3 = some r ∧ f_X12_fear v_m_now v_m_rhymeOf a1 a2 a3 = some r ∧ Inv v_t_tape_bytes x_t_tape_size v_t_rhymes_other v_t_shelf_dread v_t_shelf_ink v_t_shelf_kind v_t_shelf_salt v_t_shelf_tries x_t_shelf_day x_t_shelf_nerve x_t_shelf_pictures x_t_shelf_told x_t_shelf_written x_t_shelf_x v_t_kept_dread v_t_kept_ink v_t_kept_kind v_t_kept_salt v_t_kept_tries x_t_kept_day x_t_kept_nerve x_t_kept_pictures x_t_kept_told x_t_kept_written x_t_kept_x v_t_letter_words x_t_letter_size v_t_law_code v_t_law_letters v_t_law_valueFrom v_t_law_testFrom v_t_law_testEnd x_t_law_rules x_t_anyKept v_m_now v_m_kept v_m_rhymeOf v_m_wordAt x_m_wordMany v_m_tape x_m_taped v_m_codes v_m_clauseOf v_m_codeFrom v_m_codeHalf v_m_codeTo x_m_clauses x_m_isKept := by
  have hI0 := hI
  obtain ⟨hT, ⟨g, hg⟩, hS, hK, hL, hW⟩ := hI
  have hQ := SQ.of hS hg
  obtain ⟨⟨T, hT2, e, hn⟩, hb2, hd3, hrest⟩ := hS
  subst e
  rcases tI_cases T a1 with h0 | ⟨b, hb, rfl, hb1, h1⟩
  · exact ⟨-1, by simp [f_X11_fear, f_X11_fear_b21, f_isTold8 hT2, h0, bd1], by simp [f_X12_fear, f_X12_fear_b24, f_isTold12 hn, h0, bd1], hI0⟩
  · by_cases h : a2 < 0 ∨ 15 < a2
    · exact ⟨-1, by simp [f_X11_fear, f_X11_fear_b21, f_isTold8 hT2, h1, bd1, f_within_eq, h], by simp [f_X12_fear, f_X12_fear_b24, f_isTold12 hn, h1, bd1, f_X12_isWord, f_in_eq, h, zI_0], hI0⟩
    · obtain ⟨w, hw, rfl⟩ := rg_of (n := 15) (by omega) (fun q => h (Or.inl q)) (fun q => h (Or.inr q))
      have hw : w < 16 := by omega
      obtain ⟨d1, -, d3, -⟩ := hd3 (16 * b + w) (by omega)
      have e12 : gI 293 v_m_now (((160 : Int32) + ((16 : Int32) * nI b)) + nI w) (fun g5 => f_X12_fear_b68 g5) = some (v_m_now (160 + (16 * b + w))) := by
        rw [show (16 : Int32) = nI 16 from rfl, show (160 : Int32) = nI 160 from rfl, pk_mul, nI_add, nI_add, gI_n (by omega) (by omega), Nat.add_assoc]; rfl
      simp only [f_X11_fear, f_X12_fear, f_isTold8 hT2, f_isTold12 hn, h1, bd1, if_neg one_ne, f_within_eq, f_X12_isWord, f_in_eq, if_neg h, zI_1, f_dread8 hb hw, f_dread12 hb hw, f_tries8 hb hw, f_shr8 hQ hb hw, f_shr12 hQ hb hw, f_X12_fear_b24, f_X12_fear_b68] at e12 ⊢
      rw [e12, d1, d3]
      by_cases c0 : a3 = 0
      · subst c0
        exact ⟨_, by rw [if_pos rfl], by simp, hI0⟩
      by_cases c1 : a3 = 1
      · subst c1
        exact ⟨_, by rw [if_neg c0, if_pos rfl], by simp, hI0⟩
      by_cases c2 : a3 = 2
      · subst c2
        exact ⟨_, by rw [if_neg c0, if_neg c1, if_pos rfl], by simp, hI0⟩
      · have h3 : a3 < 0 ∨ 2 < a3 := by
          by_cases q : a3 < 0
          · exact Or.inl q
          · refine Or.inr ?_
            by_cases q2 : (2 : Int32) < a3
            · exact q2
            · exfalso
              obtain ⟨k, hk, rfl⟩ := rg_of (n := 2) (by omega) q q2
              rcases (show k = 0 ∨ k = 1 ∨ k = 2 by omega) with rfl | rfl | rfl
              · exact c0 rfl
              · exact c1 rfl
              · exact c2 rfl
        exact ⟨-1, by rw [if_neg c0, if_neg c1, if_neg c2], by simp [h3], hI0⟩
