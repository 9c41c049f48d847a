/-! pure: feed, check, the start -/
/-- a loop that counts down to 0 -/
theorem loopD {α β : Type} (L : Nat → α → Int32 → Option β) (a : Nat → α) (N : Nat) (r : Option β)
    (hstep : ∀ n k, k < N → L (n + 1) (a (k + 1)) (nI k) = L n (a k) (nI k + (-1))) (hexit : ∀ n, L (n + 1) (a 0) (-1) = r) : ∀ n k, k ≤ N → k < n → L n (a k) (nI k - 1) = r := by
  intro n
  induction n with
  | zero => intro k _ h; omega
  | succ n ih =>
    intro k hk hn
    cases k with
    | zero => exact hexit n
    | succ k =>
      rw [nI_pred, hstep n k (by omega), show nI k + (-1) = nI k - 1 from (Int32.sub_eq_add_neg _ _).symm]
      exact ih k (by omega) (by omega)
theorem wb_of32 (x : Int32) : ∃ n, n < 2 ^ 32 ∧ x = nI n := ⟨x.toBitVec.toNat, x.toBitVec.isLt, Int32.toBitVec_inj.mp (by show _ = BitVec.ofNat 32 _; simp)⟩
theorem m255 (x : Int32) : ∃ t : Nat, t < 256 ∧ x &&& 255 = nI t := by
  obtain ⟨n, hn, rfl⟩ := wb_of32 x
  refine ⟨n % 256, Nat.mod_lt _ (by omega), ?_⟩
  rw [show (255 : Int32) = nI (2 ^ 8 - 1) from rfl, fa_mask]
theorem nar255 (x : Int32) : (vp_nar .byte (x.toInt8.toInt32)) &&& 255 = x &&& 255 := by
  rw [vp_nar_byte, bp_b, bp_b]
def fd4 (v : Nat → Int32) (k : Nat) (a : Int32) : Nat → Int32 :=
  upd (upd (upd (upd v k ((a >>> ((24 : Int32) &&& 31)) &&& 255)) (k + 1) ((a >>> ((16 : Int32) &&& 31)) &&& 255)) (k + 2) ((a >>> ((8 : Int32) &&& 31)) &&& 255)) (k + 3) ((a >>> ((0 : Int32) &&& 31)) &&& 255)
def ft4 (v : Nat → Int32) (k : Nat) (a : Int32) : Nat → Int32 :=
  upd (upd (upd (upd v k (vp_nar .byte ((a >>> ((24 : Int32) &&& 31)).toInt8.toInt32))) (k + 1) (vp_nar .byte ((a >>> ((16 : Int32) &&& 31)).toInt8.toInt32))) (k + 2) (vp_nar .byte ((a >>> ((8 : Int32) &&& 31)).toInt8.toInt32))) (k + 3) (vp_nar .byte ((a >>> ((0 : Int32) &&& 31)).toInt8.toInt32))
theorem f_addFour9 {v : Nat → Int32} {k : Nat} (hk : k + 4 ≤ 260) (a : Int32) : f_X9_addFour v (nI k) a = some (fd4 v k a, nI (k + 4)) := by
  unfold f_X9_addFour
  have key : ∀ n, f_X9_addFour_b3 a (n + 5) v (nI k) 24 = some (fd4 v k a, nI (k + 4)) := by
    intro n
    have g : ∀ j, j < 4 → ¬ (260 : Int32) ≤ nI (k + j) := fun j hj => by rw [show (260 : Int32) = nI 260 from rfl, nle (by omega) (by omega)]; omega
    rw [f_X9_addFour_b3, if_neg (by decide), if_neg (show ¬ (260 : Int32) ≤ nI k from g 0 (by omega)), sI_n (by omega) (by omega), nI_1, f_X9_addFour_b3, if_neg (by decide), if_neg (g 1 (by omega)), sI_n (by omega) (by omega), nI_1, f_X9_addFour_b3, if_neg (by decide), if_neg (g 2 (by omega)), sI_n (by omega) (by omega), nI_1, f_X9_addFour_b3, if_neg (by decide), if_neg (g 3 (by omega)), sI_n (by omega) (by omega), nI_1, f_X9_addFour_b3, if_pos (by decide)]
    rfl
  exact key 99995
theorem f_types12 {v : Nat → Int32} {k : Nat} (hk : k + 4 ≤ 260) (a : Int32) : f_X12_types v (nI k) a = some (ft4 v k a, nI (k + 4)) := by
  unfold f_X12_types
  have key : ∀ n, f_X12_types_b2 a (n + 5) v (nI k) 3 = some (ft4 v k a, nI (k + 4)) := by
    intro n
    rw [f_X12_types_b2, if_neg (by decide), sI_n (by omega) (by omega), nI_1, f_X12_types_b2, if_neg (by decide), sI_n (by omega) (by omega), nI_1, f_X12_types_b2, if_neg (by decide), sI_n (by omega) (by omega), nI_1, f_X12_types_b2, if_neg (by decide), sI_n (by omega) (by omega), nI_1, f_X12_types_b2, if_pos (by decide)]
    rfl
  exact key 99995
/-- the tapes, with how many -/
def RTn (bytes tape : Nat → Int32) (n : Nat) : Prop := ∃ t : Nat → Nat, ∀ i, i < n → t i < 256 ∧ bytes i = nI (t i) ∧ tape i &&& 255 = nI (t i)
theorem RTn.one {bytes tape : Nat → Int32} {n : Nat} (h : RTn bytes tape n) (x : Int32) : RTn (upd bytes n (x &&& 255)) (upd tape n (vp_nar .byte (x.toInt8.toInt32))) (n + 1) := by
  obtain ⟨t, ht⟩ := h
  obtain ⟨z, hz, ez⟩ := m255 x
  refine ⟨fun i => if i = n then z else t i, fun i hi => ?_⟩
  by_cases e : i = n
  · subst e
    rw [pk_us, pk_us, nar255]
    simp only [if_pos]
    exact ⟨hz, ez, ez⟩
  · rw [pk_un e, pk_un e]
    simp only [if_neg e]
    exact ht i (by omega)
theorem RTn.four {bytes tape : Nat → Int32} {n : Nat} (h : RTn bytes tape n) (a : Int32) : RTn (fd4 bytes n a) (ft4 tape n a) (n + 4) := (((h.one _).one _).one _).one _
set_option maxHeartbeats 4000000 in
theorem pm_feed {v_t_tape_bytes : Nat → Int32} {x_t_tape_size : Int32} {v_t_rhymes_other : Nat → Int32} {v_t_shelf_dread : Nat → Int32} {v_t_shelf_ink : Nat → Int32} {v_t_shelf_kind : Nat → Int32} {v_t_shelf_salt : Nat → Int32} {v_t_shelf_tries : Nat → Int32} {x_t_shelf_day : Int32} {x_t_shelf_nerve : Int32} {x_t_shelf_pictures : Int32} {x_t_shelf_told : Int32} {x_t_shelf_written : Int32} {x_t_shelf_x : Int32} {v_t_kept_dread : Nat → Int32} {v_t_kept_ink : Nat → Int32} {v_t_kept_kind : Nat → Int32} {v_t_kept_salt : Nat → Int32} {v_t_kept_tries : Nat → Int32} {x_t_kept_day : Int32} {x_t_kept_nerve : Int32} {x_t_kept_pictures : Int32} {x_t_kept_told : Int32} {x_t_kept_written : Int32} {x_t_kept_x : Int32} {v_t_letter_words : Nat → Int32} {x_t_letter_size : Int32} {v_t_law_code : Nat → Int32} {v_t_law_letters : Nat → Int32} {v_t_law_valueFrom : Nat → Int32} {v_t_law_testFrom : Nat → Int32} {v_t_law_testEnd : Nat → Int32} {x_t_law_rules : Int32} {x_t_anyKept : Int32} {v_m_now : Nat → Int32} {v_m_kept : Nat → Int32} {v_m_rhymeOf : Nat → Int32} {v_m_wordAt : Nat → Int32} {x_m_wordMany : Int32} {v_m_tape : Nat → Int32} {x_m_taped : Int32} {v_m_codes : Nat → Int32} {v_m_clauseOf : Nat → Int32} {v_m_codeFrom : Nat → Int32} {v_m_codeHalf : Nat → Int32} {v_m_codeTo : Nat → Int32} {x_m_clauses : Int32} {x_m_isKept : Int32} (hI : Inv v_t_tape_bytes x_t_tape_size v_t_rhymes_other v_t_shelf_dread v_t_shelf_ink v_t_shelf_kind v_t_shelf_salt v_t_shelf_tries x_t_shelf_day x_t_shelf_nerve x_t_shelf_pictures x_t_shelf_told x_t_shelf_written x_t_shelf_x v_t_kept_dread v_t_kept_ink v_t_kept_kind v_t_kept_salt v_t_kept_tries x_t_kept_day x_t_kept_nerve x_t_kept_pictures x_t_kept_told x_t_kept_written x_t_kept_x v_t_letter_words x_t_letter_size v_t_law_code v_t_law_letters v_t_law_valueFrom v_t_law_testFrom v_t_law_testEnd x_t_law_rules x_t_anyKept v_m_now v_m_kept v_m_rhymeOf v_m_wordAt x_m_wordMany v_m_tape x_m_taped v_m_codes v_m_clauseOf v_m_codeFrom v_m_codeHalf v_m_codeTo x_m_clauses x_m_isKept) (a1 : Int32) (a2 : Int32) (a3 : Int32) (a4 : Int32) (a5 : Int32) : ∃ (r : Int32) (o_v_t_tape_bytes : Nat → Int32) (o_x_t_tape_size : Int32) (o_v_m_tape : Nat → Int32) (o_x_m_taped : Int32), f_X11_feed v_t_tape_bytes x_t_tape_size a1 a2 a3 a4 a5 = some (r, o_v_t_tape_bytes, o_x_t_tape_size) ∧ f_X12_feed v_m_tape x_m_taped a1 a2 a3 a4 a5 = some (r, o_v_m_tape, o_x_m_taped) ∧ Inv o_v_t_tape_bytes o_x_t_tape_size v_t_rhymes_other v_t_shelf_dread v_t_shelf_ink v_t_shelf_kind v_t_shelf_salt v_t_shelf_tries x_t_shelf_day x_t_shelf_nerve x_t_shelf_pictures x_t_shelf_told x_t_shelf_written x_t_shelf_x v_t_kept_dread v_t_kept_ink v_t_kept_kind v_t_kept_salt v_t_kept_tries x_t_kept_day x_t_kept_nerve x_t_kept_pictures x_t_kept_told x_t_kept_written x_t_kept_x v_t_letter_words x_t_letter_size v_t_law_code v_t_law_letters v_t_law_valueFrom v_t_law_testFrom v_t_law_testEnd x_t_law_rules x_t_anyKept v_m_now v_m_kept v_m_rhymeOf v_m_wordAt x_m_wordMany o_v_m_tape o_x_m_taped v_m_codes v_m_clauseOf v_m_codeFrom v_m_codeHalf v_m_codeTo x_m_clauses x_m_isKept := by
  have hI0 := hI
  obtain ⟨⟨n, t, hn, rfl, rfl, ht⟩, hR, hS, hK, hL, hW⟩ := hI
  have h0 : RTn v_t_tape_bytes v_m_tape n := ⟨t, ht⟩
  by_cases h : n + 20 ≤ 260
  · have e1 : ¬ (260 : Int32) < nI n + 20 := by rw [show (260 : Int32) = nI 260 from rfl, show (20 : Int32) = nI 20 from rfl, nI_add, nlt (by omega) (by omega)]; omega
    have e2 : nI n + 20 ≤ (260 : Int32) := by rw [show (260 : Int32) = nI 260 from rfl, show (20 : Int32) = nI 20 from rfl, nI_add, nle (by omega) (by omega)]; omega
    obtain ⟨t2, ht2⟩ := ((((h0.four a1).four a2).four a3).four a4).four a5
    refine ⟨nI (n + 20), _, nI (n + 20), _, nI (n + 20), ?_, ?_, ⟨n + 20, t2, h, rfl, rfl, ht2⟩, hR, hS, hK, hL, hW⟩
    · unfold f_X11_feed f_X9_hasRoomFor f_X9_hasRoomFor_b17
      rw [if_neg e1, zI_1, bd1_s, if_neg one_ne, f_addFour9 (by omega), bd2_s, f_addFour9 (by omega), bd2_s, f_addFour9 (by omega), bd2_s, f_addFour9 (by omega), bd2_s, f_addFour9 (by omega), bd2_s]
    · unfold f_X12_feed
      rw [if_pos e2, f_types12 (by omega), bd2_s, f_types12 (by omega), bd2_s, f_types12 (by omega), bd2_s, f_types12 (by omega), bd2_s, f_types12 (by omega), bd2_s]
  · have e1 : (260 : Int32) < nI n + 20 := by rw [show (260 : Int32) = nI 260 from rfl, show (20 : Int32) = nI 20 from rfl, nI_add, nlt (by omega) (by omega)]; omega
    have e2 : ¬ nI n + 20 ≤ (260 : Int32) := by rw [show (260 : Int32) = nI 260 from rfl, show (20 : Int32) = nI 20 from rfl, nI_add, nle (by omega) (by omega)]; omega
    refine ⟨-1, _, _, _, _, ?_, ?_, hI0⟩
    · unfold f_X11_feed f_X9_hasRoomFor f_X9_hasRoomFor_b17
      rw [if_pos e1, zI_0, bd1_s, if_pos rfl]
    · unfold f_X12_feed
      rw [if_neg e2]
theorem RTape.empty {bytes tape : Nat → Int32} : RTape bytes 0 tape 0 := ⟨0, fun _ => 0, by omega, rfl, rfl, fun i hi => by omega⟩
/-- what the tape has, read -/
theorem f_at9 {bytes : Nat → Int32} {n k : Nat} (hn : n ≤ 260) (hk : k < n) : f_X9_at bytes (nI n) (nI k) = some (bytes k) := by
  unfold f_X9_at f_X9_at_b22
  rw [if_neg (nI_pos (by omega)), if_neg (by rw [nle (by omega) (by omega)]; omega), gI_n (by omega) (by omega)]
theorem f_oct12 {tape : Nat → Int32} {k : Nat} (hk : k < 260) : f_X12_octet tape (nI k) = some (tape k &&& 255) := by
  unfold f_X12_octet
  rw [gI_n (by omega) (by omega)]
theorem f_has9 (n k : Nat) (hn : n ≤ 260) (hk : k < 2 ^ 31) : f_X9_has (nI n) (nI k) = some (if k ≤ n then 1 else 0) := by
  unfold f_X9_has f_X9_has_b13
  by_cases h : k ≤ n
  · rw [if_neg (by rw [nlt (by omega) hk]; omega), zI_1, if_pos h]
  · rw [if_pos (by rw [nlt (by omega) hk]; omega), zI_0, if_neg h]
/-- the first wrong place from j on, before n -/
def wr (p : Nat → Bool) (n : Nat) : Nat → Int32
  | 0 => -1
  | m + 1 => if p (n - (m + 1)) then nI (n - (m + 1)) else wr p n m
theorem wr_s {p : Nat → Bool} {n k : Nat} (hk : k < n) : wr p n (n - k) = if p k then nI k else wr p n (n - (k + 1)) := by
  obtain ⟨m, hm⟩ : ∃ m, n - k = m + 1 := ⟨n - k - 1, by omega⟩
  rw [hm, wr, show n - (m + 1) = k by omega, show n - (k + 1) = m by omega]
set_option maxHeartbeats 4000000 in
theorem pm_check {v_t_tape_bytes : Nat → Int32} {x_t_tape_size : Int32} {v_t_rhymes_other : Nat → Int32} {v_t_shelf_dread : Nat → Int32} {v_t_shelf_ink : Nat → Int32} {v_t_shelf_kind : Nat → Int32} {v_t_shelf_salt : Nat → Int32} {v_t_shelf_tries : Nat → Int32} {x_t_shelf_day : Int32} {x_t_shelf_nerve : Int32} {x_t_shelf_pictures : Int32} {x_t_shelf_told : Int32} {x_t_shelf_written : Int32} {x_t_shelf_x : Int32} {v_t_kept_dread : Nat → Int32} {v_t_kept_ink : Nat → Int32} {v_t_kept_kind : Nat → Int32} {v_t_kept_salt : Nat → Int32} {v_t_kept_tries : Nat → Int32} {x_t_kept_day : Int32} {x_t_kept_nerve : Int32} {x_t_kept_pictures : Int32} {x_t_kept_told : Int32} {x_t_kept_written : Int32} {x_t_kept_x : Int32} {v_t_letter_words : Nat → Int32} {x_t_letter_size : Int32} {v_t_law_code : Nat → Int32} {v_t_law_letters : Nat → Int32} {v_t_law_valueFrom : Nat → Int32} {v_t_law_testFrom : Nat → Int32} {v_t_law_testEnd : Nat → Int32} {x_t_law_rules : Int32} {x_t_anyKept : Int32} {v_m_now : Nat → Int32} {v_m_kept : Nat → Int32} {v_m_rhymeOf : Nat → Int32} {v_m_wordAt : Nat → Int32} {x_m_wordMany : Int32} {v_m_tape : Nat → Int32} {x_m_taped : Int32} {v_m_codes : Nat → Int32} {v_m_clauseOf : Nat → Int32} {v_m_codeFrom : Nat → Int32} {v_m_codeHalf : Nat → Int32} {v_m_codeTo : Nat → Int32} {x_m_clauses : Int32} {x_m_isKept : Int32} (hI : Inv v_t_tape_bytes x_t_tape_size v_t_rhymes_other v_t_shelf_dread v_t_shelf_ink v_t_shelf_kind v_t_shelf_salt v_t_shelf_tries x_t_shelf_day x_t_shelf_nerve x_t_shelf_pictures x_t_shelf_told x_t_shelf_written x_t_shelf_x v_t_kept_dread v_t_kept_ink v_t_kept_kind v_t_kept_salt v_t_kept_tries x_t_kept_day x_t_kept_nerve x_t_kept_pictures x_t_kept_told x_t_kept_written x_t_kept_x v_t_letter_words x_t_letter_size v_t_law_code v_t_law_letters v_t_law_valueFrom v_t_law_testFrom v_t_law_testEnd x_t_law_rules x_t_anyKept v_m_now v_m_kept v_m_rhymeOf v_m_wordAt x_m_wordMany v_m_tape x_m_taped v_m_codes v_m_clauseOf v_m_codeFrom v_m_codeHalf v_m_codeTo x_m_clauses x_m_isKept) (a1 : Int32) : ∃ (r : Int32) (o_x_t_tape_size : Int32) (o_x_m_taped : Int32), f_X11_check v_t_shelf_salt v_t_tape_bytes x_t_shelf_told x_t_tape_size a1 = some (r, o_x_t_tape_size) ∧ f_X12_check v_m_now v_m_tape x_m_taped a1 = some (r, o_x_m_taped) ∧ Inv v_t_tape_bytes o_x_t_tape_size v_t_rhymes_other v_t_shelf_dread v_t_shelf_ink v_t_shelf_kind v_t_shelf_salt v_t_shelf_tries x_t_shelf_day x_t_shelf_nerve x_t_shelf_pictures x_t_shelf_told x_t_shelf_written x_t_shelf_x v_t_kept_dread v_t_kept_ink v_t_kept_kind v_t_kept_salt v_t_kept_tries x_t_kept_day x_t_kept_nerve x_t_kept_pictures x_t_kept_told x_t_kept_written x_t_kept_x v_t_letter_words x_t_letter_size v_t_law_code v_t_law_letters v_t_law_valueFrom v_t_law_testFrom v_t_law_testEnd x_t_law_rules x_t_anyKept v_m_now v_m_kept v_m_rhymeOf v_m_wordAt x_m_wordMany v_m_tape o_x_m_taped v_m_codes v_m_clauseOf v_m_codeFrom v_m_codeHalf v_m_codeTo x_m_clauses x_m_isKept := by
  have hI0 := hI
  obtain ⟨⟨n, t, hn, rfl, rfl, ht⟩, hR, hS, hK, hL, hW⟩ := hI
  obtain ⟨⟨T, hT2, e, hnn⟩, hb2, hS2⟩ := id hS
  subst e
  by_cases h : a1 < 0 ∨ 8 < a1
  · exact ⟨-2, _, _, by simp [f_X11_check, f_X11_check_b21, f_within_eq, h, bd1], by simp [f_X12_check, f_X12_check_b18, f_in_eq, h, bd1], hI0⟩
  · obtain ⟨k, hk, rfl⟩ := rg_of (n := 8) (by omega) (fun q => h (Or.inl q)) (fun q => h (Or.inr q))
    by_cases hkn : k ≤ n
    · have e2 : nI k ≤ nI n := by rw [nle (by omega) (by omega)]; exact hkn
      have hd : ∀ b, b < 8 → v_t_shelf_salt b = v_m_now (16 + b) := fun b hb => (hb2 b hb).2.2.1
      have hp : ∀ b, b < k → v_m_tape b &&& 255 = v_t_tape_bytes b := fun b hb => by rw [(ht b (by omega)).2.1, (ht b (by omega)).2.2]
      refine ⟨wr (fun b => decide (¬ v_t_tape_bytes b = if tl T b then v_t_shelf_salt b else 255)) k k, 0, 0, ?_, ?_, RTape.empty, hR, hS, hK, hL, hW⟩
      · unfold f_X11_check
        rw [f_within_eq, if_neg h, bd1_s, if_neg one_ne, f_has9 n k hn (by omega), if_pos hkn, bd1_s, if_neg one_ne]
        have key := loopD (fun m a i => f_X11_check_b30 v_t_shelf_salt v_t_tape_bytes (nI T) m (nI n) a i) (fun j => wr (fun b => decide (¬ v_t_tape_bytes b = if tl T b then v_t_shelf_salt b else 255)) k (k - j)) k (some (wr (fun b => decide (¬ v_t_tape_bytes b = if tl T b then v_t_shelf_salt b else 255)) k k, 0)) (fun m j hj => ?_) (fun m => ?_) FU k (Nat.le_refl k) (FU_gt (by omega))
        · rw [Nat.sub_self] at key
          exact key
        · show f_X11_check_b30 _ _ _ (m + 1) _ _ _ = f_X11_check_b30 _ _ _ m _ _ _
          rw [f_X11_check_b30, if_neg (nI_pos (by omega)), f_isTold8 hT2, bd1_s, tI_tl (by omega), f_salt8 (by omega), bd1_s]
          simp only [f_X11_check_b59, f_X11_check_b76, bI_eq0]
          rw [f_at9 hn (by omega), bd1_s, bd1_s, wr_s hj]
          cases htl : tl T j
          · by_cases q : v_t_tape_bytes j = 255 <;> simp [q]
          · by_cases q : v_t_tape_bytes j = v_t_shelf_salt j <;> simp [q]
        · show f_X11_check_b30 _ _ _ (m + 1) _ _ _ = _
          rw [f_X11_check_b30, if_pos (by decide)]
          rfl
      · unfold f_X12_check
        rw [f_in_eq, if_neg h, bd1_s, if_neg one_ne, if_pos e2]
        have key := loopE (fun m (_ : Unit) i => f_X12_check_b28 v_m_now v_m_tape (nI k) m 0 i) (fun _ => ()) k (fun j => if v_t_tape_bytes j = (if tl T j then v_t_shelf_salt j else 255) then none else some (some (nI j, 0))) (some (-1, 0)) (fun j => some (wr (fun b => decide (¬ v_t_tape_bytes b = if tl T b then v_t_shelf_salt b else 255)) k (k - j), 0)) ?_ (fun j hj => ?_) (fun m j hj he => ?_) (fun m j x hj he => ?_) (fun m => ?_) FU 0 (Nat.zero_le k) (FU_gt (by omega))
        · exact key
        · rw [Nat.sub_self]; rfl
        · rw [wr_s hj]
          by_cases q : v_t_tape_bytes j = (if tl T j then v_t_shelf_salt j else 255)
          · rw [if_pos q]; simp [q]
          · rw [if_neg q]; simp [q]
        · show f_X12_check_b28 _ _ _ (m + 1) _ _ = f_X12_check_b28 _ _ _ m _ _
          have q : v_t_tape_bytes j = (if tl T j then v_t_shelf_salt j else 255) := by
            by_cases q : v_t_tape_bytes j = (if tl T j then v_t_shelf_salt j else 255)
            · exact q
            · rw [if_neg q] at he; cases he
          rw [f_X12_check_b28, if_neg (by rw [nle (by omega) (by omega)]; omega), f_oct12 (by omega), bd1_s, f_isTold12 hnn, bd1_s, tI_tl (by omega), show (16 : Int32) + nI j = nI (16 + j) from nI_add 16 j, gI_n (by omega) (by omega), ← hd j (by omega), hp j hj]
          simp only [f_X12_check_b61, bI_eq0]
          cases htl : tl T j <;> rw [htl] at q <;> simp at q <;> simp [q]
        · show f_X12_check_b28 _ _ _ (m + 1) _ _ = _
          by_cases q : v_t_tape_bytes j = (if tl T j then v_t_shelf_salt j else 255)
          · rw [if_pos q] at he; cases he
          · rw [if_neg q] at he
            cases he
            rw [f_X12_check_b28, if_neg (by rw [nle (by omega) (by omega)]; omega), f_oct12 (by omega), bd1_s, f_isTold12 hnn, bd1_s, tI_tl (by omega), show (16 : Int32) + nI j = nI (16 + j) from nI_add 16 j, gI_n (by omega) (by omega), ← hd j (by omega), hp j hj]
            simp only [f_X12_check_b61, bI_eq0]
            cases htl : tl T j <;> rw [htl] at q <;> simp at q <;> simp [q]
        · show f_X12_check_b28 _ _ _ (m + 1) _ _ = _
          rw [f_X12_check_b28, if_pos (by rw [nle (by omega) (by omega)]; omega)]
    · have e2 : ¬ nI k ≤ nI n := by rw [nle (by omega) (by omega)]; exact hkn
      exact ⟨-2, _, _, by simp [f_X11_check, f_X11_check_b21, f_within_eq, h, bd1, f_has9 n k hn (by omega), hkn], by simp [f_X12_check, f_X12_check_b18, f_in_eq, h, bd1, e2], hI0⟩
/-! the start -/
theorem f_idl_ok : ∃ o_v, f_idl FU (fun _ => 0) 0 = some o_v ∧ ∀ w, w < 16 → o_v w = nI w := by
  refine ⟨rfl_ (fun _ => 0) 0 16 nI, ?_, fun w hw => by rw [rfl_in (Nat.zero_le w) (by omega)]; rfl⟩
  have key := loop0 (fun n a i => f_idl n a i) (fun k => rfl_ (fun _ => 0) 0 k nI) 16 (by omega) (some (rfl_ (fun _ => 0) 0 16 nI)) (fun n k hk => ?_) (fun n => ?_)
  · have h0 : rfl_ (fun _ => 0) 0 0 nI = (fun _ => 0) := rfl_0 _ _ _
    rw [h0] at key; exact key
  · show f_idl (n + 1) _ _ = f_idl n _ _
    have e := rfl_s (fun _ => 0) 0 k nI
    rw [Nat.zero_add] at e
    rw [f_idl, if_neg (ge16 hk), sI_n hk (by omega), e]
  · show f_idl (n + 1) _ _ = _
    rw [f_idl, if_pos (by decide)]
theorem RShelf.init : RShelf (fun _ => 0) (fun _ => 0) (fun _ => 0) (fun _ => 0) (fun _ => 0) 0 20 0 0 0 1 (upd (upd (fun _ => 0) (292 : Int32).toNatClampNeg 1) (288 : Int32).toNatClampNeg 20) := by
  rw [show (292 : Int32).toNatClampNeg = 292 from rfl, show (288 : Int32).toNatClampNeg = 288 from rfl]
  refine ⟨⟨0, by omega, rfl, fun b hb => ?_⟩, fun b hb => ?_, fun j hj => ?_, ⟨?_, 20, by omega, rfl⟩, ⟨?_, rg0 _⟩, ⟨?_, rg0 _⟩, ⟨?_, rg0 _⟩, ?_, 1, by omega, rfl⟩
  · rw [pk_un (by omega), pk_un (by omega), Nat.zero_div]; rfl
  · rw [pk_un (by omega), pk_un (by omega), pk_un (by omega), pk_un (by omega), pk_un (by omega), pk_un (by omega)]
    exact ⟨rfl, rg0 _, rfl, rg0 _, rfl, rg0 _⟩
  · rw [pk_un (by omega), pk_un (by omega), pk_un (by omega), pk_un (by omega)]
    exact ⟨rfl, rg0 _, rfl, rg0 _⟩
  · rw [pk_us]
  · rw [pk_un (by omega), pk_un (by omega)]
  · rw [pk_un (by omega), pk_un (by omega)]
  · rw [pk_un (by omega), pk_un (by omega)]
  · rw [pk_un (by omega), pk_us]
set_option maxHeartbeats 4000000 in
theorem inv_init {o_v : Nat → Int32} (hov : ∀ w, w < 16 → o_v w = nI w) : Inv (fun _ => 0) 0 o_v (fun _ => 0) (fun _ => 0) (fun _ => 0) (fun _ => 0) (fun _ => 0) 0 20 0 0 0 1 (fun _ => 0) (fun _ => 0) (fun _ => 0) (fun _ => 0) (fun _ => 0) 0 20 0 0 0 1 (fun _ => 0) 0 (fun _ => 0) (fun _ => 0) (fun _ => 0) (fun _ => 0) (fun _ => 0) 0 0 (upd (upd (fun _ => 0) (292 : Int32).toNatClampNeg 1) (288 : Int32).toNatClampNeg 20) (fun _ => 0) o_v (fun _ => 0) 0 (fun _ => 0) 0 (fun _ => 0) (fun _ => 0) (fun _ => 0) (fun _ => 0) (fun _ => 0) 0 0 := by
  refine ⟨RTape.empty, ⟨fun w => w, fun w hw => ⟨hw, rfl, hov w hw, hov w hw⟩⟩, RShelf.init, Or.inl ⟨rfl, rfl⟩, ⟨0, fun _ => 0, by omega, rfl, rfl, fun i hi => by omega⟩, ⟨0, by omega, rfl, rfl, fun r hr => by omega⟩⟩
theorem law_cont {L i : Nat} (hL : L ≤ 384) (q : ¬ Int32.ofNat L - 6 < nI i) (hi : i ≤ L) : i + 6 ≤ L := by
  rcases Nat.lt_or_ge L (i + 6) with h | h
  · exfalso
    apply q
    rw [fa_lt, show Int32.ofNat L = nI L from rfl, show (6 : Int32) = nI 6 from rfl, pk_sub_toInt (by omega) (by omega), nI_toInt (by omega)]
    omega
  · exact h
