/-! pure: what the checks give -/
theorem pg_of {x : Nat} (h0 : 0 < x) (h : x < 65536) : ∃ j k A, 1 ≤ k ∧ j + k ≤ 16 ∧ A % 2 = 0 ∧ 0 < lowN x ∧ x = A * 2 ^ (j + k) + (2 ^ k - 1) * 2 ^ j ∧ gN x = (A + 1) * 2 ^ (j + k) + (2 ^ (k - 1) - 1) := by
  have h1 := chk_all 16 0 pg_all x (by omega) (by omega)
  unfold PG at h1
  have hx : Nat.beq x 0 = false := by
    cases e : Nat.beq x 0
    · rfl
    · exact absurd (Nat.eq_of_beq_eq_true e) (by omega)
  rw [hx, Bool.false_or, Bool.and_eq_true, Bool.and_eq_true, Bool.and_eq_true, Bool.and_eq_true, Bool.and_eq_true] at h1
  obtain ⟨q1, q2, q3, q4, q5, q6⟩ := h1
  have q1' := Nat.le_of_ble_eq_true q1
  have q2' := Nat.le_of_ble_eq_true q2
  have q3' : Nat.log2 (lowN x) + Nat.log2 (qN x) ≤ 16 := Nat.le_of_ble_eq_true q3
  have q4' : x / 2 ^ (Nat.log2 (lowN x) + Nat.log2 (qN x)) % 2 = 0 := Nat.eq_of_beq_eq_true q4
  have q5' : x % 2 ^ (Nat.log2 (lowN x) + Nat.log2 (qN x)) = (2 ^ Nat.log2 (qN x) - 1) * 2 ^ Nat.log2 (lowN x) := Nat.eq_of_beq_eq_true q5
  have q6' : gN x = (x / 2 ^ (Nat.log2 (lowN x) + Nat.log2 (qN x)) + 1) * 2 ^ (Nat.log2 (lowN x) + Nat.log2 (qN x)) + (2 ^ (Nat.log2 (qN x) - 1) - 1) := Nat.eq_of_beq_eq_true q6
  refine ⟨Nat.log2 (lowN x), Nat.log2 (qN x), x / 2 ^ (Nat.log2 (lowN x) + Nat.log2 (qN x)), q2', q3', q4', q1', ?_, q6'⟩
  rw [← q5', Nat.mul_comm, Nat.div_add_mod]
theorem pc_ev {f A : Nat} (h : A % 2 = 0) : pcN (f + 1) (A + 1) = pcN (f + 1) A + 1 := by
  rw [pcN_s, pcN_s, show (A + 1) % 2 = 1 by omega, h, show (A + 1) / 2 = A / 2 by omega]
  omega
theorem gN_ok {x : Nat} (h0 : 0 < x) (h : x < 65536) : x < gN x ∧ gN x < 262144 ∧ (gN x < 65536 → pcN 16 (gN x) = pcN 16 x) ∧ ∀ y, y < 65536 → x < y → pcN 16 y = pcN 16 x → gN x ≤ y := by
  obtain ⟨j, k, A, hk, hD, hA, -, hx, hg⟩ := pg_of h0 h
  have e1 : (2 ^ k - 1) * 2 ^ j = 2 ^ (j + k) - 2 ^ j := by rw [Nat.sub_mul, Nat.one_mul, ← Nat.pow_add, Nat.add_comm k j]
  have p1 : 2 ^ j ≤ 2 ^ (j + k) := Nat.pow_le_pow_right (by omega) (by omega)
  have p2 : 0 < 2 ^ j := Nat.pow_pos (by omega)
  have p3 : 2 ^ (k - 1) ≤ 2 ^ (j + k) := Nat.pow_le_pow_right (by omega) (by omega)
  have p4 : 0 < 2 ^ (k - 1) := Nat.pow_pos (by omega)
  have p5 : 2 ^ (j + k) ≤ 2 ^ 16 := Nat.pow_le_pow_right (by omega) hD
  have e2 : (A + 1) * 2 ^ (j + k) = A * 2 ^ (j + k) + 2 ^ (j + k) := Nat.succ_mul _ _
  rw [e1] at hx
  obtain ⟨f, hf⟩ : ∃ f, 16 = (j + k) + f := ⟨16 - (j + k), by omega⟩
  have hL : pcN (j + k) (2 ^ (j + k) - 2 ^ j) = k := by
    have := pc_split j k (2 ^ k - 1) 0 p2
    rw [e1, Nat.add_zero, pc_ones k k (Nat.le_refl k)] at this
    rw [this]
    have h0 : pcN j 0 = 0 := by have := pc_ones j 0 (by omega); simpa using this
    omega
  have hxp : pcN 16 x = k + pcN f A := by
    have := pc_split (j + k) f A (2 ^ (j + k) - 2 ^ j) (by omega)
    rw [← hf, ← hx, hL] at this
    exact this
  have h17 : 2 ^ 16 = 65536 := rfl
  refine ⟨by omega, by omega, fun hlt => ?_, fun y hy hxy hpy => ?_⟩
  · have hf0 : 0 < f := by
      rcases Nat.eq_zero_or_pos f with e | e
      · subst e
        have : 2 ^ (j + k) = 65536 := by rw [← h17, hf, Nat.add_zero]
        omega
      · exact e
    obtain ⟨f', rfl⟩ : ∃ f', f = f' + 1 := ⟨f - 1, by omega⟩
    have := pc_split (j + k) (f' + 1) (A + 1) (2 ^ (k - 1) - 1) (by omega)
    rw [← hf, ← hg, pc_ones (j + k) (k - 1) (by omega), pc_ev hA] at this
    omega
  · have hM : y % 2 ^ (j + k) < 2 ^ (j + k) := Nat.mod_lt _ (by omega)
    have hyd : y = y / 2 ^ (j + k) * 2 ^ (j + k) + y % 2 ^ (j + k) := by rw [Nat.mul_comm]; exact (Nat.div_add_mod y _).symm
    have hyp : pcN 16 y = pcN (j + k) (y % 2 ^ (j + k)) + pcN f (y / 2 ^ (j + k)) := by
      have := pc_split (j + k) f (y / 2 ^ (j + k)) (y % 2 ^ (j + k)) hM
      rw [← hf, ← hyd] at this
      exact this
    rcases Nat.lt_trichotomy (y / 2 ^ (j + k)) A with q | q | q
    · have := Nat.mul_le_mul_right (2 ^ (j + k)) (show y / 2 ^ (j + k) + 1 ≤ A from q)
      rw [Nat.succ_mul] at this
      omega
    · rw [q] at hyp hyd
      have h5 : pcN (j + k) (y % 2 ^ (j + k)) = k := by omega
      have h6 := pc_max (j + k) (y % 2 ^ (j + k)) hM
      rw [h5, show j + k - k = j by omega] at h6
      omega
    · rcases Nat.eq_or_lt_of_le (show A + 1 ≤ y / 2 ^ (j + k) from q) with q2 | q2
      · have hf0 : 0 < f := by
          rcases Nat.eq_zero_or_pos f with e | e
          · subst e
            have : 2 ^ (j + k) = 65536 := by rw [← h17, hf, Nat.add_zero]
            rw [← q2] at hyd
            omega
          · exact e
        obtain ⟨f', rfl⟩ : ∃ f', f = f' + 1 := ⟨f - 1, by omega⟩
        rw [← q2, pc_ev hA] at hyp
        rw [← q2] at hyd
        have h5 : pcN (j + k) (y % 2 ^ (j + k)) = k - 1 := by omega
        have h6 := pc_min (j + k) (y % 2 ^ (j + k))
        rw [h5] at h6
        omega
      · have h7 := Nat.mul_le_mul_right (2 ^ (j + k)) (show A + 1 + 1 ≤ y / 2 ^ (j + k) from q2)
        rw [Nat.succ_mul] at h7
        omega
theorem low_I {x : Nat} (h : x < 65536) : nI x &&& (-nI x) = nI (lowN x) := by rw [nI_neg (by omega), fa_and]; rfl
theorem lowN_le (x : Nat) : lowN x ≤ x := Nat.and_le_left
theorem gos_I {x : Nat} (h0 : 0 < x) (h : x < 65536) : (((nI x + (nI x &&& (-nI x))) ^^^ nI x) / (nI x &&& (-nI x))) >>> ((2 : Int32) &&& 31) ||| (nI x + (nI x &&& (-nI x))) = nI (gN x) := by
  obtain ⟨j, k, A, -, -, -, hl, -⟩ := pg_of h0 h
  have hle := lowN_le x
  have hxo : (x + lowN x) ^^^ x < 2 ^ 31 := Nat.lt_of_lt_of_le (Nat.xor_lt_two_pow (n := 17) (by omega) (by omega)) (by omega)
  have hdl : ((x + lowN x) ^^^ x) / lowN x ≤ (x + lowN x) ^^^ x := Nat.div_le_self _ _
  rw [low_I h, nI_add, nx_xor, pk_div hxo hl (by omega), nI_shr2 (by omega), fa_or]
  rfl
theorem bc_16 {x : Nat} (h : x < 65536) : f_J6_bitCount_0f7a4 (nI x) = some (nI (pcN 16 x)) := by
  have hb := chk_all 16 0 pb_all x (by omega) (by omega)
  have hb' : nb5 (nb4 (nb3 (nb2 (nb1 x)))) = pcN 16 x := Nat.eq_of_beq_eq_true hb
  rw [← hb']
  have s1 : ∀ a : Nat, a < 2 ^ 31 → nI a - (((nI a).toUInt32 >>> ((1 : Int32).toUInt32 &&& Int32.toUInt32 31)).toInt32 &&& (1431655765 : Int32)) = nI (nb1 a) := fun a ha => by
    rw [show (1 : Int32) = nI 1 from rfl, nI_ushr (by omega) (by omega), show (1431655765 : Int32) = nI 1431655765 from rfl, fa_and, pk_sub (Nat.le_trans Nat.and_le_left (Nat.div_le_self _ _))]; rfl
  have s2 : ∀ a : Nat, a < 2 ^ 31 → (nI a &&& (858993459 : Int32)) + (((nI a).toUInt32 >>> ((2 : Int32).toUInt32 &&& Int32.toUInt32 31)).toInt32 &&& (858993459 : Int32)) = nI (nb2 a) := fun a ha => by
    rw [show (2 : Int32) = nI 2 from rfl, nI_ushr (by omega) (by omega), show (858993459 : Int32) = nI 858993459 from rfl, fa_and, fa_and, nI_add]; rfl
  have s3 : ∀ a : Nat, a < 2 ^ 32 → (nI a + ((nI a).toUInt32 >>> ((4 : Int32).toUInt32 &&& Int32.toUInt32 31)).toInt32) &&& (252645135 : Int32) = nI (nb3 a) := fun a ha => by
    rw [show (4 : Int32) = nI 4 from rfl, nI_ushr ha (by omega), nI_add, show (252645135 : Int32) = nI 252645135 from rfl, fa_and]; rfl
  have s4 : ∀ a : Nat, a < 2 ^ 32 → nI a + ((nI a).toUInt32 >>> ((8 : Int32).toUInt32 &&& Int32.toUInt32 31)).toInt32 = nI (nb4 a) := fun a ha => by
    rw [show (8 : Int32) = nI 8 from rfl, nI_ushr ha (by omega), nI_add]; rfl
  have s5 : ∀ a : Nat, a < 2 ^ 32 → (nI a + ((nI a).toUInt32 >>> ((16 : Int32).toUInt32 &&& Int32.toUInt32 31)).toInt32) &&& (63 : Int32) = nI (nb5 a) := fun a ha => by
    rw [show (16 : Int32) = nI 16 from rfl, nI_ushr ha (by omega), nI_add, show (63 : Int32) = nI 63 from rfl, fa_and]; rfl
  have b1 : nb1 x ≤ x := Nat.sub_le _ _
  have b2 : nb2 (nb1 x) ≤ 858993459 + 858993459 := Nat.add_le_add Nat.and_le_right Nat.and_le_right
  have b3 : nb3 (nb2 (nb1 x)) ≤ 252645135 := Nat.and_le_right
  have b4 : nb4 (nb3 (nb2 (nb1 x))) ≤ 252645135 + 252645135 := Nat.add_le_add b3 (Nat.le_trans (Nat.div_le_self _ _) b3)
  unfold f_J6_bitCount_0f7a4
  rw [s1 x (by omega), s2 _ (by omega), s3 _ (by omega), s4 _ (by omega), s5 _ (by omega)]
