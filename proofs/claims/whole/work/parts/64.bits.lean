/-! pure: numbers of bits, the next number of as many bits -/
theorem bt_nat (x : Nat) {i : Nat} (hi : i < 32) : bt (nI x) i = x.testBit i := by
  show (BitVec.ofNat 32 x).getLsbD i = _
  rw [BitVec.getLsbD_ofNat]
  simp [hi]
theorem nI_xor (a b : Nat) : nI a ^^^ nI b = nI (a ^^^ b) := by
  apply b_ext
  intro i hi
  rw [b_xor, bt_nat a hi, bt_nat b hi, bt_nat _ hi, Nat.testBit_xor]
theorem nI_neg {x : Nat} (h : x ≤ 2 ^ 32) : -nI x = nI (2 ^ 32 - x) := by
  rw [← pk_sub h, show nI (2 ^ 32) = (0 : Int32) by decide +kernel, Int32.zero_sub]
theorem nI_shr2 {m : Nat} (h : m < 2 ^ 31) : nI m >>> ((2 : Int32) &&& 31) = nI (m / 4) := by
  apply b_ext
  intro i hi
  rw [show (2 : Int32) = nI 2 from rfl, b_sshr 2 (by omega) _ hi, bt_nat _ hi, show m / 4 = m / 2 ^ 2 from rfl, Nat.testBit_div_two_pow, Nat.add_comm i 2]
  by_cases hc : 2 + i < 32
  · rw [if_pos hc, bt_nat _ hc]
  · rw [if_neg hc, bt_nat _ (by omega), Nat.testBit_lt_two_pow h, Nat.testBit_lt_two_pow (Nat.lt_of_lt_of_le h (Nat.pow_le_pow_right (by omega) (by omega)))]
theorem nI_ushr {m k : Nat} (hm : m < 2 ^ 32) (hk : k < 32) : ((nI m).toUInt32 >>> ((nI k).toUInt32 &&& Int32.toUInt32 31)).toInt32 = nI (m / 2 ^ k) := by
  apply b_ext
  intro i hi
  rw [b_ushr k hk, bt_nat _ hi, Nat.testBit_div_two_pow, Nat.add_comm i k]
  by_cases hc : k + i < 32
  · rw [bt_nat _ hc]
  · rw [b_big (by omega), Nat.testBit_lt_two_pow (Nat.lt_of_lt_of_le hm (Nat.pow_le_pow_right (by omega) (by omega)))]
/-- how many of the first f bits -/
def pcN : Nat → Nat → Nat
  | 0, _ => 0
  | f + 1, x => Nat.add (Nat.mod x 2) (pcN f (Nat.div x 2))
theorem pcN_s (f x : Nat) : pcN (f + 1) x = x % 2 + pcN f (x / 2) := rfl
theorem cnt_low (p : Nat → Bool) : ∀ n, fa_cnt p (n + 1) = (if p 0 then 1 else 0) + fa_cnt (fun i => p (i + 1)) n
  | 0 => by rw [fa_cnt, fa_cnt, fa_cnt]; omega
  | n + 1 => by rw [fa_cnt, cnt_low p n, fa_cnt]; omega
theorem pcN_cnt : ∀ f x, pcN f x = fa_cnt (fun i => x.testBit i) f
  | 0, _ => rfl
  | f + 1, x => by
    rw [pcN_s, cnt_low, pcN_cnt f (x / 2)]
    have e : (fun i => (x / 2).testBit i) = (fun i => x.testBit (i + 1)) := funext fun i => by rw [Nat.testBit_succ]
    have e0 : x % 2 = if x.testBit 0 then 1 else 0 := by
      rw [Nat.testBit_zero]
      rcases Nat.mod_two_eq_zero_or_one x with h | h <;> rw [h] <;> rfl
    rw [e, e0]
theorem pc_bt {x : Nat} : fa_cnt (bt (nI x)) 16 = pcN 16 x := by
  rw [pcN_cnt]
  exact fa_cnt_cong (fun k hk => bt_nat x (by omega))
theorem pcN_le : ∀ D M, pcN D M ≤ D
  | 0, _ => Nat.le_refl 0
  | D + 1, M => by rw [pcN_s]; have := pcN_le D (M / 2); omega
theorem pc_split : ∀ (D f B M : Nat), M < 2 ^ D → pcN (D + f) (B * 2 ^ D + M) = pcN D M + pcN f B
  | 0, f, B, M, h => by
    have e : M = 0 := by omega
    subst e
    rw [Nat.zero_add, pcN, Nat.pow_zero, Nat.mul_one, Nat.add_zero, Nat.zero_add]
  | D + 1, f, B, M, h => by
    have e1 : B * 2 ^ (D + 1) = 2 * (B * 2 ^ D) := by rw [Nat.pow_succ, Nat.mul_comm (2 ^ D) 2, ← Nat.mul_assoc, Nat.mul_comm B 2, Nat.mul_assoc]
    have e2 : 2 ^ (D + 1) = 2 * 2 ^ D := by rw [Nat.pow_succ]; omega
    rw [show D + 1 + f = (D + f) + 1 by omega, pcN_s, pcN_s, e1, show (2 * (B * 2 ^ D) + M) % 2 = M % 2 by omega, show (2 * (B * 2 ^ D) + M) / 2 = B * 2 ^ D + M / 2 by omega, pc_split D f B (M / 2) (by omega)]
    omega
theorem pc_max : ∀ (D M : Nat), M < 2 ^ D → M + 2 ^ (D - pcN D M) ≤ 2 ^ D
  | 0, M, h => by rw [pcN]; simp at h ⊢; omega
  | D + 1, M, h => by
    have e2 : 2 ^ (D + 1) = 2 * 2 ^ D := by rw [Nat.pow_succ]; omega
    have ih := pc_max D (M / 2) (by omega)
    have hle := pcN_le D (M / 2)
    rw [pcN_s]
    rcases Nat.mod_two_eq_zero_or_one M with e | e
    · rw [e, show D + 1 - (0 + pcN D (M / 2)) = (D - pcN D (M / 2)) + 1 by omega, Nat.pow_succ]
      omega
    · rw [e, show D + 1 - (1 + pcN D (M / 2)) = D - pcN D (M / 2) by omega]
      have : 0 < 2 ^ (D - pcN D (M / 2)) := Nat.pow_pos (by omega)
      omega
theorem pc_min : ∀ (D M : Nat), 2 ^ pcN D M ≤ M + 1
  | 0, M => by rw [pcN]; simp
  | D + 1, M => by
    have ih := pc_min D (M / 2)
    rw [pcN_s]
    rcases Nat.mod_two_eq_zero_or_one M with e | e
    · rw [e, Nat.zero_add]; omega
    · rw [e, Nat.add_comm 1, Nat.pow_succ]; omega
theorem pc_ones : ∀ (D k : Nat), k ≤ D → pcN D (2 ^ k - 1) = k
  | 0, k, h => by rw [pcN]; omega
  | D + 1, 0, _ => by
    have ih := pc_ones D 0 (by omega)
    rw [pcN_s]; simpa using ih
  | D + 1, k + 1, h => by
    have ih := pc_ones D k (by omega)
    have e2 : 2 ^ (k + 1) = 2 * 2 ^ k := by rw [Nat.pow_succ]; omega
    have : 0 < 2 ^ k := Nat.pow_pos (by omega)
    rw [pcN_s, show (2 ^ (k + 1) - 1) % 2 = 1 by omega, show (2 ^ (k + 1) - 1) / 2 = 2 ^ k - 1 by omega, ih]
    omega
/-- the next number -/
def lowN (x : Nat) : Nat := Nat.land x (Nat.sub 4294967296 x)
def qN (x : Nat) : Nat := Nat.div (Nat.xor (Nat.add x (lowN x)) x) (lowN x)
def gN (x : Nat) : Nat := Nat.lor (Nat.div (qN x) 4) (Nat.add x (lowN x))
def gD (x : Nat) : Nat := Nat.add (Nat.log2 (lowN x)) (Nat.log2 (qN x))
def PG (x : Nat) : Bool := or (Nat.beq x 0) (and (Nat.ble 1 (lowN x)) (and (Nat.ble 1 (Nat.log2 (qN x))) (and (Nat.ble (gD x) 16) (and (Nat.beq (Nat.mod (Nat.div x (Nat.pow 2 (gD x))) 2) 0) (and (Nat.beq (Nat.mod x (Nat.pow 2 (gD x))) (Nat.mul (Nat.sub (Nat.pow 2 (Nat.log2 (qN x))) 1) (Nat.pow 2 (Nat.log2 (lowN x))))) (Nat.beq (gN x) (Nat.add (Nat.mul (Nat.add (Nat.div x (Nat.pow 2 (gD x))) 1) (Nat.pow 2 (gD x))) (Nat.sub (Nat.pow 2 (Nat.sub (Nat.log2 (qN x)) 1)) 1))))))))
def chk (P : Nat → Bool) : Nat → Nat → Bool
  | 0, b => P b
  | d + 1, b => and (chk P d (Nat.mul 2 b)) (chk P d (Nat.succ (Nat.mul 2 b)))
theorem chk_all {P : Nat → Bool} : ∀ (d b : Nat), chk P d b = true → ∀ x, b * 2 ^ d ≤ x → x < (b + 1) * 2 ^ d → P x = true
  | 0, b, h, x, h1, h2 => by
    have e : x = b := by simp at h1 h2; omega
    subst e
    exact h
  | d + 1, b, h, x, h1, h2 => by
    have e2 : 2 ^ (d + 1) = 2 * 2 ^ d := by rw [Nat.pow_succ]; omega
    have e3 : b * 2 ^ (d + 1) = (2 * b) * 2 ^ d := by rw [e2, Nat.mul_comm 2 b, Nat.mul_assoc]
    have e4 : (b + 1) * 2 ^ (d + 1) = (2 * b + 1 + 1) * 2 ^ d := by rw [e2, show 2 * b + 1 + 1 = (b + 1) * 2 by omega, Nat.mul_assoc]
    rw [chk] at h
    have h5 : chk P d (2 * b) = true ∧ chk P d (2 * b + 1) = true := by
      have : (chk P d (2 * b) && chk P d (2 * b + 1)) = true := h
      rw [Bool.and_eq_true] at this
      exact this
    rw [e3] at h1
    rw [e4] at h2
    rcases Nat.lt_or_ge x ((2 * b + 1) * 2 ^ d) with q | q
    · exact chk_all d (2 * b) h5.1 x h1 q
    · exact chk_all d (2 * b + 1) h5.2 x q h2
set_option maxRecDepth 100000 in
theorem pg_all : chk PG 16 0 = true := by decide +kernel
def nb1 (x : Nat) : Nat := Nat.sub x (Nat.land (Nat.div x 2) 1431655765)
def nb2 (x : Nat) : Nat := Nat.add (Nat.land x 858993459) (Nat.land (Nat.div x 4) 858993459)
def nb3 (x : Nat) : Nat := Nat.land (Nat.add x (Nat.div x 16)) 252645135
def nb4 (x : Nat) : Nat := Nat.add x (Nat.div x 256)
def nb5 (x : Nat) : Nat := Nat.land (Nat.add x (Nat.div x 65536)) 63
def PB (x : Nat) : Bool := Nat.beq (nb5 (nb4 (nb3 (nb2 (nb1 x))))) (pcN 16 x)
set_option maxRecDepth 100000 in
theorem pb_all : chk PB 16 0 = true := by decide +kernel
