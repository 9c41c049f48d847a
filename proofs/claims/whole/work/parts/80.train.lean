/-! pure: training: the search told as a function, and the class -/
def us (x : Nat → Int32) (g : Nat → Nat) (b w : Nat) : Nat → Int32 := if g w = w then upd (upd x (32 + (16 * b + w)) 0) (160 + (16 * b + w)) 0 else upd (upd (upd x (32 + (16 * b + w)) 0) (160 + (16 * b + w)) 0) (32 + (16 * b + g w)) (bnd (upd (upd x (32 + (16 * b + w)) 0) (160 + (16 * b + w)) 0 (32 + (16 * b + g w)) + 9))
def dU (d : Nat → Int32) (g : Nat → Nat) (b w : Nat) : Nat → Int32 := if g w = w then upd d (16 * b + w) 0 else upd (upd d (16 * b + w) 0) (16 * b + g w) (bnd (upd d (16 * b + w) 0 (16 * b + g w) + 9))
theorem f_mk8 {dread other tries : Nat → Int32} {g : Nat → Nat} {c w : Nat} (hc : c < 8) (hw : w < 16) (hgw : g w < 16) (ho : other w = nI (g w)) : f_X8_makeUsed dread other tries (nI c) (nI w) = some (dU dread g c w, upd tries (16 * c + w) 0) := by
  unfold f_X8_makeUsed f_X8_makeUsed_b43 dU
  rw [f_setDread8 hc hw, bd1_s, bnd_0, f_setTries8 hc hw, bd1_s, f_of4 hw, bd1_s, ho, f_dread8 hc hgw, bd1_s, f_setDread8 hc hgw, bd1_s]
  by_cases q : g w = w
  · rw [if_pos (by rw [q]), if_pos q]
  · rw [if_neg (by rw [neq (by omega) (by omega)]; exact q), if_neg q]
theorem f_us12 {x rhymeOf : Nat → Int32} {g : Nat → Nat} {c w : Nat} (hc : c < 8) (hw : w < 16) (hgw : g w < 16) (hr : rhymeOf w = nI (g w)) : f_X12_isUsedTo x rhymeOf (nI c) (nI w) = some (us x g c w) := by
  have e1 : (32 : Int32) + 16 * nI c + nI w = nI (32 + (16 * c + w)) := by rw [show (32 : Int32) = nI 32 from rfl, show (16 : Int32) = nI 16 from rfl, pk_mul, nI_add, nI_add, Nat.add_assoc]
  have e2 : (160 : Int32) + 16 * nI c + nI w = nI (160 + (16 * c + w)) := by rw [show (160 : Int32) = nI 160 from rfl, show (16 : Int32) = nI 16 from rfl, pk_mul, nI_add, nI_add, Nat.add_assoc]
  have e3 : (32 : Int32) + 16 * nI c + nI (g w) = nI (32 + (16 * c + g w)) := by rw [show (32 : Int32) = nI 32 from rfl, show (16 : Int32) = nI 16 from rfl, pk_mul, nI_add, nI_add, Nat.add_assoc]
  unfold f_X12_isUsedTo f_X12_isUsedTo_b69 us
  rw [e1, sI_n (by omega) (by omega), e2, sI_n (by omega) (by omega), gI_n (by omega) (by omega), hr, f_dread12 hc hgw, bd1_s, f_limit_eq, bd1_s, e3, sI_n (by omega) (by omega)]
  by_cases q : g w = w
  · rw [if_pos (by rw [q]), if_pos q]
  · rw [if_neg (by rw [neq (by omega) (by omega)]; exact q), if_neg q]
theorem us_RS {dread ink kind salt tries : Nat → Int32} {day nerve pictures told written xx : Int32} {x : Nat → Int32} (hS : RShelf dread ink kind salt tries day nerve pictures told written xx x) {g : Nat → Nat} {c w : Nat} (hc : c < 8) (hw : w < 16) (hgw : g w < 16) : RShelf (dU dread g c w) ink kind salt (upd tries (16 * c + w) 0) day nerve pictures told written xx (us x g c w) := by
  have hA : RShelf (upd dread (16 * c + w) 0) ink kind salt (upd tries (16 * c + w) 0) day nerve pictures told written xx (upd (upd x (32 + (16 * c + w)) 0) (160 + (16 * c + w)) 0) := (hS.uDread ⟨0, by omega, rfl⟩ (by omega)).uTries ⟨0, by omega, rfl⟩ (by omega)
  unfold dU us
  by_cases q : g w = w
  · rw [if_pos q, if_pos q]; exact hA
  · have hd := (hA.2.2.1 (16 * c + g w) (by omega)).1
    rw [if_neg q, if_neg q, hd]
    exact hA.uDread (bnd_rg _) (by omega)
theorem dU_back {d : Nat → Int32} {g : Nat → Nat} {c w : Nat} : upd (upd (dU d g c w) (16 * c + g w) (d (16 * c + g w))) (16 * c + w) (d (16 * c + w)) = d := by
  funext k
  by_cases e : k = 16 * c + w
  · rw [e, pk_us]
  · rw [pk_un e]
    by_cases e2 : k = 16 * c + g w
    · rw [e2, pk_us]
    · rw [pk_un e2]
      unfold dU
      split
      · rw [pk_un e]
      · rw [pk_un e2, pk_un e]
theorem bnd_id : ∀ k, k < 100 → bnd (nI k) = nI k := by decide +kernel
def tG (x : Nat → Int32) (g : Nat → Nat) (b : Nat) (s : Nat → Nat) (N : Nat) : Bool := allN (fun k => bear x g b (s k)) N
def vis (x : Nat → Int32) (g : Nat → Nat) (b : Nat) (s : Nat → Nat) (N sp : Nat) (fs : Int32) (acc : Nat × Int32) : Nat × Int32 := if tG x g b s N = true ∧ sp < acc.1 then (sp, fs) else acc
def updB (U : Nat → Bool) (j : Nat) : Nat → Bool := fun k => if k = j then true else U k
def kSp (x : Nat → Int32) (b w sp : Nat) : Nat := sp + (9 - (x (160 + (16 * b + w))).toNatClampNeg)
def kFs (fs : Int32) (w : Nat) : Int32 := if fs = -2 then nI w else fs
def kids (g : Nat → Nat) (b : Nat) (s : Nat → Nat) (N : Nat) (rc : (Nat → Bool) → (Nat → Int32) → Nat → Int32 → Nat × Int32 → Nat × Int32) (U : Nat → Bool) (x : Nat → Int32) (sp : Nat) (fs : Int32) : Nat → Nat × Int32 → Nat × Int32
  | 0, acc => acc
  | j + 1, acc => if U j then kids g b s N rc U x sp fs j acc else rc (updB U j) (us x g b (s j)) (kSp x b (s j) sp) (kFs fs (s j)) (vis (us x g b (s j)) g b s N (kSp x b (s j) sp) (kFs fs (s j)) (kids g b s N rc U x sp fs j acc))
def dfs (g : Nat → Nat) (b : Nat) (s : Nat → Nat) (N : Nat) : Nat → (Nat → Bool) → (Nat → Int32) → Nat → Int32 → Nat × Int32 → Nat × Int32
  | 0, _, _, _, _, acc => acc
  | d + 1, U, x, sp, fs, acc => kids g b s N (dfs g b s N d) U x sp fs N acc
section TR
variable {g : Nat → Nat} {b : Nat} {s : Nat → Nat} {N : Nat}
theorem vis_no {x : Nat → Int32} {sp : Nat} {fs : Int32} {acc : Nat × Int32} (h : acc.1 ≤ sp) : vis x g b s N sp fs acc = acc := if_neg (fun q => by have := q.2; omega)
theorem kids_prune {rc : (Nat → Bool) → (Nat → Int32) → Nat → Int32 → Nat × Int32 → Nat × Int32} (hr : ∀ U x sp fs (acc : Nat × Int32), acc.1 ≤ sp → rc U x sp fs acc = acc) {U : Nat → Bool} {x : Nat → Int32} {sp : Nat} {fs : Int32} {acc : Nat × Int32} (h : acc.1 ≤ sp) : ∀ j, kids g b s N rc U x sp fs j acc = acc
  | 0 => rfl
  | j + 1 => by
    have hk : acc.1 ≤ kSp x b (s j) sp := by unfold kSp; omega
    rw [kids, kids_prune hr h j, vis_no hk, hr _ _ _ _ _ hk, ite_self]
theorem dfs_prune : ∀ d U x sp fs (acc : Nat × Int32), acc.1 ≤ sp → dfs g b s N d U x sp fs acc = acc
  | 0, U, x, sp, fs, acc, h => rfl
  | d + 1, U, x, sp, fs, acc, h => by rw [dfs]; exact kids_prune (dfs_prune d) h N
theorem kids_used {rc : (Nat → Bool) → (Nat → Int32) → Nat → Int32 → Nat × Int32 → Nat × Int32} {U : Nat → Bool} {x : Nat → Int32} {sp : Nat} {fs : Int32} {acc : Nat × Int32} : ∀ j, (∀ i, i < j → U i = true) → kids g b s N rc U x sp fs j acc = acc
  | 0, _ => rfl
  | j + 1, h => by rw [kids, if_pos (h j (by omega))]; exact kids_used j (fun i hi => h i (by omega))
theorem dfs_used {U : Nat → Bool} {x : Nat → Int32} {sp : Nat} {fs : Int32} {acc : Nat × Int32} (h : ∀ i, i < N → U i = true) : ∀ d, dfs g b s N d U x sp fs acc = acc
  | 0 => rfl
  | d + 1 => by rw [dfs]; exact kids_used N h
theorem vis_le {x : Nat → Int32} {sp : Nat} {fs : Int32} {acc : Nat × Int32} : (vis x g b s N sp fs acc).1 ≤ acc.1 := by
  unfold vis
  split
  · rename_i h; exact Nat.le_of_lt h.2
  · exact Nat.le_refl _
theorem kids_le {rc : (Nat → Bool) → (Nat → Int32) → Nat → Int32 → Nat × Int32 → Nat × Int32} (hr : ∀ U x sp fs (acc : Nat × Int32), (rc U x sp fs acc).1 ≤ acc.1) {U : Nat → Bool} {x : Nat → Int32} {sp : Nat} {fs : Int32} {acc : Nat × Int32} : ∀ j, (kids g b s N rc U x sp fs j acc).1 ≤ acc.1
  | 0 => Nat.le_refl _
  | j + 1 => by
    have ih := kids_le hr (U := U) (x := x) (sp := sp) (fs := fs) (acc := acc) j
    rw [kids]
    split
    · exact ih
    · exact Nat.le_trans (hr _ _ _ _ _) (Nat.le_trans vis_le ih)
theorem dfs_le : ∀ d U x sp fs (acc : Nat × Int32), (dfs g b s N d U x sp fs acc).1 ≤ acc.1
  | 0, U, x, sp, fs, acc => Nat.le_refl _
  | d + 1, U, x, sp, fs, acc => by rw [dfs]; exact kids_le (dfs_le d) N
theorem cnt_updB {U : Nat → Bool} {j : Nat} (h : U j = false) (k : Nat) (hj : j < k) : fa_cnt (updB U j) k = fa_cnt U k + 1 := by
  rw [cnt_set (p := U) (q := updB U j) (i := j) h (if_pos rfl) (fun i hi => if_neg hi) k, if_pos hj]
end TR
section TC
variable {dread ink kind salt tries : Nat → Int32} {day nerve pictures told written xx : Int32} {other rhymeOf x : Nat → Int32} {g : Nat → Nat} {b : Nat} {s : Nat → Nat} {N : Nat} {p : Nat → Bool} {wanted : Int32}
theorem want_iff (hp : ∀ w, w < 16 → bt wanted w = p w) (hp2 : ∀ w, 16 ≤ w → w < 32 → bt wanted w = false) (hs : ∀ w, w < 16 → p w = true → s (fa_cnt p w) = w) (hN : fa_cnt p 16 = N) : (wanted &&& (bitsI (bear x g b) 16 ^^^ (-1))) = 0 ↔ tG x g b s N = true := by
  have h1 : (wanted &&& (bitsI (bear x g b) 16 ^^^ (-1))) = 0 ↔ ∀ w, w < 16 → p w = true → bear x g b w = true := by
    constructor
    · intro h w hw hpw
      have h2 : bt (wanted &&& (bitsI (bear x g b) 16 ^^^ (-1))) w = false := by rw [h]; exact b_0 w
      rw [b_and, b_xor, b_m1 w (by omega), bt_bitsI (by omega) 16 (by omega), hp w hw, hpw, decide_eq_true hw] at h2
      cases e : bear x g b w
      · rw [e] at h2; cases h2
      · rfl
    · intro h
      apply b_ext
      intro i hi
      rw [b_0, b_and, b_xor, b_m1 i hi, bt_bitsI hi 16 (by omega)]
      rcases Nat.lt_or_ge i 16 with z | z
      · rw [hp i z, decide_eq_true z]
        cases e : p i
        · rfl
        · rw [h i z e]; rfl
      · rw [hp2 i z hi]; rfl
  rw [h1]
  unfold tG
  rw [allN_iff]
  constructor
  · intro h k hk
    obtain ⟨w, hw, hpw, e⟩ := cnt_sur (p := p) (k := 16) (i := k) (by omega)
    rw [← e, hs w hw hpw]
    exact h w hw hpw
  · intro h w hw hpw
    have h3 := h (fa_cnt p w) (by rw [← hN]; exact cnt_lt hw hpw)
    rw [hs w hw hpw] at h3
    exact h3
/-- a search of the class, d words deep at most, against the function -/
def ScC (ink kind salt : Nat → Int32) (day nerve pictures told written xx : Int32) (other : Nat → Int32) (g : Nat → Nat) (b : Nat) (s : Nat → Nat) (N : Nat) (p : Nat → Bool) (wanted : Int32) (G : (Nat → Int32) → (Nat → Int32) → (Nat → Int32) → (Nat → Int32) → (Nat → Int32) → Int32 → Int32 → Int32 → Int32 → Int32 → Int32 → Int32 → Int32 → Option ((Nat → Int32) × (Nat → Int32) × Int32 × Int32)) (d : Nat) : Prop :=
  ∀ (U : Nat → Bool) (x dread tries : Nat → Int32) (sp : Nat) (fs : Int32) (acc : Nat × Int32) (o : Int32), RShelf dread ink kind salt tries day nerve pictures told written xx x → N ≤ fa_cnt U N + d → sp ≤ 9 * fa_cnt U N → (∀ w, w < 16 → bt o w = (p w && !U (fa_cnt p w))) →
    G dread kind other salt tries (nI b) (nI (min acc.1 1000)) acc.2 wanted nerve o (nI sp) fs = some (dread, tries, nI (min (dfs g b s N d U x sp fs (vis x g b s N sp fs acc)).1 1000), (dfs g b s N d U x sp fs (vis x g b s N sp fs acc)).2)
theorem sc_loop {G1 : (Nat → Int32) → (Nat → Int32) → (Nat → Int32) → (Nat → Int32) → (Nat → Int32) → Int32 → Int32 → Int32 → Int32 → Int32 → Int32 → Int32 → Int32 → Option ((Nat → Int32) × (Nat → Int32) × Int32 × Int32)} {G2 : (Nat → Int32) → (Nat → Int32) → (Nat → Int32) → (Nat → Int32) → (Nat → Int32) → Int32 → Int32 → Int32 → Int32 → Int32 → Int32 → Int32 → Int32 → Int32 → Option ((Nat → Int32) × (Nat → Int32) × Int32 × Int32)} {rc : (Nat → Bool) → (Nat → Int32) → Nat → Int32 → Nat × Int32 → Nat × Int32} {U : Nat → Bool} {sp : Nat} {fs : Int32} {acc : Nat × Int32} {o : Int32}
    (hN : fa_cnt p 16 = N) (ho : ∀ w, w < 16 → bt o w = (p w && !U (fa_cnt p w))) (hs : ∀ w, w < 16 → p w = true → s (fa_cnt p w) = w)
    (hG : ∀ w, w < 16 → p w = true → U (fa_cnt p w) = false → ∀ a : Nat × Int32, G2 dread kind other salt tries (nI b) (nI (min a.1 1000)) a.2 wanted nerve (nI w) (o &&& (((1 : Int32) <<< (nI w &&& 31)) ^^^ (-1))) (nI sp) (kFs fs w) = some (dread, tries, nI (min (rc (updB U (fa_cnt p w)) (us x g b w) (kSp x b w sp) (kFs fs w) (vis (us x g b w) g b s N (kSp x b w sp) (kFs fs w) a)).1 1000), (rc (updB U (fa_cnt p w)) (us x g b w) (kSp x b w sp) (kFs fs w) (vis (us x g b w) g b s N (kSp x b w sp) (kFs fs w) a)).2)) :
    ∀ e w fu, w + e = 16 → e < fu → f_X10_search_b44 G1 G2 kind other salt (nI b) wanted nerve o (nI sp) fs fu dread tries (nI (min (kids g b s N rc U x sp fs (fa_cnt p w) acc).1 1000)) (kids g b s N rc U x sp fs (fa_cnt p w) acc).2 (nI w) = some (dread, tries, nI (min (kids g b s N rc U x sp fs N acc).1 1000), (kids g b s N rc U x sp fs N acc).2) := by
  intro e
  induction e with
  | zero =>
    intro w fu hw hf
    obtain ⟨fu, rfl⟩ : ∃ y, fu = y + 1 := ⟨fu - 1, by omega⟩
    obtain rfl : w = 16 := by omega
    rw [f_X10_search_b44, if_pos (by decide), hN]
  | succ e ih =>
    intro w fu hw hf
    obtain ⟨fu, rfl⟩ : ∃ y, fu = y + 1 := ⟨fu - 1, by omega⟩
    have hw16 : w < 16 := by omega
    rw [f_X10_search_b44, if_neg (ge16 hw16), sh1 o (by omega), ho w hw16]
    have ih1 := ih (w + 1) fu (by omega) (by omega)
    cases hp : p w with
    | false =>
      rw [fa_cnt_no hp] at ih1
      rw [if_pos (show bI (false && !U (fa_cnt p w)) = 0 from rfl)]
      unfold f_X10_search_b91
      rw [nI_1]; exact ih1
    | true =>
      rw [fa_cnt_yes hp, kids] at ih1
      cases hU : U (fa_cnt p w) with
      | true =>
        rw [if_pos hU] at ih1
        rw [if_pos (show bI (true && !true) = 0 from rfl)]
        unfold f_X10_search_b91
        rw [nI_1]; exact ih1
      | false =>
        rw [if_neg (by rw [hU]; decide), hs w hw16 hp] at ih1
        have h1 := hG w hw16 hp hU (kids g b s N rc U x sp fs (fa_cnt p w) acc)
        rw [if_neg (show ¬ bI (true && !false) = 0 from one_ne)]
        unfold f_X10_search_b72 f_X10_search_b91
        by_cases hf : fs = -2
        · rw [if_pos hf]
          have h2 : kFs fs w = nI w := if_pos hf
          rw [h2] at h1
          rw [h1, bd4_s, nI_1]
          rw [h2] at ih1
          exact ih1
        · rw [if_neg hf]
          have h2 : kFs fs w = fs := if_neg hf
          rw [h2] at h1
          rw [h1, bd4_s, nI_1]
          rw [h2] at ih1
          exact ih1
theorem sc_go {G1 : (Nat → Int32) → (Nat → Int32) → (Nat → Int32) → (Nat → Int32) → (Nat → Int32) → Int32 → Int32 → Int32 → Int32 → Int32 → Int32 → Int32 → Int32 → Option ((Nat → Int32) × (Nat → Int32) × Int32 × Int32)} {G2 : (Nat → Int32) → (Nat → Int32) → (Nat → Int32) → (Nat → Int32) → (Nat → Int32) → Int32 → Int32 → Int32 → Int32 → Int32 → Int32 → Int32 → Int32 → Int32 → Option ((Nat → Int32) × (Nat → Int32) × Int32 × Int32)} {d : Nat}
    (hG1 : ScC ink kind salt day nerve pictures told written xx other g b s N p wanted G1 d) (hg : ∀ w, w < 16 → g w < 16 ∧ g (g w) = w ∧ other w = nI (g w) ∧ rhymeOf w = nI (g w)) (hb : b < 8) (hN : fa_cnt p 16 = N) (hN6 : N ≤ 6) {U : Nat → Bool} {sp : Nat} {fs : Int32} {o : Int32} (hS : RShelf dread ink kind salt tries day nerve pictures told written xx x) (hU : N ≤ fa_cnt U N + (d + 1)) (hsp : sp ≤ 9 * fa_cnt U N) (ho : ∀ w, w < 16 → bt o w = (p w && !U (fa_cnt p w))) {w : Nat} (hw : w < 16) (hpw : p w = true) (hUw : U (fa_cnt p w) = false) (a : Nat × Int32) :
    fo_X10_goOnWith G1 G2 dread kind other salt tries (nI b) (nI (min a.1 1000)) a.2 wanted nerve (nI w) (o &&& (((1 : Int32) <<< (nI w &&& 31)) ^^^ (-1))) (nI sp) (kFs fs w) = some (dread, tries, nI (min (dfs g b s N d (updB U (fa_cnt p w)) (us x g b w) (kSp x b w sp) (kFs fs w) (vis (us x g b w) g b s N (kSp x b w sp) (kFs fs w) a)).1 1000), (dfs g b s N d (updB U (fa_cnt p w)) (us x g b w) (kSp x b w sp) (kFs fs w) (vis (us x g b w) g b s N (kSp x b w sp) (kFs fs w) a)).2) := by
  have hgw := hg w hw
  have hgw1 := hgw.1
  have hcN : fa_cnt p w < N := by rw [← hN]; exact cnt_lt hw hpw
  obtain ⟨d1, ⟨kd, hkd, ekd⟩, t1, ⟨kt, hkt, ekt⟩⟩ := hS.2.2.1 (16 * b + w) (by omega)
  obtain ⟨d2, ⟨kr, hkr, ekr⟩, -, -⟩ := hS.2.2.1 (16 * b + g w) (by omega)
  have hc := cnt_updB hUw N hcN
  have hcl := fa_cnt_le U N
  have eSp : nI sp + 9 - tries (16 * b + w) = nI (kSp x b w sp) := by
    unfold kSp
    rw [← t1, ekt, nI_clamp (by omega), show (9 : Int32) = nI 9 from rfl, nI_add, pk_sub (by omega), show sp + 9 - kt = sp + (9 - kt) by omega]
  have hbits : ∀ v, v < 16 → bt (o &&& (((1 : Int32) <<< (nI w &&& 31)) ^^^ (-1))) v = (p v && !updB U (fa_cnt p w) (fa_cnt p v)) := by
    intro v hv
    rw [b_and, b_xor, b_m1 v (by omega), bt_one w hw v (by omega), ho v hv]
    by_cases e : v = w
    · rw [e, decide_eq_true rfl, show updB U (fa_cnt p w) (fa_cnt p w) = true from if_pos rfl]
      cases p w <;> simp
    · rw [decide_eq_false e]
      cases hpv : p v with
      | false => rfl
      | true =>
        have hne : fa_cnt p v ≠ fa_cnt p w := by
          rcases Nat.lt_or_ge v w with z | z
          · have := cnt_lt z hpv; omega
          · have := cnt_lt (show w < v by omega) hpw; omega
        rw [show updB U (fa_cnt p w) (fa_cnt p v) = U (fa_cnt p v) from if_neg hne]
        simp
  have key := hG1 (updB U (fa_cnt p w)) (us x g b w) (dU dread g b w) (upd tries (16 * b + w) 0) (kSp x b w sp) (kFs fs w) a (o &&& (((1 : Int32) <<< (nI w &&& 31)) ^^^ (-1))) (us_RS hS hb hw hgw1) (by omega) (by unfold kSp; omega) hbits
  unfold fo_X10_goOnWith
  rw [f_of4 hw, bd1_s, hgw.2.2.1, f_tries8 hb hw, bd1_s, f_dread8 hb hw, bd1_s, f_dread8 hb hgw1, bd1_s, f_mk8 hb hw hgw1 hgw.2.2.1, bd2_s, eSp, key, bd4_s, f_setTries8 hb hw, bd1_s, f_setDread8 hb hgw1, bd1_s, f_setDread8 hb hw, bd1_s, ekr, ekd, bnd_id kr (by omega), bnd_id kd (by omega), ← ekr, ← ekd, dU_back, fa_upd_twice, fa_upd_same rfl]
theorem sc_node {G1 : (Nat → Int32) → (Nat → Int32) → (Nat → Int32) → (Nat → Int32) → (Nat → Int32) → Int32 → Int32 → Int32 → Int32 → Int32 → Int32 → Int32 → Int32 → Option ((Nat → Int32) × (Nat → Int32) × Int32 × Int32)} {G2 : (Nat → Int32) → (Nat → Int32) → (Nat → Int32) → (Nat → Int32) → (Nat → Int32) → Int32 → Int32 → Int32 → Int32 → Int32 → Int32 → Int32 → Int32 → Int32 → Option ((Nat → Int32) × (Nat → Int32) × Int32 × Int32)} {d : Nat} {U : Nat → Bool} {sp : Nat} {fs : Int32} {acc : Nat × Int32} {o : Int32}
    (hg : ∀ w, w < 16 → g w < 16 ∧ g (g w) = w ∧ other w = nI (g w) ∧ rhymeOf w = nI (g w)) (hb : b < 8) (hp : ∀ w, w < 16 → bt wanted w = p w) (hp2 : ∀ w, 16 ≤ w → w < 32 → bt wanted w = false) (hs : ∀ w, w < 16 → p w = true → s (fa_cnt p w) = w) (hN : fa_cnt p 16 = N) (hsp : sp < 1000) (hS : RShelf dread ink kind salt tries day nerve pictures told written xx x)
    (hl : f_X10_search_b44 G1 G2 kind other salt (nI b) wanted nerve o (nI sp) fs FU dread tries (nI (min acc.1 1000)) acc.2 0 = some (dread, tries, nI (min (dfs g b s N d U x sp fs acc).1 1000), (dfs g b s N d U x sp fs acc).2)) :
    fo_X10_search G1 G2 dread kind other salt tries (nI b) (nI (min acc.1 1000)) acc.2 wanted nerve o (nI sp) fs = some (dread, tries, nI (min (dfs g b s N d U x sp fs (vis x g b s N sp fs acc)).1 1000), (dfs g b s N d U x sp fs (vis x g b s N sp fs acc)).2) := by
  unfold fo_X10_search
  rw [ite_nlt (by omega) (by omega), f_wb8 (SQ.of hS hg) hb, bd1_s]
  by_cases h1 : sp < acc.1
  · rw [if_pos (by omega)]
    by_cases h2 : tG x g b s N = true
    · have e : vis x g b s N sp fs acc = (sp, fs) := if_pos ⟨h2, h1⟩
      rw [if_pos ((want_iff hp hp2 hs hN).mpr h2), e, dfs_prune d U x sp fs (sp, fs) (Nat.le_refl sp), show min (sp, fs).1 1000 = sp by show min sp 1000 = sp; omega]
    · have e : vis x g b s N sp fs acc = acc := if_neg (fun q => h2 q.1)
      rw [if_neg (fun q => h2 ((want_iff hp hp2 hs hN).mp q)), e]
      exact hl
  · rw [if_neg (by omega), vis_no (by omega), dfs_prune d U x sp fs acc (by omega)]
theorem sc_all (hg : ∀ w, w < 16 → g w < 16 ∧ g (g w) = w ∧ other w = nI (g w) ∧ rhymeOf w = nI (g w)) (hb : b < 8) (hp : ∀ w, w < 16 → bt wanted w = p w) (hp2 : ∀ w, 16 ≤ w → w < 32 → bt wanted w = false) (hs : ∀ w, w < 16 → p w = true → s (fa_cnt p w) = w) (hN : fa_cnt p 16 = N) (hN6 : N ≤ 6) : ∀ d D, 2 * d + 1 ≤ D → ScC ink kind salt day nerve pictures told written xx other g b s N p wanted (f_X10_search D) d := by
  intro d
  induction d with
  | zero =>
    intro D hD U x dread tries sp fs acc o hS hU hsp ho
    obtain ⟨D, rfl⟩ : ∃ y, D = y + 1 := ⟨D - 1, by omega⟩
    have hcl := fa_cnt_le U N
    have hall : ∀ i, i < N → U i = true := cnt_full N (by omega)
    refine sc_node hg hb hp hp2 hs hN (by omega) hS ?_
    have := sc_loop (G1 := (frec_X10_search D).1) (G2 := (frec_X10_search D).2) (dread := dread) (kind := kind) (salt := salt) (tries := tries) (other := other) (nerve := nerve) (wanted := wanted) (x := x) (g := g) (b := b) (s := s) (rc := dfs g b s N 0) (U := U) (sp := sp) (fs := fs) (acc := acc) (o := o) hN ho hs (fun w hw hpw hUw => by rw [hall _ (by rw [← hN]; exact cnt_lt hw hpw)] at hUw; cases hUw) 16 0 FU (by omega) (FU_gt (by omega))
    rw [kids_used N hall] at this
    exact this
  | succ d ih =>
    intro D hD U x dread tries sp fs acc o hS hU hsp ho
    obtain ⟨D, rfl⟩ : ∃ y, D = y + 2 := ⟨D - 2, by omega⟩
    have hcl := fa_cnt_le U N
    refine sc_node hg hb hp hp2 hs hN (by omega) hS ?_
    exact sc_loop (G1 := (frec_X10_search (D + 1)).1) (G2 := (frec_X10_search (D + 1)).2) (dread := dread) (kind := kind) (salt := salt) (tries := tries) (other := other) (nerve := nerve) (wanted := wanted) (x := x) (g := g) (b := b) (s := s) (rc := dfs g b s N d) (U := U) (sp := sp) (fs := fs) (acc := acc) (o := o) hN ho hs (fun w hw hpw hUw a => sc_go (G1 := (frec_X10_search D).1) (G2 := (frec_X10_search D).2) (ih D (by omega)) hg hb hN hN6 hS hU hsp ho hw hpw hUw a) 16 0 FU (by omega) (FU_gt (by omega))
end TC
