/-! pure: grief -/
def FL (f : Int32) : Prop := f ≤ 0 ∧ ¬ f = 0
theorem FL_fI {k p : Nat} (hk : k < 7) (h0 : 0 < k) (hp : p < 270) : FL (fI k p) := fI_all k hk p hp h0
/-- who rhymes with whom, in an array -/
def RH (rh : Nat → Int32) (g : Nat → Nat) : Prop := ∀ w, w < 16 → g w < 16 ∧ g (g w) = w ∧ rh w = nI (g w)
def prt (g : Nat → Nat) (w x : Nat) : Nat := if x = w then w else if x = g w then g w else g x
def pr2 (g : Nat → Nat) (w v x : Nat) : Nat := if x = v then w else if x = w then v else prt (prt g w) v x
theorem prt_ok {g : Nat → Nat} (hg : ∀ x, x < 16 → g x < 16 ∧ g (g x) = x) {w : Nat} (hw : w < 16) : (∀ x, x < 16 → prt g w x < 16 ∧ prt g w (prt g w x) = x) ∧ prt g w w = w ∧ ∀ y, y < 16 → g y = y → prt g w y = y := by
  have h1 : ∀ y, y < 16 → g y = y → prt g w y = y := by
    intro y hy e
    unfold prt
    split
    · rename_i q; exact q.symm
    · split
      · rename_i q; exact q.symm
      · exact e
  have hgw := hg w hw
  have h2 : prt g w w = w := by unfold prt; rw [if_pos rfl]
  have h3 : prt g w (g w) = g w := by
    unfold prt
    split
    · rename_i q; exact q.symm
    · rw [if_pos rfl]
  refine ⟨fun x hx => ?_, h2, h1⟩
  by_cases e1 : x = w
  · subst e1; rw [h2]; exact ⟨hx, h2⟩
  by_cases e2 : x = g w
  · subst e2; rw [h3]; exact ⟨hx, h3⟩
  have e3 : prt g w x = g x := by unfold prt; rw [if_neg e1, if_neg e2]
  have hgx := hg x hx
  rw [e3]
  refine ⟨hgx.1, ?_⟩
  unfold prt
  rw [if_neg (fun q => e2 (by rw [← q]; exact hgx.2.symm)), if_neg (fun q => e1 (by rw [← hgx.2, q, hgw.2]))]
  exact hgx.2
theorem pr2_ok {g : Nat → Nat} (hg : ∀ x, x < 16 → g x < 16 ∧ g (g x) = x) {w v : Nat} (hw : w < 16) (hv : v < 16) : ∀ x, x < 16 → pr2 g w v x < 16 ∧ pr2 g w v (pr2 g w v x) = x := by
  obtain ⟨a1, a2, a3⟩ := prt_ok hg hw
  obtain ⟨b1, b2, b3⟩ := prt_ok a1 hv
  have c1 : prt (prt g w) v w = w := b3 w hw a2
  have hvv : pr2 g w v v = w := by unfold pr2; rw [if_pos rfl]
  have hww : pr2 g w v w = v := by
    unfold pr2
    by_cases e : w = v
    · rw [if_pos e]; exact e
    · rw [if_neg e, if_pos rfl]
  intro x hx
  by_cases e1 : x = v
  · subst e1; rw [hvv]; exact ⟨hw, hww⟩
  by_cases e2 : x = w
  · subst e2; rw [hww]; exact ⟨hv, hvv⟩
  have e3 : pr2 g w v x = prt (prt g w) v x := by unfold pr2; rw [if_neg e1, if_neg e2]
  obtain ⟨d1, d2⟩ := b1 x hx
  rw [e3]
  refine ⟨d1, ?_⟩
  unfold pr2
  rw [if_neg (fun q => e1 (by rw [← d2, q, b2])), if_neg (fun q => e2 (by rw [← d2, q, c1]))]
  exact d2
theorem RH_inv {rh : Nat → Int32} {g : Nat → Nat} (h : RH rh g) : ∀ x, x < 16 → g x < 16 ∧ g (g x) = x := fun x hx => ⟨(h x hx).1, (h x hx).2.1⟩
theorem RH_part {rh : Nat → Int32} {g : Nat → Nat} (h : RH rh g) {w : Nat} (hw : w < 16) : RH (upd (upd rh (g w) (nI (g w))) w (nI w)) (prt g w) := by
  intro x hx
  refine ⟨((prt_ok (RH_inv h) hw).1 x hx).1, ((prt_ok (RH_inv h) hw).1 x hx).2, ?_⟩
  unfold prt
  by_cases e1 : x = w
  · subst e1; rw [pk_us, if_pos rfl]
  · rw [pk_un e1, if_neg e1]
    by_cases e2 : x = g w
    · subst e2; rw [pk_us, if_pos rfl]
    · rw [pk_un e2, if_neg e2]; exact (h x hx).2.2
theorem f_parts12 {rh : Nat → Int32} {g : Nat → Nat} (h : RH rh g) {w : Nat} (hw : w < 16) : f_X12_parts rh (nI w) = some (upd (upd rh (g w) (nI (g w))) w (nI w)) := by
  unfold f_X12_parts
  have h1 := (h w hw).1
  rw [gI_n (by omega) (by omega), gI_n (by omega) (by omega), (h w hw).2.2, sI_n (by omega) (by omega), sI_n (by omega) (by omega)]
theorem f_part4 {rh : Nat → Int32} {g : Nat → Nat} (h : RH rh g) {w : Nat} (hw : w < 16) : f_X4_part rh (nI w) = some (upd (upd rh (g w) (nI (g w))) w (nI w)) := by
  unfold f_X4_part
  have h1 := (h w hw).1
  rw [f_of4 hw, bd1_s, (h w hw).2.2, and15 _ h1, and15 w hw, sI_n (by omega) (by omega), sI_n (by omega) (by omega)]
theorem RH_pair {rh : Nat → Int32} {g : Nat → Nat} (h : RH rh g) {w v : Nat} (hw : w < 16) (hv : v < 16) : RH (upd (upd (upd (upd (upd (upd rh (g w) (nI (g w))) w (nI w)) (prt g w v) (nI (prt g w v))) v (nI v)) w (nI v)) v (nI w)) (pr2 g w v) := by
  have h2 := RH_part (RH_part h hw) hv
  intro x hx
  refine ⟨(pr2_ok (RH_inv h) hw hv x hx).1, (pr2_ok (RH_inv h) hw hv x hx).2, ?_⟩
  unfold pr2
  by_cases e1 : x = v
  · subst e1; rw [pk_us, if_pos rfl]
  · rw [pk_un e1, if_neg e1]
    by_cases e2 : x = w
    · subst e2; rw [pk_us, if_pos rfl]
    · rw [pk_un e2, if_neg e2]; exact (h2 x hx).2.2
theorem f_pair4 {rh : Nat → Int32} {g : Nat → Nat} (h : RH rh g) {w v : Nat} (hw : w < 16) (hv : v < 16) : f_X4_pair rh (nI w) (nI v) = some (upd (upd (upd (upd (upd (upd rh (g w) (nI (g w))) w (nI w)) (prt g w v) (nI (prt g w v))) v (nI v)) w (nI v)) v (nI w)) := by
  unfold f_X4_pair
  rw [f_part4 h hw, bd1_s, f_part4 (RH_part h hw) hv, bd1_s, and15 w hw, and15 v hv, sI_n (by omega) (by omega), sI_n (by omega) (by omega)]
section GR
variable {bytes tape : Nat → Int32} {t : Nat → Nat} {n E : Nat}
theorem ch_is (h : TX bytes tape t n E) {p k : Nat} (hk : k < 256) (e : chN t E p = k) : chI t E p = nI k := by rw [chI_eq h hk]; exact e
theorem ch_not (h : TX bytes tape t n E) {p k : Nat} (hk : k < 256) (e : ¬ chN t E p = k) : ¬ chI t E p = nI k := by rw [chI_eq h hk]; exact e
theorem amt_sim (h : TX bytes tape t n E) {p : Nat} (hp : p ≤ 265) (fl nu : Int32) : (∃ f, FL f ∧ (∃ w q, f_X9_readNumber bytes (nI E) 0 (nI p) (nI n) 2 = some (w, f, q)) ∧ ∃ w q, f_X12_readsAmount tape fl (nI E) nu (nI p) = some (0, f, w, q)) ∨ ∃ q u, p < q ∧ q ≤ E ∧ u < 100 ∧ f_X9_readNumber bytes (nI E) 0 (nI p) (nI n) 2 = some (nI u, 0, nI q) ∧ f_X12_readsAmount tape fl (nI E) nu (nI p) = some (1, fl, nI u, nI q) := by
  obtain ⟨a1, a2⟩ := f_rdN9 h (mx := 2) (p := p) (by omega) (by omega) (by omega)
  obtain ⟨b1, b2⟩ := f_amt12 h (p := p) (by omega) fl nu
  obtain ⟨c1, c2⟩ := rnS_ok (t := t) (E := E) (k := 2) (p := p)
  have hE : E ≤ 260 := by have := h.1; have := h.2.1; omega
  cases e : rnS t E 2 p with
  | inl f =>
    obtain ⟨w, q, ha⟩ := a1 f e
    obtain ⟨j, r, hj, hr, rfl⟩ := c1 f e
    exact Or.inl ⟨_, FL_fI (by omega) (by omega) (by omega), ⟨w, nI q, ha⟩, b1 _ e⟩
  | inr x =>
    obtain ⟨q, u⟩ := x
    obtain ⟨d1, d2, d3, d4⟩ := c2 q u e
    exact Or.inr ⟨q, u, d3 (by omega), d1, d4, a2 q u e, b2 q u e⟩
theorem val_f {f p s : Int32} (hf : ¬ f = 0) : ∃ r q, f_X0_readValue bytes (nI E) f p (nI n) s = some (r, f, q) := by
  have one : ∀ a b : Nat, a < 256 → f_X0_readOneOf bytes (nI E) f p (nI n) (nI a) (nI b) = some (0, f, p) := by
    intro a b ha
    unfold f_X0_readOneOf
    rw [f_sign9f hf, bd1_s, f_within_eq, if_pos (Or.inl (m1_lt (by omega))), bd1_s, if_pos rfl, f_fail9f hf, bd1_s]
  unfold f_X0_readValue f_X0_readValue_b40
  by_cases h1 : s = 126
  · rw [if_pos h1, show (97 : Int32) = nI 97 from rfl, show (112 : Int32) = nI 112 from rfl, one 97 112 (by omega), bd3_s]; exact ⟨_, _, rfl⟩
  · rw [if_neg h1]
    by_cases h2 : s = 35
    · rw [if_pos h2, show (48 : Int32) = nI 48 from rfl, show (52 : Int32) = nI 52 from rfl, one 48 52 (by omega), bd3_s]; exact ⟨_, _, rfl⟩
    · rw [if_neg h2]
      obtain ⟨m, hm⟩ : ∃ m, FU = m + 1 := ⟨99999, rfl⟩
      unfold f_X9_readNumber
      rw [hm, f_X9_readNumber_b4, if_neg (by decide), f_sign9f hf, bd1_s, show f_X11_isDigit (-1) = some 0 by decide, bd1_s, if_pos rfl]
      unfold f_X9_readNumber_b55 f_X9_readNumber_b64
      rw [if_pos rfl, f_fail9f hf, bd1_s, bd3_s]
      exact ⟨_, _, rfl⟩
def gapN (now : Nat → Int32) (b s w v : Nat) : Nat → Int32 :=
  if s = 61 then upd now (32 + (16 * b + w)) (nI v) else if s = 43 then upd now (32 + (16 * b + w)) (bnd (now (32 + (16 * b + w)) + nI v)) else if s = 45 then upd now (32 + (16 * b + w)) (bnd (now (32 + (16 * b + w)) - nI v)) else if s = 33 then upd now (16 + b) (nI v) else if s = 35 then upd now (8 + b) (nI v) else now
def gapG (g : Nat → Nat) (s w v : Nat) : Nat → Nat := if s = 126 then pr2 g w v else g
def GOK (s w v : Nat) : Prop := w < 16 ∧ ((s = 61 ∨ s = 43 ∨ s = 45) ∧ v < 100 ∨ s = 126 ∧ v < 16 ∨ s = 33 ∧ v < 100 ∨ s = 35 ∧ v < 5)
/-- both read a line -/
def LSim (bytes tape : Nat → Int32) (n E p L b : Nat) (S V W now rh : Nat → Int32) (g : Nat → Nat) (fl nu : Int32) : Prop :=
  (∃ f, FL f ∧ (∃ S' V' W' l' q, f_X0_readLine S bytes V W (nI L) (nI E) 0 (nI p) (nI n) = some (S', V', W', l', f, q)) ∧ ∃ now' rh' l' nu' q, f_X12_readsLine now rh tape fl (nI E) (nI L) nu (nI p) (nI b) = some (0, now', rh', f, l', nu', q)) ∨
  ∃ p' s w v, p < p' ∧ p' ≤ E ∧ L < 20 ∧ GOK s w v ∧ f_X0_readLine S bytes V W (nI L) (nI E) 0 (nI p) (nI n) = some (upd S L (nI s), upd V L (nI v), upd W L (nI w), nI (L + 1), 0, nI p') ∧ ∃ rh' nu', f_X12_readsLine now rh tape fl (nI E) (nI L) nu (nI p) (nI b) = some (1, gapN now b s w v, rh', fl, nI (L + 1), nu', nI p') ∧ RH rh' (gapG g s w v)
theorem neg_sub (x : Int32) (v : Nat) : x + -nI v = x - nI v := (Int32.sub_eq_add_neg _ _).symm
theorem ffn : ¬ (false = true) := by decide
theorem line_sim (h : TX bytes tape t n E) {p L b : Nat} (hp : p ≤ E) (hL : L ≤ 20) (hb : b < 8) {S V W now rh : Nat → Int32} {g : Nat → Nat} (hg : RH rh g) (fl nu : Int32) : LSim bytes tape n E p L b S V W now rh g fl nu := by
  have hE : E ≤ 260 := by have := h.1; have := h.2.1; omega
  have hE' := h.2.1
  unfold LSim
  have hw12 : f_X12_readsLine now rh tape fl (nI E) (nI L) nu (nI p) (nI b) = if rg 97 112 (chN t E p) then f_X12_readsLine_b34 tape (nI E) (nI b) now rh fl (nI L) nu (nI p) (chI t E p) else if chN t E p = 33 ∨ chN t E p = 35 then f_X12_readsLine_b34 tape (nI E) (nI b) now rh fl (nI L) nu (nI p) (chI t E p) else some (0, now, rh, fI 1 p, nI L, nu, nI p) := by
    unfold f_X12_readsLine f_X12_wrongAt
    rw [f_here12 h (by omega), bd1_s, f_let12 h (by omega), bd1_s, ite_bI]
    cases rg 97 112 (chN t E p) with
    | true => rfl
    | false =>
      rw [if_neg ffn, if_neg ffn]
      by_cases c1 : chN t E p = 33
      · rw [if_pos (show chI t E p = (33 : Int32) from ch_is h (k := 33) (by omega) c1), if_pos (Or.inl c1)]
      · rw [if_neg (show ¬ chI t E p = (33 : Int32) from ch_not h (k := 33) (by omega) c1)]
        by_cases c2 : chN t E p = 35
        · rw [if_pos (show chI t E p = (35 : Int32) from ch_is h (k := 35) (by omega) c2), if_pos (Or.inr c2)]
        · rw [if_neg (show ¬ chI t E p = (35 : Int32) from ch_not h (k := 35) (by omega) c2), if_neg (by omega), bd2_s, zI_0]; rfl
  have hw0 : f_X0_readLine S bytes V W (nI L) (nI E) 0 (nI p) (nI n) = if rg 97 112 (chN t E p) then f_X0_readLine_b38 bytes (nI E) (nI n) S V W (nI L) 0 (nI p) (chI t E p) else if chN t E p = 33 ∨ chN t E p = 35 then f_X0_readLine_b38 bytes (nI E) (nI n) S V W (nI L) 0 (nI p) (chI t E p) else some (S, V, W, nI L, fI 1 p, nI p) := by
    unfold f_X0_readLine f_X0_readLine_b145
    rw [f_sign9 h (by omega), bd1_s, f_wsg11 h, bd1_s, ite_bI]
    cases rg 97 112 (chN t E p) with
    | true => rfl
    | false =>
      rw [if_neg ffn, if_neg ffn]
      by_cases c1 : chN t E p = 33
      · rw [if_pos (show chI t E p = (33 : Int32) from ch_is h (k := 33) (by omega) c1), if_pos (Or.inl c1)]
      · rw [if_neg (show ¬ chI t E p = (33 : Int32) from ch_not h (k := 33) (by omega) c1)]
        by_cases c2 : chN t E p = 35
        · rw [if_pos (show chI t E p = (35 : Int32) from ch_is h (k := 35) (by omega) c2), if_pos (Or.inr c2)]
        · rw [if_neg (show ¬ chI t E p = (35 : Int32) from ch_not h (k := 35) (by omega) c2), if_neg (by omega), show (1 : Int32) = nI 1 from rfl, f_fail9, bd1_s]
  rw [hw12, hw0]
  by_cases hok : rg 97 112 (chN t E p) = true ∨ chN t E p = 33 ∨ chN t E p = 35
  · have hite : ∀ {ρ : Type} (A B : ρ), (if rg 97 112 (chN t E p) = true then A else if chN t E p = 33 ∨ chN t E p = 35 then A else B) = A := by
      intro ρ A B
      by_cases q : rg 97 112 (chN t E p) = true
      · rw [if_pos q]
      · rw [if_neg q, if_pos (by rcases hok with q2 | q2; exact absurd q2 q; exact q2)]
    rw [hite, hite]
    have hpE : p < E := by
      rcases hok with q | q | q
      · exact (ch_some (k := 112) (rg_iff.mp q).2 (by omega)).1
      · exact (ch_some (t := t) (E := E) (p := p) (k := 33) (by omega) (by omega)).1
      · exact (ch_some (t := t) (E := E) (p := p) (k := 35) (by omega) (by omega)).1
    unfold f_X0_readLine_b38 f_X0_readLine_b145 f_X12_readsLine_b34 f_X12_wrongAt
    by_cases hL20 : L = 20
    · refine Or.inl ⟨fI 4 p, FL_fI (by omega) (by omega) (by omega), ?_, ?_⟩
      · rw [if_neg (by rw [show (20 : Int32) = nI 20 from rfl, nlt (by omega) (by omega)]; omega), show (4 : Int32) = nI 4 from rfl, f_fail9, bd1_s]
        exact ⟨_, _, _, _, _, rfl⟩
      · rw [if_pos (by rw [show (20 : Int32) = nI 20 from rfl, neq (by omega) (by omega)]; omega), bd2_s, zI_0]
        exact ⟨_, _, _, _, _, rfl⟩
    rw [if_pos (by rw [show (20 : Int32) = nI 20 from rfl, nlt (by omega) (by omega)]; omega), if_neg (by rw [show (20 : Int32) = nI 20 from rfl, neq (by omega) (by omega)]; omega), f_step9 hE hpE, bd1_s, f_wsg11 h, bd1_s, ite_bI, f_let12 h (by omega), bd1_s, ite_bI]
    have hLl : L < 20 := by omega
    cases hw : rg 97 112 (chN t E p) with
    | true =>
      obtain ⟨-, hce, -⟩ := ch_some (k := 112) (rg_iff.mp hw).2 (by omega)
      have hc := rg_iff.mp hw
      have hw16 : chN t E p - 97 < 16 := by omega
      rw [if_pos rfl, if_pos rfl]
      unfold f_X0_readLine_b88 f_X12_readsWordLine f_X12_wrongAt
      rw [sI_n (by omega) (by omega), f_wsg11 h, bd1_s, ite_bI, hw, if_pos rfl, f_here12 h (by omega), bd1_s, nI_1, f_here12 h (by omega), bd1_s]
      have e97 : chI t E p - 97 = nI (chN t E p - 97) := by rw [hce, show (97 : Int32) = nI 97 from rfl, pk_sub hc.1]
      rw [e97]
      by_cases hd : chN t E (p + 1) = 61 ∨ chN t E (p + 1) = 43 ∨ chN t E (p + 1) = 45 ∨ chN t E (p + 1) = 126
      · obtain ⟨hp1, hce1, -⟩ := ch_some (t := t) (E := E) (p := p + 1) (k := 126) (by omega) (by omega)
        have hdeed : f_X0_readDeed bytes (nI E) 0 (nI (p + 1)) (nI n) = some (nI (chN t E (p + 1)), 0, nI (p + 2)) := by
          unfold f_X0_readDeed f_X0_readDeed_b32 f_X0_readDeed_b50
          rw [f_sign9 h (by omega), bd1_s, f_step9 hE hp1, bd1_s, ← hce1]
          by_cases c1 : chN t E (p + 1) = 61
          · rw [if_pos (show chI t E (p + 1) = (61 : Int32) from ch_is h (k := 61) (by omega) c1)]
          rw [if_neg (show ¬ chI t E (p + 1) = (61 : Int32) from ch_not h (k := 61) (by omega) c1)]
          by_cases c2 : chN t E (p + 1) = 43
          · rw [if_pos (show chI t E (p + 1) = (43 : Int32) from ch_is h (k := 43) (by omega) c2)]
          rw [if_neg (show ¬ chI t E (p + 1) = (43 : Int32) from ch_not h (k := 43) (by omega) c2)]
          by_cases c3 : chN t E (p + 1) = 45
          · rw [if_pos (show chI t E (p + 1) = (45 : Int32) from ch_is h (k := 45) (by omega) c3)]
          rw [if_neg (show ¬ chI t E (p + 1) = (45 : Int32) from ch_not h (k := 45) (by omega) c3), if_pos (show chI t E (p + 1) = (126 : Int32) from ch_is h (k := 126) (by omega) (by omega))]
        have hrd : ∀ {ρ : Type} (A B : ρ), (if chI t E (p + 1) = (61 : Int32) then A else if chI t E (p + 1) = (43 : Int32) then A else if chI t E (p + 1) = (45 : Int32) then A else if chI t E (p + 1) = (126 : Int32) then A else B) = A := by
          intro ρ A B
          by_cases c1 : chN t E (p + 1) = 61
          · rw [if_pos (show chI t E (p + 1) = (61 : Int32) from ch_is h (k := 61) (by omega) c1)]
          rw [if_neg (show ¬ chI t E (p + 1) = (61 : Int32) from ch_not h (k := 61) (by omega) c1)]
          by_cases c2 : chN t E (p + 1) = 43
          · rw [if_pos (show chI t E (p + 1) = (43 : Int32) from ch_is h (k := 43) (by omega) c2)]
          rw [if_neg (show ¬ chI t E (p + 1) = (43 : Int32) from ch_not h (k := 43) (by omega) c2)]
          by_cases c3 : chN t E (p + 1) = 45
          · rw [if_pos (show chI t E (p + 1) = (45 : Int32) from ch_is h (k := 45) (by omega) c3)]
          rw [if_neg (show ¬ chI t E (p + 1) = (45 : Int32) from ch_not h (k := 45) (by omega) c3), if_pos (show chI t E (p + 1) = (126 : Int32) from ch_is h (k := 126) (by omega) (by omega))]
        rw [hrd, hdeed, bd3_s, hce1]
        unfold f_X0_readLine_b112 f_X0_readLine_b145 f_X12_readsWordLine_b72 f_X0_readValue f_X0_readValue_b40
        have e2 : nI (p + 1) + 1 = nI (p + 2) := nI_1 (p + 1)
        rw [sI_n (by omega) (by omega), gI_n (by omega) (by omega), pk_us, nI_1 L, e2]
        by_cases c4 : chN t E (p + 1) = 126
        · rw [if_pos (show nI (chN t E (p + 1)) = (126 : Int32) by rw [c4]; rfl), if_pos (show nI (chN t E (p + 1)) = (126 : Int32) by rw [c4]; rfl)]
          unfold f_X0_readOneOf f_X12_readsRhyme f_X12_wrongAt
          rw [f_sign9 h (by omega), bd1_s, show (97 : Int32) = nI 97 from rfl, show (112 : Int32) = nI 112 from rfl, f_within_ch h (by omega) (by omega), bd1_s, ite_bI, f_let12 h (by omega), bd1_s, ite_bI]
          cases hv : rg 97 112 (chN t E (p + 2)) with
          | false =>
            refine Or.inl ⟨fI 1 (p + 2), FL_fI (by omega) (by omega) (by omega), ?_, ?_⟩
            · rw [if_neg ffn, show (1 : Int32) = nI 1 from rfl, f_fail9, bd1_s, bd3_s, bd3_s, sI_n (by omega) (by omega)]
              exact ⟨_, _, _, _, _, rfl⟩
            · rw [if_neg ffn, bd2_s, zI_0, bd4_s, zI_0, bd6_s, zI_0]
              exact ⟨_, _, _, _, _, rfl⟩
          | true =>
            obtain ⟨hp2, hce2, -⟩ := ch_some (k := 112) (rg_iff.mp hv).2 (by omega)
            have hc2 := rg_iff.mp hv
            have hv16 : chN t E (p + 2) - 97 < 16 := by omega
            refine Or.inr ⟨p + 3, 126, chN t E p - 97, chN t E (p + 2) - 97, by omega, by omega, hLl, ⟨hw16, Or.inr (Or.inl ⟨rfl, hv16⟩)⟩, ?_, ?_⟩
            · rw [if_pos rfl, f_step9 hE hp2, bd1_s, hce2, pk_sub hc2.1, bd3_s, bd3_s, sI_n (by omega) (by omega), c4]
            · rw [if_pos rfl, f_here12 h (by omega), bd1_s, hce2, pk_sub hc2.1, f_parts12 hg hw16, bd1_s, f_parts12 (RH_part hg hw16) hv16, bd1_s, sI_n (by omega) (by omega), sI_n (by omega) (by omega), bd4_s, zI_1, bd6_s, zI_1, nI_1]
              exact ⟨_, _, rfl, RH_pair hg hw16 hv16⟩
        · rw [if_neg (show ¬ nI (chN t E (p + 1)) = (126 : Int32) by rw [show (126 : Int32) = nI 126 from rfl, neq (by omega) (by omega)]; exact c4), if_neg (show ¬ nI (chN t E (p + 1)) = (126 : Int32) by rw [show (126 : Int32) = nI 126 from rfl, neq (by omega) (by omega)]; exact c4), if_neg (show ¬ nI (chN t E (p + 1)) = (35 : Int32) by rw [show (35 : Int32) = nI 35 from rfl, neq (by omega) (by omega)]; omega)]
          rcases amt_sim h (p := p + 2) (by omega) fl nu with ⟨f, hf, ⟨w', q', h1⟩, w'', q'', h2⟩ | ⟨q, u, hq1, hq2, hu, h1, h2⟩
          · refine Or.inl ⟨f, hf, ?_, ?_⟩
            · rw [h1, bd3_s, bd3_s, sI_n (by omega) (by omega)]
              exact ⟨_, _, _, _, _, rfl⟩
            · rw [h2, bd4_s, if_pos rfl, bd6_s, zI_0]
              exact ⟨_, _, _, _, _, rfl⟩
          · have hidx : (32 : Int32) + 16 * nI b + nI (chN t E p - 97) = nI (32 + (16 * b + (chN t E p - 97))) := by
              rw [show (32 : Int32) = nI 32 from rfl, show (16 : Int32) = nI 16 from rfl, pk_mul, nI_add, nI_add, Nat.add_assoc]
            refine Or.inr ⟨q, chN t E (p + 1), chN t E p - 97, u, by omega, hq2, hLl, ⟨hw16, Or.inl ⟨by omega, hu⟩⟩, ?_, ?_⟩
            · rw [h1, bd3_s, bd3_s, sI_n (by omega) (by omega)]
            · rw [h2, bd4_s, if_neg one_ne]
              unfold f_X12_readsWordLine_b148 f_X12_readsWordLine_b152 gapN gapG
              rw [hidx, gI_n (by omega) (by omega), f_limit_eq, bd1_s, f_limit_eq, bd1_s, sI_n (by omega) (by omega), sI_n (by omega) (by omega), sI_n (by omega) (by omega), neg_sub, if_neg c4]
              by_cases c1 : chN t E (p + 1) = 61
              · rw [if_pos (show nI (chN t E (p + 1)) = (61 : Int32) by rw [c1]; rfl), if_pos c1, bd6_s, zI_1]
                exact ⟨_, _, rfl, hg⟩
              rw [if_neg (show ¬ nI (chN t E (p + 1)) = (61 : Int32) by rw [show (61 : Int32) = nI 61 from rfl, neq (by omega) (by omega)]; exact c1), if_neg c1]
              by_cases c2 : chN t E (p + 1) = 43
              · rw [if_pos (show nI (chN t E (p + 1)) = (43 : Int32) by rw [c2]; rfl), if_pos c2, bd6_s, zI_1]
                exact ⟨_, _, rfl, hg⟩
              rw [if_neg (show ¬ nI (chN t E (p + 1)) = (43 : Int32) by rw [show (43 : Int32) = nI 43 from rfl, neq (by omega) (by omega)]; exact c2), if_neg c2, if_pos (show chN t E (p + 1) = 45 by omega), bd6_s, zI_1]
              exact ⟨_, _, rfl, hg⟩
      · have hdeed : f_X0_readDeed bytes (nI E) 0 (nI (p + 1)) (nI n) = some (chI t E (p + 1), fI 1 (p + 1), nI (p + 1)) := by
          unfold f_X0_readDeed f_X0_readDeed_b50
          rw [f_sign9 h (by omega), bd1_s, if_neg (show ¬ chI t E (p + 1) = (61 : Int32) from ch_not h (k := 61) (by omega) (by omega)), if_neg (show ¬ chI t E (p + 1) = (43 : Int32) from ch_not h (k := 43) (by omega) (by omega)), if_neg (show ¬ chI t E (p + 1) = (45 : Int32) from ch_not h (k := 45) (by omega) (by omega)), if_neg (show ¬ chI t E (p + 1) = (126 : Int32) from ch_not h (k := 126) (by omega) (by omega)), show (1 : Int32) = nI 1 from rfl, f_fail9, bd1_s]
        have hfl : FL (fI 1 (p + 1)) := FL_fI (by omega) (by omega) (by omega)
        refine Or.inl ⟨fI 1 (p + 1), hfl, ?_, ?_⟩
        · rw [hdeed, bd3_s]
          unfold f_X0_readLine_b112 f_X0_readLine_b145
          rw [sI_n (by omega) (by omega), gI_n (by omega) (by omega), pk_us]
          obtain ⟨r, q, hrq⟩ := val_f (bytes := bytes) (n := n) (E := E) (p := nI (p + 1)) (s := chI t E (p + 1)) hfl.2
          rw [hrq, bd3_s, sI_n (by omega) (by omega)]
          exact ⟨_, _, _, _, _, rfl⟩
        · rw [if_neg (show ¬ chI t E (p + 1) = (61 : Int32) from ch_not h (k := 61) (by omega) (by omega)), if_neg (show ¬ chI t E (p + 1) = (43 : Int32) from ch_not h (k := 43) (by omega) (by omega)), if_neg (show ¬ chI t E (p + 1) = (45 : Int32) from ch_not h (k := 45) (by omega) (by omega)), if_neg (show ¬ chI t E (p + 1) = (126 : Int32) from ch_not h (k := 126) (by omega) (by omega)), bd2_s, zI_0, bd6_s, zI_0]
          exact ⟨_, _, _, _, _, rfl⟩
    | false =>
      rw [if_neg ffn, if_neg ffn]
      unfold f_X0_readLine_b88
      rw [sI_n (by omega) (by omega), f_wsg11 h, bd1_s, ite_bI, hw, if_neg ffn]
      unfold f_X0_readLine_b112 f_X0_readLine_b145 f_X0_readValue f_X0_readValue_b40
      rw [sI_n (by omega) (by omega), gI_n (by omega) (by omega), pk_us, nI_1 L, nI_1 p]
      have h3335 : chN t E p = 33 ∨ chN t E p = 35 := by rcases hok with q | q; rw [hw] at q; cases q; exact q
      rw [if_neg (show ¬ chI t E p = (126 : Int32) from ch_not h (k := 126) (by omega) (by omega))]
      by_cases c5 : chN t E p = 35
      · rw [if_pos (show chI t E p = (35 : Int32) from ch_is h (k := 35) (by omega) c5), if_pos (show chI t E p = (35 : Int32) from ch_is h (k := 35) (by omega) c5)]
        unfold f_X0_readOneOf f_X12_readsKind f_X12_wrongAt
        rw [f_sign9 h (by omega), bd1_s, show (48 : Int32) = nI 48 from rfl, show (52 : Int32) = nI 52 from rfl, f_within_ch h (by omega) (by omega), bd1_s, ite_bI, f_here12 h (by omega), bd1_s, f_in_ch h (by omega) (by omega), bd1_s, ite_bI]
        cases hv : rg 48 52 (chN t E (p + 1)) with
        | false =>
          refine Or.inl ⟨fI 1 (p + 1), FL_fI (by omega) (by omega) (by omega), ?_, ?_⟩
          · rw [if_neg ffn, show (1 : Int32) = nI 1 from rfl, f_fail9, bd1_s, bd3_s, bd3_s, sI_n (by omega) (by omega)]
            exact ⟨_, _, _, _, _, rfl⟩
          · rw [if_neg ffn, bd2_s, zI_0, bd4_s, zI_0]
            exact ⟨_, _, _, _, _, rfl⟩
        | true =>
          obtain ⟨hp2, hce2, -⟩ := ch_some (k := 52) (rg_iff.mp hv).2 (by omega)
          have hc2 := rg_iff.mp hv
          refine Or.inr ⟨p + 2, 35, 0, chN t E (p + 1) - 48, by omega, by omega, hLl, ⟨by omega, Or.inr (Or.inr (Or.inr ⟨rfl, by omega⟩))⟩, ?_, ?_⟩
          · rw [if_pos rfl, f_step9 hE hp2, bd1_s, hce2, pk_sub hc2.1, bd3_s, bd3_s, sI_n (by omega) (by omega), show chI t E p = nI 35 from ch_is h (k := 35) (by omega) c5]; rfl
          · rw [if_pos rfl, bd1_s, hce2, pk_sub hc2.1, show (8 : Int32) = nI 8 from rfl, nI_add, sI_n (by omega) (by omega), bd4_s, zI_1, nI_1]
            exact ⟨_, _, rfl, hg⟩
      · rw [if_neg (show ¬ chI t E p = (35 : Int32) from ch_not h (k := 35) (by omega) c5), if_neg (show ¬ chI t E p = (35 : Int32) from ch_not h (k := 35) (by omega) c5)]
        have c33 : chN t E p = 33 := by omega
        rcases amt_sim h (p := p + 1) (by omega) fl nu with ⟨f, hf, ⟨w', q', h1⟩, w'', q'', h2⟩ | ⟨q, u, hq1, hq2, hu, h1, h2⟩
        · refine Or.inl ⟨f, hf, ?_, ?_⟩
          · rw [h1, bd3_s, bd3_s, sI_n (by omega) (by omega)]
            exact ⟨_, _, _, _, _, rfl⟩
          · rw [h2, bd4_s, if_pos rfl]
            exact ⟨_, _, _, _, _, rfl⟩
        · refine Or.inr ⟨q, 33, 0, u, by omega, hq2, hLl, ⟨by omega, Or.inr (Or.inr (Or.inl ⟨rfl, hu⟩))⟩, ?_, ?_⟩
          · rw [h1, bd3_s, bd3_s, sI_n (by omega) (by omega), show chI t E p = nI 33 from ch_is h (k := 33) (by omega) c33]; rfl
          · rw [h2, bd4_s, if_neg one_ne, show (16 : Int32) = nI 16 from rfl, nI_add, sI_n (by omega) (by omega)]
            exact ⟨_, _, rfl, hg⟩
  · have q1 : rg 97 112 (chN t E p) = false := by
      cases e : rg 97 112 (chN t E p)
      · rfl
      · exact absurd (Or.inl e) hok
    rw [q1, if_neg ffn, if_neg ffn, if_neg (fun q => hok (Or.inr q)), if_neg (fun q => hok (Or.inr q))]
    exact Or.inl ⟨fI 1 p, FL_fI (by omega) (by omega) (by omega), ⟨_, _, _, _, _, rfl⟩, ⟨_, _, _, _, _, rfl⟩⟩
end GR
