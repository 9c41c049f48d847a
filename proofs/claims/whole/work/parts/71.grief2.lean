/-! pure: grief, the lines -/
theorem bnd_rg (x : Int32) : Rg (bnd x) 99 := by
  unfold bnd mxI mnI
  by_cases h1 : (99 : Int32) < x
  · rw [if_pos h1]; exact ⟨99, by omega, by decide⟩
  · rw [if_neg h1]
    by_cases h2 : (0 : Int32) < x
    · rw [if_pos h2]
      obtain ⟨k, hk, e⟩ := rg_of (n := 99) (a := x) (by omega) (fun q => (fa_of_lt h2).2.2.1 q) h1
      exact ⟨k, hk, e⟩
    · rw [if_neg h2]; exact ⟨0, by omega, rfl⟩
section RS
variable {dread ink kind salt tries : Nat → Int32} {day nerve pictures told written x : Int32} {now : Nat → Int32}
theorem RShelf.uDread (h : RShelf dread ink kind salt tries day nerve pictures told written x now) {v : Int32} (hv : Rg v 99) {c : Nat} (hc : c < 128) : RShelf (upd dread c v) ink kind salt tries day nerve pictures told written x (upd now (32 + c) v) := by
  obtain ⟨⟨T, hT, e, hn⟩, h2, h3, ⟨h4, h4r⟩, ⟨h5, h5r⟩, ⟨h6, h6r⟩, ⟨h7, h7r⟩, h8, h8r⟩ := h
  refine ⟨⟨T, hT, e, fun b hb => ?_⟩, fun b hb => ?_, fun j hj => ?_, ⟨?_, h4r⟩, ⟨?_, h5r⟩, ⟨?_, h6r⟩, ⟨?_, h7r⟩, ?_, h8r⟩
  · rw [pk_un (by omega)]; exact hn b hb
  · rw [pk_un (by omega), pk_un (by omega), pk_un (by omega)]; exact h2 b hb
  · obtain ⟨g1, g2, g3, g4⟩ := h3 j hj
    rw [pk_un (j := 160 + j) (by omega)]
    by_cases e : j = c
    · subst e; rw [pk_us, pk_us]; exact ⟨rfl, hv, g3, g4⟩
    · rw [pk_un e, pk_un (by omega)]; exact ⟨g1, g2, g3, g4⟩
  · rw [pk_un (by omega)]; exact h4
  · rw [pk_un (by omega)]; exact h5
  · rw [pk_un (by omega)]; exact h6
  · rw [pk_un (by omega)]; exact h7
  · rw [pk_un (by omega)]; exact h8
theorem RShelf.uTries (h : RShelf dread ink kind salt tries day nerve pictures told written x now) {v : Int32} (hv : Rg v 8) {c : Nat} (hc : c < 128) : RShelf dread ink kind salt (upd tries c v) day nerve pictures told written x (upd now (160 + c) v) := by
  obtain ⟨⟨T, hT, e, hn⟩, h2, h3, ⟨h4, h4r⟩, ⟨h5, h5r⟩, ⟨h6, h6r⟩, ⟨h7, h7r⟩, h8, h8r⟩ := h
  refine ⟨⟨T, hT, e, fun b hb => ?_⟩, fun b hb => ?_, fun j hj => ?_, ⟨?_, h4r⟩, ⟨?_, h5r⟩, ⟨?_, h6r⟩, ⟨?_, h7r⟩, ?_, h8r⟩
  · rw [pk_un (by omega)]; exact hn b hb
  · rw [pk_un (by omega), pk_un (by omega), pk_un (by omega)]; exact h2 b hb
  · obtain ⟨g1, g2, g3, g4⟩ := h3 j hj
    rw [pk_un (j := 32 + j) (by omega)]
    by_cases e : j = c
    · subst e; rw [pk_us, pk_us]; exact ⟨g1, g2, rfl, hv⟩
    · rw [pk_un e, pk_un (by omega)]; exact ⟨g1, g2, g3, g4⟩
  · rw [pk_un (by omega)]; exact h4
  · rw [pk_un (by omega)]; exact h5
  · rw [pk_un (by omega)]; exact h6
  · rw [pk_un (by omega)]; exact h7
  · rw [pk_un (by omega)]; exact h8
theorem RShelf.uSalt (h : RShelf dread ink kind salt tries day nerve pictures told written x now) {v : Int32} (hv : Rg v 99) {c : Nat} (hc : c < 8) : RShelf dread ink kind (upd salt c v) tries day nerve pictures told written x (upd now (16 + c) v) := by
  obtain ⟨⟨T, hT, e, hn⟩, h2, h3, ⟨h4, h4r⟩, ⟨h5, h5r⟩, ⟨h6, h6r⟩, ⟨h7, h7r⟩, h8, h8r⟩ := h
  refine ⟨⟨T, hT, e, fun b hb => ?_⟩, fun b hb => ?_, fun j hj => ?_, ⟨?_, h4r⟩, ⟨?_, h5r⟩, ⟨?_, h6r⟩, ⟨?_, h7r⟩, ?_, h8r⟩
  · rw [pk_un (by omega)]; exact hn b hb
  · rw [pk_un (j := 8 + b) (by omega), pk_un (j := 24 + b) (by omega)]
    obtain ⟨g1, g2, g3, g4, g5, g6⟩ := h2 b hb
    by_cases e : b = c
    · subst e; rw [pk_us, pk_us]; exact ⟨g1, g2, rfl, hv, g5, g6⟩
    · rw [pk_un e, pk_un (by omega)]; exact ⟨g1, g2, g3, g4, g5, g6⟩
  · rw [pk_un (by omega), pk_un (by omega)]; exact h3 j hj
  · rw [pk_un (by omega)]; exact h4
  · rw [pk_un (by omega)]; exact h5
  · rw [pk_un (by omega)]; exact h6
  · rw [pk_un (by omega)]; exact h7
  · rw [pk_un (by omega)]; exact h8
theorem RShelf.uKind (h : RShelf dread ink kind salt tries day nerve pictures told written x now) {v : Int32} (hv : Rg v 4) {c : Nat} (hc : c < 8) : RShelf dread ink (upd kind c v) salt tries day nerve pictures told written x (upd now (8 + c) v) := by
  obtain ⟨⟨T, hT, e, hn⟩, h2, h3, ⟨h4, h4r⟩, ⟨h5, h5r⟩, ⟨h6, h6r⟩, ⟨h7, h7r⟩, h8, h8r⟩ := h
  refine ⟨⟨T, hT, e, fun b hb => ?_⟩, fun b hb => ?_, fun j hj => ?_, ⟨?_, h4r⟩, ⟨?_, h5r⟩, ⟨?_, h6r⟩, ⟨?_, h7r⟩, ?_, h8r⟩
  · rw [pk_un (by omega)]; exact hn b hb
  · rw [pk_un (j := 16 + b) (by omega), pk_un (j := 24 + b) (by omega)]
    obtain ⟨g1, g2, g3, g4, g5, g6⟩ := h2 b hb
    by_cases e : b = c
    · subst e; rw [pk_us, pk_us]; exact ⟨rfl, hv, g3, g4, g5, g6⟩
    · rw [pk_un e, pk_un (by omega)]; exact ⟨g1, g2, g3, g4, g5, g6⟩
  · rw [pk_un (by omega), pk_un (by omega)]; exact h3 j hj
  · rw [pk_un (by omega)]; exact h4
  · rw [pk_un (by omega)]; exact h5
  · rw [pk_un (by omega)]; exact h6
  · rw [pk_un (by omega)]; exact h7
  · rw [pk_un (by omega)]; exact h8
end RS
/-- lines from L on, d of them, applied -/
def fNr (S V W : Nat → Int32) (b : Nat) : Nat → Nat → (Nat → Int32) → Nat → Int32
  | _, 0, now => now
  | L, d + 1, now => fNr S V W b (L + 1) d (gapN now b (S L).toNatClampNeg (W L).toNatClampNeg (V L).toNatClampNeg)
def fGr (S V W : Nat → Int32) : Nat → Nat → (Nat → Nat) → Nat → Nat
  | _, 0, g => g
  | L, d + 1, g => fGr S V W (L + 1) d (gapG g (S L).toNatClampNeg (W L).toNatClampNeg (V L).toNatClampNeg)
def LV (S V W : Nat → Int32) (k : Nat) : Prop := ∃ s w v, GOK s w v ∧ S k = nI s ∧ V k = nI v ∧ W k = nI w
theorem b15_f {bytes S V W : Nat → Int32} {n l e f q l2 : Int32} {m : Nat} (hf : ¬ f = 0) : f_X0_read_b15 bytes n (m + 1) S V W l e f q l2 = some (f, S, V, W, l, e, f, q) := by
  rw [f_X0_read_b15]
  unfold f_X0_read_b75
  split
  · rfl
  · rw [f_failed1 hf, bd1_s, if_neg one_ne]
section GL
variable {bytes tape : Nat → Int32} {t : Nat → Nat} {n E : Nat}
theorem read_sim (h : TX bytes tape t n E) {b : Nat} (hb : b < 8) (aside was : Nat → Int32) (cm sm tp : Int32) : ∀ j L p m n' (S V W now rh : Nat → Int32) (g : Nat → Nat) (fl nu : Int32), L + j = 20 → p ≤ E → j + 2 < m → j + 2 < n' → RH rh g →
    (∃ f, FL f ∧ (∃ S' V' W' l' q, f_X0_read_b15 bytes (nI n) m S V W (nI L) (nI E) 0 (nI p) (nI L) = some (f, S', V', W', l', nI E, f, q)) ∧ ∃ now' rh' l' nu' q, bd7 (f_X12_readsLine now rh tape fl (nI E) (nI L) nu (nI p) (nI b)) (fun r4 w5 w6 w7 w8 w9 w10 => f_X12_grief_b81 tape (nI b) n' aside w5 w6 was cm w7 (nI E) w8 w9 w10 sm tp r4) = f_X12_grief_b122 aside now' rh' was cm f (nI E) l' nu' q sm tp 0) ∨
    ∃ d S' V' W' q, 1 ≤ d ∧ L + d ≤ 20 ∧ f_X0_read_b15 bytes (nI n) m S V W (nI L) (nI E) 0 (nI p) (nI L) = some (nI (L + d), S', V', W', nI (L + d), nI E, 0, q) ∧ (∀ k, k < L → S' k = S k ∧ V' k = V k ∧ W' k = W k) ∧ (∀ k, L ≤ k → k < L + d → LV S' V' W' k) ∧ ∃ rh' nu' q', bd7 (f_X12_readsLine now rh tape fl (nI E) (nI L) nu (nI p) (nI b)) (fun r4 w5 w6 w7 w8 w9 w10 => f_X12_grief_b81 tape (nI b) n' aside w5 w6 was cm w7 (nI E) w8 w9 w10 sm tp r4) = f_X12_grief_b122 aside (fNr S' V' W' b L d now) rh' was cm fl (nI E) (nI (L + d)) nu' q' sm tp 1 ∧ RH rh' (fGr S' V' W' L d g) := by
  have hE : E ≤ 260 := by have := h.1; have := h.2.1; omega
  intro j
  induction j with
  | zero =>
    intro L p m n' S V W now rh g fl nu hL hp hm hn' hg
    obtain ⟨m, rfl⟩ : ∃ m', m = m' + 2 := ⟨m - 2, by omega⟩
    obtain ⟨n', rfl⟩ : ∃ m', n' = m' + 2 := ⟨n' - 2, by omega⟩
    rcases line_sim h (p := p) (L := L) (b := b) hp (by omega) hb (S := S) (V := V) (W := W) (now := now) (rh := rh) (g := g) hg fl nu with ⟨f, hf, ⟨S', V', W', l', q, hc⟩, now', rh', l'', nu', q', hr⟩ | ⟨p', s, w, v, h1, h2, h3, -⟩
    · refine Or.inl ⟨f, hf, ?_, ?_⟩
      · rw [f_X0_read_b15, if_neg (by rw [show (20 : Int32) = nI 20 from rfl, nlt (by omega) (by omega)]; omega), f_failed0, bd1_s, if_pos rfl, hc, bd6_s, f_failed1 hf.2, bd1_s, if_neg one_ne]
        unfold f_X0_read_b60
        rw [f_take9f hf.2 (by decide), bd2_s, b15_f hf.2]
        exact ⟨_, _, _, _, _, rfl⟩
      · rw [hr, bd7_s, f_X12_grief_b81, if_pos rfl]
        exact ⟨_, _, _, _, _, rfl⟩
    · omega
  | succ j ih =>
    intro L p m n' S V W now rh g fl nu hL hp hm hn' hg
    obtain ⟨m, rfl⟩ : ∃ m', m = m' + 2 := ⟨m - 2, by omega⟩
    obtain ⟨n', rfl⟩ : ∃ m', n' = m' + 2 := ⟨n' - 2, by omega⟩
    rcases line_sim h (p := p) (L := L) (b := b) hp (by omega) hb (S := S) (V := V) (W := W) (now := now) (rh := rh) (g := g) hg fl nu with ⟨f, hf, ⟨S', V', W', l', q, hc⟩, now', rh', l'', nu', q', hr⟩ | ⟨p', s, w, v, h1, h2, h3, hok, hc, rh', nu', hr, hg'⟩
    · refine Or.inl ⟨f, hf, ?_, ?_⟩
      · rw [f_X0_read_b15, if_neg (by rw [show (20 : Int32) = nI 20 from rfl, nlt (by omega) (by omega)]; omega), f_failed0, bd1_s, if_pos rfl, hc, bd6_s, f_failed1 hf.2, bd1_s, if_neg one_ne]
        unfold f_X0_read_b60
        rw [f_take9f hf.2 (by decide), bd2_s, b15_f hf.2]
        exact ⟨_, _, _, _, _, rfl⟩
      · rw [hr, bd7_s, f_X12_grief_b81, if_pos rfl]
        exact ⟨_, _, _, _, _, rfl⟩
    · have hs31 : s < 200 ∧ v < 200 ∧ w < 16 := by obtain ⟨k1, k2⟩ := hok; omega
      have hstep : f_X0_read_b15 bytes (nI n) (m + 2) S V W (nI L) (nI E) 0 (nI p) (nI L) = if decide (E ≤ p') then some (nI (L + 1), upd S L (nI s), upd V L (nI v), upd W L (nI w), nI (L + 1), nI E, 0, nI p') else f_X0_read_b60 bytes (nI n) (f_X0_read_b15 bytes (nI n) (m + 1)) (upd S L (nI s)) (upd V L (nI v)) (upd W L (nI w)) (nI (L + 1)) (nI E) 0 (nI p') (nI L) := by
        rw [f_X0_read_b15, if_neg (by rw [show (20 : Int32) = nI 20 from rfl, nlt (by omega) (by omega)]; omega), f_failed0, bd1_s, if_pos rfl, hc, bd6_s, f_failed0, bd1_s, if_pos rfl, f_atEnd9 hE (by omega), bd1_s, ite_bI]
      rw [hstep, hr, bd7_s, f_X12_grief_b81, if_neg one_ne, ite_nle (by omega) (by omega)]
      have hone : ∀ S' V' W' : Nat → Int32, S' L = nI s → V' L = nI v → W' L = nI w → fNr S' V' W' b L 1 now = gapN now b s w v ∧ fGr S' V' W' L 1 g = gapG g s w v := by
        intro S' V' W' e1 e2 e3
        constructor
        · rw [fNr, fNr, e1, e2, e3, nI_clamp (by omega), nI_clamp (by omega), nI_clamp (by omega)]
        · rw [fGr, fGr, e1, e2, e3, nI_clamp (by omega), nI_clamp (by omega), nI_clamp (by omega)]
      by_cases he : E ≤ p'
      · rw [decide_eq_true he, if_pos rfl, if_pos he]
        obtain ⟨o1, o2⟩ := hone (upd S L (nI s)) (upd V L (nI v)) (upd W L (nI w)) pk_us pk_us pk_us
        refine Or.inr ⟨1, upd S L (nI s), upd V L (nI v), upd W L (nI w), nI p', by omega, by omega, rfl, fun k hk => ⟨pk_un (by omega), pk_un (by omega), pk_un (by omega)⟩, fun k hk1 hk2 => ?_, rh', nu', nI p', ?_, ?_⟩
        · have e : k = L := by omega
          subst e
          exact ⟨s, w, v, hok, pk_us, pk_us, pk_us⟩
        · rw [o1]
        · rw [o2]; exact hg'
      · rw [decide_eq_false he, if_neg ffn, if_neg he]
        unfold f_X0_read_b60 f_X12_grief_b117 f_X12_grief_b118
        rw [show (59 : Int32) = nI 59 from rfl, f_take9 h (by omega) (by omega), f_takes12 h (by omega) (by omega)]
        by_cases hs : chN t E p' = 59
        · rw [if_pos hs, if_pos hs, bd2_s, bd3_s, if_neg one_ne, nI_1]
          have hpE := (ch_some (t := t) (E := E) (p := p') (k := 59) (by omega) (by omega)).1
          have hX : ∀ (K : (Nat → Int32) → (Nat → Int32) → Int32 → Int32 → Int32 → Int32 → Int32 → Option (Int32 × (Nat → Int32) × (Nat → Int32) × (Nat → Int32) × (Nat → Int32) × Int32 × Int32 × Int32 × Int32 × Int32 × Int32 × Int32 × Int32)), bd7 (f_X12_readsLine (gapN now b s w v) rh' tape fl (nI E) (nI (L + 1)) nu' (nI (p' + 1)) (nI b)) (fun r4 w5 w6 w7 w8 w9 w10 => if r4 = 0 then K w5 w6 w7 w8 w9 w10 0 else K w5 w6 w7 w8 w9 w10 1) = bd7 (f_X12_readsLine (gapN now b s w v) rh' tape fl (nI E) (nI (L + 1)) nu' (nI (p' + 1)) (nI b)) (fun r4 w5 w6 w7 w8 w9 w10 => K w5 w6 w7 w8 w9 w10 r4) := by
            intro K
            rcases line_sim h (p := p' + 1) (L := L + 1) (b := b) (by omega) (by omega) hb (S := S) (V := V) (W := W) (now := gapN now b s w v) (rh := rh') (g := gapG g s w v) hg' fl nu' with ⟨f, hf, -, a1, a2, a3, a4, a5, ha⟩ | ⟨q1, q2, q3, q4, -, -, -, -, -, a1, a2, ha, -⟩
            · rw [ha, bd7_s, bd7_s, if_pos rfl]
            · rw [ha, bd7_s, bd7_s, if_neg one_ne]
          rw [hX (fun w5 w6 w7 w8 w9 w10 r => f_X12_grief_b81 tape (nI b) (n' + 1) aside w5 w6 was cm w7 (nI E) w8 w9 w10 sm tp r)]
          rcases ih (L + 1) (p' + 1) (m + 1) (n' + 1) (upd S L (nI s)) (upd V L (nI v)) (upd W L (nI w)) (gapN now b s w v) rh' (gapG g s w v) fl nu' (by omega) (by omega) (by omega) (by omega) hg' with ⟨f, hf, hcc, hrr⟩ | ⟨d, S', V', W', q, k1, k2, k3, k4, k5, rh'', nu'', q'', k6, k7⟩
          · exact Or.inl ⟨f, hf, hcc, hrr⟩
          · obtain ⟨e1, e2, e3⟩ := k4 L (by omega)
            rw [pk_us] at e1 e2 e3
            refine Or.inr ⟨d + 1, S', V', W', q, by omega, by omega, ?_, fun k hk => ?_, fun k hk1 hk2 => ?_, rh'', nu'', q'', ?_, ?_⟩
            · rw [k3, show L + 1 + d = L + (d + 1) by omega]
            · obtain ⟨f1, f2, f3⟩ := k4 k (by omega)
              rw [pk_un (by omega)] at f1 f2 f3
              exact ⟨f1, f2, f3⟩
            · by_cases e : k = L
              · subst e; exact ⟨s, w, v, hok, e1, e2, e3⟩
              · exact k5 k (by omega) (by omega)
            · rw [k6, fNr, e1, e2, e3, nI_clamp (by omega), nI_clamp (by omega), nI_clamp (by omega), show L + 1 + d = L + (d + 1) by omega]
            · rw [fGr, e1, e2, e3, nI_clamp (by omega), nI_clamp (by omega), nI_clamp (by omega)]
              exact k7
        · rw [if_neg hs, if_neg hs, bd2_s, bd3_s, if_pos rfl]
          have hfl : FL (fI 1 p') := FL_fI (by omega) (by omega) (by omega)
          refine Or.inl ⟨fI 1 p', hfl, ?_, ?_⟩
          · rw [b15_f hfl.2]
            exact ⟨_, _, _, _, _, rfl⟩
          · rw [f_X12_grief_b81, if_pos rfl]
            exact ⟨_, _, _, _, _, rfl⟩
end GL
section BF
variable {ink tries : Nat → Int32} {day nerve pictures told written x : Int32}
theorem bef_sim {S V W : Nat → Int32} {b : Nat} (hb : b < 8) : ∀ d L m (dread kind salt other now : Nat → Int32) (g : Nat → Nat), (∀ k, L ≤ k → k < L + d → LV S V W k) → L + d ≤ 20 → d < m → RShelf dread ink kind salt tries day nerve pictures told written x now → RH other g →
    ∃ dread' kind' salt' other', f_X0_befall_b3 S V W (nI (L + d)) (nI b) m dread kind salt other (nI L) = some (dread', kind', salt', other') ∧ RShelf dread' ink kind' salt' tries day nerve pictures told written x (fNr S V W b L d now) ∧ RH other' (fGr S V W L d g) := by
  intro d
  induction d with
  | zero =>
    intro L m dread kind salt other now g _ hL hm hS hg
    obtain ⟨m, rfl⟩ : ∃ m', m = m' + 1 := ⟨m - 1, by omega⟩
    refine ⟨dread, kind, salt, other, ?_, hS, hg⟩
    rw [f_X0_befall_b3, if_pos (by rw [nle (by omega) (by omega)]; omega)]; rfl
  | succ d ih =>
    intro L m dread kind salt other now g hl hL hm hS hg
    obtain ⟨m, rfl⟩ : ∃ m', m = m' + 1 := ⟨m - 1, by omega⟩
    obtain ⟨s, w, v, hok, e1, e2, e3⟩ := hl L (by omega) (by omega)
    have hs31 : s < 200 ∧ v < 200 ∧ w < 16 := by obtain ⟨k1, k2⟩ := hok; omega
    obtain ⟨-, hkd⟩ := hok
    have hd3 := hS.2.2.1
    rw [f_X0_befall_b3, if_neg (by rw [nle (by omega) (by omega)]; omega), if_neg (by rw [show (20 : Int32) = nI 20 from rfl, nle (by omega) (by omega)]; omega), gI_n (by omega) (by omega), gI_n (by omega) (by omega), gI_n (by omega) (by omega), e1, e2, e3, fNr, fGr, e1, e2, e3, nI_clamp (by omega), nI_clamp (by omega), nI_clamp (by omega)]
    unfold f_X0_befall_b176
    have ih2 := fun dread kind salt other now g hS hg => ih (L + 1) m dread kind salt other now g (fun k k1 k2 => hl k (by omega) (by omega)) (by omega) (by omega) hS hg
    rw [show L + 1 + d = L + (d + 1) by omega] at ih2
    rw [nI_1]
    have hne : ∀ c : Nat, c < 200 → (nI s = nI c) = (s = c) := fun c hc => neq (by omega) (by omega)
    have hdr : dread (16 * b + w) = now (32 + (16 * b + w)) := (hd3 (16 * b + w) (by omega)).1
    by_cases c1 : s = 33
    · rw [if_pos (show nI s = (33 : Int32) by rw [c1]; rfl)]
      unfold f_X8_setSalt gapN gapG
      rw [and7 b hb, sI_n (by omega) (by omega), bd1_s, if_neg (by omega), if_neg (by omega), if_neg (by omega), if_pos c1, if_neg (by omega)]
      exact ih2 _ _ _ _ _ _ (hS.uSalt ⟨v, by omega, rfl⟩ hb) hg
    rw [if_neg (show ¬ nI s = (33 : Int32) from by rw [show (33 : Int32) = nI 33 from rfl, hne 33 (by omega)]; exact c1)]
    by_cases c2 : s = 43
    · rw [if_pos (show nI s = (43 : Int32) by rw [c2]; rfl), f_dread8 hb (by omega), bd1_s, f_setDread8 hb (by omega), bd1_s, hdr]
      unfold gapN gapG
      rw [if_neg (by omega), if_pos c2, if_neg (by omega)]
      exact ih2 _ _ _ _ _ _ (hS.uDread (bnd_rg _) (by omega)) hg
    rw [if_neg (show ¬ nI s = (43 : Int32) from by rw [show (43 : Int32) = nI 43 from rfl, hne 43 (by omega)]; exact c2)]
    by_cases c3 : s = 45
    · rw [if_pos (show nI s = (45 : Int32) by rw [c3]; rfl), f_dread8 hb (by omega), bd1_s, f_setDread8 hb (by omega), bd1_s, hdr]
      unfold gapN gapG
      rw [if_neg (by omega), if_neg c2, if_pos c3, if_neg (by omega)]
      exact ih2 _ _ _ _ _ _ (hS.uDread (bnd_rg _) (by omega)) hg
    rw [if_neg (show ¬ nI s = (45 : Int32) from by rw [show (45 : Int32) = nI 45 from rfl, hne 45 (by omega)]; exact c3)]
    by_cases c4 : s = 61
    · rw [if_pos (show nI s = (61 : Int32) by rw [c4]; rfl), f_setDread8 hb (by omega), bd1_s, bnd_in v (by omega)]
      unfold gapN gapG
      rw [if_pos c4, if_neg (by omega)]
      exact ih2 _ _ _ _ _ _ (hS.uDread ⟨v, by omega, rfl⟩ (by omega)) hg
    rw [if_neg (show ¬ nI s = (61 : Int32) from by rw [show (61 : Int32) = nI 61 from rfl, hne 61 (by omega)]; exact c4)]
    by_cases c5 : s = 126
    · rw [if_pos (show nI s = (126 : Int32) by rw [c5]; rfl), f_pair4 hg (by omega) (by omega), bd1_s]
      unfold gapN gapG
      rw [if_neg c4, if_neg c2, if_neg c3, if_neg c1, if_neg (by omega), if_pos c5]
      exact ih2 _ _ _ _ _ _ hS (RH_pair hg (by omega) (by omega))
    rw [if_neg (show ¬ nI s = (126 : Int32) from by rw [show (126 : Int32) = nI 126 from rfl, hne 126 (by omega)]; exact c5)]
    unfold f_X8_setKind gapN gapG
    rw [and7 b hb, sI_n (by omega) (by omega), bd1_s, if_neg c4, if_neg c2, if_neg c3, if_neg c1, if_pos (show s = 35 by omega), if_neg c5]
    exact ih2 _ _ _ _ _ _ (hS.uKind ⟨v, by omega, rfl⟩ hb) hg
end BF
set_option maxHeartbeats 4000000 in
theorem pm_grief {v_t_tape_bytes : Nat → Int32} {x_t_tape_size : Int32} {v_t_rhymes_other : Nat → Int32} {v_t_shelf_dread : Nat → Int32} {v_t_shelf_ink : Nat → Int32} {v_t_shelf_kind : Nat → Int32} {v_t_shelf_salt : Nat → Int32} {v_t_shelf_tries : Nat → Int32} {x_t_shelf_day : Int32} {x_t_shelf_nerve : Int32} {x_t_shelf_pictures : Int32} {x_t_shelf_told : Int32} {x_t_shelf_written : Int32} {x_t_shelf_x : Int32} {v_t_kept_dread : Nat → Int32} {v_t_kept_ink : Nat → Int32} {v_t_kept_kind : Nat → Int32} {v_t_kept_salt : Nat → Int32} {v_t_kept_tries : Nat → Int32} {x_t_kept_day : Int32} {x_t_kept_nerve : Int32} {x_t_kept_pictures : Int32} {x_t_kept_told : Int32} {x_t_kept_written : Int32} {x_t_kept_x : Int32} {v_t_letter_words : Nat → Int32} {x_t_letter_size : Int32} {v_t_law_code : Nat → Int32} {v_t_law_letters : Nat → Int32} {v_t_law_valueFrom : Nat → Int32} {v_t_law_testFrom : Nat → Int32} {v_t_law_testEnd : Nat → Int32} {x_t_law_rules : Int32} {x_t_anyKept : Int32} {v_m_now : Nat → Int32} {v_m_kept : Nat → Int32} {v_m_rhymeOf : Nat → Int32} {v_m_wordAt : Nat → Int32} {x_m_wordMany : Int32} {v_m_tape : Nat → Int32} {x_m_taped : Int32} {v_m_codes : Nat → Int32} {v_m_clauseOf : Nat → Int32} {v_m_codeFrom : Nat → Int32} {v_m_codeHalf : Nat → Int32} {v_m_codeTo : Nat → Int32} {x_m_clauses : Int32} {x_m_isKept : Int32} {v_t_grief_signs : Nat → Int32} {v_t_grief_values : Nat → Int32} {v_t_grief_words : Nat → Int32} {x_t_grief_lines : Int32} {x_t_tape_end : Int32} {x_t_tape_fault : Int32} {x_t_tape_place : Int32} {v_m_aside : Nat → Int32} {v_m_wasRhyme : Nat → Int32} {x_m_codeMany : Int32} {x_m_fault : Int32} {x_m_length0 : Int32} {x_m_lines : Int32} {x_m_number0 : Int32} {x_m_place0 : Int32} {x_m_saidMany : Int32} (hI : Inv v_t_tape_bytes x_t_tape_size v_t_rhymes_other v_t_shelf_dread v_t_shelf_ink v_t_shelf_kind v_t_shelf_salt v_t_shelf_tries x_t_shelf_day x_t_shelf_nerve x_t_shelf_pictures x_t_shelf_told x_t_shelf_written x_t_shelf_x v_t_kept_dread v_t_kept_ink v_t_kept_kind v_t_kept_salt v_t_kept_tries x_t_kept_day x_t_kept_nerve x_t_kept_pictures x_t_kept_told x_t_kept_written x_t_kept_x v_t_letter_words x_t_letter_size v_t_law_code v_t_law_letters v_t_law_valueFrom v_t_law_testFrom v_t_law_testEnd x_t_law_rules x_t_anyKept v_m_now v_m_kept v_m_rhymeOf v_m_wordAt x_m_wordMany v_m_tape x_m_taped v_m_codes v_m_clauseOf v_m_codeFrom v_m_codeHalf v_m_codeTo x_m_clauses x_m_isKept) (a1 : Int32) (a2 : Int32) : ∃ (r : Int32) (o_v_t_grief_signs : Nat → Int32) (o_v_t_grief_values : Nat → Int32) (o_v_t_grief_words : Nat → Int32) (o_v_t_rhymes_other : Nat → Int32) (o_v_t_shelf_dread : Nat → Int32) (o_v_t_shelf_kind : Nat → Int32) (o_v_t_shelf_salt : Nat → Int32) (o_x_t_grief_lines : Int32) (o_x_t_tape_end : Int32) (o_x_t_tape_fault : Int32) (o_x_t_tape_place : Int32) (o_x_t_tape_size : Int32) (o_v_m_aside : Nat → Int32) (o_v_m_now : Nat → Int32) (o_v_m_rhymeOf : Nat → Int32) (o_v_m_wasRhyme : Nat → Int32) (o_x_m_codeMany : Int32) (o_x_m_fault : Int32) (o_x_m_length0 : Int32) (o_x_m_lines : Int32) (o_x_m_number0 : Int32) (o_x_m_place0 : Int32) (o_x_m_saidMany : Int32) (o_x_m_taped : Int32), f_X11_grief v_t_grief_signs v_t_grief_values v_t_grief_words v_t_rhymes_other v_t_shelf_dread v_t_shelf_kind v_t_shelf_salt v_t_tape_bytes x_t_grief_lines x_t_shelf_told x_t_tape_end x_t_tape_fault x_t_tape_place x_t_tape_size a1 a2 = some (r, o_v_t_grief_signs, o_v_t_grief_values, o_v_t_grief_words, o_v_t_rhymes_other, o_v_t_shelf_dread, o_v_t_shelf_kind, o_v_t_shelf_salt, o_x_t_grief_lines, o_x_t_tape_end, o_x_t_tape_fault, o_x_t_tape_place, o_x_t_tape_size) ∧ f_X12_grief v_m_aside v_m_now v_m_rhymeOf v_m_tape v_m_wasRhyme x_m_codeMany x_m_fault x_m_length0 x_m_lines x_m_number0 x_m_place0 x_m_saidMany x_m_taped a1 a2 = some (r, o_v_m_aside, o_v_m_now, o_v_m_rhymeOf, o_v_m_wasRhyme, o_x_m_codeMany, o_x_m_fault, o_x_m_length0, o_x_m_lines, o_x_m_number0, o_x_m_place0, o_x_m_saidMany, o_x_m_taped) ∧ Inv v_t_tape_bytes o_x_t_tape_size o_v_t_rhymes_other o_v_t_shelf_dread v_t_shelf_ink o_v_t_shelf_kind o_v_t_shelf_salt v_t_shelf_tries x_t_shelf_day x_t_shelf_nerve x_t_shelf_pictures x_t_shelf_told x_t_shelf_written x_t_shelf_x v_t_kept_dread v_t_kept_ink v_t_kept_kind v_t_kept_salt v_t_kept_tries x_t_kept_day x_t_kept_nerve x_t_kept_pictures x_t_kept_told x_t_kept_written x_t_kept_x v_t_letter_words x_t_letter_size v_t_law_code v_t_law_letters v_t_law_valueFrom v_t_law_testFrom v_t_law_testEnd x_t_law_rules x_t_anyKept o_v_m_now v_m_kept o_v_m_rhymeOf v_m_wordAt x_m_wordMany v_m_tape o_x_m_taped v_m_codes v_m_clauseOf v_m_codeFrom v_m_codeHalf v_m_codeTo x_m_clauses x_m_isKept := by
  have hI0 := hI
  obtain ⟨⟨n, t, hn, rfl, rfl, ht⟩, ⟨g, hg⟩, hS, hK, hL, hW⟩ := hI
  obtain ⟨⟨T, hT2, e, hnn⟩, hS2⟩ := id hS
  subst e
  rcases tI_cases T a1 with h0 | ⟨b, hb, rfl, hb1, h1⟩
  · exact ⟨_, _, _, _, _, _, _, _, _, _, _, _, _, _, _, _, _, _, _, _, _, _, _, _, _, by unfold f_X11_grief f_X11_grief_b32; rw [f_isTold8 hT2, h0, bd1_s, if_pos rfl], by unfold f_X12_grief f_X12_grief_b26; rw [f_isTold12 hnn, h0, bd1_s, if_pos rfl], hI0⟩
  by_cases h : a2 < 1 ∨ 120 < a2
  · exact ⟨_, _, _, _, _, _, _, _, _, _, _, _, _, _, _, _, _, _, _, _, _, _, _, _, _, by unfold f_X11_grief f_X11_grief_b32; rw [f_isTold8 hT2, h1, bd1_s, if_neg one_ne, f_within_eq, if_pos h, bd1_s, if_pos rfl], by unfold f_X12_grief f_X12_grief_b26; rw [f_isTold12 hnn, h1, bd1_s, if_neg one_ne, f_in_eq, if_pos h, bd1_s, if_pos rfl], hI0⟩
  obtain ⟨N, hN, rfl⟩ := rg_of (n := 120) (a := a2) (by omega) (fun q => h (Or.inl (by rw [fa_lt] at q ⊢; have : (0 : Int32).toInt = 0 := rfl; have : (1 : Int32).toInt = 1 := rfl; omega))) (fun q => h (Or.inr q))
  by_cases hNn : N ≤ n
  · have e2 : nI N ≤ nI n := by rw [nle (by omega) (by omega)]; exact hNn
    have hTX : TX v_t_tape_bytes v_m_tape t n N := ⟨hn, hNn, ht⟩
    have hcl : f_X11_grief v_t_grief_signs v_t_grief_values v_t_grief_words v_t_rhymes_other v_t_shelf_dread v_t_shelf_kind v_t_shelf_salt v_t_tape_bytes x_t_grief_lines (nI T) x_t_tape_end x_t_tape_fault x_t_tape_place (nI n) (nI b) (nI N) = bd8 (f_X0_read_b15 v_t_tape_bytes (nI n) FU v_t_grief_signs v_t_grief_values v_t_grief_words (nI 0) (nI N) 0 (nI 0) (nI 0)) (fun r4 w5 w6 w7 w8 w9 w10 w11 => if r4 ≤ 0 then f_X11_grief_b70 w5 w6 w7 v_t_rhymes_other v_t_shelf_dread v_t_shelf_kind v_t_shelf_salt w8 w9 w10 w11 0 r4 else bd4 (f_X0_befall v_t_shelf_dread v_t_shelf_kind v_t_shelf_salt v_t_rhymes_other w5 w6 w7 w8 (nI b)) (fun w13 w14 w15 w16 => f_X11_grief_b70 w5 w6 w7 w16 w13 w14 w15 w8 w9 w10 w11 0 r4)) := by
      unfold f_X11_grief f_X0_read f_X9_begin f_X9_empty
      rw [f_isTold8 hT2, h1, bd1_s, if_neg one_ne, f_within_eq, if_neg h, bd1_s, if_neg one_ne, f_has9 n N hn (by omega), if_pos hNn, bd1_s, if_neg one_ne, bd3_s, mn_nI (by omega) (by omega), show min N n = N by omega]
      rfl
    have hrf : f_X12_grief v_m_aside v_m_now v_m_rhymeOf v_m_tape v_m_wasRhyme x_m_codeMany x_m_fault x_m_length0 x_m_lines x_m_number0 x_m_place0 x_m_saidMany (nI n) (nI b) (nI N) = bd7 (f_X12_readsLine v_m_now v_m_rhymeOf v_m_tape x_m_fault (nI N) (nI 0) x_m_number0 (nI 0) (nI b)) (fun r4 w5 w6 w7 w8 w9 w10 => f_X12_grief_b81 v_m_tape (nI b) FU (fa_fill v_m_now v_m_aside 293) w5 w6 (fa_fill v_m_rhymeOf v_m_wasRhyme 16) 0 w7 (nI N) w8 w9 w10 0 (nI n) r4) := by
      unfold f_X12_grief f_X12_beginsText
      rw [f_isTold12 hnn, h1, bd1_s, if_neg one_ne, f_in_eq, if_neg h, bd1_s, if_neg one_ne, if_pos e2, bd4_s, f_copies12, bd1_s]
      refine loopNN (fun m x i => f_X12_grief_b51 v_m_tape (nI b) m (fa_fill v_m_now v_m_aside 293) v_m_now v_m_rhymeOf x 0 x_m_fault (nI N) 0 x_m_number0 0 0 (nI n) i) (fun k => fa_fill v_m_rhymeOf v_m_wasRhyme k) 0 16 (by omega) (by omega) (a0 := v_m_wasRhyme) (i0 := 0) rfl (fa_fill_0 _ _) _ (fun m k _ hk => ?_) (fun m => ?_)
      · show f_X12_grief_b51 _ _ (m + 1) _ _ _ _ _ _ _ _ _ _ _ _ _ = f_X12_grief_b51 _ _ m _ _ _ _ _ _ _ _ _ _ _ _ _
        rw [f_X12_grief_b51, if_neg (ge16 hk), gI_n (by omega) (by omega), sI_n (by omega) (by omega), fa_fill_succ]
      · show f_X12_grief_b51 _ _ (m + 1) _ _ _ _ _ _ _ _ _ _ _ _ _ = _
        rw [f_X12_grief_b51, if_pos (by decide)]
        rfl
    rw [hcl, hrf]
    have hRH : RH v_m_rhymeOf g := fun w hw => ⟨(hg w hw).1, (hg w hw).2.1, (hg w hw).2.2.2⟩
    have hRO : RH v_t_rhymes_other g := fun w hw => ⟨(hg w hw).1, (hg w hw).2.1, (hg w hw).2.2.1⟩
    rcases read_sim hTX hb (fa_fill v_m_now v_m_aside 293) (fa_fill v_m_rhymeOf v_m_wasRhyme 16) 0 0 (nI n) 20 0 0 FU FU v_t_grief_signs v_t_grief_values v_t_grief_words v_m_now v_m_rhymeOf g x_m_fault x_m_number0 (by omega) (Nat.zero_le N) (FU_gt (by omega)) (FU_gt (by omega)) hRH with ⟨f, hf, ⟨S', V', W', l', q, k1⟩, now', rh', l'', nu', q', k2⟩ | ⟨d, S', V', W', q, d1, d2, k1, -, k3, rh', nu', q', k2, k4⟩
    · rw [k1, bd8_s, if_pos hf.1, k2]
      unfold f_X12_grief_b122
      rw [if_pos rfl, f_copies12, bd1_s]
      have hl : f_X12_grief_b150 FU (fa_fill v_m_now v_m_aside 293) (fa_fill (fa_fill v_m_now v_m_aside 293) now' 293) rh' (fa_fill v_m_rhymeOf v_m_wasRhyme 16) 0 f (nI N) l'' nu' q' 0 0 0 = some (f, fa_fill v_m_now v_m_aside 293, fa_fill (fa_fill v_m_now v_m_aside 293) now' 293, fa_fill (fa_fill v_m_rhymeOf v_m_wasRhyme 16) rh' 16, fa_fill v_m_rhymeOf v_m_wasRhyme 16, 0, f, nI N, l'', nu', q', 0, 0) := by
        refine loopNN (fun m x i => f_X12_grief_b150 m (fa_fill v_m_now v_m_aside 293) (fa_fill (fa_fill v_m_now v_m_aside 293) now' 293) x (fa_fill v_m_rhymeOf v_m_wasRhyme 16) 0 f (nI N) l'' nu' q' 0 0 i) (fun k => fa_fill (fa_fill v_m_rhymeOf v_m_wasRhyme 16) rh' k) 0 16 (by omega) (by omega) (a0 := rh') (i0 := 0) rfl (fa_fill_0 _ _) _ (fun m k _ hk => ?_) (fun m => ?_)
        · show f_X12_grief_b150 (m + 1) _ _ _ _ _ _ _ _ _ _ _ _ _ = f_X12_grief_b150 m _ _ _ _ _ _ _ _ _ _ _ _ _
          rw [f_X12_grief_b150, if_neg (ge16 hk), gI_n (by omega) (by omega), sI_n (by omega) (by omega), fa_fill_succ]
        · show f_X12_grief_b150 (m + 1) _ _ _ _ _ _ _ _ _ _ _ _ _ = _
          rw [f_X12_grief_b150, if_pos (by decide)]
      rw [hl]
      refine ⟨_, _, _, _, _, _, _, _, _, _, _, _, _, _, _, _, _, _, _, _, _, _, _, _, _, rfl, rfl, RTape.empty, ⟨g, fun w hw => ⟨(hg w hw).1, (hg w hw).2.1, (hg w hw).2.2.1, ?_⟩⟩, ?_, hK, hL, hW⟩
      · rw [fa_fill_in hw, fa_fill_in hw]; exact (hg w hw).2.2.2
      · exact hS.cong (fun j hj => rfl) (fun j hj => rfl) (fun j hj => rfl) (fun j hj => rfl) (fun j hj => rfl) (fun k hk => by rw [fa_fill_in hk, fa_fill_in hk])
    · obtain ⟨dread', kind', salt', other', k5, k6, k7⟩ := bef_sim (S := S') (V := V') (W := W') hb d 0 FU v_t_shelf_dread v_t_shelf_kind v_t_shelf_salt v_t_rhymes_other v_m_now g k3 d2 (FU_gt (by omega)) hS hRO
      rw [k1, bd8_s, if_neg (by rw [show (0 : Int32) = nI 0 from rfl, nle (by omega) (by omega)]; omega)]
      have k5' : f_X0_befall v_t_shelf_dread v_t_shelf_kind v_t_shelf_salt v_t_rhymes_other S' V' W' (nI (0 + d)) (nI b) = some (dread', kind', salt', other') := k5
      rw [k5', bd4_s, k2]
      unfold f_X12_grief_b122
      rw [if_neg (show ¬ (1 : Int32) = 0 by decide)]
      exact ⟨_, _, _, _, _, _, _, _, _, _, _, _, _, _, _, _, _, _, _, _, _, _, _, _, _, rfl, rfl, RTape.empty, ⟨fGr S' V' W' 0 d g, fun w hw => ⟨(k7 w hw).1, (k7 w hw).2.1, (k7 w hw).2.2, (k4 w hw).2.2⟩⟩, k6, hK, hL, hW⟩
  · have e2 : ¬ nI N ≤ nI n := by rw [nle (by omega) (by omega)]; exact hNn
    exact ⟨_, _, _, _, _, _, _, _, _, _, _, _, _, _, _, _, _, _, _, _, _, _, _, _, _, by unfold f_X11_grief f_X11_grief_b32; rw [f_isTold8 hT2, h1, bd1_s, if_neg one_ne, f_within_eq, if_neg h, bd1_s, if_neg one_ne, f_has9 n N hn (by omega), if_neg hNn, bd1_s, if_pos rfl], by unfold f_X12_grief f_X12_grief_b26; rw [f_isTold12 hnn, h1, bd1_s, if_neg one_ne, f_in_eq, if_neg h, bd1_s, if_neg one_ne, if_neg e2], hI0⟩
