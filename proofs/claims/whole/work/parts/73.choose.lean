/-! pure: a bottle is chosen -/
theorem sI_c {ρ : Type} {n k : Nat} {c : Int32} {f : Nat → Int32} {x : Int32} {K : (Nat → Int32) → Option ρ} (hc : c = nI k) (h : k < n) (hn : n < 2 ^ 31) : sI n f c x K = K (upd f k x) := by rw [hc, sI_n h hn]
theorem gI_c {ρ : Type} {n k : Nat} {c : Int32} {f : Nat → Int32} {K : Int32 → Option ρ} (hc : c = nI k) (h : k < n) (hn : n < 2 ^ 31) : gI n f c K = K (f k) := by rw [hc, gI_n h hn]
section CS
variable {dread ink kind salt tries : Nat → Int32} {day nerve pictures told written x : Int32} {now other rhymeOf : Nat → Int32} {g : Nat → Nat}
variable {code letters valueFrom testFrom testEnd codes clauseOf codeFrom codeHalf codeTo : Nat → Int32} {rules clauses : Int32}
def fc7 (F : Nat → Int32) (a0 a1 a2 a3 a4 a5 a6 : Int32) : Nat → Int32 := upd (upd (upd (upd (upd (upd (upd F 0 a0) 1 a1) 2 a2) 3 a3) 4 a4) 5 a5) 6 a6
theorem f_look1 {b w : Nat} (hb : b < 8) (hw : w < 16) (F : Nat → Int32) (s : Int32) : f_X1_lookAtBottle dread kind salt tries F (nI b) (nI w) s = some (fc7 F (nI b) (kind b) (nI w) (dread (16 * b + w)) (tries (16 * b + w)) (salt b) s) := by
  unfold f_X1_lookAtBottle
  rw [sI_c (c := 0) (k := 0) rfl (by omega) (by omega), f_kind8 hb, bd1_s, sI_c (c := 1) (k := 1) rfl (by omega) (by omega), sI_c (c := 2) (k := 2) rfl (by omega) (by omega), f_dread8 hb hw, bd1_s, sI_c (c := 3) (k := 3) rfl (by omega) (by omega), f_tries8 hb hw, bd1_s, sI_c (c := 4) (k := 4) rfl (by omega) (by omega), f_salt8 hb, bd1_s, sI_c (c := 5) (k := 5) rfl (by omega) (by omega), sI_c (c := 6) (k := 6) rfl (by omega) (by omega)]
  rfl
theorem f_feels12 (hQ : SQ dread kind salt nerve other now rhymeOf g) {b w : Nat} (hb : b < 8) (hw : w < 16) (G : Nat → Int32) (pl dw : Int32) : f_X12_feels G now rhymeOf (nI b) (nI w) pl dw = some (upd (upd (upd (fc7 G (nI b) (now (8 + b)) (nI w) (now (32 + (16 * b + w))) (now (160 + (16 * b + w))) (now (16 + b)) (shr now g b w (now (16 + b)))) 7 pl) 8 (now 291 - now 291 / 100 * 100)) 9 dw) := by
  unfold f_X12_feels
  have e1 : (8 : Int32) + nI b = nI (8 + b) := nI_add 8 b
  have e2 : (160 : Int32) + 16 * nI b + nI w = nI (160 + (16 * b + w)) := by rw [show (160 : Int32) = nI 160 from rfl, show (16 : Int32) = nI 16 from rfl, pk_mul, nI_add, nI_add, Nat.add_assoc]
  have e3 : (16 : Int32) + nI b = nI (16 + b) := nI_add 16 b
  rw [sI_c (c := 0) (k := 0) rfl (by omega) (by omega), e1, gI_n (by omega) (by omega), sI_c (c := 1) (k := 1) rfl (by omega) (by omega), sI_c (c := 2) (k := 2) rfl (by omega) (by omega), f_dread12 hb hw, bd1_s, sI_c (c := 3) (k := 3) rfl (by omega) (by omega), e2, gI_n (by omega) (by omega), sI_c (c := 4) (k := 4) rfl (by omega) (by omega), e3, gI_n (by omega) (by omega), sI_c (c := 5) (k := 5) rfl (by omega) (by omega), f_shr12 hQ hb hw, bd1_s, sI_c (c := 6) (k := 6) rfl (by omega) (by omega), sI_c (c := 7) (k := 7) rfl (by omega) (by omega), gI_c (c := 291) (k := 291) rfl (by omega) (by omega), rI_n (by decide), sI_c (c := 8) (k := 8) rfl (by omega) (by omega), sI_c (c := 9) (k := 9) rfl (by omega) (by omega)]
  rfl
theorem choose_sim (hS : RShelf dread ink kind salt tries day nerve pictures told written x now) (hg : ∀ w, w < 16 → g w < 16 ∧ g (g w) = w ∧ other w = nI (g w) ∧ rhymeOf w = nI (g w)) (hW : RLaw code letters valueFrom testFrom testEnd rules codes clauseOf codeFrom codeHalf codeTo clauses) {w : Nat} (hw : w < 16) (pl dw : Int32) :
    ∀ d b m1 m2 (F st : Nat → Int32) (h rf cf ch mo : Int32) (G st2 : Nat → Int32) (fe : Int32) (moN : Nat), b + d = 8 → d < m1 → d < m2 → F 7 = pl → F 8 = now 291 - now 291 / 100 * 100 → F 9 = dw → moN ≤ 9999 → mo = nI moN → ((ch = -1 ∧ moN = 0) ∨ ∃ c, c < 8 ∧ ch = nI c ∧ cf = fe ∧ ¬ ink c = 0) →
    ∃ ch' F' st' h' rf' cf' G' st2' fe', f_X7_choose_b9 dread ink kind other salt tries code letters testEnd testFrom valueFrom told rules (nI w) m1 F st h rf cf ch mo (nI b) = some (ch', F', st', h', rf', cf') ∧ f_X12_choosesFor_b18 clauseOf codeFrom codeHalf codeTo codes now rhymeOf clauses (nI w) pl dw m2 G st2 ch fe mo (nI b) = some (G', st2', ch', fe') ∧ (ch' = -1 ∨ ∃ c, c < 8 ∧ ch' = nI c ∧ cf' = fe' ∧ ¬ ink c = 0) := by
  have hQ := SQ.of hS hg
  obtain ⟨⟨T, hT2, rfl, hnn⟩, hb2, hd3, -⟩ := id hS
  intro d
  induction d with
  | zero =>
    intro b m1 m2 F st h rf cf ch mo G st2 fe moN hb h1 h2 _ _ _ _ _ hch
    obtain ⟨m1, rfl⟩ : ∃ m, m1 = m + 1 := ⟨m1 - 1, by omega⟩
    obtain ⟨m2, rfl⟩ : ∃ m, m2 = m + 1 := ⟨m2 - 1, by omega⟩
    have e8 : (8 : Int32) ≤ nI b := by rw [show (8 : Int32) = nI 8 from rfl, nle (by omega) (by omega)]; omega
    refine ⟨ch, F, st, h, rf, cf, G, st2, fe, ?_, ?_, ?_⟩
    · rw [f_X7_choose_b9, if_pos e8]
    · rw [f_X12_choosesFor_b18, if_pos e8]
    · rcases hch with ⟨q, -⟩ | q
      · exact Or.inl q
      · exact Or.inr q
  | succ d ih =>
    intro b m1 m2 F st h rf cf ch mo G st2 fe moN hbd h1 h2 hF7 hF8 hF9 hmN hmo hch
    obtain ⟨m1, rfl⟩ : ∃ m, m1 = m + 1 := ⟨m1 - 1, by omega⟩
    obtain ⟨m2, rfl⟩ : ∃ m, m2 = m + 1 := ⟨m2 - 1, by omega⟩
    have hb : b < 8 := by omega
    obtain ⟨k1, -, k3, -, k5, -⟩ := hb2 b hb
    obtain ⟨d1, -, d3, -⟩ := hd3 (16 * b + w) (by omega)
    obtain ⟨s0, hs0, es0⟩ := bnd_rg (uns now g b w - now (16 + b))
    have es : shr now g b w (now (16 + b)) = nI s0 := es0
    have go := ih (b + 1) m1 m2
    rw [f_X7_choose_b9, if_neg (ge8 hb), f_isTold8 hT2, bd1_s, tI_tl hb, ite_bI, f_X12_choosesFor_b18, if_neg (ge8 hb), f_isTold12 hnn, bd1_s, tI_tl hb, ite_bI]
    unfold f_X7_choose_b142 f_X7_choose_b128 f_X7_choose_b142 f_X12_choosesFor_b138 f_X12_choosesFor_b154
    rw [nI_1, show (24 : Int32) + nI b = nI (24 + b) from nI_add 24 b, gI_n (by omega) (by omega), f_ink8 hb, bd1_s, ← k5]
    cases tl T b with
    | false =>
      rw [if_neg ffn, if_neg ffn]
      exact go F st h rf cf ch mo G st2 fe moN (by omega) (by omega) (by omega) hF7 hF8 hF9 hmN hmo hch
    | true =>
      rw [if_pos rfl, if_pos rfl]
      by_cases hik : ink b = 0
      · rw [if_pos hik, if_pos hik]
        exact go F st h rf cf ch mo G st2 fe moN (by omega) (by omega) (by omega) hF7 hF8 hF9 hmN hmo hch
      rw [if_neg hik, if_neg hik, f_shr8 hQ hb hw, bd1_s, f_look1 hb hw, bd1_s, f_feels12 hQ hb hw, bd1_s]
      generalize hF1 : fc7 F (nI b) (kind b) (nI w) (dread (16 * b + w)) (tries (16 * b + w)) (salt b) (shr now g b w (now (16 + b))) = F1
      generalize hG1 : upd (upd (upd (fc7 G (nI b) (now (8 + b)) (nI w) (now (32 + (16 * b + w))) (now (160 + (16 * b + w))) (now (16 + b)) (shr now g b w (now (16 + b)))) 7 pl) 8 (now 291 - now 291 / 100 * 100)) 9 dw = G1
      have hFG : ∀ j, j < 10 → F1 j = G1 j := by
        intro j hj
        rw [← hF1, ← hG1, k1, k3, d1, d3]
        unfold fc7
        rcases (show j = 0 ∨ j = 1 ∨ j = 2 ∨ j = 3 ∨ j = 4 ∨ j = 5 ∨ j = 6 ∨ j = 7 ∨ j = 8 ∨ j = 9 by omega) with e | e | e | e | e | e | e | e | e | e <;> subst e <;> simp [upd, hF7, hF8, hF9]
      have f7 : F1 7 = pl := by rw [← hF1]; unfold fc7; simp [upd, hF7]
      have f8 : F1 8 = now 291 - now 291 / 100 * 100 := by rw [← hF1]; unfold fc7; simp [upd, hF8]
      have f9 : F1 9 = dw := by rw [← hF1]; unfold fc7; simp [upd, hF9]
      obtain ⟨c, ⟨st', h', rf', o1⟩, st2', o2⟩ := holds_sim hW hFG st h rf st2
      rw [o1, bd4_s, o2, bd2_s, ite_bI, ite_bI]
      cases c with
      | true =>
        rw [show (!true) = false from rfl, if_neg ffn, if_pos rfl]
        exact go F1 st' h' rf' cf ch mo G1 st2' fe moN (by omega) (by omega) (by omega) f7 f8 f9 hmN hmo hch
      | false =>
        rw [show (!false) = true from rfl, if_pos rfl, if_neg ffn]
        obtain ⟨v, hv, ⟨sa, ha, ra, e1⟩, sb, e2⟩ := value_sim hW hFG (a := 101) (by decide) (most := 9999) (w0 := 1) (by omega) (by omega) st' h' rf' st2'
        have e1' : f_X1_valueBy code F1 letters st' testEnd testFrom valueFrom h' rf' rules 101 9999 1 = some (nI v, sa, ha, ra) := e1
        have e2' : f_X12_byLaw clauseOf codeFrom codeHalf codeTo codes G1 st2' clauses 101 9999 1 = some (nI v, sb) := e2
        obtain ⟨u, hu, ⟨sc, hc, rc, e3⟩, sd, e4⟩ := value_sim hW hFG (a := 102) (by decide) (most := 99) (w0 := 0) (by omega) (by omega) sa ha ra sb
        have e3' : f_X1_valueBy code F1 letters sa testEnd testFrom valueFrom ha ra rules 102 99 0 = some (nI u, sc, hc, rc) := e3
        have e4' : f_X12_byLaw clauseOf codeFrom codeHalf codeTo codes G1 sb clauses 102 99 0 = some (nI u, sd) := e4
        have hmin : f_X12_min 99 (nI (s0 + u)) = some (nI (min (s0 + u) 99)) := by
          rw [show (99 : Int32) = nI 99 from rfl, f_min12 (by omega) (by omega), Nat.min_comm]
        have hmn : mnI (nI (s0 + u)) 99 = nI (min (s0 + u) 99) := by rw [show (99 : Int32) = nI 99 from rfl, mn_nI (by omega) (by omega)]
        rw [e1', bd4_s, e2', bd2_s, f_shr12 hQ hb hw, bd1_s, e4', bd2_s, es, nI_add, hmin, bd1_s, e3', bd4_s, nI_add, hmn, hmo, ite_nle (by omega) (by omega), ite_nlt (by omega) (by omega), ite_nlt (by omega) (by omega), ite_neq (by omega) (by omega)]
        by_cases hv0 : v = 0
        · subst hv0
          rw [if_pos (show nI 0 = 0 from rfl), if_pos (show nI 0 = 0 from rfl)]
          exact go F1 sa ha ra cf ch (nI moN) G1 sd fe moN (by omega) (by omega) (by omega) f7 f8 f9 hmN rfl hch
        rw [if_neg (nI_ne0 (by omega) (by omega)), if_neg (nI_ne0 (by omega) (by omega))]
        have newc : (nI b = -1 ∧ v = 0) ∨ ∃ c, c < 8 ∧ nI b = nI c ∧ nI (min (s0 + u) 99) = nI (min (s0 + u) 99) ∧ ¬ ink c = 0 := Or.inr ⟨b, hb, rfl, rfl, hik⟩
        rcases Nat.lt_trichotomy v moN with q | q | q
        · rw [if_neg (show ¬ moN ≤ v by omega), if_pos q]
          exact go F1 sa ha ra cf ch (nI moN) G1 sd fe moN (by omega) (by omega) (by omega) f7 f8 f9 hmN rfl hch
        · subst q
          rw [if_pos (Nat.le_refl v), if_neg (Nat.lt_irrefl v), if_neg (Nat.lt_irrefl v), if_pos rfl]
          obtain ⟨c, hc8, hcc, hcf, hci⟩ : ∃ c, c < 8 ∧ ch = nI c ∧ cf = fe ∧ ¬ ink c = 0 := by
            rcases hch with ⟨-, q⟩ | q
            · exact absurd q hv0
            · exact q
          rw [hcf]
          by_cases hlt : nI (min (s0 + u) 99) < fe
          · rw [if_neg (fa_of_lt hlt).2.1, if_pos hlt]
            exact go F1 sc hc rc _ (nI b) (nI v) G1 sd _ v (by omega) (by omega) (by omega) f7 f8 f9 hmN rfl newc
          · rw [if_pos (fa_of_nlt hlt), if_neg hlt]
            exact go F1 sc hc rc fe ch (nI v) G1 sd fe v (by omega) (by omega) (by omega) f7 f8 f9 hmN rfl (Or.inr ⟨c, hc8, hcc, rfl, hci⟩)
        · rw [if_pos (show moN ≤ v by omega), if_pos q, if_neg (show ¬ v < moN by omega), if_neg (show ¬ v = moN by omega)]
          exact go F1 sc hc rc _ (nI b) (nI v) G1 sd _ v (by omega) (by omega) (by omega) f7 f8 f9 hv rfl newc
end CS
