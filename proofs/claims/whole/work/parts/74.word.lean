/-! pure: a word is written -/
theorem nI_m1 {c : Nat} (hc : c < 2 ^ 31) : ¬ nI c = -1 := fun q => by have h9 := nI_pos (n := c) hc; rw [q] at h9; exact h9 (by decide)
theorem upd4 (f : Nat → Int32) {a e : Nat} (h : a ≠ e) (x z u : Int32) : upd (upd (upd f a x) e z) a u = upd (upd f e z) a u := by rw [fa_upd_swap f h x z, fa_upd_twice]
section RS2
variable {dread ink kind salt tries : Nat → Int32} {day nerve pictures told written x : Int32} {now : Nat → Int32}
theorem RShelf.uPict (h : RShelf dread ink kind salt tries day nerve pictures told written x now) {v : Int32} (hv : Rg v 9999) : RShelf dread ink kind salt tries day nerve v told written x (upd now 289 v) := by
  obtain ⟨⟨T, hT, e, hn⟩, h2, h3, ⟨h4, h4r⟩, ⟨h5, h5r⟩, ⟨h6, h6r⟩, ⟨h7, h7r⟩, h8, h8r⟩ := h
  refine ⟨⟨T, hT, e, fun b hb => ?_⟩, fun b hb => ?_, fun j hj => ?_, ⟨?_, h4r⟩, ⟨?_, hv⟩, ⟨?_, h6r⟩, ⟨?_, h7r⟩, ?_, h8r⟩
  · rw [pk_un (by omega)]; exact hn b hb
  · rw [pk_un (by omega), pk_un (by omega), pk_un (by omega)]; exact h2 b hb
  · rw [pk_un (by omega), pk_un (by omega)]; exact h3 j hj
  · rw [pk_un (by omega)]; exact h4
  · rw [pk_us]
  · rw [pk_un (by omega)]; exact h6
  · rw [pk_un (by omega)]; exact h7
  · rw [pk_un (by omega)]; exact h8
theorem RShelf.uWrit (h : RShelf dread ink kind salt tries day nerve pictures told written x now) {v : Int32} (hv : Rg v 9999) : RShelf dread ink kind salt tries day nerve pictures told v x (upd now 290 v) := by
  obtain ⟨⟨T, hT, e, hn⟩, h2, h3, ⟨h4, h4r⟩, ⟨h5, h5r⟩, ⟨h6, h6r⟩, ⟨h7, h7r⟩, h8, h8r⟩ := h
  refine ⟨⟨T, hT, e, fun b hb => ?_⟩, fun b hb => ?_, fun j hj => ?_, ⟨?_, h4r⟩, ⟨?_, h5r⟩, ⟨?_, hv⟩, ⟨?_, h7r⟩, ?_, h8r⟩
  · rw [pk_un (by omega)]; exact hn b hb
  · rw [pk_un (by omega), pk_un (by omega), pk_un (by omega)]; exact h2 b hb
  · rw [pk_un (by omega), pk_un (by omega)]; exact h3 j hj
  · rw [pk_un (by omega)]; exact h4
  · rw [pk_un (by omega)]; exact h5
  · rw [pk_us]
  · rw [pk_un (by omega)]; exact h7
  · rw [pk_un (by omega)]; exact h8
theorem RShelf.uDay (h : RShelf dread ink kind salt tries day nerve pictures told written x now) {v : Int32} (hv : Rg v 9999) : RShelf dread ink kind salt tries v nerve pictures told written x (upd now 291 v) := by
  obtain ⟨⟨T, hT, e, hn⟩, h2, h3, ⟨h4, h4r⟩, ⟨h5, h5r⟩, ⟨h6, h6r⟩, ⟨h7, h7r⟩, h8, h8r⟩ := h
  refine ⟨⟨T, hT, e, fun b hb => ?_⟩, fun b hb => ?_, fun j hj => ?_, ⟨?_, h4r⟩, ⟨?_, h5r⟩, ⟨?_, h6r⟩, ⟨?_, hv⟩, ?_, h8r⟩
  · rw [pk_un (by omega)]; exact hn b hb
  · rw [pk_un (by omega), pk_un (by omega), pk_un (by omega)]; exact h2 b hb
  · rw [pk_un (by omega), pk_un (by omega)]; exact h3 j hj
  · rw [pk_un (by omega)]; exact h4
  · rw [pk_un (by omega)]; exact h5
  · rw [pk_un (by omega)]; exact h6
  · rw [pk_us]
  · rw [pk_un (by omega)]; exact h8
end RS2
section WS
variable {dread ink kind salt tries : Nat → Int32} {day nerve pictures told written x : Int32} {now other rhymeOf : Nat → Int32} {g : Nat → Nat}
variable {code letters valueFrom testFrom testEnd codes clauseOf codeFrom codeHalf codeTo : Nat → Int32} {rules clauses : Int32}
/-- a bottle gets used to a word -/
theorem used_sim (hS : RShelf dread ink kind salt tries day nerve pictures told written x now) (hg : ∀ w, w < 16 → g w < 16 ∧ g (g w) = w ∧ other w = nI (g w) ∧ rhymeOf w = nI (g w)) {c w : Nat} (hc : c < 8) (hw : w < 16) : ∃ dread' tries' now', (∀ t9 : Int32, f_X8_makeUsed dread other (upd tries (16 * c + w) t9) (nI c) (nI w) = some (dread', tries')) ∧ (∀ t9 : Int32, f_X12_isUsedTo (upd now (160 + (16 * c + w)) t9) rhymeOf (nI c) (nI w) = some now') ∧ RShelf dread' ink kind salt tries' day nerve pictures told written x now' := by
  have e1 : (32 : Int32) + 16 * nI c + nI w = nI (32 + (16 * c + w)) := by rw [show (32 : Int32) = nI 32 from rfl, show (16 : Int32) = nI 16 from rfl, pk_mul, nI_add, nI_add, Nat.add_assoc]
  have e2 : (160 : Int32) + 16 * nI c + nI w = nI (160 + (16 * c + w)) := by rw [show (160 : Int32) = nI 160 from rfl, show (16 : Int32) = nI 16 from rfl, pk_mul, nI_add, nI_add, Nat.add_assoc]
  have hgw := hg w hw
  have e3 : (32 : Int32) + 16 * nI c + nI (g w) = nI (32 + (16 * c + g w)) := by rw [show (32 : Int32) = nI 32 from rfl, show (16 : Int32) = nI 16 from rfl, pk_mul, nI_add, nI_add, Nat.add_assoc]
  have hA : RShelf (upd dread (16 * c + w) 0) ink kind salt (upd tries (16 * c + w) 0) day nerve pictures told written x (upd (upd now (32 + (16 * c + w)) 0) (160 + (16 * c + w)) 0) := (hS.uDread ⟨0, by omega, rfl⟩ (by omega)).uTries ⟨0, by omega, rfl⟩ (by omega)
  have hcl : ∀ t9 : Int32, f_X8_makeUsed dread other (upd tries (16 * c + w) t9) (nI c) (nI w) = if nI (g w) = nI w then some (upd dread (16 * c + w) 0, upd tries (16 * c + w) 0) else some (upd (upd dread (16 * c + w) 0) (16 * c + g w) (bnd (upd dread (16 * c + w) 0 (16 * c + g w) + 9)), upd tries (16 * c + w) 0) := by
    intro t9
    unfold f_X8_makeUsed f_X8_makeUsed_b43
    rw [f_setDread8 hc hw, bd1_s, bnd_0, f_setTries8 hc hw, bd1_s, fa_upd_twice, f_of4 hw, bd1_s, hgw.2.2.1, f_dread8 hc hgw.1, bd1_s, f_setDread8 hc hgw.1, bd1_s]
  have hrf : ∀ t9 : Int32, f_X12_isUsedTo (upd now (160 + (16 * c + w)) t9) rhymeOf (nI c) (nI w) = if nI (g w) = nI w then some (upd (upd now (32 + (16 * c + w)) 0) (160 + (16 * c + w)) 0) else some (upd (upd (upd now (32 + (16 * c + w)) 0) (160 + (16 * c + w)) 0) (32 + (16 * c + g w)) (bnd (upd (upd now (32 + (16 * c + w)) 0) (160 + (16 * c + w)) 0 (32 + (16 * c + g w)) + 9))) := by
    intro t9
    have hg1 := hgw.1
    unfold f_X12_isUsedTo f_X12_isUsedTo_b69
    rw [e1, sI_n (by omega) (by omega), e2, sI_n (by omega) (by omega), upd4 now (by omega), gI_n (by omega) (by omega), hgw.2.2.2, f_dread12 hc hgw.1, bd1_s, f_limit_eq, bd1_s, e3, sI_n (by omega) (by omega)]
  by_cases hq : nI (g w) = nI w
  · refine ⟨_, _, _, fun t9 => by rw [hcl, if_pos hq], fun t9 => by rw [hrf, if_pos hq], hA⟩
  · have hg1 := hgw.1
    have hd := (hA.2.2.1 (16 * c + g w) (by omega)).1
    refine ⟨_, _, _, fun t9 => by rw [hcl, if_neg hq], fun t9 => by rw [hrf, if_neg hq], ?_⟩
    rw [hd]
    exact hA.uDread (bnd_rg _) (by omega)
theorem try_sim (hS : RShelf dread ink kind salt tries day nerve pictures told written x now) (hg : ∀ w, w < 16 → g w < 16 ∧ g (g w) = w ∧ other w = nI (g w) ∧ rhymeOf w = nI (g w)) {c w : Nat} (hc : c < 8) (hw : w < 16) (hik : ¬ ink c = 0) : ∃ (r : Bool) (dread' ink' tries' now' : Nat → Int32), f_X8_tryWord dread ink other tries (nI c) (nI w) = some (bI r, dread', ink', tries') ∧ (∀ (G st2 : Nat → Int32) (fe pi mu wr : Int32), f_X12_writes_b163 rhymeOf (nI w) G (upd (upd now (24 + c) (ink c - 1)) (160 + (16 * c + w)) (tries (16 * c + w) + 1)) st2 (nI c) fe pi mu wr (16 * nI c + nI w) = some (G, now', st2, nI c, fe, pi, (if r then mu + 1 else mu), wr)) ∧ RShelf dread' ink' kind salt tries' day nerve pictures told written x now' := by
  obtain ⟨-, -, -, -, -, ⟨ik, hikb, eik⟩⟩ := hS.2.1 c hc
  obtain ⟨-, -, -, ⟨tk, htk, etk⟩⟩ := hS.2.2.1 (16 * c + w) (by omega)
  have hik1 : 1 ≤ ik := by
    rcases Nat.eq_zero_or_pos ik with e | e
    · subst e; exact absurd eik hik
    · exact e
  have ei : ink c - 1 = nI (ik - 1) := by rw [eik, show (1 : Int32) = nI 1 from rfl, pk_sub hik1]
  have emx : mxI 0 (nI (ik - 1)) = nI (ik - 1) := by
    unfold mxI
    by_cases q : (0 : Int32) < nI (ik - 1)
    · rw [if_pos q]
    · rw [if_neg q]
      rw [show (0 : Int32) = nI 0 from rfl, nlt (by omega) (by omega)] at q
      rw [show ik - 1 = 0 by omega]; rfl
  have e2 : (160 : Int32) + (16 * nI c + nI w) = nI (160 + (16 * c + w)) := by rw [show (160 : Int32) = nI 160 from rfl, show (16 : Int32) = nI 16 from rfl, pk_mul, nI_add, nI_add]
  have hI := hS.ink (v := nI (ik - 1)) ⟨ik - 1, by omega, rfl⟩ hc
  have htry : f_X8_tryWord dread ink other tries (nI c) (nI w) = if (9 : Int32) ≤ nI (tk + 1) then bd2 (f_X8_makeUsed dread other (upd tries (16 * c + w) (nI (tk + 1))) (nI c) (nI w)) (fun w6 w7 => some (1, w6, upd ink c (nI (ik - 1)), w7)) else some (0, dread, upd ink c (nI (ik - 1)), upd tries (16 * c + w) (nI (tk + 1))) := by
    unfold f_X8_tryWord f_X8_setInk
    rw [f_ink8 hc, bd1_s, ei, emx, and7 c hc, sI_n (by omega) (by omega), bd1_s, f_tries8 hc hw, bd1_s, f_setTries8 hc hw, bd1_s, f_tries8 hc hw, bd1_s, pk_us, etk, nI_1]
  by_cases h9 : tk + 1 < 9
  · refine ⟨false, dread, upd ink c (nI (ik - 1)), upd tries (16 * c + w) (nI (tk + 1)), upd (upd now (24 + c) (nI (ik - 1))) (160 + (16 * c + w)) (nI (tk + 1)), ?_, fun G st2 fe pi mu wr => ?_, hI.uTries ⟨tk + 1, by omega, rfl⟩ (by omega)⟩
    · rw [htry, if_neg (by rw [show (9 : Int32) = nI 9 from rfl, nle (by omega) (by omega)]; omega)]; rfl
    · unfold f_X12_writes_b163
      rw [e2, gI_n (by omega) (by omega), pk_us, ei, etk, nI_1, if_neg (by rw [show (9 : Int32) = nI 9 from rfl, nle (by omega) (by omega)]; omega)]; rfl
  · obtain ⟨dread', tries', now', u1, u2, u3⟩ := used_sim hI hg hc hw
    refine ⟨true, dread', upd ink c (nI (ik - 1)), tries', now', ?_, fun G st2 fe pi mu wr => ?_, u3⟩
    · rw [htry, if_pos (by rw [show (9 : Int32) = nI 9 from rfl, nle (by omega) (by omega)]; omega), u1, bd2_s]; rfl
    · unfold f_X12_writes_b163
      rw [e2, gI_n (by omega) (by omega), pk_us, ei, etk, nI_1, if_pos (by rw [show (9 : Int32) = nI 9 from rfl, nle (by omega) (by omega)]; omega), u2, bd1_s]; rfl
theorem cnt_I {p : Nat} (hp : p ≤ 9999) : mnI (nI p + 1) 9999 = nI (min (p + 1) 9999) ∧ f_X12_min 9999 (nI p + 1) = some (nI (min (p + 1) 9999)) := by
  rw [nI_1, show (9999 : Int32) = nI 9999 from rfl, mn_nI (by omega) (by omega), f_min12 (by omega) (by omega), Nat.min_comm 9999]
  exact ⟨rfl, rfl⟩
def CE (mu pi wr mu2 pi2 wr2 : Int32) : Prop := mu = mu2 ∧ pi = pi2 ∧ wr = wr2
theorem word_sim (hS : RShelf dread ink kind salt tries day nerve pictures told written x now) (hg : ∀ w, w < 16 → g w < 16 ∧ g (g w) = w ∧ other w = nI (g w) ∧ rhymeOf w = nI (g w)) (hW : RLaw code letters valueFrom testFrom testEnd rules codes clauseOf codeFrom codeHalf codeTo clauses) {w : Nat} (hw : w < 16) (pl : Int32) (F st : Nat → Int32) (h rf cf mu pi wr : Int32) (G st2 : Nat → Int32) (ch0 f0 mu2 pi2 wr2 : Int32) :
    ∃ r1 x' F3 dread' ink' tries' F' st' pictures' written' h' rf' cf' mu' pi' wr' G' now' st2' ch' fe' mu2' pi2' wr2', f_X8_draw x = some (r1, x') ∧ f_X1_lookAtPlace F pl day r1 = some F3 ∧ f_X7_writeWord dread ink kind other salt tries code F3 letters st testEnd testFrom valueFrom nerve pictures told written h rf rules cf mu pi wr (nI w) = some (dread', ink', tries', F', st', pictures', written', h', rf', cf', mu', pi', wr') ∧ f_X12_writes clauseOf codeFrom codeHalf codeTo codes G now rhymeOf st2 ch0 clauses f0 pi2 mu2 wr2 (nI w) pl = some (G', now', st2', ch', fe', pi2', mu2', wr2') ∧ RShelf dread' ink' kind salt tries' day nerve pictures' told written' x' now' ∧ (CE mu pi wr mu2 pi2 wr2 → CE mu' pi' wr' mu2' pi2' wr2') := by
  obtain ⟨-, -, -, ⟨en, -⟩, ⟨ep, ⟨pk, hpk, epk⟩⟩, ⟨ew, ⟨wk, hwk, ewk⟩⟩, ⟨ed, -⟩, ⟨ex, ⟨xk, hxk, exk⟩⟩⟩ := id hS
  have hxl : (25173 * xk + 13849) % 65536 < 65536 := Nat.mod_lt _ (by omega)
  have hS1 := hS.x (v := nI ((25173 * xk + 13849) % 65536)) ⟨_, by omega, rfl⟩
  have hdraw : f_X8_draw x = some (nI ((25173 * xk + 13849) % 65536) - nI ((25173 * xk + 13849) % 65536) / 10 * 10, nI ((25173 * xk + 13849) % 65536)) := by
    unfold f_X8_draw
    rw [exk, f_fol8, bd1_s, rI_n (by decide)]
  have hlook : ∀ r1 : Int32, f_X1_lookAtPlace F pl day r1 = some (upd (upd (upd F 7 pl) 8 (day - day / 100 * 100)) 9 r1) := by
    intro r1
    unfold f_X1_lookAtPlace
    rw [sI_c (c := 7) (k := 7) rfl (by omega) (by omega), rI_n (by decide), sI_c (c := 8) (k := 8) rfl (by omega) (by omega), sI_c (c := 9) (k := 9) rfl (by omega) (by omega)]
  generalize hr1 : nI ((25173 * xk + 13849) % 65536) - nI ((25173 * xk + 13849) % 65536) / 10 * 10 = r1 at hdraw
  obtain ⟨ch', F', st', h', rf', cf', G', st2', fe', c1, c2, c3⟩ := choose_sim hS1 hg hW hw pl r1 8 0 FU FU (upd (upd (upd F 7 pl) 8 (day - day / 100 * 100)) 9 r1) st h rf cf (-1) 0 G st2 1000000 0 (by omega) (FU_gt (by omega)) (FU_gt (by omega)) (by simp [upd]) (by rw [show upd now 292 (nI ((25173 * xk + 13849) % 65536)) 291 = day from by rw [pk_un (by omega)]; exact ed.symm]; simp [upd]) (by simp [upd]) (by omega) rfl (Or.inl ⟨rfl, rfl⟩)
  have c1' : f_X7_choose dread ink kind other salt tries code (upd (upd (upd F 7 pl) 8 (day - day / 100 * 100)) 9 r1) letters st testEnd testFrom valueFrom told h rf rules cf (nI w) = some (ch', F', st', h', rf', cf') := c1
  have c2' : f_X12_choosesFor clauseOf codeFrom codeHalf codeTo codes G (upd now 292 (nI ((25173 * xk + 13849) % 65536))) rhymeOf st2 ch0 clauses f0 (nI w) pl r1 = some (G', st2', ch', fe') := c2
  have hww : ∀ (pi mu wr : Int32), f_X12_writes clauseOf codeFrom codeHalf codeTo codes G now rhymeOf st2 ch0 clauses f0 pi mu wr (nI w) pl = if ch' = -1 then bd2 (f_X12_beadsUp (upd now 292 (nI ((25173 * xk + 13849) % 65536))) pi) (fun w22 w23 => some (G', w22, st2', ch', fe', w23, mu, wr)) else gI 293 (upd now 292 (nI ((25173 * xk + 13849) % 65536))) ((24 : Int32) + ch') (fun g12 => sI 293 (upd now 292 (nI ((25173 * xk + 13849) % 65536))) ((24 : Int32) + ch') (g12 - (1 : Int32)) (fun w13 => gI 293 w13 ((160 : Int32) + (((16 : Int32) * ch') + nI w)) (fun g14 => sI 293 w13 ((160 : Int32) + (((16 : Int32) * ch') + nI w)) (g14 + (1 : Int32)) (fun w15 => gI 293 w15 (288 : Int32) (fun g16 => if g16 < fe' then bd2 (f_X12_beadsUp w15 pi) (fun w17 w18 => f_X12_writes_b163 rhymeOf (nI w) G' w17 st2' ch' fe' w18 mu wr (((16 : Int32) * ch') + nI w)) else gI 293 w15 (290 : Int32) (fun g19 => bd1 (f_X12_min (9999 : Int32) (g19 + (1 : Int32))) (fun r20 => sI 293 w15 (290 : Int32) r20 (fun w21 => f_X12_writes_b163 rhymeOf (nI w) G' w21 st2' ch' fe' pi mu (wr + (1 : Int32)) (((16 : Int32) * ch') + nI w))))))))) := by
    intro pi mu wr
    unfold f_X12_writes
    rw [gI_c (c := 292) (k := 292) rfl (by omega) (by omega), ← ex, exk, f_lot12 (by omega), bd1_s, sI_c (c := 292) (k := 292) rfl (by omega) (by omega), gI_c (c := 292) (k := 292) rfl (by omega) (by omega), pk_us, rI_n (by decide), hr1, c2', bd4_s]
  have hbead : ∀ (A : Nat → Int32) (pi : Int32), A 289 = pictures → f_X12_beadsUp A pi = some (upd A 289 (nI (min (pk + 1) 9999)), pi + 1) := by
    intro A pi hA
    unfold f_X12_beadsUp
    rw [gI_c (c := 289) (k := 289) rfl (by omega) (by omega), hA, epk, (cnt_I hpk).2, bd1_s, sI_c (c := 289) (k := 289) rfl (by omega) (by omega)]
  have hp1 : upd now 292 (nI ((25173 * xk + 13849) % 65536)) 289 = pictures := by rw [pk_un (by omega)]; exact ep.symm
  rcases c3 with e | ⟨c, hc, e, hcf, hci⟩
  · subst e
    refine ⟨r1, _, _, dread, ink, tries, F', st', nI (min (pk + 1) 9999), written, h', rf', cf', mu, pi + 1, wr, G', _, st2', -1, fe', mu2, pi2 + 1, wr2, hdraw, hlook r1, ?_, ?_, hS1.uPict ⟨_, by omega, rfl⟩, fun ⟨q1, q2, q3⟩ => ⟨q1, by rw [q2], q3⟩⟩
    · unfold f_X7_writeWord f_X7_writeWord_b30 f_X7_writeWord_b31 f_X7_writeWord_b67 f_X7_writeWord_b93 f_X8_countWord f_X8_countWord_b39
      rw [c1', bd6_s, if_pos rfl, if_pos rfl, bd2_s, if_pos rfl, if_pos rfl, epk, (cnt_I hpk).1]
    · rw [hww, if_pos rfl, hbead _ _ hp1, bd2_s]
  · subst e
    subst hcf
    obtain ⟨-, -, -, -, ei, -⟩ := hS.2.1 c hc
    obtain ⟨-, -, et, -⟩ := hS.2.2.1 (16 * c + w) (by omega)
    have hA : ∀ (pi mu wr : Int32), f_X12_writes clauseOf codeFrom codeHalf codeTo codes G now rhymeOf st2 ch0 clauses f0 pi mu wr (nI w) pl = if nerve < cf' then f_X12_writes_b163 rhymeOf (nI w) G' (upd (upd (upd (upd now 292 (nI ((25173 * xk + 13849) % 65536))) (24 + c) (ink c - 1)) (160 + (16 * c + w)) (tries (16 * c + w) + 1)) 289 (nI (min (pk + 1) 9999))) st2' (nI c) cf' (pi + 1) mu wr (16 * nI c + nI w) else f_X12_writes_b163 rhymeOf (nI w) G' (upd (upd (upd (upd now 292 (nI ((25173 * xk + 13849) % 65536))) (24 + c) (ink c - 1)) (160 + (16 * c + w)) (tries (16 * c + w) + 1)) 290 (nI (min (wk + 1) 9999))) st2' (nI c) cf' pi mu (wr + 1) (16 * nI c + nI w) := by
      intro pi mu wr
      have e2 : (160 : Int32) + (16 * nI c + nI w) = nI (160 + (16 * c + w)) := by rw [show (160 : Int32) = nI 160 from rfl, show (16 : Int32) = nI 16 from rfl, pk_mul, nI_add, nI_add]
      rw [hww, if_neg (nI_m1 (by omega)), e2, show (24 : Int32) + nI c = nI (24 + c) from nI_add 24 c, gI_n (by omega) (by omega), sI_n (by omega) (by omega), pk_un (by omega), ← ei, gI_n (by omega) (by omega), pk_un (by omega), pk_un (by omega), ← et, sI_n (by omega) (by omega), gI_c (c := 288) (k := 288) rfl (by omega) (by omega), pk_un (by omega), pk_un (by omega), pk_un (by omega), ← en]
      have h289 : upd (upd (upd now 292 (nI ((25173 * xk + 13849) % 65536))) (24 + c) (ink c - 1)) (160 + (16 * c + w)) (tries (16 * c + w) + 1) 289 = pictures := by rw [pk_un (by omega), pk_un (by omega)]; exact hp1
      rw [hbead _ _ h289, bd2_s, gI_c (c := 290) (k := 290) rfl (by omega) (by omega), pk_un (by omega), pk_un (by omega), pk_un (by omega), ← ew, ewk, (cnt_I hwk).2, bd1_s, sI_c (c := 290) (k := 290) rfl (by omega) (by omega)]
    by_cases hn : nerve < cf'
    · have hC := hS1.uPict (v := nI (min (pk + 1) 9999)) ⟨_, by omega, rfl⟩
      obtain ⟨r, dread', ink', tries', now', t1, t2, t3⟩ := try_sim hC hg hc hw hci
      refine ⟨r1, _, _, dread', ink', tries', F', st', nI (min (pk + 1) 9999), written, h', rf', cf', (if r then mu + 1 else mu), pi + 1, wr, G', now', st2', nI c, cf', (if r then mu2 + 1 else mu2), pi2 + 1, wr2, hdraw, hlook r1, ?_, ?_, t3, fun ⟨q1, q2, q3⟩ => ⟨by rw [q1], by rw [q2], q3⟩⟩
      · unfold f_X7_writeWord f_X7_writeWord_b30 f_X7_writeWord_b31 f_X7_writeWord_b67 f_X7_writeWord_b93 f_X8_countWord f_X8_countWord_b39
        rw [c1', bd6_s, if_neg (nI_m1 (by omega)), if_pos hn, if_pos rfl, bd2_s, if_pos rfl, if_neg (nI_m1 (by omega)), t1, bd4_s, ite_bI, epk, (cnt_I hpk).1]
        cases r <;> rfl
      · rw [hA, if_pos hn, fa_upd_swap _ (show 160 + (16 * c + w) ≠ 289 by omega), fa_upd_swap _ (show 24 + c ≠ 289 by omega), t2]
    · have hC := hS1.uWrit (v := nI (min (wk + 1) 9999)) ⟨_, by omega, rfl⟩
      obtain ⟨r, dread', ink', tries', now', t1, t2, t3⟩ := try_sim hC hg hc hw hci
      refine ⟨r1, _, _, dread', ink', tries', F', st', pictures, nI (min (wk + 1) 9999), h', rf', cf', (if r then mu + 1 else mu), pi, wr + 1, G', now', st2', nI c, cf', (if r then mu2 + 1 else mu2), pi2, wr2 + 1, hdraw, hlook r1, ?_, ?_, t3, fun ⟨q1, q2, q3⟩ => ⟨by rw [q1], q2, by rw [q3]⟩⟩
      · unfold f_X7_writeWord f_X7_writeWord_b31 f_X7_writeWord_b67 f_X7_writeWord_b93 f_X8_countWord f_X8_countWord_b39
        rw [c1', bd6_s, if_neg (nI_m1 (by omega)), if_neg hn, if_neg one_ne, bd2_s, if_neg one_ne, if_neg (nI_m1 (by omega)), t1, bd4_s, ite_bI, ewk, (cnt_I hwk).1]
        cases r <;> rfl
      · rw [hA, if_neg hn, fa_upd_swap _ (show 160 + (16 * c + w) ≠ 290 by omega), fa_upd_swap _ (show 24 + c ≠ 290 by omega), t2]
end WS
