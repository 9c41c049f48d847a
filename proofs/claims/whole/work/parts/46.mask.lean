/-! calls, with the new world by a mask: quicker to unify where the world is long -/
def x_pm : List (Option Nat) → va_W → va_W → va_W
  | none :: ms, q :: ws, w1 => q :: x_pm ms ws w1
  | some j :: ms, q :: ws, w1 => w1.getD j q :: x_pm ms ws w1
  | _, ws, _ => ws
def x_mk (ms : List (Option Nat)) (is : List Nat) : Bool := is.all (fun i => ms[i]? != some none && decide (i < ms.length))
theorem x_pm_at : ∀ {ms : List (Option Nat)} {ws w1 : va_W} {k : Nat} {q : Nat × va_E}, (x_pm ms ws w1)[k]? = some q → (∃ j : Nat, w1[j]? = some q) ∨ (ws[k]? = some q ∧ (ms[k]? = some none ∨ ms.length ≤ k ∨ ∃ j : Nat, ms[k]? = some (some j) ∧ w1[j]? = none)) := by
  intro ms
  induction ms with
  | nil =>
    intro ws w1 k q h
    rw [x_pm] at h
    · exact Or.inr ⟨h, Or.inr (Or.inl (Nat.zero_le _))⟩
    · intro _ _ _ h1; cases h1
    · intro _ _ _ _ h1; cases h1
  | cons m ms ih =>
    intro ws w1 k q h
    cases ws with
    | nil =>
      rw [x_pm] at h
      · simp at h
      · intro _ _ _ _ h1; cases h1
      · intro _ _ _ _ _ h1; cases h1
    | cons q0 ws =>
      cases m with
      | none =>
        rw [x_pm] at h
        cases k with
        | zero => exact Or.inr ⟨by simpa using h, Or.inl (by simp)⟩
        | succ k =>
          rcases ih (by simpa using h) with h1 | ⟨h1, h2⟩
          · exact Or.inl h1
          · exact Or.inr ⟨by simpa using h1, by simpa using h2⟩
      | some j =>
        rw [x_pm] at h
        cases k with
        | zero =>
          cases hj : w1[j]? with
          | none =>
            have e : w1.getD j q0 = q0 := by simp [List.getD, hj]
            rw [e] at h
            exact Or.inr ⟨by simpa using h, Or.inr (Or.inr ⟨j, by simp, hj⟩)⟩
          | some v =>
            have e : w1.getD j q0 = v := by simp [List.getD, hj]
            rw [e] at h
            have h2 : v = q := by simpa using h
            exact Or.inl ⟨j, by rw [hj, h2]⟩
        | succ k =>
          rcases ih (by simpa using h) with h1 | ⟨h1, h2⟩
          · exact Or.inl h1
          · exact Or.inr ⟨by simpa using h1, by simpa using h2⟩
/-- every 'some j' of the mask is a place of w1 -/
def x_mj (ms : List (Option Nat)) (n : Nat) : Bool := ms.all (fun o => match o with | none => true | some j => decide (j < n))
theorem x_pm_P {A0 : Nat → Prop} {D : va_G} {cl : List vw_C} {ws w1 : va_W} {H H1 : Heap} (hP : va_P D cl ws H) (hD : va_D A0 ws) (is : List Nat) (ms : List (Option Nat)) (hl : (x_pick ws is).length = is.length) (hm : x_mk ms is = true) (hj : x_mj ms w1.length = true)
    (hk : ∀ q : Nat, q < H.size → ¬ va_A (x_pick ws is) H.size q → H1[q]? = H[q]?) (hP1 : va_P D cl w1 H1) : va_P D cl (x_pm ms ws w1) H1 := by
  intro k q hq
  rcases x_pm_at hq with ⟨j, hj⟩ | ⟨h1, h2⟩
  · exact hP1 j q hj
  · have hlt := (hP k q h1).lt
    refine (hP k q h1).kept (hk q.1 hlt ?_)
    rintro (⟨k2, e, h⟩ | h)
    · obtain ⟨i, h3, h4⟩ := x_pick_at hl k2 (q.1, e) h
      have hki := hD.1 k i q (q.1, e) h1 h4 rfl
      subst hki
      have h5 := List.all_eq_true.mp hm k (List.mem_of_getElem? h3)
      simp only [Bool.and_eq_true, decide_eq_true_eq, bne_iff_ne, ne_eq] at h5
      rcases h2 with h2 | h2 | ⟨j, h2, h6⟩
      · exact h5.1 h2
      · omega
      · have h7 := List.all_eq_true.mp hj _ (List.mem_of_getElem? h2)
        simp only [decide_eq_true_eq] at h7
        rw [List.getElem?_eq_some_iff.mpr ⟨h7, rfl⟩] at h6
        cases h6
    · omega
section XMk
variable {p : Program} {l : Launch} {e : Env} {R : Room} {s : State} {m : MethodId} {args : Array Value} {below : List Frame} {meth : Method} {c : Code} {H : Heap} {locs : List Loc} {cells slots : Nat} {Q : State → Prop}
variable {cc : ByteArray} {pc nL : Nat} {ls : Array Slot} {rest st : List Value} {D : va_G} {A : Nat → Prop} {ws ws' wc w1 : va_W} {cI cB : ClassId} {own : String}
variable {y : MethodName} {bytes : ByteArray} {maxL n index fr lo : Nat} {ret : Option FieldType} {b : Addr} {As : List Value} {r : Int32} {lv : List (Nat × Value)}
theorem x_callMI (C : Cx p m c cc nL s args own) (hK : KU D cI cB A s) (hP : va_P D vwCl ws H) (hD : va_D A ws) (hS : va_S A s.heap H locs) (hA : ∀ q, s.heap.size ≤ q → A q) (hl : lv_has ls nL lv)
    (M : MfV own index y bytes maxL ret n) (ct : CtI l D cI cB y bytes maxL ret fr lo (.ref b :: As) wc w1 r) (is : List Nat) (ms : List (Option Nat)) (q0 ci : Nat) {fs : List Value} {T : u_T} {N : Nat}
    (hC : x_pick ws is = wc) (hn : va_nd is = true) (hl0 : wc.length = is.length) (hm : x_mk ms is = true) (hj : x_mj ms w1.length = true) (hw : x_pm ms ws w1 = ws') (hadr : ws'.map Prod.fst = ws.map Prod.fst)
    (he : wc[q0]? = some (b, .inr (ci, fs))) (hcl : vwCl[ci]? = some (y.cls, T, N)) (hst : st = As.reverse ++ .ref b :: rest) (hnA : As.length = n) (hrm : (rest.map fun v => v.category).sum ≤ 8) (hfr : fr + 1 ≤ R.frames ∧ 8 + (maxL + 11) + lo ≤ R.locals) (hf : cells ≤ R.cells ∧ slots ≤ R.slots) (hdg : decode cc pc = .ok (.invokevirtual index, 3))
    (kk : ∀ (H1 : Heap) (locs1 : List Loc), va_P D vwCl ws' H1 → va_D A ws' → va_S A s.heap H1 locs1 → W p l e R s m args below meth c H1 locs1 cells slots Q (F0 m (pc + 3) ls (.int r :: rest))) : W p l e R s m args below meth c H locs cells slots Q (F0 m pc ls st) := by
  subst hC
  have hPc := x_pick_P hP is hl0
  have hDc := x_pick_D hD is hl0 hn
  have hFc := x_pick_F hD hS hA is hl0
  refine va_calli (x_runV (g := F0 m pc ls st) (rest := rest) C hK.2.1 M (ct H.size) rfl rfl hfr ⟨PreW.blind, va_recv hK.1 hPc hcl he, fun U hU hW => ⟨rfl, by rw [hU], by rw [hU]; exact hPc, hK.call hW hS hU hFc, hDc⟩⟩ rfl hnA hl.1 hst (lv_room hrm) hdg hf) hS (fun q _ h => hFc q h) hFc (fun r' u t H1 locs1 ht hvm hr hB hz1 hk1 hS1 => ?_)
  obtain ⟨hP1, hD1⟩ := hB
  subst hr
  subst hw
  rw [ht] at hP1
  exact kk H1 locs1 (x_pm_P hP hD is ms hl0 hm hj hk1 hP1) (x_dadr hadr hD) hS1
end XMk
