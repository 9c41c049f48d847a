/-! constructors -/
def CtC {S : Type} (l : Launch) (D : va_G) (cI cB : ClassId) (y : MethodName) (bytes : ByteArray) (maxL fr lo mc ms : Nat) (av : List Value) (w0 : va_W) (w1 : S → va_W) : Prop :=
  ∀ sz, Met l y (.code y bytes maxL none :: TB) { frames := fr, cells := mc, slots := ms, locals := lo } (PreW D cI cB av w0 sz) (va_Qv (fun (_ : S) => True) (fun u t => va_P D vwCl (w1 u) t.heap ∧ va_D (va_A w0 sz) (w1 u)) (va_A w0 sz)) mc ms (va_A w0 sz)
theorem x_startC {S : Type} {l : Launch} {D : va_G} {cI cB : ClassId} {y : MethodName} {bytes : ByteArray} {maxL fr lo mc ms : Nat} {av : List Value} {w0 : va_W} {w1 : S → va_W} (hy : plainName y.cls = true) (hyn : y.name = "<init>") (hav : (lg_sl av).length ≤ maxL)
    (body : ∀ (p : Program) (e : Env) (s : State) (m : MethodId) (below : List Frame) (meth : Method) (c : Code) (A : Nat → Prop), Cx p m c bytes maxL s av.toArray y.cls → meth.sig.returnType = none → meth.locks = false → meth.name = "<init>" → (∀ q, s.heap.size ≤ q → A q) → KU D cI cB A s → va_P D vwCl w0 s.heap → va_D A w0 → va_S A s.heap s.heap [] → ∀ ls, lv_has ls maxL (lv_args 0 av) →
      W p l e { frames := fr, cells := mc, slots := ms, locals := lo } s m av.toArray below meth c s.heap [] 0 0 (MQ below (va_Qv (fun (_ : S) => True) (fun u t => va_P D vwCl (w1 u) t.heap ∧ va_D A (w1 u)) A) av.toArray s mc ms A) (F0 m 0 ls [])) : CtC l D cI cB y bytes maxL fr lo mc ms av w0 w1 := by
  intro sz
  refine Met.ofW (cc := bytes) (maxL := maxL) (ret := none) hy rfl ?_
  intro p e s m args below meth c s₁ B hml hv
  obtain ⟨rfl, hsz, hP, hK, hD0⟩ := hv
  subst hsz
  have hts := atoms_spec (ws := Cond.code y bytes maxL none :: TB) B.pre
  have hl := lv_entry av (n := maxL) hav
  rw [lg_entry_eq]
  exact body p e s m below meth c (va_A w0 s.heap.size) ⟨B.exec, B.bytes, hml, findClass_of_methodNamed B.named, fun w hw => hts w (List.mem_cons_of_mem _ hw)⟩ B.returns B.notSynchronized ((name_of_methodNamed B.named B.method).1.trans hyn) (fun q h => Or.inr h) hK hP hD0.self va_S.rf _ hl
def XFdF (own : String) (index ci k : Nat) (ty : FieldType) : Prop := ∃ C T N ty0, Lay ci C T N ty0 ∧ k < N ∧ Cond.fieldLink own index (T k).1 (T k).2.1 (T k).2.2.1 ∈ TB ∧ (T k).2.2.2 = true ∧ (T k).1 = own ∧ parseFieldDescriptor (T k).2.2.1 = some ty
def MfC (own : String) (index : Nat) (y : MethodName) (bytes : ByteArray) (maxL n : Nat) : Prop := Mf own index y bytes maxL none n ∧ y.name = "<init>" ∧ Cond.instanceMethod y ∈ TB
def Nw (own : String) (index ci : Nat) : Prop := ∃ C T N ty0, Lay ci C T N ty0 ∧ Cond.classLink own index C ∈ TB ∧ Cond.instantiable C N ∈ TB ∧ Cond.initialized C ∈ TB
theorem k_oin : Cond.instanceMethod objectInit ∈ TB := tb_t 28 (by decide +kernel) rfl
theorem k_oco : Cond.code objectInit ⟨#[0xb1]⟩ 1 none ∈ TB := tb_t 29 (by decide +kernel) rfl
theorem k_arI : Cond.arrayClass .int ∈ TB := tb_t 57 (by decide +kernel) rfl
theorem k_arB : Cond.arrayClass .byte ∈ TB := tb_t 657 (by decide +kernel) rfl
section XK
variable {p : Program} {l : Launch} {e : Env} {R : Room} {s : State} {m : MethodId} {args : Array Value} {below : List Frame} {meth : Method} {c : Code} {H : Heap} {locs : List Loc} {cells slots : Nat} {Q : State → Prop}
variable {cc : ByteArray} {pc nL : Nat} {ls : Array Slot} {rest st : List Value} {D : va_G} {A : Nat → Prop} {a : Nat} {ws : va_W} {cI cB : ClassId} {own : String} {lv : List (Nat × Value)} {index : Nat}
theorem x_obj (C : Cx p m c cc nL s args own) (hl : lv_has ls nL lv) (M : Cond.methodLink own index objectInit ∈ TB) (hframes : 1 ≤ R.frames) (hlocals : (rest.map fun v => v.category).sum + 12 ≤ R.locals) (hdg : decode cc pc = .ok (.invokespecial index, 3))
    (kk : W p l e R s m args below meth c H locs cells slots Q (F0 m (pc + 3) ls rest)) : W p l e R s m args below meth c H locs cells slots Q (F0 m pc ls (.ref a :: rest)) := by
  obtain ⟨hx, hb, hml, hown, hts⟩ := C
  exact W.objInit hx hb hown (hts _ M) (hts _ k_oin) (hts _ k_oco) rfl (by rw [hml]; exact hl.1) rfl hdg hframes (by show 2 * 0 + _ + 12 ≤ _; omega) kk
theorem x_putF {ci k : Nat} {ty : FieldType} (C : Cx p m c cc nL s args own) (hin2 : meth.name = "<init>") (hK : KU D cI cB A s) (hP : va_P D vwCl ws H) (hD : va_D A ws) (hS : va_S A s.heap H locs) (F : XFdF own index ci k ty) (q0 : Nat) {fs : List Value} {v : Value} {ws' : va_W} (he : ws[q0]? = some (a, .inr (ci, fs))) (hn : narrow ty v = v) (hfit : fits ty v = true) (hl : k < fs.length) (hw : ws.set q0 (a, .inr (ci, fs.set k v)) = ws') (hdg : decode cc pc = .ok (.putfield index, 3))
    (kk : ∀ (H1 : Heap) (locs1 : List Loc), va_P D vwCl ws' H1 → va_D A ws' → va_S A s.heap H1 locs1 → W p l e R s m args below meth c H1 locs1 cells slots Q (F0 m (pc + 3) ls rest)) : W p l e R s m args below meth c H locs cells slots Q (F0 m pc ls (v :: .ref a :: rest)) := by
  obtain ⟨Cn, T, N, ty0, ⟨hc, hin, hty, hnm⟩, hk, hlk, hfin, hdecl, hd⟩ := F
  obtain ⟨hx, hb, hml, hown, hts⟩ := C
  subst hw
  exact va_putF hx hb hts hin ty0 hty hnm hown hK.1 hP hD hS q0 he hc k hk (hts _ hlk) (fun _ h => h) hfin hin2 hdecl hd hn hfit hl hdg kk
theorem x_newI (C : Cx p m c cc nL s args own) (hK : KU D cI cB A s) (hP : va_P D vwCl ws H) (hD : va_D A ws) (hS : va_S A s.heap H locs) (hA : ∀ q, s.heap.size ≤ q → A q) {n : Int32} (N : Nat) {k2 n2 : Nat} (hn : ¬ n < 0) (hN : n.toNatClampNeg = N) (hbytes : N * 4 ≤ 536870912) (hc : cells + 1 ≤ k2) (hs : slots + N ≤ n2) (hcells : k2 ≤ R.cells) (hslots : n2 ≤ R.slots) (hdg : decode cc pc = .ok (.newarray .int, 2))
    (kk : ∀ (q : Nat) (H1 : Heap), va_P D vwCl (ws ++ [iA cI N q (fun _ => 0)]) H1 → va_D A (ws ++ [iA cI N q (fun _ => 0)]) → va_S A s.heap H1 locs → W p l e R s m args below meth c H1 locs k2 n2 Q (F0 m (pc + 2) ls (.ref q :: rest))) : W p l e R s m args below meth c H locs cells slots Q (F0 m pc ls (.int n :: rest)) := by
  obtain ⟨hx, hb, hml, hown, hts⟩ := C
  refine va_newa (atype := .int) (a0 := (N, .inl (fun _ => 0))) hx hb (hts _ k_arI) rfl hK.1 hP hD hS hA (fun cA => rfl) hn hN hbytes (Nat.le_trans hc hcells) (Nat.le_trans hs hslots) hdg (fun q cA H1 hK1 hP1 hD1 hS1 => ?_)
  have e1 := (hK1.2 2 (cA, .int) rfl).2
  have e2 := (hK1.2 0 (cI, .int) rfl).2
  have hcc : cA = cI := Option.some.inj (Eq.trans (Eq.symm e1) e2)
  subst hcc
  exact W.widen hc hs (kk q H1 hP1 hD1 hS1)
theorem x_newB (C : Cx p m c cc nL s args own) (hK : KU D cI cB A s) (hP : va_P D vwCl ws H) (hD : va_D A ws) (hS : va_S A s.heap H locs) (hA : ∀ q, s.heap.size ≤ q → A q) {n : Int32} (N : Nat) {k2 n2 : Nat} (hn : ¬ n < 0) (hN : n.toNatClampNeg = N) (hbytes : N * 1 ≤ 536870912) (hc : cells + 1 ≤ k2) (hs : slots + N ≤ n2) (hcells : k2 ≤ R.cells) (hslots : n2 ≤ R.slots) (hdg : decode cc pc = .ok (.newarray .byte, 2))
    (kk : ∀ (q : Nat) (H1 : Heap), va_P D vwCl (ws ++ [iA cB N q (fun _ => 0)]) H1 → va_D A (ws ++ [iA cB N q (fun _ => 0)]) → va_S A s.heap H1 locs → W p l e R s m args below meth c H1 locs k2 n2 Q (F0 m (pc + 2) ls (.ref q :: rest))) : W p l e R s m args below meth c H locs cells slots Q (F0 m pc ls (.int n :: rest)) := by
  obtain ⟨hx, hb, hml, hown, hts⟩ := C
  refine va_newa (atype := .byte) (a0 := (N, .inl (fun _ => 0))) hx hb (hts _ k_arB) rfl hK.1 hP hD hS hA (fun cA => rfl) hn hN hbytes (Nat.le_trans hc hcells) (Nat.le_trans hs hslots) hdg (fun q cA H1 hK1 hP1 hD1 hS1 => ?_)
  have e1 := (hK1.2 2 (cA, .byte) rfl).2
  have e2 := (hK1.2 1 (cB, .byte) rfl).2
  have hcc : cA = cB := Option.some.inj (Eq.trans (Eq.symm e1) e2)
  subst hcc
  exact W.widen hc hs (kk q H1 hP1 hD1 hS1)
theorem x_new {ci : Nat} (C : Cx p m c cc nL s args own) (hK : KU D cI cB A s) (hP : va_P D vwCl ws H) (hD : va_D A ws) (hS : va_S A s.heap H locs) (hA : ∀ q, s.heap.size ≤ q → A q) {T : u_T} {N : Nat} {ty0 : Nat → FieldType} {Cn : String} (L : Lay ci Cn T N ty0) (h1 : Cond.classLink own index Cn ∈ TB) (h2 : Cond.instantiable Cn N ∈ TB) (h3 : Cond.initialized Cn ∈ TB) {fs : List Value} (hfs : ∀ j, j < N → defaultValue (ty0 j) = vp_V fs j) {k2 n2 : Nat} (hc : cells + 1 ≤ k2) (hs : slots + N ≤ n2) (hcells : k2 ≤ R.cells) (hslots : n2 ≤ R.slots) (hdg : decode cc pc = .ok (.new index, 3))
    (kk : ∀ (q : Nat) (H1 : Heap), va_P D vwCl (ws ++ [(q, .inr (ci, fs))]) H1 → va_D A (ws ++ [(q, .inr (ci, fs))]) → va_S A s.heap H1 locs → W p l e R s m args below meth c H1 locs k2 n2 Q (F0 m (pc + 3) ls (.ref q :: rest))) : W p l e R s m args below meth c H locs cells slots Q (F0 m pc ls rest) := by
  obtain ⟨hx, hb, hml, hown, hts⟩ := C
  exact va_new hx hb hts L.2.1 ty0 L.2.2.1 hown (hts _ h1) (hts _ h2) (hts _ h3) hK.1 hP hD hS hA L.1 hfs (Nat.le_trans hc hcells) (Nat.le_trans hs hslots) hdg (fun q H1 hP1 hD1 hS1 => W.widen hc hs (kk q H1 hP1 hD1 hS1))
theorem x_runC {y : MethodName} {bytes : ByteArray} {maxL mc ms n : Nat} {rm : Room} {Pc : Array Value → State → Prop} {Qc : Array Value → State → Outcome → State → Prop} {free : Addr → Prop} {b : Addr} {As : List Value} {g : JFrame} (C : Cx p m c cc nL s args own) (hNK : NK s) (M : MfC own index y bytes maxL n) (hM : Met l y (.code y bytes maxL none :: TB) rm Pc Qc mc ms free) (hrc : rm.cells = mc) (hrs : rm.slots = ms) (hR : rm.frames + 1 ≤ R.frames ∧ 8 + (maxL + 11) + rm.locals ≤ R.locals) (hp : PreS s H Pc (.ref b :: As))
    (hg : g.method = m) (hn : As.length = n) (hsize : g.locals.size = nL) (hstack : g.stack = As.reverse ++ .ref b :: rest) (hW : 2 * g.monitorRoom + (rest.map fun v => v.category).sum ≤ 8) (hdg : decode cc g.pc = .ok (.invokespecial index, 3)) (hf : cells + mc ≤ R.cells ∧ slots + ms ≤ R.slots) :
    va_Run p l e R s m args below meth c H locs cells slots mc ms g rest (Qc (Value.ref b :: As).toArray) (free) := by
  obtain ⟨⟨hl, hini, hcode, hd⟩, hy1, hinst⟩ := M
  have hts := C.2.2.2.2
  rcases hl with hl | ⟨host, hl⟩
  · exact va_runI C hM ⟨callB_of n hts (good_cons hcode) rfl hrc hrs (hts _ hini) (hts _ hl) hd hR, hy1, hts _ hinst⟩ hp hg hn hsize hstack hW hdg hf
  · exact va_runIN C hM ⟨va_cnB n hts (good_cons hcode) rfl hrc hrs (hNK _ hl) (hts _ hini) hd hR, hy1, hts _ hinst⟩ hp hg hn hsize hstack hW hdg hf
/-- a constructor's call: its object is the last cell of the world; what it makes comes behind -/
theorem x_callC {S : Type} {y : MethodName} {bytes : ByteArray} {maxL mc ms n fr lo : Nat} {b : Addr} {As : List Value} {f0 : Nat × va_E} {w1 : S → va_W} {k2 n2 : Nat} (C : Cx p m c cc nL s args own) (hK : KU D cI cB A s) (hP : va_P D vwCl (ws ++ [f0]) H) (hD : va_D A (ws ++ [f0])) (hS : va_S A s.heap H locs) (hA : ∀ q, s.heap.size ≤ q → A q) (hl : lv_has ls nL lv)
    (M : MfC own index y bytes maxL n) (ct : CtC l D cI cB y bytes maxL fr lo mc ms (.ref b :: As) [f0] w1) (hst : st = As.reverse ++ .ref b :: rest) (hnA : As.length = n) (hrm : (rest.map fun v => v.category).sum ≤ 8) (hfr : fr + 1 ≤ R.frames ∧ 8 + (maxL + 11) + lo ≤ R.locals) (hc : cells + mc ≤ k2) (hs : slots + ms ≤ n2) (hcells : k2 ≤ R.cells) (hslots : n2 ≤ R.slots) (hdg : decode cc pc = .ok (.invokespecial index, 3))
    (kk : ∀ (u : S) (H1 : Heap) (locs1 : List Loc), va_P D vwCl (ws ++ w1 u) H1 → va_D A (ws ++ w1 u) → va_S A s.heap H1 locs1 → W p l e R s m args below meth c H1 locs1 k2 n2 Q (F0 m (pc + 3) ls rest)) : W p l e R s m args below meth c H locs cells slots Q (F0 m pc ls st) := by
  have hPc : va_P D vwCl [f0] H := by
    intro k q hq
    have h0 : k = 0 := by
      cases k with
      | zero => rfl
      | succ k => simp at hq
    subst h0
    exact hP ws.length q (by rw [List.getElem?_append_right (Nat.le_refl _), Nat.sub_self]; exact hq)
  have hDc : va_D (fun _ => True) [f0] := by
    refine ⟨fun i j x y hx hy _ => ?_, fun _ _ _ => trivial⟩
    have h1 := (List.getElem?_eq_some_iff.mp hx).1
    have h2 := (List.getElem?_eq_some_iff.mp hy).1
    simp at h1 h2
    omega
  have hFc : ∀ q, va_A [f0] H.size q → A q := by
    rintro q (⟨k, e, h⟩ | h)
    · have h0 : k = 0 := by
        cases k with
        | zero => rfl
        | succ k => simp at h
      subst h0
      have h1 : (ws ++ [f0])[ws.length]? = some (q, e) := by rw [List.getElem?_append_right (Nat.le_refl _), Nat.sub_self]; exact h
      exact hD.2 _ _ h1
    · exact hA q (Nat.le_trans hS.1 h)
  refine va_callv (x_runC (g := F0 m pc ls st) (rest := rest) C hK.2.1 M (ct H.size) rfl rfl hfr ⟨PreW.blind, fun U hU hW => ⟨rfl, by rw [hU], by rw [hU]; exact hPc, hK.call hW hS hU hFc, hDc⟩⟩ rfl hnA hl.1 hst (lv_room hrm) hdg ⟨Nat.le_trans hc hcells, Nat.le_trans hs hslots⟩) hS (fun q _ h => hFc q h) hFc (fun u t H1 locs1 ht hvm hr hB hz1 hk1 hS1 => ?_)
  obtain ⟨hP1, hD1⟩ := hB
  rw [ht] at hP1
  have hR : (List.range ws.length).map (fun i => (ws ++ [f0])[i]?) = ws.map some := by
    apply List.ext_getElem?
    intro i
    rw [List.getElem?_map, List.getElem?_map]
    by_cases hi : i < ws.length
    · rw [List.getElem?_range hi]
      simp [hi, List.getElem?_append_left hi]
    · rw [List.getElem?_eq_none (by simp; omega), List.getElem?_eq_none (by omega)]
      rfl
  have hn : va_nd (List.range ws.length) = true := by
    have key : ∀ l : List Nat, l.Nodup → va_nd l = true := by
      intro l
      induction l with
      | nil => intro _; rfl
      | cons a l ih =>
        intro h
        have h2 := List.nodup_cons.mp h
        simp [va_nd, h2.1, ih h2.2]
    exact key _ List.nodup_range
  obtain ⟨hP2, hD2⟩ := va_join (wr := ws) (w1 := w1 u) hP hD [ws.length] (List.range ws.length) (by simp [List.getElem?_append_right]) hR hn (fun i hi => by simp at hi ⊢; omega) hk1 hFc hP1 hD1
  exact W.widen hc hs (kk u H1 locs1 hP2 hD2 hS1)
theorem x_cret {S : Type} {w1 : S → va_W} {mc ms : Nat} (u : S) {w : va_W} (C : Cx p m c cc nL s args own) (hr : meth.sig.returnType = none) (hlk : meth.locks = false) (hw : w1 u = w) (hP : va_P D vwCl w H) (hD : va_D A w) (hS : va_S A s.heap H locs) (hc : cells ≤ mc) (hs : slots ≤ ms) (hdg : decode cc pc = .ok (.return_, 1)) : W p l e R s m args below meth c H locs cells slots (MQ below (va_Qv (fun (_ : S) => True) (fun u t => va_P D vwCl (w1 u) t.heap ∧ va_D A (w1 u)) A) args s mc ms A) (F0 m pc ls []) := by
  subst hw
  refine W.widen hc hs ?_
  exact W.vret C.1 C.2.1 hr (fun t ht hW => ⟨⟨u, rfl, trivial, by rw [ht]; exact hP, hD⟩, hS.F ht⟩) hS.2.2 hdg hlk
end XK
theorem ff_X0_11 : XFdF RX0 11 0 1 (.array .int) := ⟨_, _, _, _, lay0, by decide, tb_t 152 (by decide +kernel) rfl, rfl, rfl, by decide +kernel⟩
theorem ff_X0_15 : XFdF RX0 15 0 2 (.array .int) := ⟨_, _, _, _, lay0, by decide, tb_t 153 (by decide +kernel) rfl, rfl, rfl, by decide +kernel⟩
theorem ff_X0_18 : XFdF RX0 18 0 3 (.array .int) := ⟨_, _, _, _, lay0, by decide, tb_t 154 (by decide +kernel) rfl, rfl, rfl, by decide +kernel⟩
theorem ff_X0_21 : XFdF RX0 21 0 0 (.object "AfraidInk$Tape") := ⟨_, _, _, _, lay0, by decide, tb_t 151 (by decide +kernel) rfl, rfl, rfl, by decide +kernel⟩
theorem ff_X10_9 : XFdF RX10 9 10 0 (.object "AfraidInk$Shelf") := ⟨_, _, _, _, lay10, by decide, tb_t 284 (by decide +kernel) rfl, rfl, rfl, by decide +kernel⟩
theorem ff_X11_10 : XFdF RX11 10 11 0 (.object "AfraidInk$Tape") := ⟨_, _, _, _, lay11, by decide, tb_t 318 (by decide +kernel) rfl, rfl, rfl, by decide +kernel⟩
theorem ff_X11_19 : XFdF RX11 19 11 1 (.object "AfraidInk$Rhymes") := ⟨_, _, _, _, lay11, by decide, tb_t 319 (by decide +kernel) rfl, rfl, rfl, by decide +kernel⟩
theorem ff_X11_28 : XFdF RX11 28 11 2 (.object "AfraidInk$Shelf") := ⟨_, _, _, _, lay11, by decide, tb_t 320 (by decide +kernel) rfl, rfl, rfl, by decide +kernel⟩
theorem ff_X11_32 : XFdF RX11 32 11 3 (.object "AfraidInk$Shelf") := ⟨_, _, _, _, lay11, by decide, tb_t 321 (by decide +kernel) rfl, rfl, rfl, by decide +kernel⟩
theorem ff_X11_35 : XFdF RX11 35 11 4 (.object "AfraidInk$Shelf") := ⟨_, _, _, _, lay11, by decide, tb_t 322 (by decide +kernel) rfl, rfl, rfl, by decide +kernel⟩
theorem ff_X11_43 : XFdF RX11 43 11 5 (.object "AfraidInk$Letter") := ⟨_, _, _, _, lay11, by decide, tb_t 323 (by decide +kernel) rfl, rfl, rfl, by decide +kernel⟩
theorem ff_X11_50 : XFdF RX11 50 11 6 (.object "AfraidInk$Grief") := ⟨_, _, _, _, lay11, by decide, tb_t 324 (by decide +kernel) rfl, rfl, rfl, by decide +kernel⟩
theorem ff_X11_57 : XFdF RX11 57 11 7 (.object "AfraidInk$Law") := ⟨_, _, _, _, lay11, by decide, tb_t 325 (by decide +kernel) rfl, rfl, rfl, by decide +kernel⟩
theorem ff_X11_64 : XFdF RX11 64 11 8 (.object "AfraidInk$LawReader") := ⟨_, _, _, _, lay11, by decide, tb_t 326 (by decide +kernel) rfl, rfl, rfl, by decide +kernel⟩
theorem ff_X11_73 : XFdF RX11 73 11 9 (.object "AfraidInk$Scribe") := ⟨_, _, _, _, lay11, by decide, tb_t 327 (by decide +kernel) rfl, rfl, rfl, by decide +kernel⟩
theorem ff_X11_80 : XFdF RX11 80 11 10 (.object "AfraidInk$Row") := ⟨_, _, _, _, lay11, by decide, tb_t 328 (by decide +kernel) rfl, rfl, rfl, by decide +kernel⟩
theorem ff_X11_89 : XFdF RX11 89 11 11 (.object "AfraidInk$Trainer") := ⟨_, _, _, _, lay11, by decide, tb_t 329 (by decide +kernel) rfl, rfl, rfl, by decide +kernel⟩
theorem ff_X11_96 : XFdF RX11 96 11 12 (.object "AfraidInk$Riddles") := ⟨_, _, _, _, lay11, by decide, tb_t 330 (by decide +kernel) rfl, rfl, rfl, by decide +kernel⟩
theorem ff_X12_13 : XFdF RX12 13 12 1 (.array .int) := ⟨_, _, _, _, lay12, by decide, tb_t 1130 (by decide +kernel) rfl, rfl, rfl, by decide +kernel⟩
theorem ff_X12_16 : XFdF RX12 16 12 2 (.array .int) := ⟨_, _, _, _, lay12, by decide, tb_t 1131 (by decide +kernel) rfl, rfl, rfl, by decide +kernel⟩
theorem ff_X12_19 : XFdF RX12 19 12 3 (.array .int) := ⟨_, _, _, _, lay12, by decide, tb_t 1132 (by decide +kernel) rfl, rfl, rfl, by decide +kernel⟩
theorem ff_X12_22 : XFdF RX12 22 12 4 (.array .int) := ⟨_, _, _, _, lay12, by decide, tb_t 1133 (by decide +kernel) rfl, rfl, rfl, by decide +kernel⟩
theorem ff_X12_25 : XFdF RX12 25 12 5 (.array .int) := ⟨_, _, _, _, lay12, by decide, tb_t 1134 (by decide +kernel) rfl, rfl, rfl, by decide +kernel⟩
theorem ff_X12_28 : XFdF RX12 28 12 7 (.array .byte) := ⟨_, _, _, _, lay12, by decide, tb_t 1136 (by decide +kernel) rfl, rfl, rfl, by decide +kernel⟩
theorem ff_X12_32 : XFdF RX12 32 12 18 (.array .int) := ⟨_, _, _, _, lay12, by decide, tb_t 1147 (by decide +kernel) rfl, rfl, rfl, by decide +kernel⟩
theorem ff_X12_35 : XFdF RX12 35 12 19 (.array .int) := ⟨_, _, _, _, lay12, by decide, tb_t 1148 (by decide +kernel) rfl, rfl, rfl, by decide +kernel⟩
theorem ff_X12_38 : XFdF RX12 38 12 20 (.array .int) := ⟨_, _, _, _, lay12, by decide, tb_t 1149 (by decide +kernel) rfl, rfl, rfl, by decide +kernel⟩
theorem ff_X12_41 : XFdF RX12 41 12 21 (.array .int) := ⟨_, _, _, _, lay12, by decide, tb_t 1150 (by decide +kernel) rfl, rfl, rfl, by decide +kernel⟩
theorem ff_X12_44 : XFdF RX12 44 12 22 (.array .int) := ⟨_, _, _, _, lay12, by decide, tb_t 1151 (by decide +kernel) rfl, rfl, rfl, by decide +kernel⟩
theorem ff_X12_47 : XFdF RX12 47 12 23 (.array .int) := ⟨_, _, _, _, lay12, by decide, tb_t 1152 (by decide +kernel) rfl, rfl, rfl, by decide +kernel⟩
theorem ff_X12_50 : XFdF RX12 50 12 24 (.array .int) := ⟨_, _, _, _, lay12, by decide, tb_t 1153 (by decide +kernel) rfl, rfl, rfl, by decide +kernel⟩
theorem ff_X12_53 : XFdF RX12 53 12 25 (.array .int) := ⟨_, _, _, _, lay12, by decide, tb_t 1154 (by decide +kernel) rfl, rfl, rfl, by decide +kernel⟩
theorem ff_X12_56 : XFdF RX12 56 12 26 (.array .int) := ⟨_, _, _, _, lay12, by decide, tb_t 1155 (by decide +kernel) rfl, rfl, rfl, by decide +kernel⟩
theorem ff_X12_59 : XFdF RX12 59 12 27 (.array .int) := ⟨_, _, _, _, lay12, by decide, tb_t 1156 (by decide +kernel) rfl, rfl, rfl, by decide +kernel⟩
theorem ff_X12_62 : XFdF RX12 62 12 28 (.array .int) := ⟨_, _, _, _, lay12, by decide, tb_t 1157 (by decide +kernel) rfl, rfl, rfl, by decide +kernel⟩
theorem ff_X12_65 : XFdF RX12 65 12 29 (.array .int) := ⟨_, _, _, _, lay12, by decide, tb_t 1158 (by decide +kernel) rfl, rfl, rfl, by decide +kernel⟩
theorem ff_X12_68 : XFdF RX12 68 12 30 (.array .int) := ⟨_, _, _, _, lay12, by decide, tb_t 1159 (by decide +kernel) rfl, rfl, rfl, by decide +kernel⟩
theorem ff_X12_7 : XFdF RX12 7 12 0 (.array .int) := ⟨_, _, _, _, lay12, by decide, tb_t 1129 (by decide +kernel) rfl, rfl, rfl, by decide +kernel⟩
theorem ff_X12_71 : XFdF RX12 71 12 32 (.array .int) := ⟨_, _, _, _, lay12, by decide, tb_t 1161 (by decide +kernel) rfl, rfl, rfl, by decide +kernel⟩
theorem ff_X12_74 : XFdF RX12 74 12 33 (.array .int) := ⟨_, _, _, _, lay12, by decide, tb_t 1162 (by decide +kernel) rfl, rfl, rfl, by decide +kernel⟩
theorem ff_X12_77 : XFdF RX12 77 12 34 (.array .int) := ⟨_, _, _, _, lay12, by decide, tb_t 1163 (by decide +kernel) rfl, rfl, rfl, by decide +kernel⟩
theorem ff_X12_80 : XFdF RX12 80 12 35 (.array .int) := ⟨_, _, _, _, lay12, by decide, tb_t 1164 (by decide +kernel) rfl, rfl, rfl, by decide +kernel⟩
theorem ff_X12_83 : XFdF RX12 83 12 45 (.array .int) := ⟨_, _, _, _, lay12, by decide, tb_t 1174 (by decide +kernel) rfl, rfl, rfl, by decide +kernel⟩
theorem ff_X12_86 : XFdF RX12 86 12 46 (.array .int) := ⟨_, _, _, _, lay12, by decide, tb_t 1175 (by decide +kernel) rfl, rfl, rfl, by decide +kernel⟩
theorem ff_X12_89 : XFdF RX12 89 12 49 (.array .int) := ⟨_, _, _, _, lay12, by decide, tb_t 1178 (by decide +kernel) rfl, rfl, rfl, by decide +kernel⟩
theorem ff_X12_92 : XFdF RX12 92 12 50 (.array .int) := ⟨_, _, _, _, lay12, by decide, tb_t 1179 (by decide +kernel) rfl, rfl, rfl, by decide +kernel⟩
theorem ff_X12_95 : XFdF RX12 95 12 51 (.array .int) := ⟨_, _, _, _, lay12, by decide, tb_t 1180 (by decide +kernel) rfl, rfl, rfl, by decide +kernel⟩
theorem ff_X1_13 : XFdF RX1 13 1 1 (.array .int) := ⟨_, _, _, _, lay1, by decide, tb_t 174 (by decide +kernel) rfl, rfl, rfl, by decide +kernel⟩
theorem ff_X1_16 : XFdF RX1 16 1 2 (.array .int) := ⟨_, _, _, _, lay1, by decide, tb_t 175 (by decide +kernel) rfl, rfl, rfl, by decide +kernel⟩
theorem ff_X1_19 : XFdF RX1 19 1 3 (.array .int) := ⟨_, _, _, _, lay1, by decide, tb_t 176 (by decide +kernel) rfl, rfl, rfl, by decide +kernel⟩
theorem ff_X1_22 : XFdF RX1 22 1 4 (.array .int) := ⟨_, _, _, _, lay1, by decide, tb_t 177 (by decide +kernel) rfl, rfl, rfl, by decide +kernel⟩
theorem ff_X1_25 : XFdF RX1 25 1 5 (.array .int) := ⟨_, _, _, _, lay1, by decide, tb_t 178 (by decide +kernel) rfl, rfl, rfl, by decide +kernel⟩
theorem ff_X1_28 : XFdF RX1 28 1 6 (.array .int) := ⟨_, _, _, _, lay1, by decide, tb_t 179 (by decide +kernel) rfl, rfl, rfl, by decide +kernel⟩
theorem ff_X1_9 : XFdF RX1 9 1 0 (.array .int) := ⟨_, _, _, _, lay1, by decide, tb_t 173 (by decide +kernel) rfl, rfl, rfl, by decide +kernel⟩
theorem ff_X2_18 : XFdF RX2 18 2 1 (.object "AfraidInk$Law") := ⟨_, _, _, _, lay2, by decide, tb_t 219 (by decide +kernel) rfl, rfl, rfl, by decide +kernel⟩
theorem ff_X2_9 : XFdF RX2 9 2 0 (.object "AfraidInk$Tape") := ⟨_, _, _, _, lay2, by decide, tb_t 218 (by decide +kernel) rfl, rfl, rfl, by decide +kernel⟩
theorem ff_X3_11 : XFdF RX3 11 3 1 (.array .int) := ⟨_, _, _, _, lay3, by decide, tb_t 127 (by decide +kernel) rfl, rfl, rfl, by decide +kernel⟩
theorem ff_X3_15 : XFdF RX3 15 3 2 (.array .int) := ⟨_, _, _, _, lay3, by decide, tb_t 128 (by decide +kernel) rfl, rfl, rfl, by decide +kernel⟩
theorem ff_X3_18 : XFdF RX3 18 3 0 (.object "AfraidInk$Tape") := ⟨_, _, _, _, lay3, by decide, tb_t 126 (by decide +kernel) rfl, rfl, rfl, by decide +kernel⟩
theorem ff_X4_9 : XFdF RX4 9 4 0 (.array .int) := ⟨_, _, _, _, lay4, by decide, tb_t 64 (by decide +kernel) rfl, rfl, rfl, by decide +kernel⟩
theorem ff_X5_15 : XFdF RX5 15 5 0 (.object "AfraidInk$Tape") := ⟨_, _, _, _, lay5, by decide, tb_t 308 (by decide +kernel) rfl, rfl, rfl, by decide +kernel⟩
theorem ff_X5_9 : XFdF RX5 9 5 1 (.array .int) := ⟨_, _, _, _, lay5, by decide, tb_t 309 (by decide +kernel) rfl, rfl, rfl, by decide +kernel⟩
theorem ff_X6_17 : XFdF RX6 17 6 2 (.array .int) := ⟨_, _, _, _, lay6, by decide, tb_t 259 (by decide +kernel) rfl, rfl, rfl, by decide +kernel⟩
theorem ff_X6_20 : XFdF RX6 20 6 3 (.array .int) := ⟨_, _, _, _, lay6, by decide, tb_t 260 (by decide +kernel) rfl, rfl, rfl, by decide +kernel⟩
theorem ff_X6_23 : XFdF RX6 23 6 0 (.object "AfraidInk$Letter") := ⟨_, _, _, _, lay6, by decide, tb_t 257 (by decide +kernel) rfl, rfl, rfl, by decide +kernel⟩
theorem ff_X6_9 : XFdF RX6 9 6 1 (.array .int) := ⟨_, _, _, _, lay6, by decide, tb_t 258 (by decide +kernel) rfl, rfl, rfl, by decide +kernel⟩
theorem ff_X7_9 : XFdF RX7 9 7 0 (.object "AfraidInk$Letter") := ⟨_, _, _, _, lay7, by decide, tb_t 232 (by decide +kernel) rfl, rfl, rfl, by decide +kernel⟩
theorem ff_X8_15 : XFdF RX8 15 8 2 (.array .int) := ⟨_, _, _, _, lay8, by decide, tb_t 77 (by decide +kernel) rfl, rfl, rfl, by decide +kernel⟩
theorem ff_X8_18 : XFdF RX8 18 8 3 (.array .int) := ⟨_, _, _, _, lay8, by decide, tb_t 78 (by decide +kernel) rfl, rfl, rfl, by decide +kernel⟩
theorem ff_X8_21 : XFdF RX8 21 8 4 (.array .int) := ⟨_, _, _, _, lay8, by decide, tb_t 79 (by decide +kernel) rfl, rfl, rfl, by decide +kernel⟩
theorem ff_X8_24 : XFdF RX8 24 8 5 (.array .int) := ⟨_, _, _, _, lay8, by decide, tb_t 80 (by decide +kernel) rfl, rfl, rfl, by decide +kernel⟩
theorem ff_X8_27 : XFdF RX8 27 8 0 (.object "AfraidInk$Rhymes") := ⟨_, _, _, _, lay8, by decide, tb_t 74 (by decide +kernel) rfl, rfl, rfl, by decide +kernel⟩
theorem ff_X8_9 : XFdF RX8 9 8 1 (.array .int) := ⟨_, _, _, _, lay8, by decide, tb_t 76 (by decide +kernel) rfl, rfl, rfl, by decide +kernel⟩
theorem ff_X9_11 : XFdF RX9 11 9 0 (.array .int) := ⟨_, _, _, _, lay9, by decide, tb_t 36 (by decide +kernel) rfl, rfl, rfl, by decide +kernel⟩
theorem mc_X11_18 : MfC RX11 18 yX4_init cX4_init 2 0 := ⟨⟨Or.inl (tb_t 60 (by decide +kernel) rfl), tb_t 3 (by decide +kernel) rfl, tb_t 62 (by decide +kernel) rfl, by decide, by decide, by decide +kernel⟩, rfl, tb_t 61 (by decide +kernel) rfl⟩
theorem mc_X11_25 : MfC RX11 25 yX8_init cX8_init 2 1 := ⟨⟨Or.inl (tb_t 70 (by decide +kernel) rfl), tb_t 4 (by decide +kernel) rfl, tb_t 72 (by decide +kernel) rfl, by decide, by decide, by decide +kernel⟩, rfl, tb_t 71 (by decide +kernel) rfl⟩
theorem mc_X11_40 : MfC RX11 40 yX3_init cX3_init 2 1 := ⟨⟨Or.inl (tb_t 122 (by decide +kernel) rfl), tb_t 5 (by decide +kernel) rfl, tb_t 124 (by decide +kernel) rfl, by decide, by decide, by decide +kernel⟩, rfl, tb_t 123 (by decide +kernel) rfl⟩
theorem mc_X11_49 : MfC RX11 49 yX0_init cX0_init 2 1 := ⟨⟨Or.inl (tb_t 147 (by decide +kernel) rfl), tb_t 6 (by decide +kernel) rfl, tb_t 149 (by decide +kernel) rfl, by decide, by decide, by decide +kernel⟩, rfl, tb_t 148 (by decide +kernel) rfl⟩
theorem mc_X11_56 : MfC RX11 56 yX1_init cX1_init 1 0 := ⟨⟨Or.inr ⟨"AfraidInk", nest_t 169 (by decide +kernel) rfl⟩, tb_t 7 (by decide +kernel) rfl, tb_t 171 (by decide +kernel) rfl, by decide, by decide, by decide +kernel⟩, rfl, tb_t 170 (by decide +kernel) rfl⟩
theorem mc_X11_63 : MfC RX11 63 yX2_init cX2_init 2 1 := ⟨⟨Or.inl (tb_t 212 (by decide +kernel) rfl), tb_t 8 (by decide +kernel) rfl, tb_t 214 (by decide +kernel) rfl, by decide, by decide, by decide +kernel⟩, rfl, tb_t 213 (by decide +kernel) rfl⟩
theorem mc_X11_70 : MfC RX11 70 yX7_init cX7_init 2 1 := ⟨⟨Or.inl (tb_t 228 (by decide +kernel) rfl), tb_t 9 (by decide +kernel) rfl, tb_t 230 (by decide +kernel) rfl, by decide, by decide, by decide +kernel⟩, rfl, tb_t 229 (by decide +kernel) rfl⟩
theorem mc_X11_79 : MfC RX11 79 yX6_init cX6_init 2 1 := ⟨⟨Or.inl (tb_t 253 (by decide +kernel) rfl), tb_t 10 (by decide +kernel) rfl, tb_t 255 (by decide +kernel) rfl, by decide, by decide, by decide +kernel⟩, rfl, tb_t 254 (by decide +kernel) rfl⟩
theorem mc_X11_86 : MfC RX11 86 yX10_init cX10_init 2 1 := ⟨⟨Or.inl (tb_t 280 (by decide +kernel) rfl), tb_t 11 (by decide +kernel) rfl, tb_t 282 (by decide +kernel) rfl, by decide, by decide, by decide +kernel⟩, rfl, tb_t 281 (by decide +kernel) rfl⟩
theorem mc_X11_9 : MfC RX11 9 yX9_init cX9_init 1 0 := ⟨⟨Or.inr ⟨"AfraidInk", nest_t 32 (by decide +kernel) rfl⟩, tb_t 2 (by decide +kernel) rfl, tb_t 34 (by decide +kernel) rfl, by decide, by decide, by decide +kernel⟩, rfl, tb_t 33 (by decide +kernel) rfl⟩
theorem mc_X11_95 : MfC RX11 95 yX5_init cX5_init 2 1 := ⟨⟨Or.inl (tb_t 304 (by decide +kernel) rfl), tb_t 12 (by decide +kernel) rfl, tb_t 306 (by decide +kernel) rfl, by decide, by decide, by decide +kernel⟩, rfl, tb_t 305 (by decide +kernel) rfl⟩
theorem mc_X2_17 : MfC RX2 17 yX1_init cX1_init 1 0 := ⟨⟨Or.inr ⟨"AfraidInk", nest_t 217 (by decide +kernel) rfl⟩, tb_t 7 (by decide +kernel) rfl, tb_t 171 (by decide +kernel) rfl, by decide, by decide, by decide +kernel⟩, rfl, tb_t 170 (by decide +kernel) rfl⟩
theorem ml_X0_3 : Cond.methodLink RX0 3 objectInit ∈ TB := tb_t 150 (by decide +kernel) rfl
theorem ml_X10_3 : Cond.methodLink RX10 3 objectInit ∈ TB := tb_t 283 (by decide +kernel) rfl
theorem ml_X11_1 : Cond.methodLink RX11 1 objectInit ∈ TB := tb_t 27 (by decide +kernel) rfl
theorem ml_X12_1 : Cond.methodLink RX12 1 objectInit ∈ TB := tb_t 1128 (by decide +kernel) rfl
theorem ml_X1_1 : Cond.methodLink RX1 1 objectInit ∈ TB := tb_t 172 (by decide +kernel) rfl
theorem ml_X2_3 : Cond.methodLink RX2 3 objectInit ∈ TB := tb_t 215 (by decide +kernel) rfl
theorem ml_X3_3 : Cond.methodLink RX3 3 objectInit ∈ TB := tb_t 125 (by decide +kernel) rfl
theorem ml_X4_3 : Cond.methodLink RX4 3 objectInit ∈ TB := tb_t 63 (by decide +kernel) rfl
theorem ml_X5_3 : Cond.methodLink RX5 3 objectInit ∈ TB := tb_t 307 (by decide +kernel) rfl
theorem ml_X6_3 : Cond.methodLink RX6 3 objectInit ∈ TB := tb_t 256 (by decide +kernel) rfl
theorem ml_X7_3 : Cond.methodLink RX7 3 objectInit ∈ TB := tb_t 231 (by decide +kernel) rfl
theorem ml_X8_3 : Cond.methodLink RX8 3 objectInit ∈ TB := tb_t 73 (by decide +kernel) rfl
theorem ml_X9_3 : Cond.methodLink RX9 3 objectInit ∈ TB := tb_t 35 (by decide +kernel) rfl
theorem ni_X0 : Cond.initialized RX0 ∈ TB := tb_t 6 (by decide +kernel) rfl
theorem ni_X1 : Cond.initialized RX1 ∈ TB := tb_t 7 (by decide +kernel) rfl
theorem ni_X10 : Cond.initialized RX10 ∈ TB := tb_t 11 (by decide +kernel) rfl
theorem ni_X2 : Cond.initialized RX2 ∈ TB := tb_t 8 (by decide +kernel) rfl
theorem ni_X3 : Cond.initialized RX3 ∈ TB := tb_t 5 (by decide +kernel) rfl
theorem ni_X4 : Cond.initialized RX4 ∈ TB := tb_t 3 (by decide +kernel) rfl
theorem ni_X5 : Cond.initialized RX5 ∈ TB := tb_t 12 (by decide +kernel) rfl
theorem ni_X6 : Cond.initialized RX6 ∈ TB := tb_t 10 (by decide +kernel) rfl
theorem ni_X7 : Cond.initialized RX7 ∈ TB := tb_t 9 (by decide +kernel) rfl
theorem ni_X8 : Cond.initialized RX8 ∈ TB := tb_t 4 (by decide +kernel) rfl
theorem ni_X9 : Cond.initialized RX9 ∈ TB := tb_t 2 (by decide +kernel) rfl
theorem ns_X0 : Cond.instantiable RX0 5 ∈ TB := tb_t 146 (by decide +kernel) rfl
theorem ns_X1 : Cond.instantiable RX1 11 ∈ TB := tb_t 168 (by decide +kernel) rfl
theorem ns_X10 : Cond.instantiable RX10 5 ∈ TB := tb_t 279 (by decide +kernel) rfl
theorem ns_X2 : Cond.instantiable RX2 2 ∈ TB := tb_t 211 (by decide +kernel) rfl
theorem ns_X3 : Cond.instantiable RX3 5 ∈ TB := tb_t 121 (by decide +kernel) rfl
theorem ns_X4 : Cond.instantiable RX4 1 ∈ TB := tb_t 59 (by decide +kernel) rfl
theorem ns_X5 : Cond.instantiable RX5 3 ∈ TB := tb_t 303 (by decide +kernel) rfl
theorem ns_X6 : Cond.instantiable RX6 6 ∈ TB := tb_t 252 (by decide +kernel) rfl
theorem ns_X7 : Cond.instantiable RX7 5 ∈ TB := tb_t 227 (by decide +kernel) rfl
theorem ns_X8 : Cond.instantiable RX8 12 ∈ TB := tb_t 69 (by decide +kernel) rfl
theorem ns_X9 : Cond.instantiable RX9 5 ∈ TB := tb_t 31 (by decide +kernel) rfl
theorem nw_X11_16 : Cond.classLink RX11 16 RX4 ∈ TB := tb_t 58 (by decide +kernel) rfl
theorem nw_X11_23 : Cond.classLink RX11 23 RX8 ∈ TB := tb_t 68 (by decide +kernel) rfl
theorem nw_X11_38 : Cond.classLink RX11 38 RX3 ∈ TB := tb_t 120 (by decide +kernel) rfl
theorem nw_X11_47 : Cond.classLink RX11 47 RX0 ∈ TB := tb_t 145 (by decide +kernel) rfl
theorem nw_X11_54 : Cond.classLink RX11 54 RX1 ∈ TB := tb_t 167 (by decide +kernel) rfl
theorem nw_X11_61 : Cond.classLink RX11 61 RX2 ∈ TB := tb_t 210 (by decide +kernel) rfl
theorem nw_X11_68 : Cond.classLink RX11 68 RX7 ∈ TB := tb_t 226 (by decide +kernel) rfl
theorem nw_X11_7 : Cond.classLink RX11 7 RX9 ∈ TB := tb_t 30 (by decide +kernel) rfl
theorem nw_X11_77 : Cond.classLink RX11 77 RX6 ∈ TB := tb_t 251 (by decide +kernel) rfl
theorem nw_X11_84 : Cond.classLink RX11 84 RX10 ∈ TB := tb_t 278 (by decide +kernel) rfl
theorem nw_X11_93 : Cond.classLink RX11 93 RX5 ∈ TB := tb_t 302 (by decide +kernel) rfl
theorem nw_X2_15 : Cond.classLink RX2 15 RX1 ∈ TB := tb_t 216 (by decide +kernel) rfl
