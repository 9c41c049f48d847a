/-! the words that every method stands on: the good ones of the tables; nest mates' links apart -/
def TB : List Cond := lw_tbl.filter goodWord
def isNest : Cond → Bool
  | .fieldLinkNest _ _ _ _ _ _ => true
  | .methodLinkNest _ _ _ _ => true
  | _ => false
def nestW : List Cond := lw_tbl.filter isNest
theorem tb_good {w : Cond} (h : w ∈ TB) : (w.onTables && w.keeps) = true ∨ ∃ ty, w = .arrayClass ty := good_of_word (List.mem_filter.mp h).2
theorem tb_in {w : Cond} (h : w ∈ lw_tbl) (hg : goodWord w = true) : w ∈ TB := List.mem_filter.mpr ⟨h, hg⟩
theorem tb_t {w : Cond} (i : Nat) (h : tables_1[i]? = some w) (hg : goodWord w = true) : w ∈ TB := tb_in (List.mem_append_right _ (List.mem_of_getElem? h)) hg
theorem tb_p {w : Cond} (i : Nat) (h : (k2_sels lw_privs)[i]? = some w) (hg : goodWord w = true) : w ∈ TB := tb_in (List.mem_append_left _ (List.mem_of_getElem? h)) hg
theorem nest_t {w : Cond} (i : Nat) (h : tables_1[i]? = some w) (hg : isNest w = true) : w ∈ nestW := List.mem_filter.mpr ⟨List.mem_append_right _ (List.mem_of_getElem? h), hg⟩
def NK (U : State) : Prop := ∀ w ∈ nestW, va_Nw w U
theorem NK.warm {s U : State} (hW : s.WarmedH U.vm) (h : NK s) : NK U := by
  intro w hw
  have h1 := h w hw
  have h2 := (List.mem_filter.mp hw).2
  cases w with
  | fieldLinkNest a i b n d q => exact va_Nw.warmF hW h1
  | methodLinkNest a i x q => exact va_Nw.warmM hW h1
  | _ => cases h2
theorem NK.same {u U : State} (hv : u.vm = U.vm) (h : NK u) : NK U := by
  intro w hw
  have h1 := h w hw
  have h2 := (List.mem_filter.mp hw).2
  cases w with
  | fieldLinkNest a i b n d q => exact va_Nw.same rfl hv h1
  | methodLinkNest a i x q => exact va_Nw.same rfl hv h1
  | _ => cases h2
theorem NK.of {A : Array Value} {s : State} (h : ∀ w ∈ lw_tbl, w.before A s = true) : NK s := by
  intro w hw
  have h1 := h w (List.mem_filter.mp hw).1
  have h2 := (List.mem_filter.mp hw).2
  cases w with
  | fieldLinkNest a i b n d q => exact va_Nw.of rfl h1
  | methodLinkNest a i x q => exact va_Nw.of rfl h1
  | _ => cases h2
/-- the one String constant, and the static that String asks -/
def sByt : List (List Int32) := [[98, 107, 119, 118, 110, 115, 113, 105, 100, 117]]
def SKa (A : Nat → Prop) (U : State) (H : Heap) (aK aV : Nat) : Prop := vk_S 1 [10] sByt (fun _ => aK) (fun _ => aV) A U H ∧ va_Z "java/lang/String" "COMPACT_STRINGS" "Z" (.int 1) A U H
def SK (A : Nat → Prop) (U : State) : Prop := ∃ aK aV : Nat, vk_R "AfraidInk$LawReader" 101 "bkwvnsqidu" aK U ∧ SKa A U U.heap aK aV
theorem SKa.call {A A1 : Nat → Prop} {s U : State} {H : Heap} {locs : List Loc} {aK aV : Nat} (h : SKa A s s.heap aK aV) (hW : s.WarmedH U.vm) (hS : va_S A s.heap H locs) (hU : U.heap = H) (hA : ∀ q, A1 q → A q) : SKa A1 U U.heap aK aV := by
  rw [hU]
  exact ⟨((h.1.kept hS.2.1).narrow hA).moved hW.alike, ((h.2.kept hS.2.1).narrow hA).moved hW.alike⟩
def KU (D : va_G) (cI cB : ClassId) (A : Nat → Prop) (U : State) : Prop := va_K D vwCl [(cI, .int), (cB, .byte)] U ∧ NK U ∧ SK A U
theorem KU.call {D : va_G} {cI cB : ClassId} {A A1 : Nat → Prop} {s U : State} {H : Heap} {locs : List Loc} (h : KU D cI cB A s) (hW : s.WarmedH U.vm) (hS : va_S A s.heap H locs) (hU : U.heap = H) (hA : ∀ q, A1 q → A q) : KU D cI cB A1 U := by
  obtain ⟨h1, h2, aK, aV, h3, h4⟩ := h
  exact ⟨va_K.moved hW.alike h1, h2.warm hW, aK, aV, h3.warm hW, h4.call hW hS hU hA⟩
abbrev iA (cI : ClassId) (n a : Nat) (v : Nat → Int32) : Nat × va_E := (a, .inl (cI, n, .inl v))
/-! a method's start and end -/
def PreW (D : va_G) (cI cB : ClassId) (av : List Value) (w0 : va_W) (sz : Nat) : Array Value → State → Prop := va_Pc av (fun U => U.heap.size = sz ∧ va_P D vwCl w0 U.heap ∧ KU D cI cB (va_A w0 sz) U ∧ va_D (fun _ => True) w0)
theorem PreW.blind {D : va_G} {cI cB : ClassId} {av : List Value} {w0 : va_W} {sz : Nat} : FrameBlind (PreW D cI cB av w0 sz) := by
  intro a U g mk q
  obtain ⟨q0, q1, qP, ⟨k1, k2, aK, aV, k3, k4, k5⟩, qD⟩ := q
  exact ⟨q0, q1, qP, ⟨va_K.moved (u := U) (U := U.calling g mk a) (Vm.Alike.refl U.vm) k1, NK.same (u := U) (U := U.calling g mk a) rfl k2, aK, aV, vk_R.same (u := U) (U := U.calling g mk a) rfl k3, vk_S.moved (u := U) (U := U.calling g mk a) (Vm.Alike.refl U.vm) k4, va_Z.moved (u := U) (U := U.calling g mk a) (Vm.Alike.refl U.vm) k5⟩, qD⟩
abbrev PoI (D : va_G) (A : Nat → Prop) (w1 : va_W) (r : Int32) : Array Value → State → Outcome → State → Prop := va_Qi (fun (r' : Int32) (_ : Unit) => r' = r) (fun _ t => va_P D vwCl w1 t.heap ∧ va_D A w1) A
abbrev PoV (D : va_G) (A : Nat → Prop) (w1 : va_W) : Array Value → State → Outcome → State → Prop := va_Qv (fun (_ : Unit) => True) (fun _ t => va_P D vwCl w1 t.heap ∧ va_D A w1) A
def CtI (l : Launch) (D : va_G) (cI cB : ClassId) (y : MethodName) (bytes : ByteArray) (maxL : Nat) (ret : Option FieldType) (fr lo : Nat) (av : List Value) (w0 w1 : va_W) (r : Int32) : Prop :=
  ∀ sz, Met l y (.code y bytes maxL ret :: TB) { frames := fr, cells := 0, slots := 0, locals := lo } (PreW D cI cB av w0 sz) (PoI D (va_A w0 sz) w1 r) 0 0 (va_A w0 sz)
def CtV (l : Launch) (D : va_G) (cI cB : ClassId) (y : MethodName) (bytes : ByteArray) (maxL : Nat) (fr lo : Nat) (av : List Value) (w0 w1 : va_W) : Prop :=
  ∀ sz, Met l y (.code y bytes maxL none :: TB) { frames := fr, cells := 0, slots := 0, locals := lo } (PreW D cI cB av w0 sz) (PoV D (va_A w0 sz) w1) 0 0 (va_A w0 sz)
/-- what holds while a method's body is walked -/
abbrev Cx (p : Program) (m : MethodId) (c : Code) (cc : ByteArray) (nL : Nat) (s : State) (args : Array Value) (own : String) : Prop := CallFix p m c cc nL s args TB own
theorem x_startI {l : Launch} {D : va_G} {cI cB : ClassId} {y : MethodName} {bytes : ByteArray} {maxL : Nat} {ret : Option FieldType} {fr lo : Nat} {av : List Value} {w0 w1 : va_W} {r : Int32} (hy : plainName y.cls = true) (hav : (lg_sl av).length ≤ maxL)
    (body : ∀ (p : Program) (e : Env) (s : State) (m : MethodId) (below : List Frame) (meth : Method) (c : Code) (A : Nat → Prop), Cx p m c bytes maxL s av.toArray y.cls → meth.sig.returnType = ret → meth.locks = false → (∀ q, s.heap.size ≤ q → A q) → KU D cI cB A s → va_P D vwCl w0 s.heap → va_D A w0 → va_S A s.heap s.heap [] → ∀ ls, lv_has ls maxL (lv_args 0 av) →
      W p l e { frames := fr, cells := 0, slots := 0, locals := lo } s m av.toArray below meth c s.heap [] 0 0 (MQ below (PoI D A w1 r) av.toArray s 0 0 A) (F0 m 0 ls [])) : CtI l D cI cB y bytes maxL ret fr lo av w0 w1 r := by
  intro sz
  refine Met.ofW (cc := bytes) (maxL := maxL) (ret := ret) hy rfl ?_
  intro p e s m args below meth c s₁ B hml hv
  obtain ⟨rfl, hsz, hP, hK, hD0⟩ := hv
  subst hsz
  have hts := atoms_spec (ws := Cond.code y bytes maxL ret :: TB) B.pre
  have hl := lv_entry av (n := maxL) hav
  rw [lg_entry_eq]
  exact body p e s m below meth c (va_A w0 s.heap.size) ⟨B.exec, B.bytes, hml, findClass_of_methodNamed B.named, fun w hw => hts w (List.mem_cons_of_mem _ hw)⟩ B.returns B.notSynchronized (fun q h => Or.inr h) hK hP hD0.self va_S.rf _ hl
theorem x_startV {l : Launch} {D : va_G} {cI cB : ClassId} {y : MethodName} {bytes : ByteArray} {maxL : Nat} {fr lo : Nat} {av : List Value} {w0 w1 : va_W} (hy : plainName y.cls = true) (hav : (lg_sl av).length ≤ maxL)
    (body : ∀ (p : Program) (e : Env) (s : State) (m : MethodId) (below : List Frame) (meth : Method) (c : Code) (A : Nat → Prop), Cx p m c bytes maxL s av.toArray y.cls → meth.sig.returnType = none → meth.locks = false → (∀ q, s.heap.size ≤ q → A q) → KU D cI cB A s → va_P D vwCl w0 s.heap → va_D A w0 → va_S A s.heap s.heap [] → ∀ ls, lv_has ls maxL (lv_args 0 av) →
      W p l e { frames := fr, cells := 0, slots := 0, locals := lo } s m av.toArray below meth c s.heap [] 0 0 (MQ below (PoV D A w1) av.toArray s 0 0 A) (F0 m 0 ls [])) : CtV l D cI cB y bytes maxL fr lo av w0 w1 := by
  intro sz
  refine Met.ofW (cc := bytes) (maxL := maxL) (ret := none) hy rfl ?_
  intro p e s m args below meth c s₁ B hml hv
  obtain ⟨rfl, hsz, hP, hK, hD0⟩ := hv
  subst hsz
  have hts := atoms_spec (ws := Cond.code y bytes maxL none :: TB) B.pre
  have hl := lv_entry av (n := maxL) hav
  rw [lg_entry_eq]
  exact body p e s m below meth c (va_A w0 s.heap.size) ⟨B.exec, B.bytes, hml, findClass_of_methodNamed B.named, fun w hw => hts w (List.mem_cons_of_mem _ hw)⟩ B.returns B.notSynchronized (fun q h => Or.inr h) hK hP hD0.self va_S.rf _ hl
/-! fields -/
def Lay (ci : Nat) (C : String) (T : u_T) (N : Nat) (ty0 : Nat → FieldType) : Prop := vwCl[ci]? = some (C, T, N) ∧ (∀ w ∈ u_ws C T N, w ∈ TB) ∧ (∀ k, k < N → parseFieldDescriptor (T k).2.2.1 = some (ty0 k)) ∧ ∀ a, a < N → ∀ b, b < N → a ≠ b → (T a).2.1 ≠ (T b).2.1
def LkF (own : String) (index : Nat) (T : u_T) (k : Nat) : Prop := Cond.fieldLink own index (T k).1 (T k).2.1 (T k).2.2.1 ∈ TB ∨ ∃ host, Cond.fieldLinkNest own index (T k).1 (T k).2.1 (T k).2.2.1 host ∈ nestW
def XFd (own : String) (index ci k : Nat) : Prop := ∃ C T N ty0, Lay ci C T N ty0 ∧ k < N ∧ LkF own index T k
def XFdP (own : String) (index ci k : Nat) (ty : FieldType) : Prop := ∃ C T N ty0, Lay ci C T N ty0 ∧ k < N ∧ LkF own index T k ∧ (T k).2.2.2 = false ∧ parseFieldDescriptor (T k).2.2.1 = some ty
section XW
variable {p : Program} {l : Launch} {e : Env} {R : Room} {s : State} {m : MethodId} {args : Array Value} {below : List Frame} {meth : Method} {c : Code} {H : Heap} {locs : List Loc} {cells slots : Nat} {Q : State → Prop}
variable {cc : ByteArray} {pc nL : Nat} {ls : Array Slot} {rest : List Value} {D : va_G} {A : Nat → Prop} {a : Nat} {ws : va_W} {cI cB : ClassId} {own : String}
theorem x_get {index ci k : Nat} (C : Cx p m c cc nL s args own) (hK : KU D cI cB A s) (hP : va_P D vwCl ws H) (F : XFd own index ci k) (q0 : Nat) {fs : List Value} {v : Value} (he : ws[q0]? = some (a, .inr (ci, fs))) (hv : fs[k]? = some v) (hdg : decode cc pc = .ok (.getfield index, 3))
    (kk : W p l e R s m args below meth c H locs cells slots Q (F0 m (pc + 3) ls (v :: rest))) : W p l e R s m args below meth c H locs cells slots Q (F0 m pc ls (.ref a :: rest)) := by
  obtain ⟨Cn, T, N, ty0, ⟨hc, hin, hty, hnm⟩, hk, hl⟩ := F
  obtain ⟨hx, hb, hml, hown, hts⟩ := C
  rcases hl with hl | ⟨host, hl⟩
  · exact va_get hx hb hts hin hown hK.1 hP q0 he hc k hk (hts _ hl) (fun _ h => h) hv hdg kk
  · exact va_getN hx hb hts hin hown hK.1 hP q0 he hc k hk (va_Nw.use rfl (hK.2.1 _ hl)) (fun _ h => h) hv hdg kk
theorem x_put {index ci k : Nat} {ty : FieldType} (C : Cx p m c cc nL s args own) (hK : KU D cI cB A s) (hP : va_P D vwCl ws H) (hD : va_D A ws) (hS : va_S A s.heap H locs) (F : XFdP own index ci k ty) (q0 : Nat) {fs : List Value} {v : Value} {ws' : va_W} (he : ws[q0]? = some (a, .inr (ci, fs))) (hn : narrow ty v = v) (hfit : fits ty v = true) (hl : k < fs.length) (hw : ws.set q0 (a, .inr (ci, fs.set k v)) = ws') (hdg : decode cc pc = .ok (.putfield index, 3))
    (kk : ∀ (H1 : Heap) (locs1 : List Loc), va_P D vwCl ws' H1 → va_D A ws' → va_S A s.heap H1 locs1 → W p l e R s m args below meth c H1 locs1 cells slots Q (F0 m (pc + 3) ls rest)) : W p l e R s m args below meth c H locs cells slots Q (F0 m pc ls (v :: .ref a :: rest)) := by
  obtain ⟨Cn, T, N, ty0, ⟨hc, hin, hty, hnm⟩, hk, hlk, hfin, hd⟩ := F
  obtain ⟨hx, hb, hml, hown, hts⟩ := C
  subst hw
  rcases hlk with hlk | ⟨host, hlk⟩
  · exact va_put hx hb hts hin ty0 hty hnm hown hK.1 hP hD hS q0 he hc k hk (hts _ hlk) (fun _ h => h) hfin hd hn hfit hl hdg kk
  · exact va_putN hx hb hts hin ty0 hty hnm hown hK.1 hP hD hS q0 he hc k hk (va_Nw.use rfl (hK.2.1 _ hlk)) (fun _ h => h) hfin hd hn hfit hl hdg kk
theorem x_iald (C : Cx p m c cc nL s args own) (hK : KU D cI cB A s) (hP : va_P D vwCl ws H) (q0 : Nat) {n : Nat} {f : Nat → Int32} {i : Int32} (ha : ws[q0]? = some (iA cI n a f)) (hin : vp_in i n) (hdg : decode cc pc = .ok (.iaload, 1))
    (kk : W p l e R s m args below meth c H locs cells slots Q (F0 m (pc + 1) ls (.int (f i.toNatClampNeg) :: rest))) : W p l e R s m args below meth c H locs cells slots Q (F0 m pc ls (.int i :: .ref a :: rest)) := va_iald C.1 C.2.1 hK.1 hP q0 0 ha rfl hin hdg kk
theorem x_bald (C : Cx p m c cc nL s args own) (hK : KU D cI cB A s) (hP : va_P D vwCl ws H) (q0 : Nat) {n : Nat} {f : Nat → Int32} {i : Int32} (ha : ws[q0]? = some (iA cB n a f)) (hin : vp_in i n) (hdg : decode cc pc = .ok (.baload, 1))
    (kk : W p l e R s m args below meth c H locs cells slots Q (F0 m (pc + 1) ls (.int (f i.toNatClampNeg) :: rest))) : W p l e R s m args below meth c H locs cells slots Q (F0 m pc ls (.int i :: .ref a :: rest)) := va_bald C.1 C.2.1 hK.1 hP q0 1 ha rfl hin hdg kk
theorem x_iast (C : Cx p m c cc nL s args own) (hK : KU D cI cB A s) (hP : va_P D vwCl ws H) (hD : va_D A ws) (hS : va_S A s.heap H locs) (q0 : Nat) {n : Nat} {f : Nat → Int32} {i x : Int32} {ws' : va_W} (ha : ws[q0]? = some (iA cI n a f)) (hin : vp_in i n) (hw : ws.set q0 (iA cI n a (upd f i.toNatClampNeg x)) = ws') (hdg : decode cc pc = .ok (.iastore, 1))
    (kk : ∀ (H1 : Heap) (locs1 : List Loc), va_P D vwCl ws' H1 → va_D A ws' → va_S A s.heap H1 locs1 → W p l e R s m args below meth c H1 locs1 cells slots Q (F0 m (pc + 1) ls rest)) : W p l e R s m args below meth c H locs cells slots Q (F0 m pc ls (.int x :: .int i :: .ref a :: rest)) := by
  subst hw
  exact va_iast C.1 C.2.1 hK.1 hP hD hS q0 0 ha rfl hin hdg kk
theorem x_bast (C : Cx p m c cc nL s args own) (hK : KU D cI cB A s) (hP : va_P D vwCl ws H) (hD : va_D A ws) (hS : va_S A s.heap H locs) (q0 : Nat) {n : Nat} {f : Nat → Int32} {i x : Int32} {ws' : va_W} (ha : ws[q0]? = some (iA cB n a f)) (hin : vp_in i n) (hw : ws.set q0 (iA cB n a (upd f i.toNatClampNeg (vp_nar .byte x))) = ws') (hdg : decode cc pc = .ok (.bastore, 1))
    (kk : ∀ (H1 : Heap) (locs1 : List Loc), va_P D vwCl ws' H1 → va_D A ws' → va_S A s.heap H1 locs1 → W p l e R s m args below meth c H1 locs1 cells slots Q (F0 m (pc + 1) ls rest)) : W p l e R s m args below meth c H locs cells slots Q (F0 m pc ls (.int x :: .int i :: .ref a :: rest)) := by
  subst hw
  exact va_bast C.1 C.2.1 hK.1 hP hD hS q0 1 ha rfl hin hdg kk
theorem x_alen (C : Cx p m c cc nL s args own) (hK : KU D cI cB A s) (hP : va_P D vwCl ws H) (q0 : Nat) {n : Nat} {f : Nat → Int32} {v : Int32} (ha : ws[q0]? = some (iA cI n a f)) (hv : Int32.ofNat n = v) (hdg : decode cc pc = .ok (.arraylength, 1))
    (kk : W p l e R s m args below meth c H locs cells slots Q (F0 m (pc + 1) ls (.int v :: rest))) : W p l e R s m args below meth c H locs cells slots Q (F0 m pc ls (.ref a :: rest)) := va_alen C.1 C.2.1 hK.1 hP q0 0 ha rfl hv hdg kk
theorem x_ldc {index : Nat} {v : Int32} (C : Cx p m c cc nL s args own) (hw : Cond.constant own index v ∈ TB) (hdg : decode cc pc = .ok (.ldc index, 2)) (k : W p l e R s m args below meth c H locs cells slots Q (F0 m (pc + 2) ls (.int v :: rest))) : W p l e R s m args below meth c H locs cells slots Q (F0 m pc ls rest) := lv_ldc C.1 C.2.1 C.2.2.2.1 (C.2.2.2.2 _ hw) hdg k
theorem x_ldcw {index : Nat} {v : Int32} (C : Cx p m c cc nL s args own) (hw : Cond.constant own index v ∈ TB) (hdg : decode cc pc = .ok (.ldc_w index, 3)) (k : W p l e R s m args below meth c H locs cells slots Q (F0 m (pc + 3) ls (.int v :: rest))) : W p l e R s m args below meth c H locs cells slots Q (F0 m pc ls rest) := lv_ldcw C.1 C.2.1 C.2.2.2.1 (C.2.2.2.2 _ hw) hdg k
/-! ends -/
theorem x_iret {cells slots : Nat} {w1 : va_W} {r : Int32} (C : Cx p m c cc nL s args own) (hr : meth.sig.returnType = some .int) (hlk : meth.locks = false) (hP : va_P D vwCl w1 H) (hD : va_D A w1) (hS : va_S A s.heap H locs) (hdg : decode cc pc = .ok (.ireturn, 1)) : W p l e R s m args below meth c H locs cells slots (MQ below (PoI D A w1 r) args s cells slots A) (F0 m pc ls [.int r]) :=
  W.iret (v := r) C.1 C.2.1 hr (fun t ht hW => ⟨⟨r, (), rfl, rfl, by rw [ht]; exact hP, hD⟩, hS.F ht⟩) hS.2.2 hdg hlk
theorem x_zret {cells slots : Nat} {w1 : va_W} {r : Int32} (C : Cx p m c cc nL s args own) (hr : meth.sig.returnType = some .boolean) (hlk : meth.locks = false) (hz : r = 0 ∨ r = 1) (hP : va_P D vwCl w1 H) (hD : va_D A w1) (hS : va_S A s.heap H locs) (hdg : decode cc pc = .ok (.ireturn, 1)) : W p l e R s m args below meth c H locs cells slots (MQ below (PoI D A w1 r) args s cells slots A) (F0 m pc ls [.int r]) :=
  W.zret (v := r) C.1 C.2.1 hr (by rcases hz with h | h <;> subst h <;> decide) (fun t ht hW => ⟨⟨r, (), rfl, rfl, by rw [ht]; exact hP, hD⟩, hS.F ht⟩) hS.2.2 hdg hlk
theorem x_vret {cells slots : Nat} {w1 : va_W} (C : Cx p m c cc nL s args own) (hr : meth.sig.returnType = none) (hlk : meth.locks = false) (hP : va_P D vwCl w1 H) (hD : va_D A w1) (hS : va_S A s.heap H locs) (hdg : decode cc pc = .ok (.return_, 1)) : W p l e R s m args below meth c H locs cells slots (MQ below (PoV D A w1) args s cells slots A) (F0 m pc ls []) :=
  W.vret C.1 C.2.1 hr (fun t ht hW => ⟨⟨(), rfl, trivial, by rw [ht]; exact hP, hD⟩, hS.F ht⟩) hS.2.2 hdg hlk
end XW
/-! calls -/
def Lk (own : String) (index : Nat) (y : MethodName) : Prop := Cond.methodLink own index y ∈ TB ∨ ∃ host, Cond.methodLinkNest own index y host ∈ nestW
def Mf (own : String) (index : Nat) (y : MethodName) (bytes : ByteArray) (maxL : Nat) (ret : Option FieldType) (n : Nat) : Prop := Lk own index y ∧ Cond.initialized y.cls ∈ TB ∧ Cond.code y bytes maxL ret ∈ TB ∧ y.cls ≠ "java/lang/invoke/MethodHandle" ∧ y.cls ≠ "java/lang/invoke/VarHandle" ∧ (parseMethodDescriptor y.desc).map (fun d => d.parameters.length) = some n
def MfV (own : String) (index : Nat) (y : MethodName) (bytes : ByteArray) (maxL : Nat) (ret : Option FieldType) (n : Nat) : Prop := Mf own index y bytes maxL ret n ∧ Cond.instanceMethod y ∈ TB ∧ Cond.selects y.cls y y ∈ TB
def MfS (own : String) (index : Nat) (y : MethodName) (bytes : ByteArray) (maxL : Nat) (ret : Option FieldType) (n : Nat) : Prop := Mf own index y bytes maxL ret n ∧ Cond.static y ∈ TB
theorem good_cons {y : MethodName} {bytes : ByteArray} {maxL : Nat} {ret : Option FieldType} (h : Cond.code y bytes maxL ret ∈ TB) : GoodIn TB (Cond.code y bytes maxL ret :: TB) := by
  intro w hw
  rcases List.mem_cons.mp hw with rfl | hw
  · exact ⟨h, tb_good h⟩
  · exact ⟨hw, tb_good hw⟩
section XC
variable {p : Program} {l : Launch} {e : Env} {R : Room} {s : State} {m : MethodId} {args : Array Value} {below : List Frame} {meth : Method} {c : Code} {H : Heap} {locs : List Loc} {cells slots : Nat} {Q : State → Prop}
variable {cc : ByteArray} {pc nL : Nat} {ls : Array Slot} {rest : List Value} {D : va_G} {A : Nat → Prop} {ws : va_W} {cI cB : ClassId} {own : String}
variable {y : MethodName} {bytes : ByteArray} {maxL mc ms n index : Nat} {ret : Option FieldType} {rm : Room} {Pc : Array Value → State → Prop} {Qc : Array Value → State → Outcome → State → Prop} {free : Addr → Prop} {b : Addr} {As : List Value} {g : JFrame}
theorem x_runV (C : Cx p m c cc nL s args own) (hNK : NK s) (M : MfV own index y bytes maxL ret n) (hM : Met l y (.code y bytes maxL ret :: TB) rm Pc Qc mc ms free) (hrc : rm.cells = mc) (hrs : rm.slots = ms) (hR : rm.frames + 1 ≤ R.frames ∧ 8 + (maxL + 11) + rm.locals ≤ R.locals) (hp : PreV s H y.cls b Pc As)
    (hg : g.method = m) (hn : As.length = n) (hsize : g.locals.size = nL) (hstack : g.stack = As.reverse ++ .ref b :: rest) (hW : 2 * g.monitorRoom + (rest.map fun v => v.category).sum ≤ 8) (hdg : decode cc g.pc = .ok (.invokevirtual index, 3)) (hf : cells + mc ≤ R.cells ∧ slots + ms ≤ R.slots) :
    va_Run p l e R s m args below meth c H locs cells slots mc ms g rest (Qc (Value.ref b :: As).toArray) (free) := by
  obtain ⟨⟨hl, hini, hcode, hd⟩, hinst, hsel⟩ := M
  have hts := C.2.2.2.2
  rcases hl with hl | ⟨host, hl⟩
  · exact va_runV C hM ⟨callB_of n hts (good_cons hcode) rfl hrc hrs (hts _ hini) (hts _ hl) hd hR, hts _ hinst, hts _ hsel⟩ hp hg hn hsize hstack hW hdg hf
  · exact va_runVN C hM ⟨va_cnB n hts (good_cons hcode) rfl hrc hrs (hNK _ hl) (hts _ hini) hd hR, hts _ hinst, hts _ hsel⟩ hp hg hn hsize hstack hW hdg hf
theorem x_runS (C : Cx p m c cc nL s args own) (hNK : NK s) (M : MfS own index y bytes maxL ret n) (hM : Met l y (.code y bytes maxL ret :: TB) rm Pc Qc mc ms free) (hrc : rm.cells = mc) (hrs : rm.slots = ms) (hR : rm.frames + 1 ≤ R.frames ∧ 8 + (maxL + 11) + rm.locals ≤ R.locals) (hp : PreS s H Pc As)
    (hg : g.method = m) (hn : As.length = n) (hsize : g.locals.size = nL) (hstack : g.stack = As.reverse ++ rest) (hW : 2 * g.monitorRoom + (rest.map fun v => v.category).sum ≤ 8) (hdg : decode cc g.pc = .ok (.invokestatic index, 3)) (hf : cells + mc ≤ R.cells ∧ slots + ms ≤ R.slots) :
    va_Run p l e R s m args below meth c H locs cells slots mc ms g rest (Qc As.toArray) (free) := by
  obtain ⟨⟨hl, hini, hcode, hd⟩, hst⟩ := M
  have hts := C.2.2.2.2
  rcases hl with hl | ⟨host, hl⟩
  · exact va_runS C hM ⟨callB_of n hts (good_cons hcode) rfl hrc hrs (hts _ hini) (hts _ hl) hd hR, hts _ hst⟩ hp hg hn hsize hstack hW hdg hf
  · exact va_runSN C hM ⟨va_cnB n hts (good_cons hcode) rfl hrc hrs (hNK _ hl) (hts _ hini) hd hR, hts _ hst, trivial⟩ hp hg hn hsize hstack hW hdg hf
end XC
/-- the world with the cells at places is put in place of those that were there -/
def x_pick (ws : va_W) (is : List Nat) : va_W := is.filterMap (fun i => ws[i]?)
def x_pu : va_W → List Nat → va_W → va_W
  | ws, i :: is, q :: qs => x_pu (ws.set i q) is qs
  | ws, _, _ => ws
theorem x_pick_at {ws : va_W} : ∀ {is : List Nat}, (x_pick ws is).length = is.length → ∀ (k : Nat) (q : Nat × va_E), (x_pick ws is)[k]? = some q → ∃ i, is[k]? = some i ∧ ws[i]? = some q := by
  intro is
  induction is with
  | nil => intro _ k q h; simp [x_pick] at h
  | cons i is ih =>
    intro hl k q h
    cases hi : ws[i]? with
    | none =>
      exfalso
      have : x_pick ws (i :: is) = x_pick ws is := by simp [x_pick, hi]
      rw [this] at hl
      have h2 : (x_pick ws is).length ≤ is.length := List.length_filterMap_le _ _
      simp at hl
      omega
    | some v =>
      have he : x_pick ws (i :: is) = v :: x_pick ws is := by simp [x_pick, hi]
      rw [he] at h hl
      cases k with
      | zero =>
        simp at h
        exact ⟨i, rfl, by rw [hi, h]⟩
      | succ k =>
        have hl' : (x_pick ws is).length = is.length := by simpa using hl
        have h' : (x_pick ws is)[k]? = some q := by simpa using h
        obtain ⟨j, h1, h2⟩ := ih hl' k q h'
        exact ⟨j, by simpa using h1, h2⟩
theorem x_pu_at : ∀ {is : List Nat} {ws w1 : va_W} {k : Nat} {q : Nat × va_E}, (x_pu ws is w1)[k]? = some q → (∃ j : Nat, w1[j]? = some q) ∨ (ws[k]? = some q ∧ ∀ j i : Nat, is[j]? = some i → j < w1.length → i ≠ k) := by
  intro is
  induction is with
  | nil =>
    intro ws w1 k q h
    rw [x_pu] at h
    · exact Or.inr ⟨h, fun j i hj => by simp at hj⟩
    · intro i is q qs h1; cases h1
  | cons i is ih =>
    intro ws w1 k q h
    cases w1 with
    | nil =>
      rw [x_pu] at h
      · exact Or.inr ⟨h, fun j i hj hl => by simp at hl⟩
      · intro i is q qs h1 h2; cases h2
    | cons v w1 =>
      rw [x_pu] at h
      rcases ih h with ⟨j, hj⟩ | ⟨h1, h2⟩
      · exact Or.inl ⟨j + 1, by simpa using hj⟩
      · by_cases hki : i = k
        · subst hki
          by_cases hlt : i < ws.length
          · rw [List.getElem?_set_self hlt] at h1
            exact Or.inl ⟨0, by simpa using h1⟩
          · rw [List.getElem?_eq_none (by simp; omega)] at h1
            cases h1
        · rw [List.getElem?_set_ne hki] at h1
          refine Or.inr ⟨h1, fun j i' hj hl => ?_⟩
          cases j with
          | zero => simp at hj; subst hj; exact hki
          | succ j => exact h2 j i' (by simpa using hj) (by simpa using hl)
theorem x_dadr {A : Nat → Prop} {ws ws' : va_W} (h : ws'.map Prod.fst = ws.map Prod.fst) (hD : va_D A ws) : va_D A ws' := by
  have key : ∀ (k : Nat) (q : Nat × va_E), ws'[k]? = some q → ∃ q0 : Nat × va_E, ws[k]? = some q0 ∧ q0.1 = q.1 := by
    intro k q hq
    have h1 : (ws'.map Prod.fst)[k]? = some q.1 := by rw [List.getElem?_map, hq]; rfl
    rw [h, List.getElem?_map] at h1
    cases h2 : ws[k]? with
    | none => rw [h2] at h1; cases h1
    | some q0 => rw [h2] at h1; exact ⟨q0, rfl, Option.some.inj h1⟩
  refine ⟨fun i j x y hx hy hxy => ?_, fun k q hq => ?_⟩
  · obtain ⟨x0, hx0, ex⟩ := key i x hx
    obtain ⟨y0, hy0, ey⟩ := key j y hy
    exact hD.1 i j x0 y0 hx0 hy0 (by rw [ex, ey]; exact hxy)
  · obtain ⟨q0, hq0, eq⟩ := key k q hq
    rw [← eq]
    exact hD.2 k q0 hq0
theorem x_pu_P {A0 : Nat → Prop} {D : va_G} {cl : List vw_C} {ws w1 : va_W} {H H1 : Heap} (hP : va_P D cl ws H) (hD : va_D A0 ws) (is : List Nat) (hl : (x_pick ws is).length = is.length) (hl1 : w1.length = is.length)
    (hk : ∀ q : Nat, q < H.size → ¬ va_A (x_pick ws is) H.size q → H1[q]? = H[q]?) (hP1 : va_P D cl w1 H1) : va_P D cl (x_pu ws is w1) H1 := by
  intro k q hq
  rcases x_pu_at hq with ⟨j, hj⟩ | ⟨h1, h2⟩
  · exact hP1 j q hj
  · have hlt := (hP k q h1).lt
    refine (hP k q h1).kept (hk q.1 hlt ?_)
    rintro (⟨k2, e, h⟩ | h)
    · obtain ⟨i, h3, h4⟩ := x_pick_at hl k2 (q.1, e) h
      have hki := hD.1 k i q (q.1, e) h1 h4 rfl
      subst hki
      exact h2 k2 k h3 (by rw [hl1]; exact (List.getElem?_eq_some_iff.mp h3).1) rfl
    · omega
theorem x_pick_D {A : Nat → Prop} {ws : va_W} (hD : va_D A ws) (is : List Nat) (hl : (x_pick ws is).length = is.length) (hn : va_nd is = true) : va_D (fun _ => True) (x_pick ws is) := by
  refine ⟨fun i j x y hx hy hxy => ?_, fun _ _ _ => trivial⟩
  obtain ⟨i1, h1, h2⟩ := x_pick_at hl i x hx
  obtain ⟨j1, h3, h4⟩ := x_pick_at hl j y hy
  have := hD.1 i1 j1 x y h2 h4 hxy
  subst this
  exact va_nd_inj is hn i j i1 h1 h3
theorem x_pick_P {D : va_G} {cl : List vw_C} {ws : va_W} {H : Heap} (hP : va_P D cl ws H) (is : List Nat) (hl : (x_pick ws is).length = is.length) : va_P D cl (x_pick ws is) H := by
  intro k q hq
  obtain ⟨i, h1, h2⟩ := x_pick_at hl k q hq
  exact hP i q h2
theorem x_pick_F {A0 : Nat → Prop} {ws : va_W} {H0 H : Heap} {locs : List Loc} (hD : va_D A0 ws) (hS : va_S A0 H0 H locs) (hA : ∀ q, H0.size ≤ q → A0 q) (is : List Nat) (hl : (x_pick ws is).length = is.length) : ∀ q, va_A (x_pick ws is) H.size q → A0 q := by
  rintro q (⟨k, e, h⟩ | h)
  · obtain ⟨i, h1, h2⟩ := x_pick_at hl k (q, e) h
    exact hD.2 i (q, e) h2
  · exact hA q (Nat.le_trans hS.1 h)
section XD
variable {p : Program} {l : Launch} {e : Env} {R : Room} {s : State} {m : MethodId} {args : Array Value} {below : List Frame} {meth : Method} {c : Code} {H : Heap} {locs : List Loc} {cells slots : Nat} {Q : State → Prop}
variable {cc : ByteArray} {pc nL : Nat} {ls : Array Slot} {rest st : List Value} {D : va_G} {A : Nat → Prop} {ws ws' wc w1 : va_W} {cI cB : ClassId} {own : String}
variable {y : MethodName} {bytes : ByteArray} {maxL n index fr lo : Nat} {ret : Option FieldType} {b : Addr} {As : List Value} {r : Int32} {lv : List (Nat × Value)}
/-- what a call needs beside the contract: the callee's cells by their places, the receiver, the room -/
theorem x_callVI (C : Cx p m c cc nL s args own) (hK : KU D cI cB A s) (hP : va_P D vwCl ws H) (hD : va_D A ws) (hS : va_S A s.heap H locs) (hA : ∀ q, s.heap.size ≤ q → A q) (hl : lv_has ls nL lv)
    (M : MfV own index y bytes maxL ret n) (ct : CtI l D cI cB y bytes maxL ret fr lo (.ref b :: As) wc w1 r) (is : List Nat) (q0 ci : Nat) {fs : List Value} {T : u_T} {N : Nat}
    (hC : x_pick ws is = wc) (hn : va_nd is = true) (hl0 : wc.length = is.length) (hl1 : w1.length = is.length) (hw : x_pu ws is w1 = ws') (hadr : ws'.map Prod.fst = ws.map Prod.fst)
    (he : wc[q0]? = some (b, .inr (ci, fs))) (hcl : vwCl[ci]? = some (y.cls, T, N)) (hst : st = As.reverse ++ .ref b :: rest) (hnA : As.length = n) (hrm : (rest.map fun v => v.category).sum ≤ 8) (hfr : fr + 1 ≤ R.frames ∧ 8 + (maxL + 11) + lo ≤ R.locals) (hf : cells ≤ R.cells ∧ slots ≤ R.slots) (hdg : decode cc pc = .ok (.invokevirtual index, 3))
    (kk : ∀ (H1 : Heap) (locs1 : List Loc), va_P D vwCl ws' H1 → va_D A ws' → va_S A s.heap H1 locs1 → W p l e R s m args below meth c H1 locs1 cells slots Q (F0 m (pc + 3) ls (.int r :: rest))) : W p l e R s m args below meth c H locs cells slots Q (F0 m pc ls st) := by
  subst hC
  have hPc := x_pick_P hP is hl0
  have hDc := x_pick_D hD is hl0 hn
  have hFc := x_pick_F hD hS hA is hl0
  refine va_calli (x_runV (g := F0 m pc ls st) (rest := rest) C hK.2.1 M (ct H.size) rfl rfl hfr ⟨PreW.blind, va_recv hK.1 hPc hcl he, fun U hU hW => ⟨rfl, by rw [hU], by rw [hU]; exact hPc, hK.call hW hS hU hFc, hDc⟩⟩ rfl hnA hl.1 hst (lv_room hrm) hdg hf) hS (fun q _ h => hFc q h) hFc (fun r' u t H1 locs1 ht hvm hr hB hz1 hk1 hS1 => ?_)
  obtain ⟨hP1, hD1⟩ := hB
  subst hr
  subst hw
  rw [ht] at hP1
  exact kk H1 locs1 (x_pu_P hP hD is hl0 hl1 hk1 hP1) (x_dadr hadr hD) hS1
theorem x_callVV (C : Cx p m c cc nL s args own) (hK : KU D cI cB A s) (hP : va_P D vwCl ws H) (hD : va_D A ws) (hS : va_S A s.heap H locs) (hA : ∀ q, s.heap.size ≤ q → A q) (hl : lv_has ls nL lv)
    (M : MfV own index y bytes maxL none n) (ct : CtV l D cI cB y bytes maxL fr lo (.ref b :: As) wc w1) (is : List Nat) (q0 ci : Nat) {fs : List Value} {T : u_T} {N : Nat}
    (hC : x_pick ws is = wc) (hn : va_nd is = true) (hl0 : wc.length = is.length) (hl1 : w1.length = is.length) (hw : x_pu ws is w1 = ws') (hadr : ws'.map Prod.fst = ws.map Prod.fst)
    (he : wc[q0]? = some (b, .inr (ci, fs))) (hcl : vwCl[ci]? = some (y.cls, T, N)) (hst : st = As.reverse ++ .ref b :: rest) (hnA : As.length = n) (hrm : (rest.map fun v => v.category).sum ≤ 8) (hfr : fr + 1 ≤ R.frames ∧ 8 + (maxL + 11) + lo ≤ R.locals) (hf : cells ≤ R.cells ∧ slots ≤ R.slots) (hdg : decode cc pc = .ok (.invokevirtual index, 3))
    (kk : ∀ (H1 : Heap) (locs1 : List Loc), va_P D vwCl ws' H1 → va_D A ws' → va_S A s.heap H1 locs1 → W p l e R s m args below meth c H1 locs1 cells slots Q (F0 m (pc + 3) ls rest)) : W p l e R s m args below meth c H locs cells slots Q (F0 m pc ls st) := by
  subst hC
  have hPc := x_pick_P hP is hl0
  have hDc := x_pick_D hD is hl0 hn
  have hFc := x_pick_F hD hS hA is hl0
  refine va_callv (x_runV (g := F0 m pc ls st) (rest := rest) C hK.2.1 M (ct H.size) rfl rfl hfr ⟨PreW.blind, va_recv hK.1 hPc hcl he, fun U hU hW => ⟨rfl, by rw [hU], by rw [hU]; exact hPc, hK.call hW hS hU hFc, hDc⟩⟩ rfl hnA hl.1 hst (lv_room hrm) hdg hf) hS (fun q _ h => hFc q h) hFc (fun u t H1 locs1 ht hvm hr hB hz1 hk1 hS1 => ?_)
  obtain ⟨hP1, hD1⟩ := hB
  subst hw
  rw [ht] at hP1
  exact kk H1 locs1 (x_pu_P hP hD is hl0 hl1 hk1 hP1) (x_dadr hadr hD) hS1
theorem x_callSI (C : Cx p m c cc nL s args own) (hK : KU D cI cB A s) (hP : va_P D vwCl ws H) (hD : va_D A ws) (hS : va_S A s.heap H locs) (hA : ∀ q, s.heap.size ≤ q → A q) (hl : lv_has ls nL lv)
    (M : MfS own index y bytes maxL ret n) (ct : CtI l D cI cB y bytes maxL ret fr lo As wc w1 r) (is : List Nat)
    (hC : x_pick ws is = wc) (hn : va_nd is = true) (hl0 : wc.length = is.length) (hl1 : w1.length = is.length) (hw : x_pu ws is w1 = ws') (hadr : ws'.map Prod.fst = ws.map Prod.fst)
    (hst : st = As.reverse ++ rest) (hnA : As.length = n) (hrm : (rest.map fun v => v.category).sum ≤ 8) (hfr : fr + 1 ≤ R.frames ∧ 8 + (maxL + 11) + lo ≤ R.locals) (hf : cells ≤ R.cells ∧ slots ≤ R.slots) (hdg : decode cc pc = .ok (.invokestatic index, 3))
    (kk : ∀ (H1 : Heap) (locs1 : List Loc), va_P D vwCl ws' H1 → va_D A ws' → va_S A s.heap H1 locs1 → W p l e R s m args below meth c H1 locs1 cells slots Q (F0 m (pc + 3) ls (.int r :: rest))) : W p l e R s m args below meth c H locs cells slots Q (F0 m pc ls st) := by
  subst hC
  have hPc := x_pick_P hP is hl0
  have hDc := x_pick_D hD is hl0 hn
  have hFc := x_pick_F hD hS hA is hl0
  refine va_calli (x_runS (g := F0 m pc ls st) (rest := rest) C hK.2.1 M (ct H.size) rfl rfl hfr ⟨PreW.blind, fun U hU hW => ⟨rfl, by rw [hU], by rw [hU]; exact hPc, hK.call hW hS hU hFc, hDc⟩⟩ rfl hnA hl.1 hst (lv_room hrm) hdg hf) hS (fun q _ h => hFc q h) hFc (fun r' u t H1 locs1 ht hvm hr hB hz1 hk1 hS1 => ?_)
  obtain ⟨hP1, hD1⟩ := hB
  subst hr
  subst hw
  rw [ht] at hP1
  exact kk H1 locs1 (x_pu_P hP hD is hl0 hl1 hk1 hP1) (x_dadr hadr hD) hS1
theorem x_callSV (C : Cx p m c cc nL s args own) (hK : KU D cI cB A s) (hP : va_P D vwCl ws H) (hD : va_D A ws) (hS : va_S A s.heap H locs) (hA : ∀ q, s.heap.size ≤ q → A q) (hl : lv_has ls nL lv)
    (M : MfS own index y bytes maxL none n) (ct : CtV l D cI cB y bytes maxL fr lo As wc w1) (is : List Nat)
    (hC : x_pick ws is = wc) (hn : va_nd is = true) (hl0 : wc.length = is.length) (hl1 : w1.length = is.length) (hw : x_pu ws is w1 = ws') (hadr : ws'.map Prod.fst = ws.map Prod.fst)
    (hst : st = As.reverse ++ rest) (hnA : As.length = n) (hrm : (rest.map fun v => v.category).sum ≤ 8) (hfr : fr + 1 ≤ R.frames ∧ 8 + (maxL + 11) + lo ≤ R.locals) (hf : cells ≤ R.cells ∧ slots ≤ R.slots) (hdg : decode cc pc = .ok (.invokestatic index, 3))
    (kk : ∀ (H1 : Heap) (locs1 : List Loc), va_P D vwCl ws' H1 → va_D A ws' → va_S A s.heap H1 locs1 → W p l e R s m args below meth c H1 locs1 cells slots Q (F0 m (pc + 3) ls rest)) : W p l e R s m args below meth c H locs cells slots Q (F0 m pc ls st) := by
  subst hC
  have hPc := x_pick_P hP is hl0
  have hDc := x_pick_D hD is hl0 hn
  have hFc := x_pick_F hD hS hA is hl0
  refine va_callv (x_runS (g := F0 m pc ls st) (rest := rest) C hK.2.1 M (ct H.size) rfl rfl hfr ⟨PreW.blind, fun U hU hW => ⟨rfl, by rw [hU], by rw [hU]; exact hPc, hK.call hW hS hU hFc, hDc⟩⟩ rfl hnA hl.1 hst (lv_room hrm) hdg hf) hS (fun q _ h => hFc q h) hFc (fun u t H1 locs1 ht hvm hr hB hz1 hk1 hS1 => ?_)
  obtain ⟨hP1, hD1⟩ := hB
  subst hw
  rw [ht] at hP1
  exact kk H1 locs1 (x_pu_P hP hD is hl0 hl1 hk1 hP1) (x_dadr hadr hD) hS1
end XD
/-! the words of the pure functions -/
def gI {ρ : Type} (n : Nat) (f : Nat → Int32) (i : Int32) (K : Int32 → Option ρ) : Option ρ := if i < 0 ∨ n ≤ i.toNatClampNeg then none else K (f i.toNatClampNeg)
def sI {ρ : Type} (n : Nat) (f : Nat → Int32) (i x : Int32) (K : (Nat → Int32) → Option ρ) : Option ρ := if i < 0 ∨ n ≤ i.toNatClampNeg then none else K (upd f i.toNatClampNeg x)
def dI {ρ : Type} (x y : Int32) (K : Int32 → Option ρ) : Option ρ := if y = 0 then none else K (x / y)
def rI {ρ : Type} (x y : Int32) (K : Int32 → Option ρ) : Option ρ := if y = 0 then none else K (x - x / y * y)
def zI {ρ : Type} (x : Int32) (K : Option ρ) : Option ρ := if x = 0 ∨ x = 1 then K else none
theorem gI_e {ρ : Type} {n : Nat} {f : Nat → Int32} {i : Int32} {K : Int32 → Option ρ} {R : ρ} (h : gI n f i K = some R) : vp_in i n ∧ K (f i.toNatClampNeg) = some R := by
  unfold gI at h
  split at h
  · cases h
  · exact ⟨by assumption, h⟩
theorem sI_e {ρ : Type} {n : Nat} {f : Nat → Int32} {i x : Int32} {K : (Nat → Int32) → Option ρ} {R : ρ} (h : sI n f i x K = some R) : vp_in i n ∧ K (upd f i.toNatClampNeg x) = some R := by
  unfold sI at h
  split at h
  · cases h
  · exact ⟨by assumption, h⟩
theorem dI_e {ρ : Type} {x y : Int32} {K : Int32 → Option ρ} {R : ρ} (h : dI x y K = some R) : ¬ y = 0 ∧ K (x / y) = some R := by
  unfold dI at h
  split at h
  · cases h
  · exact ⟨by assumption, h⟩
theorem rI_e {ρ : Type} {x y : Int32} {K : Int32 → Option ρ} {R : ρ} (h : rI x y K = some R) : ¬ y = 0 ∧ K (x - x / y * y) = some R := by
  unfold rI at h
  split at h
  · cases h
  · exact ⟨by assumption, h⟩
theorem zI_e {ρ : Type} {x : Int32} {K : Option ρ} {R : ρ} (h : zI x K = some R) : (x = 0 ∨ x = 1) ∧ K = some R := by
  unfold zI at h
  split at h
  · exact ⟨by assumption, h⟩
  · cases h
theorem if_t {α : Type} {q : Prop} [Decidable q] {a b R : α} (c : q) (h : (if q then a else b) = R) : a = R := by rw [if_pos c] at h; exact h
theorem if_f {α : Type} {q : Prop} [Decidable q] {a b R : α} (c : ¬ q) (h : (if q then a else b) = R) : b = R := by rw [if_neg c] at h; exact h
theorem if_t' {α : Type} {q : Prop} [Decidable q] {a b R : α} (c : ¬ q) (h : (if q then a else b) = R) : b = R := by rw [if_neg c] at h; exact h
