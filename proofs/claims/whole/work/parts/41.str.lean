/-! the one String constant and the JDK's methods that read it -/
def sV : Nat → Int32 := fun j => (sByt.getD 0 []).getD j 0
def PreJ (D : va_G) (cI cB : ClassId) (av : List Value) (aK aV sz : Nat) : Array Value → State → Prop := va_Pc av (fun U => U.heap.size = sz ∧ KU D cI cB (va_A [] sz) U ∧ SKa (va_A [] sz) U U.heap aK aV)
theorem PreJ.blind {D : va_G} {cI cB : ClassId} {av : List Value} {aK aV sz : Nat} : FrameBlind (PreJ D cI cB av aK aV sz) := by
  intro a U g mk q
  obtain ⟨q0, q1, ⟨k1, k2, bK, bV, k3, k4, k5⟩, k6, k7⟩ := q
  exact ⟨q0, q1, ⟨va_K.moved (u := U) (U := U.calling g mk a) (Vm.Alike.refl U.vm) k1, NK.same (u := U) (U := U.calling g mk a) rfl k2, bK, bV, vk_R.same (u := U) (U := U.calling g mk a) rfl k3, vk_S.moved (u := U) (U := U.calling g mk a) (Vm.Alike.refl U.vm) k4, va_Z.moved (u := U) (U := U.calling g mk a) (Vm.Alike.refl U.vm) k5⟩, vk_S.moved (u := U) (U := U.calling g mk a) (Vm.Alike.refl U.vm) k6, va_Z.moved (u := U) (U := U.calling g mk a) (Vm.Alike.refl U.vm) k7⟩
def CtJ (l : Launch) (D : va_G) (cI cB : ClassId) (y : MethodName) (bytes : ByteArray) (maxL : Nat) (ret : Option FieldType) (fr lo : Nat) (av : List Value) (aK aV : Nat) (r : Int32) : Prop :=
  ∀ sz, Met l y (.code y bytes maxL ret :: TB) { frames := fr, cells := 0, slots := 0, locals := lo } (PreJ D cI cB av aK aV sz) (PoI D (va_A [] sz) [] r) 0 0 (va_A [] sz)
theorem x_startJ {l : Launch} {D : va_G} {cI cB : ClassId} {y : MethodName} {bytes : ByteArray} {maxL : Nat} {ret : Option FieldType} {fr lo : Nat} {av : List Value} {aK aV : Nat} {r : Int32} (hy : plainName y.cls = true) (hav : (lg_sl av).length ≤ maxL)
    (body : ∀ (p : Program) (e : Env) (s : State) (m : MethodId) (below : List Frame) (meth : Method) (c : Code) (A : Nat → Prop), Cx p m c bytes maxL s av.toArray y.cls → meth.sig.returnType = ret → meth.locks = false → (∀ q, s.heap.size ≤ q → A q) → KU D cI cB A s → SKa A s s.heap aK aV → va_P D vwCl [] s.heap → va_D A [] → va_S A s.heap s.heap [] → ∀ ls, lv_has ls maxL (lv_args 0 av) →
      W p l e { frames := fr, cells := 0, slots := 0, locals := lo } s m av.toArray below meth c s.heap [] 0 0 (MQ below (PoI D A [] r) av.toArray s 0 0 A) (F0 m 0 ls [])) : CtJ l D cI cB y bytes maxL ret fr lo av aK aV r := by
  intro sz
  refine Met.ofW (cc := bytes) (maxL := maxL) (ret := ret) hy rfl ?_
  intro p e s m args below meth c s₁ B hml hv
  obtain ⟨rfl, hsz, hK, hE⟩ := hv
  subst hsz
  have hts := atoms_spec (ws := Cond.code y bytes maxL ret :: TB) B.pre
  have hl := lv_entry av (n := maxL) hav
  rw [lg_entry_eq]
  exact body p e s m below meth c (va_A [] s.heap.size) ⟨B.exec, B.bytes, hml, findClass_of_methodNamed B.named, fun w hw => hts w (List.mem_cons_of_mem _ hw)⟩ B.returns B.notSynchronized (fun q h => Or.inr h) hK hE (fun k q h => by simp at h) ⟨fun i j p q h => by simp at h, fun k q h => by simp at h⟩ va_S.rf _ hl
section XJ
variable {p : Program} {l : Launch} {e : Env} {R : Room} {s : State} {m : MethodId} {args : Array Value} {below : List Frame} {meth : Method} {c : Code} {H : Heap} {locs : List Loc} {cells slots : Nat} {Q : State → Prop}
variable {cc : ByteArray} {pc nL : Nat} {ls : Array Slot} {rest st : List Value} {D : va_G} {A : Nat → Prop} {ws w1 : va_W} {cI cB : ClassId} {own : String}
variable {y : MethodName} {bytes : ByteArray} {maxL n index fr lo aK aV : Nat} {ret : Option FieldType} {As : List Value} {r : Int32} {lv : List (Nat × Value)}
theorem x_bret {cells slots : Nat} (C : Cx p m c cc nL s args own) (hr : meth.sig.returnType = some .byte) (hlk : meth.locks = false) (hz : r = 0 ∨ r = 1) (hP : va_P D vwCl w1 H) (hD : va_D A w1) (hS : va_S A s.heap H locs) (hdg : decode cc pc = .ok (.ireturn, 1)) : W p l e R s m args below meth c H locs cells slots (MQ below (PoI D A w1 r) args s cells slots A) (F0 m pc ls [.int r]) :=
  W.zret (v := r) C.1 C.2.1 hr (by rcases hz with h | h <;> subst h <;> decide) (fun t ht hW => ⟨⟨r, (), rfl, rfl, by rw [ht]; exact hP, hD⟩, hS.F ht⟩) hS.2.2 hdg hlk
theorem x_emptyF {H0 : Heap} (hS : va_S A H0 H locs) (hA : ∀ q, H0.size ≤ q → A q) : ∀ q, va_A [] H.size q → A q := by
  rintro q (⟨k, e, h⟩ | h)
  · simp at h
  · exact hA q (Nat.le_trans hS.1 h)
theorem x_keptP {H1 : Heap} (hP : va_P D vwCl ws H) (hk : ∀ q : Nat, q < H.size → ¬ va_A [] H.size q → H1[q]? = H[q]?) : va_P D vwCl ws H1 := by
  intro k q hq
  have hlt := (hP k q hq).lt
  refine (hP k q hq).kept (hk q.1 hlt ?_)
  rintro (⟨k2, e, h⟩ | h)
  · simp at h
  · omega
theorem x_callJV (C : Cx p m c cc nL s args own) (hK : KU D cI cB A s) (hP : va_P D vwCl ws H) (hD : va_D A ws) (hS : va_S A s.heap H locs) (hA : ∀ q, s.heap.size ≤ q → A q) (hl : lv_has ls nL lv) (hE : SKa A s s.heap aK aV)
    (M : MfV own index y bytes maxL ret n) (ct : CtJ l D cI cB y bytes maxL ret fr lo (.ref aK :: As) aK aV r) (hst : st = As.reverse ++ .ref aK :: rest) (hnA : As.length = n) (hrm : (rest.map fun v => v.category).sum ≤ 8) (hfr : fr + 1 ≤ R.frames ∧ 8 + (maxL + 11) + lo ≤ R.locals) (hf : cells ≤ R.cells ∧ slots ≤ R.slots) (hdg : decode cc pc = .ok (.invokevirtual index, 3))
    (kk : ∀ (H1 : Heap) (locs1 : List Loc), va_P D vwCl ws H1 → va_D A ws → va_S A s.heap H1 locs1 → W p l e R s m args below meth c H1 locs1 cells slots Q (F0 m (pc + 3) ls (.int r :: rest))) (hyc : y.cls = "java/lang/String" := by rfl) : W p l e R s m args below meth c H locs cells slots Q (F0 m pc ls st) := by
  have hFc := x_emptyF hS hA
  have hrec := vk_recv (i := 0) hE.1 (by decide) hS
  rw [← hyc] at hrec
  refine va_calli (x_runV (g := F0 m pc ls st) (rest := rest) C hK.2.1 M (ct H.size) rfl rfl hfr ⟨PreJ.blind, hrec, fun U hU hW => ⟨rfl, by rw [hU], hK.call hW hS hU hFc, hE.call hW hS hU hFc⟩⟩ rfl hnA hl.1 hst (lv_room hrm) hdg hf) hS (fun q _ h => hFc q h) hFc (fun r' u t H1 locs1 ht hvm hr hB hz1 hk1 hS1 => ?_)
  subst hr
  exact kk H1 locs1 (x_keptP hP hk1) hD hS1
theorem x_callJS (C : Cx p m c cc nL s args own) (hK : KU D cI cB A s) (hP : va_P D vwCl ws H) (hD : va_D A ws) (hS : va_S A s.heap H locs) (hA : ∀ q, s.heap.size ≤ q → A q) (hl : lv_has ls nL lv) (hE : SKa A s s.heap aK aV)
    (M : MfS own index y bytes maxL ret n) (ct : CtJ l D cI cB y bytes maxL ret fr lo As aK aV r) (hst : st = As.reverse ++ rest) (hnA : As.length = n) (hrm : (rest.map fun v => v.category).sum ≤ 8) (hfr : fr + 1 ≤ R.frames ∧ 8 + (maxL + 11) + lo ≤ R.locals) (hf : cells ≤ R.cells ∧ slots ≤ R.slots) (hdg : decode cc pc = .ok (.invokestatic index, 3))
    (kk : ∀ (H1 : Heap) (locs1 : List Loc), va_P D vwCl ws H1 → va_D A ws → va_S A s.heap H1 locs1 → W p l e R s m args below meth c H1 locs1 cells slots Q (F0 m (pc + 3) ls (.int r :: rest))) : W p l e R s m args below meth c H locs cells slots Q (F0 m pc ls st) := by
  have hFc := x_emptyF hS hA
  refine va_calli (x_runS (g := F0 m pc ls st) (rest := rest) C hK.2.1 M (ct H.size) rfl rfl hfr ⟨PreJ.blind, fun U hU hW => ⟨rfl, by rw [hU], hK.call hW hS hU hFc, hE.call hW hS hU hFc⟩⟩ rfl hnA hl.1 hst (lv_room hrm) hdg hf) hS (fun q _ h => hFc q h) hFc (fun r' u t H1 locs1 ht hvm hr hB hz1 hk1 hS1 => ?_)
  subst hr
  exact kk H1 locs1 (x_keptP hP hk1) hD hS1
end XJ

def f_J1_canEncode_9a6ad_b16 (s0 : Int32) : Option (Int32) :=
  zI s0 (some s0)
def f_J1_canEncode_9a6ad_b15 : Option (Int32) :=
  f_J1_canEncode_9a6ad_b16 (0 : Int32)
def f_J1_canEncode_9a6ad (a0 : Int32) : Option (Int32) :=
  if a0 < 0 then
    f_J1_canEncode_9a6ad_b15
  else
    if (255 : Int32) < a0 then
      f_J1_canEncode_9a6ad_b15
    else
      f_J1_canEncode_9a6ad_b16 (1 : Int32)
set_option maxHeartbeats 4000000 in
set_option maxRecDepth 100000 in
theorem c_J1_canEncode_9a6ad {l : Launch} {D : va_G} {cI cB : ClassId} {a0 : Int32} {o_r : Int32} (hf : f_J1_canEncode_9a6ad a0 = some o_r) : CtI l D cI cB yJ1_canEncode_9a6ad cJ1_canEncode_9a6ad 1 (some .boolean) 0 0 [.int a0] [] [] o_r := by
  refine x_startI (by decide) (Nat.le_of_ble_eq_true rfl) ?_
  intro p e s m below meth c A C hr hlk hA hK hP hD hS ls hl
  have hl : lv_has ls 1 [(0, .int a0)] := hl
  have hx := C.1
  have hb := C.2.1
  unfold f_J1_canEncode_9a6ad at hf
  have hb_16 : ∀ (s0 : Int32) (H : Heap) (locs : List Loc) (ls : Array Slot), lv_has ls 1 [] → va_P D vwCl [] H → va_D A [] → va_S A s.heap H locs → f_J1_canEncode_9a6ad_b16 s0 = some o_r → W p l e { frames := 0, cells := 0, slots := 0, locals := 0 } s m ([.int a0] : List Value).toArray below meth c H locs 0 0 (MQ below (PoI D A [] o_r) ([.int a0] : List Value).toArray s 0 0 A) (F0 m 16 ls [.int s0]) := by
    intro s0 H locs ls hl hP hD hS hf
    unfold f_J1_canEncode_9a6ad_b16 at hf
    obtain ⟨hz, hf⟩ := zI_e hf
    obtain rfl := ev1 hf
    exact x_zret C hr hlk hz hP hD hS dJ1_canEncode_9a6ad_16
  have hb_15 : ∀ (H : Heap) (locs : List Loc) (ls : Array Slot), lv_has ls 1 [] → va_P D vwCl [] H → va_D A [] → va_S A s.heap H locs → f_J1_canEncode_9a6ad_b15 = some o_r → W p l e { frames := 0, cells := 0, slots := 0, locals := 0 } s m ([.int a0] : List Value).toArray below meth c H locs 0 0 (MQ below (PoI D A [] o_r) ([.int a0] : List Value).toArray s 0 0 A) (F0 m 15 ls []) := by
    intro H locs ls hl hP hD hS hf
    unfold f_J1_canEncode_9a6ad_b15 at hf
    refine lv_iconst (v := 0) hx hb dJ1_canEncode_9a6ad_15 (by decide) ?_
    exact hb_16 (0 : Int32) _ _ ls (lv_sub hl [] rfl) hP hD hS hf
  refine lv_iload_n hx hb dJ1_canEncode_9a6ad_0 rfl (lv_at hl 0 rfl) ?_
  refine lv_if_lt (tgt := 15) hx hb dJ1_canEncode_9a6ad_1 (by decide) (fun q => ?_) (fun q => ?_)
  · have hf := if_t q hf
    exact hb_15 _ _ ls (lv_sub hl [] rfl) hP hD hS hf
  · have hf := if_f q hf
    refine lv_iload_n hx hb dJ1_canEncode_9a6ad_4 rfl (lv_at hl 0 rfl) ?_
    refine lv_sipush (v := 255) hx hb dJ1_canEncode_9a6ad_5 (by decide) ?_
    refine lv_icmp_gt (tgt := 15) hx hb dJ1_canEncode_9a6ad_8 (by decide) (fun q => ?_) (fun q => ?_)
    · have hf := if_t q hf
      exact hb_15 _ _ ls (lv_sub hl [] rfl) hP hD hS hf
    · have hf := if_f q hf
      refine lv_iconst (v := 1) hx hb dJ1_canEncode_9a6ad_11 (by decide) ?_
      refine lv_goto (tgt := 16) hx hb dJ1_canEncode_9a6ad_12 (by decide) ?_
      exact hb_16 (1 : Int32) _ _ ls (lv_sub hl [] rfl) hP hD hS hf
def f_J0_isLatin1_aae02_b18 (s0 : Int32) : Option (Int32) :=
  zI s0 (some s0)
def f_J0_isLatin1_aae02_b17 : Option (Int32) :=
  f_J0_isLatin1_aae02_b18 (0 : Int32)
def f_J0_isLatin1_aae02 : Option (Int32) :=
  if (1 : Int32) = 0 then
    f_J0_isLatin1_aae02_b17
  else
    if (0 : Int32) = 0 then
      f_J0_isLatin1_aae02_b18 (1 : Int32)
    else
      f_J0_isLatin1_aae02_b17
set_option maxHeartbeats 4000000 in
set_option maxRecDepth 100000 in
theorem c_J0_isLatin1_aae02 {l : Launch} {D : va_G} {cI cB : ClassId} {o_r : Int32} {aK aV : Nat} (hf : f_J0_isLatin1_aae02 = some o_r) : CtJ l D cI cB yJ0_isLatin1_aae02 cJ0_isLatin1_aae02 1 (some .boolean) 0 0 [.ref aK] aK aV o_r := by
  refine x_startJ (by decide) (Nat.le_of_ble_eq_true rfl) ?_
  intro p e s m below meth c A C hr hlk hA hK hE hP hD hS ls hl
  have hl : lv_has ls 1 [(0, .ref aK)] := hl
  have hx := C.1
  have hb := C.2.1
  unfold f_J0_isLatin1_aae02 at hf
  have hb_18 : ∀ (s0 : Int32) (H : Heap) (locs : List Loc) (ls : Array Slot), lv_has ls 1 [] → va_P D vwCl [] H → va_D A [] → va_S A s.heap H locs → f_J0_isLatin1_aae02_b18 s0 = some o_r → W p l e { frames := 0, cells := 0, slots := 0, locals := 0 } s m ([.ref aK] : List Value).toArray below meth c H locs 0 0 (MQ below (PoI D A [] o_r) ([.ref aK] : List Value).toArray s 0 0 A) (F0 m 18 ls [.int s0]) := by
    intro s0 H locs ls hl hP hD hS hf
    unfold f_J0_isLatin1_aae02_b18 at hf
    obtain ⟨hz, hf⟩ := zI_e hf
    obtain rfl := ev1 hf
    exact x_zret C hr hlk hz hP hD hS dJ0_isLatin1_aae02_18
  have hb_17 : ∀ (H : Heap) (locs : List Loc) (ls : Array Slot), lv_has ls 1 [] → va_P D vwCl [] H → va_D A [] → va_S A s.heap H locs → f_J0_isLatin1_aae02_b17 = some o_r → W p l e { frames := 0, cells := 0, slots := 0, locals := 0 } s m ([.ref aK] : List Value).toArray below meth c H locs 0 0 (MQ below (PoI D A [] o_r) ([.ref aK] : List Value).toArray s 0 0 A) (F0 m 17 ls []) := by
    intro H locs ls hl hP hD hS hf
    unfold f_J0_isLatin1_aae02_b17 at hf
    refine lv_iconst (v := 0) hx hb dJ0_isLatin1_aae02_17 (by decide) ?_
    exact hb_18 (0 : Int32) _ _ ls (lv_sub hl [] rfl) hP hD hS hf
  refine va_gets hx hb hE.2 hS C.2.2.2.1 (C.2.2.2.2 _ fl_J0_38) (fun _ h => h) dJ0_isLatin1_aae02_0 ?_
  refine lv_if_eq (tgt := 17) hx hb dJ0_isLatin1_aae02_3 (by decide) (fun q => ?_) (fun q => ?_)
  · have hf := if_t q hf
    exact hb_17 _ _ ls (lv_sub hl [] rfl) hP hD hS hf
  · have hf := if_f q hf
    refine lv_aload_n hx hb dJ0_isLatin1_aae02_6 rfl (lv_at hl 0 rfl) ?_
    refine vk_getf hx hb (hE.1.1 0 (by decide)).2.1 hS C.2.2.2.1 (C.2.2.2.2 _ fl_J0_15) (fun _ h => h) dJ0_isLatin1_aae02_7 ?_
    refine lv_if_ne (tgt := 17) hx hb dJ0_isLatin1_aae02_10 (by decide) (fun q => ?_) (fun q => ?_)
    · have hf := if_f q hf
      exact hb_17 _ _ ls (lv_sub hl [] rfl) hP hD hS hf
    · have hf := if_t q hf
      refine lv_iconst (v := 1) hx hb dJ0_isLatin1_aae02_13 (by decide) ?_
      refine lv_goto (tgt := 18) hx hb dJ0_isLatin1_aae02_14 (by decide) ?_
      exact hb_18 (1 : Int32) _ _ ls (lv_sub hl [] rfl) hP hD hS hf
def f_J0_coder_7d493_b14 (s0 : Int32) : Option (Int32) :=
  zI s0 (some s0)
def f_J0_coder_7d493 : Option (Int32) :=
  if (1 : Int32) = 0 then
    f_J0_coder_7d493_b14 (1 : Int32)
  else
    f_J0_coder_7d493_b14 (0 : Int32)
set_option maxHeartbeats 4000000 in
set_option maxRecDepth 100000 in
theorem c_J0_coder_7d493 {l : Launch} {D : va_G} {cI cB : ClassId} {o_r : Int32} {aK aV : Nat} (hf : f_J0_coder_7d493 = some o_r) : CtJ l D cI cB yJ0_coder_7d493 cJ0_coder_7d493 1 (some .byte) 0 0 [.ref aK] aK aV o_r := by
  refine x_startJ (by decide) (Nat.le_of_ble_eq_true rfl) ?_
  intro p e s m below meth c A C hr hlk hA hK hE hP hD hS ls hl
  have hl : lv_has ls 1 [(0, .ref aK)] := hl
  have hx := C.1
  have hb := C.2.1
  unfold f_J0_coder_7d493 at hf
  have hb_14 : ∀ (s0 : Int32) (H : Heap) (locs : List Loc) (ls : Array Slot), lv_has ls 1 [] → va_P D vwCl [] H → va_D A [] → va_S A s.heap H locs → f_J0_coder_7d493_b14 s0 = some o_r → W p l e { frames := 0, cells := 0, slots := 0, locals := 0 } s m ([.ref aK] : List Value).toArray below meth c H locs 0 0 (MQ below (PoI D A [] o_r) ([.ref aK] : List Value).toArray s 0 0 A) (F0 m 14 ls [.int s0]) := by
    intro s0 H locs ls hl hP hD hS hf
    unfold f_J0_coder_7d493_b14 at hf
    obtain ⟨hz, hf⟩ := zI_e hf
    obtain rfl := ev1 hf
    exact x_bret C hr hlk hz hP hD hS dJ0_coder_7d493_14
  refine va_gets hx hb hE.2 hS C.2.2.2.1 (C.2.2.2.2 _ fl_J0_38) (fun _ h => h) dJ0_coder_7d493_0 ?_
  refine lv_if_eq (tgt := 13) hx hb dJ0_coder_7d493_3 (by decide) (fun q => ?_) (fun q => ?_)
  · have hf := if_t q hf
    refine lv_iconst (v := 1) hx hb dJ0_coder_7d493_13 (by decide) ?_
    exact hb_14 (1 : Int32) _ _ ls (lv_sub hl [] rfl) hP hD hS hf
  · have hf := if_f q hf
    refine lv_aload_n hx hb dJ0_coder_7d493_6 rfl (lv_at hl 0 rfl) ?_
    refine vk_getf hx hb (hE.1.1 0 (by decide)).2.1 hS C.2.2.2.1 (C.2.2.2.2 _ fl_J0_15) (fun _ h => h) dJ0_coder_7d493_7 ?_
    refine lv_goto (tgt := 14) hx hb dJ0_coder_7d493_10 (by decide) ?_
    exact hb_14 (0 : Int32) _ _ ls (lv_sub hl [] rfl) hP hD hS hf
def f_J0_length_8abf5 : Option (Int32) :=
  bd1 (f_J0_coder_7d493) (fun r1 =>
  some ((10 : Int32) >>> (r1 &&& 31)))
set_option maxHeartbeats 4000000 in
set_option maxRecDepth 100000 in
theorem c_J0_length_8abf5 {l : Launch} {D : va_G} {cI cB : ClassId} {o_r : Int32} {aK aV : Nat} (hf : f_J0_length_8abf5 = some o_r) : CtJ l D cI cB yJ0_length_8abf5 cJ0_length_8abf5 1 (some .int) 1 20 [.ref aK] aK aV o_r := by
  refine x_startJ (by decide) (Nat.le_of_ble_eq_true rfl) ?_
  intro p e s m below meth c A C hr hlk hA hK hE hP hD hS ls hl
  have hl : lv_has ls 1 [(0, .ref aK)] := hl
  have hx := C.1
  have hb := C.2.1
  unfold f_J0_length_8abf5 at hf
  refine lv_aload_n hx hb dJ0_length_8abf5_0 rfl (lv_at hl 0 rfl) ?_
  refine vk_getf hx hb (hE.1.1 0 (by decide)).2.2.1 hS C.2.2.2.1 (C.2.2.2.2 _ fl_J0_9) (fun _ h => h) dJ0_length_8abf5_1 ?_
  refine va_tlen (v := 10) hx hb (hE.1.1 0 (by decide)).2.2.2 hS (by decide) dJ0_length_8abf5_4 ?_
  refine lv_aload_n hx hb dJ0_length_8abf5_5 rfl (lv_at hl 0 rfl) ?_
  obtain ⟨r1, hc2, hf⟩ := bd1_e hf
  refine x_callJV (rest := [.int (10 : Int32)]) C hK hP hD hS hA hl hE mf_J0_335 (c_J0_coder_7d493 hc2) rfl rfl (Nat.le_of_ble_eq_true rfl) ⟨Nat.le_of_ble_eq_true rfl, Nat.le_of_ble_eq_true rfl⟩ ⟨Nat.le_refl _, Nat.le_refl _⟩ dJ0_length_8abf5_6 ?_
  intro H locs hP hD hS
  refine lv_ishr hx hb dJ0_length_8abf5_9 ?_
  obtain rfl := ev1 hf
  exact x_iret C hr hlk hP hD hS dJ0_length_8abf5_10
def f_J1_indexOfChar_4cfef_b7 (a3 : Int32) : Nat → Int32 → Int32 → Option (Int32)
  | 0, _, _ => none
  | n + 1, l4, l5 =>
    if a3 ≤ l5 then
      some (-1 : Int32)
    else
      gI 10 sV l5 (fun g1 =>
      if g1 = l4 then
        some l5
      else
        f_J1_indexOfChar_4cfef_b7 a3 n l4 (l5 + (1 : Int32)))
def f_J1_indexOfChar_4cfef (a1 : Int32) (a2 : Int32) (a3 : Int32) : Option (Int32) :=
  f_J1_indexOfChar_4cfef_b7 a3 FU (a1.toInt8.toInt32) a2
set_option maxHeartbeats 4000000 in
set_option maxRecDepth 100000 in
theorem c_J1_indexOfChar_4cfef {l : Launch} {D : va_G} {cI cB : ClassId} {a1 a2 a3 : Int32} {o_r : Int32} {aK aV : Nat} (hf : f_J1_indexOfChar_4cfef a1 a2 a3 = some o_r) : CtJ l D cI cB yJ1_indexOfChar_4cfef cJ1_indexOfChar_4cfef 6 (some .int) 0 0 [.ref aV, .int a1, .int a2, .int a3] aK aV o_r := by
  refine x_startJ (by decide) (Nat.le_of_ble_eq_true rfl) ?_
  intro p e s m below meth c A C hr hlk hA hK hE hP hD hS ls hl
  have hl : lv_has ls 6 [(0, .ref aV), (1, .int a1), (2, .int a2), (3, .int a3)] := hl
  have hx := C.1
  have hb := C.2.1
  unfold f_J1_indexOfChar_4cfef at hf
  have hb_7 : ∀ (n_7 : Nat) (l4 : Int32) (l5 : Int32) (H : Heap) (locs : List Loc) (ls : Array Slot), lv_has ls 6 [(0, .ref aV), (3, .int a3), (4, .int l4), (5, .int l5)] → va_P D vwCl [] H → va_D A [] → va_S A s.heap H locs → f_J1_indexOfChar_4cfef_b7 a3 n_7 l4 l5 = some o_r → W p l e { frames := 0, cells := 0, slots := 0, locals := 0 } s m ([.ref aV, .int a1, .int a2, .int a3] : List Value).toArray below meth c H locs 0 0 (MQ below (PoI D A [] o_r) ([.ref aV, .int a1, .int a2, .int a3] : List Value).toArray s 0 0 A) (F0 m 7 ls []) := by
    intro n_7
    induction n_7 with
    | zero =>
      intro l4 l5 H locs ls hl hP hD hS hf
      exact absurd hf (fun h => by rw [f_J1_indexOfChar_4cfef_b7] at h; cases h)
    | succ n_7 ih_7 =>
      intro l4 l5 H locs ls hl hP hD hS hf
      rw [f_J1_indexOfChar_4cfef_b7] at hf
      refine lv_iload hx hb dJ1_indexOfChar_4cfef_7 (lv_at hl 3 rfl) ?_
      refine lv_iload_n hx hb dJ1_indexOfChar_4cfef_9 rfl (lv_at hl 1 rfl) ?_
      refine lv_icmp_ge (tgt := 31) hx hb dJ1_indexOfChar_4cfef_10 (by decide) (fun q => ?_) (fun q => ?_)
      · have hf := if_t q hf
        refine lv_iconst (v := -1) hx hb dJ1_indexOfChar_4cfef_31 (by decide) ?_
        obtain rfl := ev1 hf
        exact x_iret C hr hlk hP hD hS dJ1_indexOfChar_4cfef_32
      · have hf := if_f q hf
        refine lv_aload_n hx hb dJ1_indexOfChar_4cfef_13 rfl (lv_at hl 0 rfl) ?_
        refine lv_iload hx hb dJ1_indexOfChar_4cfef_14 (lv_at hl 3 rfl) ?_
        obtain ⟨hi, hf⟩ := gI_e hf
        refine va_tb (v := .int (sV l5.toNatClampNeg)) hx hb (hE.1.1 0 (by decide)).2.2.2 hS hi rfl dJ1_indexOfChar_4cfef_16 ?_
        refine lv_iload hx hb dJ1_indexOfChar_4cfef_17 (lv_at hl 2 rfl) ?_
        refine lv_icmp_ne (tgt := 25) hx hb dJ1_indexOfChar_4cfef_19 (by decide) (fun q => ?_) (fun q => ?_)
        · have hf := if_f q hf
          refine lv_iinc (v := (l5 + (1 : Int32))) (lv' := [(5, .int (l5 + (1 : Int32))), (0, .ref aV), (3, .int a3), (4, .int l4)]) hx hb dJ1_indexOfChar_4cfef_25 hl (k := 3) rfl rfl (by decide) rfl (fun ls hl => ?_)
          refine lv_goto (tgt := 7) hx hb dJ1_indexOfChar_4cfef_28 (by decide) ?_
          exact ih_7 l4 (l5 + (1 : Int32)) _ _ ls (lv_sub hl [1, 2, 3, 0] rfl) hP hD hS hf
        · have hf := if_t q hf
          refine lv_iload hx hb dJ1_indexOfChar_4cfef_22 (lv_at hl 3 rfl) ?_
          obtain rfl := ev1 hf
          exact x_iret C hr hlk hP hD hS dJ1_indexOfChar_4cfef_24
  refine lv_iload_n hx hb dJ1_indexOfChar_4cfef_0 rfl (lv_at hl 1 rfl) ?_
  refine lv_i2b hx hb dJ1_indexOfChar_4cfef_1 rfl ?_
  refine lv_istore (lv' := [(4, .int (a1.toInt8.toInt32)), (0, .ref aV), (1, .int a1), (2, .int a2), (3, .int a3)]) hx hb dJ1_indexOfChar_4cfef_2 hl (by decide) rfl (fun ls hl => ?_)
  refine lv_iload_n hx hb dJ1_indexOfChar_4cfef_4 rfl (lv_at hl 3 rfl) ?_
  refine lv_istore (lv' := [(5, .int a2), (4, .int (a1.toInt8.toInt32)), (0, .ref aV), (1, .int a1), (2, .int a2), (3, .int a3)]) hx hb dJ1_indexOfChar_4cfef_5 hl (by decide) rfl (fun ls hl => ?_)
  exact hb_7 FU (a1.toInt8.toInt32) a2 _ _ ls (lv_sub hl [2, 5, 1, 0] rfl) hP hD hS hf
def f_J1_indexOf_4cfef (a1 : Int32) (a2 : Int32) (a3 : Int32) : Option (Int32) :=
  bd1 (f_J1_canEncode_9a6ad a1) (fun r1 =>
  if r1 = 0 then
    some (-1 : Int32)
  else
    if (mxI a2 (0 : Int32)) < (mnI a3 (10 : Int32)) then
      bd1 (f_J1_indexOfChar_4cfef a1 (mxI a2 (0 : Int32)) (mnI a3 (10 : Int32))) (fun r2 =>
      some r2)
    else
      some (-1 : Int32))
set_option maxHeartbeats 4000000 in
set_option maxRecDepth 100000 in
theorem c_J1_indexOf_4cfef {l : Launch} {D : va_G} {cI cB : ClassId} {a1 a2 a3 : Int32} {o_r : Int32} {aK aV : Nat} (hf : f_J1_indexOf_4cfef a1 a2 a3 = some o_r) : CtJ l D cI cB yJ1_indexOf_4cfef cJ1_indexOf_4cfef 4 (some .int) 1 25 [.ref aV, .int a1, .int a2, .int a3] aK aV o_r := by
  refine x_startJ (by decide) (Nat.le_of_ble_eq_true rfl) ?_
  intro p e s m below meth c A C hr hlk hA hK hE hP hD hS ls hl
  have hl : lv_has ls 4 [(0, .ref aV), (1, .int a1), (2, .int a2), (3, .int a3)] := hl
  have hx := C.1
  have hb := C.2.1
  unfold f_J1_indexOf_4cfef at hf
  refine lv_iload_n hx hb dJ1_indexOf_4cfef_0 rfl (lv_at hl 1 rfl) ?_
  obtain ⟨r1, hc2, hf⟩ := bd1_e hf
  refine x_callSI (ws' := []) (rest := []) C hK hP hD hS hA hl mf_J1_88 (c_J1_canEncode_9a6ad hc2) [] rfl rfl rfl rfl rfl rfl rfl rfl (Nat.le_of_ble_eq_true rfl) ⟨Nat.le_of_ble_eq_true rfl, Nat.le_of_ble_eq_true rfl⟩ ⟨Nat.le_refl _, Nat.le_refl _⟩ dJ1_indexOf_4cfef_1 ?_
  intro H locs hP hD hS
  refine lv_if_ne (tgt := 9) hx hb dJ1_indexOf_4cfef_4 (by decide) (fun q => ?_) (fun q => ?_)
  · have hf := if_f q hf
    refine lv_iload_n hx hb dJ1_indexOf_4cfef_9 rfl (lv_at hl 2 rfl) ?_
    refine lv_iconst (v := 0) hx hb dJ1_indexOf_4cfef_10 (by decide) ?_
    refine x_mmax C hl ml_J1_92 (Nat.le_of_ble_eq_true rfl) (Nat.le_of_ble_eq_true rfl) ⟨Nat.le_refl _, Nat.le_refl _⟩ dJ1_indexOf_4cfef_11 ?_
    refine lv_istore_n (lv' := [(2, .int (mxI a2 (0 : Int32))), (0, .ref aV), (1, .int a1), (3, .int a3)]) hx hb dJ1_indexOf_4cfef_14 rfl hl (by decide) rfl (fun ls hl => ?_)
    refine lv_iload_n hx hb dJ1_indexOf_4cfef_15 rfl (lv_at hl 3 rfl) ?_
    refine lv_aload_n hx hb dJ1_indexOf_4cfef_16 rfl (lv_at hl 1 rfl) ?_
    refine va_tlen (v := 10) hx hb (hE.1.1 0 (by decide)).2.2.2 hS (by decide) dJ1_indexOf_4cfef_17 ?_
    refine x_mmin C hl ml_J1_38 (Nat.le_of_ble_eq_true rfl) (Nat.le_of_ble_eq_true rfl) ⟨Nat.le_refl _, Nat.le_refl _⟩ dJ1_indexOf_4cfef_18 ?_
    refine lv_istore_n (lv' := [(3, .int (mnI a3 (10 : Int32))), (2, .int (mxI a2 (0 : Int32))), (0, .ref aV), (1, .int a1)]) hx hb dJ1_indexOf_4cfef_21 rfl hl (by decide) rfl (fun ls hl => ?_)
    refine lv_iload_n hx hb dJ1_indexOf_4cfef_22 rfl (lv_at hl 1 rfl) ?_
    refine lv_iload_n hx hb dJ1_indexOf_4cfef_23 rfl (lv_at hl 0 rfl) ?_
    refine lv_icmp_lt (tgt := 29) hx hb dJ1_indexOf_4cfef_24 (by decide) (fun q => ?_) (fun q => ?_)
    · have hf := if_t q hf
      refine lv_aload_n hx hb dJ1_indexOf_4cfef_29 rfl (lv_at hl 2 rfl) ?_
      refine lv_iload_n hx hb dJ1_indexOf_4cfef_30 rfl (lv_at hl 3 rfl) ?_
      refine lv_iload_n hx hb dJ1_indexOf_4cfef_31 rfl (lv_at hl 1 rfl) ?_
      refine lv_iload_n hx hb dJ1_indexOf_4cfef_32 rfl (lv_at hl 0 rfl) ?_
      obtain ⟨r3, hc4, hf⟩ := bd1_e hf
      refine x_callJS (rest := []) C hK hP hD hS hA hl hE mf_J1_95 (c_J1_indexOfChar_4cfef hc4) rfl rfl (Nat.le_of_ble_eq_true rfl) ⟨Nat.le_of_ble_eq_true rfl, Nat.le_of_ble_eq_true rfl⟩ ⟨Nat.le_refl _, Nat.le_refl _⟩ dJ1_indexOf_4cfef_33 ?_
      intro H locs hP hD hS
      obtain rfl := ev1 hf
      exact x_iret C hr hlk hP hD hS dJ1_indexOf_4cfef_36
    · have hf := if_f q hf
      refine lv_iconst (v := -1) hx hb dJ1_indexOf_4cfef_27 (by decide) ?_
      obtain rfl := ev1 hf
      exact x_iret C hr hlk hP hD hS dJ1_indexOf_4cfef_28
  · have hf := if_t q hf
    refine lv_iconst (v := -1) hx hb dJ1_indexOf_4cfef_7 (by decide) ?_
    obtain rfl := ev1 hf
    exact x_iret C hr hlk hP hD hS dJ1_indexOf_4cfef_8
def f_J0_indexOf_7cf53 (a1 : Int32) (a2 : Int32) : Option (Int32) :=
  bd1 (f_J0_isLatin1_aae02) (fun r1 =>
  if r1 = 0 then
    none
  else
    bd1 (f_J0_length_8abf5) (fun r2 =>
    bd1 (f_J1_indexOf_4cfef a1 a2 r2) (fun r3 =>
    some r3)))
set_option maxHeartbeats 4000000 in
set_option maxRecDepth 100000 in
theorem c_J0_indexOf_7cf53 {l : Launch} {D : va_G} {cI cB : ClassId} {a1 a2 : Int32} {o_r : Int32} {aK aV : Nat} (hf : f_J0_indexOf_7cf53 a1 a2 = some o_r) : CtJ l D cI cB yJ0_indexOf_7cf53 cJ0_indexOf_7cf53 3 (some .int) 2 48 [.ref aK, .int a1, .int a2] aK aV o_r := by
  refine x_startJ (by decide) (Nat.le_of_ble_eq_true rfl) ?_
  intro p e s m below meth c A C hr hlk hA hK hE hP hD hS ls hl
  have hl : lv_has ls 3 [(0, .ref aK), (1, .int a1), (2, .int a2)] := hl
  have hx := C.1
  have hb := C.2.1
  unfold f_J0_indexOf_7cf53 at hf
  refine lv_aload_n hx hb dJ0_indexOf_7cf53_0 rfl (lv_at hl 0 rfl) ?_
  obtain ⟨r1, hc2, hf⟩ := bd1_e hf
  refine x_callJV (rest := []) C hK hP hD hS hA hl hE mf_J0_492 (c_J0_isLatin1_aae02 hc2) rfl rfl (Nat.le_of_ble_eq_true rfl) ⟨Nat.le_of_ble_eq_true rfl, Nat.le_of_ble_eq_true rfl⟩ ⟨Nat.le_refl _, Nat.le_refl _⟩ dJ0_indexOf_7cf53_1 ?_
  intro H locs hP hD hS
  refine lv_if_eq (tgt := 23) hx hb dJ0_indexOf_7cf53_4 (by decide) (fun q => ?_) (fun q => ?_)
  · have hf := if_t q hf
    exact absurd (show none = some _ from hf) (fun h => by cases h)
  · have hf := if_f q hf
    refine lv_aload_n hx hb dJ0_indexOf_7cf53_7 rfl (lv_at hl 0 rfl) ?_
    refine vk_getf hx hb (hE.1.1 0 (by decide)).2.2.1 hS C.2.2.2.1 (C.2.2.2.2 _ fl_J0_9) (fun _ h => h) dJ0_indexOf_7cf53_8 ?_
    refine lv_iload_n hx hb dJ0_indexOf_7cf53_11 rfl (lv_at hl 1 rfl) ?_
    refine lv_iload_n hx hb dJ0_indexOf_7cf53_12 rfl (lv_at hl 2 rfl) ?_
    refine lv_aload_n hx hb dJ0_indexOf_7cf53_13 rfl (lv_at hl 0 rfl) ?_
    obtain ⟨r3, hc4, hf⟩ := bd1_e hf
    refine x_callJV (rest := [.int a2, .int a1, .ref aV]) C hK hP hD hS hA hl hE mf_J0_505 (c_J0_length_8abf5 hc4) rfl rfl (Nat.le_of_ble_eq_true rfl) ⟨Nat.le_of_ble_eq_true rfl, Nat.le_of_ble_eq_true rfl⟩ ⟨Nat.le_refl _, Nat.le_refl _⟩ dJ0_indexOf_7cf53_14 ?_
    intro H locs hP hD hS
    obtain ⟨r5, hc6, hf⟩ := bd1_e hf
    refine x_callJS (rest := []) C hK hP hD hS hA hl hE mf_J0_637 (c_J1_indexOf_4cfef hc6) rfl rfl (Nat.le_of_ble_eq_true rfl) ⟨Nat.le_of_ble_eq_true rfl, Nat.le_of_ble_eq_true rfl⟩ ⟨Nat.le_refl _, Nat.le_refl _⟩ dJ0_indexOf_7cf53_17 ?_
    intro H locs hP hD hS
    refine lv_goto (tgt := 36) hx hb dJ0_indexOf_7cf53_20 (by decide) ?_
    obtain rfl := ev1 hf
    exact x_iret C hr hlk hP hD hS dJ0_indexOf_7cf53_36
def f_J0_indexOf_0f7a4 (a1 : Int32) : Option (Int32) :=
  bd1 (f_J0_indexOf_7cf53 a1 (0 : Int32)) (fun r1 =>
  some r1)
set_option maxHeartbeats 4000000 in
set_option maxRecDepth 100000 in
theorem c_J0_indexOf_0f7a4 {l : Launch} {D : va_G} {cI cB : ClassId} {a1 : Int32} {o_r : Int32} {aK aV : Nat} (hf : f_J0_indexOf_0f7a4 a1 = some o_r) : CtJ l D cI cB yJ0_indexOf_0f7a4 cJ0_indexOf_0f7a4 2 (some .int) 3 70 [.ref aK, .int a1] aK aV o_r := by
  refine x_startJ (by decide) (Nat.le_of_ble_eq_true rfl) ?_
  intro p e s m below meth c A C hr hlk hA hK hE hP hD hS ls hl
  have hl : lv_has ls 2 [(0, .ref aK), (1, .int a1)] := hl
  have hx := C.1
  have hb := C.2.1
  unfold f_J0_indexOf_0f7a4 at hf
  refine lv_aload_n hx hb dJ0_indexOf_0f7a4_0 rfl (lv_at hl 0 rfl) ?_
  refine lv_iload_n hx hb dJ0_indexOf_0f7a4_1 rfl (lv_at hl 1 rfl) ?_
  refine lv_iconst (v := 0) hx hb dJ0_indexOf_0f7a4_2 (by decide) ?_
  obtain ⟨r1, hc2, hf⟩ := bd1_e hf
  refine x_callJV (rest := []) C hK hP hD hS hA hl hE mf_J0_633 (c_J0_indexOf_7cf53 hc2) rfl rfl (Nat.le_of_ble_eq_true rfl) ⟨Nat.le_of_ble_eq_true rfl, Nat.le_of_ble_eq_true rfl⟩ ⟨Nat.le_refl _, Nat.le_refl _⟩ dJ0_indexOf_0f7a4_3 ?_
  intro H locs hP hD hS
  obtain rfl := ev1 hf
  exact x_iret C hr hlk hP hD hS dJ0_indexOf_0f7a4_6
def f_J6_bitCount_0f7a4 (a0 : Int32) : Option (Int32) :=
  some ((((((((a0 - (((a0.toUInt32 >>> ((1 : Int32).toUInt32 &&& Int32.toUInt32 31)).toInt32) &&& (1431655765 : Int32))) &&& (858993459 : Int32)) + ((((a0 - (((a0.toUInt32 >>> ((1 : Int32).toUInt32 &&& Int32.toUInt32 31)).toInt32) &&& (1431655765 : Int32))).toUInt32 >>> ((2 : Int32).toUInt32 &&& Int32.toUInt32 31)).toInt32) &&& (858993459 : Int32))) + (((((a0 - (((a0.toUInt32 >>> ((1 : Int32).toUInt32 &&& Int32.toUInt32 31)).toInt32) &&& (1431655765 : Int32))) &&& (858993459 : Int32)) + ((((a0 - (((a0.toUInt32 >>> ((1 : Int32).toUInt32 &&& Int32.toUInt32 31)).toInt32) &&& (1431655765 : Int32))).toUInt32 >>> ((2 : Int32).toUInt32 &&& Int32.toUInt32 31)).toInt32) &&& (858993459 : Int32))).toUInt32 >>> ((4 : Int32).toUInt32 &&& Int32.toUInt32 31)).toInt32)) &&& (252645135 : Int32)) + (((((((a0 - (((a0.toUInt32 >>> ((1 : Int32).toUInt32 &&& Int32.toUInt32 31)).toInt32) &&& (1431655765 : Int32))) &&& (858993459 : Int32)) + ((((a0 - (((a0.toUInt32 >>> ((1 : Int32).toUInt32 &&& Int32.toUInt32 31)).toInt32) &&& (1431655765 : Int32))).toUInt32 >>> ((2 : Int32).toUInt32 &&& Int32.toUInt32 31)).toInt32) &&& (858993459 : Int32))) + (((((a0 - (((a0.toUInt32 >>> ((1 : Int32).toUInt32 &&& Int32.toUInt32 31)).toInt32) &&& (1431655765 : Int32))) &&& (858993459 : Int32)) + ((((a0 - (((a0.toUInt32 >>> ((1 : Int32).toUInt32 &&& Int32.toUInt32 31)).toInt32) &&& (1431655765 : Int32))).toUInt32 >>> ((2 : Int32).toUInt32 &&& Int32.toUInt32 31)).toInt32) &&& (858993459 : Int32))).toUInt32 >>> ((4 : Int32).toUInt32 &&& Int32.toUInt32 31)).toInt32)) &&& (252645135 : Int32)).toUInt32 >>> ((8 : Int32).toUInt32 &&& Int32.toUInt32 31)).toInt32)) + ((((((((a0 - (((a0.toUInt32 >>> ((1 : Int32).toUInt32 &&& Int32.toUInt32 31)).toInt32) &&& (1431655765 : Int32))) &&& (858993459 : Int32)) + ((((a0 - (((a0.toUInt32 >>> ((1 : Int32).toUInt32 &&& Int32.toUInt32 31)).toInt32) &&& (1431655765 : Int32))).toUInt32 >>> ((2 : Int32).toUInt32 &&& Int32.toUInt32 31)).toInt32) &&& (858993459 : Int32))) + (((((a0 - (((a0.toUInt32 >>> ((1 : Int32).toUInt32 &&& Int32.toUInt32 31)).toInt32) &&& (1431655765 : Int32))) &&& (858993459 : Int32)) + ((((a0 - (((a0.toUInt32 >>> ((1 : Int32).toUInt32 &&& Int32.toUInt32 31)).toInt32) &&& (1431655765 : Int32))).toUInt32 >>> ((2 : Int32).toUInt32 &&& Int32.toUInt32 31)).toInt32) &&& (858993459 : Int32))).toUInt32 >>> ((4 : Int32).toUInt32 &&& Int32.toUInt32 31)).toInt32)) &&& (252645135 : Int32)) + (((((((a0 - (((a0.toUInt32 >>> ((1 : Int32).toUInt32 &&& Int32.toUInt32 31)).toInt32) &&& (1431655765 : Int32))) &&& (858993459 : Int32)) + ((((a0 - (((a0.toUInt32 >>> ((1 : Int32).toUInt32 &&& Int32.toUInt32 31)).toInt32) &&& (1431655765 : Int32))).toUInt32 >>> ((2 : Int32).toUInt32 &&& Int32.toUInt32 31)).toInt32) &&& (858993459 : Int32))) + (((((a0 - (((a0.toUInt32 >>> ((1 : Int32).toUInt32 &&& Int32.toUInt32 31)).toInt32) &&& (1431655765 : Int32))) &&& (858993459 : Int32)) + ((((a0 - (((a0.toUInt32 >>> ((1 : Int32).toUInt32 &&& Int32.toUInt32 31)).toInt32) &&& (1431655765 : Int32))).toUInt32 >>> ((2 : Int32).toUInt32 &&& Int32.toUInt32 31)).toInt32) &&& (858993459 : Int32))).toUInt32 >>> ((4 : Int32).toUInt32 &&& Int32.toUInt32 31)).toInt32)) &&& (252645135 : Int32)).toUInt32 >>> ((8 : Int32).toUInt32 &&& Int32.toUInt32 31)).toInt32)).toUInt32 >>> ((16 : Int32).toUInt32 &&& Int32.toUInt32 31)).toInt32)) &&& (63 : Int32))
set_option maxHeartbeats 4000000 in
set_option maxRecDepth 100000 in
theorem c_J6_bitCount_0f7a4 {l : Launch} {D : va_G} {cI cB : ClassId} {a0 : Int32} {o_r : Int32} (hf : f_J6_bitCount_0f7a4 a0 = some o_r) : CtI l D cI cB yJ6_bitCount_0f7a4 cJ6_bitCount_0f7a4 1 (some .int) 0 0 [.int a0] [] [] o_r := by
  refine x_startI (by decide) (Nat.le_of_ble_eq_true rfl) ?_
  intro p e s m below meth c A C hr hlk hA hK hP hD hS ls hl
  have hl : lv_has ls 1 [(0, .int a0)] := hl
  have hx := C.1
  have hb := C.2.1
  unfold f_J6_bitCount_0f7a4 at hf
  refine lv_iload_n hx hb dJ6_bitCount_0f7a4_0 rfl (lv_at hl 0 rfl) ?_
  refine lv_iload_n hx hb dJ6_bitCount_0f7a4_1 rfl (lv_at hl 0 rfl) ?_
  refine lv_iconst (v := 1) hx hb dJ6_bitCount_0f7a4_2 (by decide) ?_
  refine lv_iushr hx hb dJ6_bitCount_0f7a4_3 rfl ?_
  refine x_ldcw C kc_J6_265 dJ6_bitCount_0f7a4_4 ?_
  refine lv_iand hx hb dJ6_bitCount_0f7a4_7 ?_
  refine lv_isub hx hb dJ6_bitCount_0f7a4_8 ?_
  refine lv_istore_n (lv' := [(0, .int (a0 - (((a0.toUInt32 >>> ((1 : Int32).toUInt32 &&& Int32.toUInt32 31)).toInt32) &&& (1431655765 : Int32))))]) hx hb dJ6_bitCount_0f7a4_9 rfl hl (by decide) rfl (fun ls hl => ?_)
  refine lv_iload_n hx hb dJ6_bitCount_0f7a4_10 rfl (lv_at hl 0 rfl) ?_
  refine x_ldcw C kc_J6_266 dJ6_bitCount_0f7a4_11 ?_
  refine lv_iand hx hb dJ6_bitCount_0f7a4_14 ?_
  refine lv_iload_n hx hb dJ6_bitCount_0f7a4_15 rfl (lv_at hl 0 rfl) ?_
  refine lv_iconst (v := 2) hx hb dJ6_bitCount_0f7a4_16 (by decide) ?_
  refine lv_iushr hx hb dJ6_bitCount_0f7a4_17 rfl ?_
  refine x_ldcw C kc_J6_266 dJ6_bitCount_0f7a4_18 ?_
  refine lv_iand hx hb dJ6_bitCount_0f7a4_21 ?_
  refine lv_iadd hx hb dJ6_bitCount_0f7a4_22 ?_
  refine lv_istore_n (lv' := [(0, .int (((a0 - (((a0.toUInt32 >>> ((1 : Int32).toUInt32 &&& Int32.toUInt32 31)).toInt32) &&& (1431655765 : Int32))) &&& (858993459 : Int32)) + ((((a0 - (((a0.toUInt32 >>> ((1 : Int32).toUInt32 &&& Int32.toUInt32 31)).toInt32) &&& (1431655765 : Int32))).toUInt32 >>> ((2 : Int32).toUInt32 &&& Int32.toUInt32 31)).toInt32) &&& (858993459 : Int32))))]) hx hb dJ6_bitCount_0f7a4_23 rfl hl (by decide) rfl (fun ls hl => ?_)
  refine lv_iload_n hx hb dJ6_bitCount_0f7a4_24 rfl (lv_at hl 0 rfl) ?_
  refine lv_iload_n hx hb dJ6_bitCount_0f7a4_25 rfl (lv_at hl 0 rfl) ?_
  refine lv_iconst (v := 4) hx hb dJ6_bitCount_0f7a4_26 (by decide) ?_
  refine lv_iushr hx hb dJ6_bitCount_0f7a4_27 rfl ?_
  refine lv_iadd hx hb dJ6_bitCount_0f7a4_28 ?_
  refine x_ldcw C kc_J6_267 dJ6_bitCount_0f7a4_29 ?_
  refine lv_iand hx hb dJ6_bitCount_0f7a4_32 ?_
  refine lv_istore_n (lv' := [(0, .int (((((a0 - (((a0.toUInt32 >>> ((1 : Int32).toUInt32 &&& Int32.toUInt32 31)).toInt32) &&& (1431655765 : Int32))) &&& (858993459 : Int32)) + ((((a0 - (((a0.toUInt32 >>> ((1 : Int32).toUInt32 &&& Int32.toUInt32 31)).toInt32) &&& (1431655765 : Int32))).toUInt32 >>> ((2 : Int32).toUInt32 &&& Int32.toUInt32 31)).toInt32) &&& (858993459 : Int32))) + (((((a0 - (((a0.toUInt32 >>> ((1 : Int32).toUInt32 &&& Int32.toUInt32 31)).toInt32) &&& (1431655765 : Int32))) &&& (858993459 : Int32)) + ((((a0 - (((a0.toUInt32 >>> ((1 : Int32).toUInt32 &&& Int32.toUInt32 31)).toInt32) &&& (1431655765 : Int32))).toUInt32 >>> ((2 : Int32).toUInt32 &&& Int32.toUInt32 31)).toInt32) &&& (858993459 : Int32))).toUInt32 >>> ((4 : Int32).toUInt32 &&& Int32.toUInt32 31)).toInt32)) &&& (252645135 : Int32)))]) hx hb dJ6_bitCount_0f7a4_33 rfl hl (by decide) rfl (fun ls hl => ?_)
  refine lv_iload_n hx hb dJ6_bitCount_0f7a4_34 rfl (lv_at hl 0 rfl) ?_
  refine lv_iload_n hx hb dJ6_bitCount_0f7a4_35 rfl (lv_at hl 0 rfl) ?_
  refine lv_bipush (v := 8) hx hb dJ6_bitCount_0f7a4_36 (by decide) ?_
  refine lv_iushr hx hb dJ6_bitCount_0f7a4_38 rfl ?_
  refine lv_iadd hx hb dJ6_bitCount_0f7a4_39 ?_
  refine lv_istore_n (lv' := [(0, .int ((((((a0 - (((a0.toUInt32 >>> ((1 : Int32).toUInt32 &&& Int32.toUInt32 31)).toInt32) &&& (1431655765 : Int32))) &&& (858993459 : Int32)) + ((((a0 - (((a0.toUInt32 >>> ((1 : Int32).toUInt32 &&& Int32.toUInt32 31)).toInt32) &&& (1431655765 : Int32))).toUInt32 >>> ((2 : Int32).toUInt32 &&& Int32.toUInt32 31)).toInt32) &&& (858993459 : Int32))) + (((((a0 - (((a0.toUInt32 >>> ((1 : Int32).toUInt32 &&& Int32.toUInt32 31)).toInt32) &&& (1431655765 : Int32))) &&& (858993459 : Int32)) + ((((a0 - (((a0.toUInt32 >>> ((1 : Int32).toUInt32 &&& Int32.toUInt32 31)).toInt32) &&& (1431655765 : Int32))).toUInt32 >>> ((2 : Int32).toUInt32 &&& Int32.toUInt32 31)).toInt32) &&& (858993459 : Int32))).toUInt32 >>> ((4 : Int32).toUInt32 &&& Int32.toUInt32 31)).toInt32)) &&& (252645135 : Int32)) + (((((((a0 - (((a0.toUInt32 >>> ((1 : Int32).toUInt32 &&& Int32.toUInt32 31)).toInt32) &&& (1431655765 : Int32))) &&& (858993459 : Int32)) + ((((a0 - (((a0.toUInt32 >>> ((1 : Int32).toUInt32 &&& Int32.toUInt32 31)).toInt32) &&& (1431655765 : Int32))).toUInt32 >>> ((2 : Int32).toUInt32 &&& Int32.toUInt32 31)).toInt32) &&& (858993459 : Int32))) + (((((a0 - (((a0.toUInt32 >>> ((1 : Int32).toUInt32 &&& Int32.toUInt32 31)).toInt32) &&& (1431655765 : Int32))) &&& (858993459 : Int32)) + ((((a0 - (((a0.toUInt32 >>> ((1 : Int32).toUInt32 &&& Int32.toUInt32 31)).toInt32) &&& (1431655765 : Int32))).toUInt32 >>> ((2 : Int32).toUInt32 &&& Int32.toUInt32 31)).toInt32) &&& (858993459 : Int32))).toUInt32 >>> ((4 : Int32).toUInt32 &&& Int32.toUInt32 31)).toInt32)) &&& (252645135 : Int32)).toUInt32 >>> ((8 : Int32).toUInt32 &&& Int32.toUInt32 31)).toInt32)))]) hx hb dJ6_bitCount_0f7a4_40 rfl hl (by decide) rfl (fun ls hl => ?_)
  refine lv_iload_n hx hb dJ6_bitCount_0f7a4_41 rfl (lv_at hl 0 rfl) ?_
  refine lv_iload_n hx hb dJ6_bitCount_0f7a4_42 rfl (lv_at hl 0 rfl) ?_
  refine lv_bipush (v := 16) hx hb dJ6_bitCount_0f7a4_43 (by decide) ?_
  refine lv_iushr hx hb dJ6_bitCount_0f7a4_45 rfl ?_
  refine lv_iadd hx hb dJ6_bitCount_0f7a4_46 ?_
  refine lv_istore_n (lv' := [(0, .int (((((((a0 - (((a0.toUInt32 >>> ((1 : Int32).toUInt32 &&& Int32.toUInt32 31)).toInt32) &&& (1431655765 : Int32))) &&& (858993459 : Int32)) + ((((a0 - (((a0.toUInt32 >>> ((1 : Int32).toUInt32 &&& Int32.toUInt32 31)).toInt32) &&& (1431655765 : Int32))).toUInt32 >>> ((2 : Int32).toUInt32 &&& Int32.toUInt32 31)).toInt32) &&& (858993459 : Int32))) + (((((a0 - (((a0.toUInt32 >>> ((1 : Int32).toUInt32 &&& Int32.toUInt32 31)).toInt32) &&& (1431655765 : Int32))) &&& (858993459 : Int32)) + ((((a0 - (((a0.toUInt32 >>> ((1 : Int32).toUInt32 &&& Int32.toUInt32 31)).toInt32) &&& (1431655765 : Int32))).toUInt32 >>> ((2 : Int32).toUInt32 &&& Int32.toUInt32 31)).toInt32) &&& (858993459 : Int32))).toUInt32 >>> ((4 : Int32).toUInt32 &&& Int32.toUInt32 31)).toInt32)) &&& (252645135 : Int32)) + (((((((a0 - (((a0.toUInt32 >>> ((1 : Int32).toUInt32 &&& Int32.toUInt32 31)).toInt32) &&& (1431655765 : Int32))) &&& (858993459 : Int32)) + ((((a0 - (((a0.toUInt32 >>> ((1 : Int32).toUInt32 &&& Int32.toUInt32 31)).toInt32) &&& (1431655765 : Int32))).toUInt32 >>> ((2 : Int32).toUInt32 &&& Int32.toUInt32 31)).toInt32) &&& (858993459 : Int32))) + (((((a0 - (((a0.toUInt32 >>> ((1 : Int32).toUInt32 &&& Int32.toUInt32 31)).toInt32) &&& (1431655765 : Int32))) &&& (858993459 : Int32)) + ((((a0 - (((a0.toUInt32 >>> ((1 : Int32).toUInt32 &&& Int32.toUInt32 31)).toInt32) &&& (1431655765 : Int32))).toUInt32 >>> ((2 : Int32).toUInt32 &&& Int32.toUInt32 31)).toInt32) &&& (858993459 : Int32))).toUInt32 >>> ((4 : Int32).toUInt32 &&& Int32.toUInt32 31)).toInt32)) &&& (252645135 : Int32)).toUInt32 >>> ((8 : Int32).toUInt32 &&& Int32.toUInt32 31)).toInt32)) + ((((((((a0 - (((a0.toUInt32 >>> ((1 : Int32).toUInt32 &&& Int32.toUInt32 31)).toInt32) &&& (1431655765 : Int32))) &&& (858993459 : Int32)) + ((((a0 - (((a0.toUInt32 >>> ((1 : Int32).toUInt32 &&& Int32.toUInt32 31)).toInt32) &&& (1431655765 : Int32))).toUInt32 >>> ((2 : Int32).toUInt32 &&& Int32.toUInt32 31)).toInt32) &&& (858993459 : Int32))) + (((((a0 - (((a0.toUInt32 >>> ((1 : Int32).toUInt32 &&& Int32.toUInt32 31)).toInt32) &&& (1431655765 : Int32))) &&& (858993459 : Int32)) + ((((a0 - (((a0.toUInt32 >>> ((1 : Int32).toUInt32 &&& Int32.toUInt32 31)).toInt32) &&& (1431655765 : Int32))).toUInt32 >>> ((2 : Int32).toUInt32 &&& Int32.toUInt32 31)).toInt32) &&& (858993459 : Int32))).toUInt32 >>> ((4 : Int32).toUInt32 &&& Int32.toUInt32 31)).toInt32)) &&& (252645135 : Int32)) + (((((((a0 - (((a0.toUInt32 >>> ((1 : Int32).toUInt32 &&& Int32.toUInt32 31)).toInt32) &&& (1431655765 : Int32))) &&& (858993459 : Int32)) + ((((a0 - (((a0.toUInt32 >>> ((1 : Int32).toUInt32 &&& Int32.toUInt32 31)).toInt32) &&& (1431655765 : Int32))).toUInt32 >>> ((2 : Int32).toUInt32 &&& Int32.toUInt32 31)).toInt32) &&& (858993459 : Int32))) + (((((a0 - (((a0.toUInt32 >>> ((1 : Int32).toUInt32 &&& Int32.toUInt32 31)).toInt32) &&& (1431655765 : Int32))) &&& (858993459 : Int32)) + ((((a0 - (((a0.toUInt32 >>> ((1 : Int32).toUInt32 &&& Int32.toUInt32 31)).toInt32) &&& (1431655765 : Int32))).toUInt32 >>> ((2 : Int32).toUInt32 &&& Int32.toUInt32 31)).toInt32) &&& (858993459 : Int32))).toUInt32 >>> ((4 : Int32).toUInt32 &&& Int32.toUInt32 31)).toInt32)) &&& (252645135 : Int32)).toUInt32 >>> ((8 : Int32).toUInt32 &&& Int32.toUInt32 31)).toInt32)).toUInt32 >>> ((16 : Int32).toUInt32 &&& Int32.toUInt32 31)).toInt32)))]) hx hb dJ6_bitCount_0f7a4_47 rfl hl (by decide) rfl (fun ls hl => ?_)
  refine lv_iload_n hx hb dJ6_bitCount_0f7a4_48 rfl (lv_at hl 0 rfl) ?_
  refine lv_bipush (v := 63) hx hb dJ6_bitCount_0f7a4_49 (by decide) ?_
  refine lv_iand hx hb dJ6_bitCount_0f7a4_51 ?_
  obtain rfl := ev1 hf
  exact x_iret C hr hlk hP hD hS dJ6_bitCount_0f7a4_52
