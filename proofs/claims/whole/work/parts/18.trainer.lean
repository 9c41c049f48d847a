def f_X10_search_b91 (G_X10_search : (Nat → Int32) → (Nat → Int32) → (Nat → Int32) → (Nat → Int32) → (Nat → Int32) → Int32 → Int32 → Int32 → Int32 → Int32 → Int32 → Int32 → Int32 → Option ((Nat → Int32) × (Nat → Int32) × Int32 × Int32)) (G_X10_goOnWith : (Nat → Int32) → (Nat → Int32) → (Nat → Int32) → (Nat → Int32) → (Nat → Int32) → Int32 → Int32 → Int32 → Int32 → Int32 → Int32 → Int32 → Int32 → Int32 → Option ((Nat → Int32) × (Nat → Int32) × Int32 × Int32)) (a1 : Int32) (a2 : Int32) (a3 : Int32) (k44 : (Nat → Int32) → (Nat → Int32) → Int32 → Int32 → Int32 → Option ((Nat → Int32) × (Nat → Int32) × Int32 × Int32)) (v_t_trial_dread : (Nat → Int32)) (v_t_trial_tries : (Nat → Int32)) (x_t_fewest : Int32) (x_t_first : Int32) (l4 : Int32) : Option ((Nat → Int32) × (Nat → Int32) × Int32 × Int32) :=
  k44 v_t_trial_dread v_t_trial_tries x_t_fewest x_t_first (l4 + (1 : Int32))
def f_X10_search_b72 (G_X10_search : (Nat → Int32) → (Nat → Int32) → (Nat → Int32) → (Nat → Int32) → (Nat → Int32) → Int32 → Int32 → Int32 → Int32 → Int32 → Int32 → Int32 → Int32 → Option ((Nat → Int32) × (Nat → Int32) × Int32 × Int32)) (G_X10_goOnWith : (Nat → Int32) → (Nat → Int32) → (Nat → Int32) → (Nat → Int32) → (Nat → Int32) → Int32 → Int32 → Int32 → Int32 → Int32 → Int32 → Int32 → Int32 → Int32 → Option ((Nat → Int32) × (Nat → Int32) × Int32 × Int32)) (v_t_trial_kind : (Nat → Int32)) (v_t_trial_rhymes_other : (Nat → Int32)) (v_t_trial_salt : (Nat → Int32)) (x_t_bottle : Int32) (x_t_wanted : Int32) (x_t_trial_nerve : Int32) (a1 : Int32) (a2 : Int32) (a3 : Int32) (k44 : (Nat → Int32) → (Nat → Int32) → Int32 → Int32 → Int32 → Option ((Nat → Int32) × (Nat → Int32) × Int32 × Int32)) (v_t_trial_dread : (Nat → Int32)) (v_t_trial_tries : (Nat → Int32)) (x_t_fewest : Int32) (x_t_first : Int32) (s0 : Int32) (l4 : Int32) : Option ((Nat → Int32) × (Nat → Int32) × Int32 × Int32) :=
  bd4 (G_X10_goOnWith v_t_trial_dread v_t_trial_kind v_t_trial_rhymes_other v_t_trial_salt v_t_trial_tries x_t_bottle x_t_fewest x_t_first x_t_wanted x_t_trial_nerve l4 (a1 &&& (((1 : Int32) <<< (l4 &&& 31)) ^^^ (-1 : Int32))) a2 s0) (fun w1 w2 w3 w4 =>
  f_X10_search_b91 G_X10_search G_X10_goOnWith a1 a2 a3 k44 w1 w2 w3 w4 l4)
def f_X10_search_b44 (G_X10_search : (Nat → Int32) → (Nat → Int32) → (Nat → Int32) → (Nat → Int32) → (Nat → Int32) → Int32 → Int32 → Int32 → Int32 → Int32 → Int32 → Int32 → Int32 → Option ((Nat → Int32) × (Nat → Int32) × Int32 × Int32)) (G_X10_goOnWith : (Nat → Int32) → (Nat → Int32) → (Nat → Int32) → (Nat → Int32) → (Nat → Int32) → Int32 → Int32 → Int32 → Int32 → Int32 → Int32 → Int32 → Int32 → Int32 → Option ((Nat → Int32) × (Nat → Int32) × Int32 × Int32)) (v_t_trial_kind : (Nat → Int32)) (v_t_trial_rhymes_other : (Nat → Int32)) (v_t_trial_salt : (Nat → Int32)) (x_t_bottle : Int32) (x_t_wanted : Int32) (x_t_trial_nerve : Int32) (a1 : Int32) (a2 : Int32) (a3 : Int32) : Nat → (Nat → Int32) → (Nat → Int32) → Int32 → Int32 → Int32 → Option ((Nat → Int32) × (Nat → Int32) × Int32 × Int32)
  | 0, _, _, _, _, _ => none
  | n + 1, v_t_trial_dread, v_t_trial_tries, x_t_fewest, x_t_first, l4 =>
    if (16 : Int32) ≤ l4 then
      some (v_t_trial_dread, v_t_trial_tries, x_t_fewest, x_t_first)
    else
      if ((a1 >>> (l4 &&& 31)) &&& (1 : Int32)) = 0 then
        f_X10_search_b91 G_X10_search G_X10_goOnWith a1 a2 a3 (f_X10_search_b44 G_X10_search G_X10_goOnWith v_t_trial_kind v_t_trial_rhymes_other v_t_trial_salt x_t_bottle x_t_wanted x_t_trial_nerve a1 a2 a3 n) v_t_trial_dread v_t_trial_tries x_t_fewest x_t_first l4
      else
        if a3 = (-2 : Int32) then
          f_X10_search_b72 G_X10_search G_X10_goOnWith v_t_trial_kind v_t_trial_rhymes_other v_t_trial_salt x_t_bottle x_t_wanted x_t_trial_nerve a1 a2 a3 (f_X10_search_b44 G_X10_search G_X10_goOnWith v_t_trial_kind v_t_trial_rhymes_other v_t_trial_salt x_t_bottle x_t_wanted x_t_trial_nerve a1 a2 a3 n) v_t_trial_dread v_t_trial_tries x_t_fewest x_t_first l4 l4
        else
          f_X10_search_b72 G_X10_search G_X10_goOnWith v_t_trial_kind v_t_trial_rhymes_other v_t_trial_salt x_t_bottle x_t_wanted x_t_trial_nerve a1 a2 a3 (f_X10_search_b44 G_X10_search G_X10_goOnWith v_t_trial_kind v_t_trial_rhymes_other v_t_trial_salt x_t_bottle x_t_wanted x_t_trial_nerve a1 a2 a3 n) v_t_trial_dread v_t_trial_tries x_t_fewest x_t_first a3 l4
def fo_X10_search (G_X10_search : (Nat → Int32) → (Nat → Int32) → (Nat → Int32) → (Nat → Int32) → (Nat → Int32) → Int32 → Int32 → Int32 → Int32 → Int32 → Int32 → Int32 → Int32 → Option ((Nat → Int32) × (Nat → Int32) × Int32 × Int32)) (G_X10_goOnWith : (Nat → Int32) → (Nat → Int32) → (Nat → Int32) → (Nat → Int32) → (Nat → Int32) → Int32 → Int32 → Int32 → Int32 → Int32 → Int32 → Int32 → Int32 → Int32 → Option ((Nat → Int32) × (Nat → Int32) × Int32 × Int32)) (v_t_trial_dread : (Nat → Int32)) (v_t_trial_kind : (Nat → Int32)) (v_t_trial_rhymes_other : (Nat → Int32)) (v_t_trial_salt : (Nat → Int32)) (v_t_trial_tries : (Nat → Int32)) (x_t_bottle : Int32) (x_t_fewest : Int32) (x_t_first : Int32) (x_t_wanted : Int32) (x_t_trial_nerve : Int32) (a1 : Int32) (a2 : Int32) (a3 : Int32) : Option ((Nat → Int32) × (Nat → Int32) × Int32 × Int32) :=
  if a2 < x_t_fewest then
    bd1 (f_X8_wordsBorneBy v_t_trial_dread v_t_trial_kind v_t_trial_rhymes_other v_t_trial_salt x_t_trial_nerve x_t_bottle) (fun r1 =>
    if (x_t_wanted &&& (r1 ^^^ (-1 : Int32))) = 0 then
      some (v_t_trial_dread, v_t_trial_tries, a2, a3)
    else
      f_X10_search_b44 G_X10_search G_X10_goOnWith v_t_trial_kind v_t_trial_rhymes_other v_t_trial_salt x_t_bottle x_t_wanted x_t_trial_nerve a1 a2 a3 FU v_t_trial_dread v_t_trial_tries x_t_fewest x_t_first (0 : Int32))
  else
    some (v_t_trial_dread, v_t_trial_tries, x_t_fewest, x_t_first)
def fo_X10_goOnWith (G_X10_search : (Nat → Int32) → (Nat → Int32) → (Nat → Int32) → (Nat → Int32) → (Nat → Int32) → Int32 → Int32 → Int32 → Int32 → Int32 → Int32 → Int32 → Int32 → Option ((Nat → Int32) × (Nat → Int32) × Int32 × Int32)) (G_X10_goOnWith : (Nat → Int32) → (Nat → Int32) → (Nat → Int32) → (Nat → Int32) → (Nat → Int32) → Int32 → Int32 → Int32 → Int32 → Int32 → Int32 → Int32 → Int32 → Int32 → Option ((Nat → Int32) × (Nat → Int32) × Int32 × Int32)) (v_t_trial_dread : (Nat → Int32)) (v_t_trial_kind : (Nat → Int32)) (v_t_trial_rhymes_other : (Nat → Int32)) (v_t_trial_salt : (Nat → Int32)) (v_t_trial_tries : (Nat → Int32)) (x_t_bottle : Int32) (x_t_fewest : Int32) (x_t_first : Int32) (x_t_wanted : Int32) (x_t_trial_nerve : Int32) (a1 : Int32) (a2 : Int32) (a3 : Int32) (a4 : Int32) : Option ((Nat → Int32) × (Nat → Int32) × Int32 × Int32) :=
  bd1 (f_X4_of v_t_trial_rhymes_other a1) (fun r1 =>
  bd1 (f_X8_triesOf v_t_trial_tries x_t_bottle a1) (fun r2 =>
  bd1 (f_X8_dreadOf v_t_trial_dread x_t_bottle a1) (fun r3 =>
  bd1 (f_X8_dreadOf v_t_trial_dread x_t_bottle r1) (fun r4 =>
  bd2 (f_X8_makeUsed v_t_trial_dread v_t_trial_rhymes_other v_t_trial_tries x_t_bottle a1) (fun w5 w6 =>
  bd4 (G_X10_search w5 v_t_trial_kind v_t_trial_rhymes_other v_t_trial_salt w6 x_t_bottle x_t_fewest x_t_first x_t_wanted x_t_trial_nerve a2 ((a3 + (9 : Int32)) - r2) a4) (fun w7 w8 w9 w10 =>
  bd1 (f_X8_setTries w8 x_t_bottle a1 r2) (fun w11 =>
  bd1 (f_X8_setDread w7 x_t_bottle r1 r4) (fun w12 =>
  bd1 (f_X8_setDread w12 x_t_bottle a1 r3) (fun w13 =>
  some (w13, w11, w9, w10))))))))))
def frec_X10_search : Nat → (((Nat → Int32) → (Nat → Int32) → (Nat → Int32) → (Nat → Int32) → (Nat → Int32) → Int32 → Int32 → Int32 → Int32 → Int32 → Int32 → Int32 → Int32 → Option ((Nat → Int32) × (Nat → Int32) × Int32 × Int32)) × ((Nat → Int32) → (Nat → Int32) → (Nat → Int32) → (Nat → Int32) → (Nat → Int32) → Int32 → Int32 → Int32 → Int32 → Int32 → Int32 → Int32 → Int32 → Int32 → Option ((Nat → Int32) × (Nat → Int32) × Int32 × Int32)))
  | 0 => (fun _ _ _ _ _ _ _ _ _ _ _ _ _ => none, fun _ _ _ _ _ _ _ _ _ _ _ _ _ _ => none)
  | d + 1 => (fo_X10_search (frec_X10_search d).1 (frec_X10_search d).2, fo_X10_goOnWith (frec_X10_search d).1 (frec_X10_search d).2)
def f_X10_search (d : Nat) : (Nat → Int32) → (Nat → Int32) → (Nat → Int32) → (Nat → Int32) → (Nat → Int32) → Int32 → Int32 → Int32 → Int32 → Int32 → Int32 → Int32 → Int32 → Option ((Nat → Int32) × (Nat → Int32) × Int32 × Int32) := (frec_X10_search d).1
def f_X10_goOnWith (d : Nat) : (Nat → Int32) → (Nat → Int32) → (Nat → Int32) → (Nat → Int32) → (Nat → Int32) → Int32 → Int32 → Int32 → Int32 → Int32 → Int32 → Int32 → Int32 → Int32 → Option ((Nat → Int32) × (Nat → Int32) × Int32 × Int32) := (frec_X10_search d).2
set_option maxHeartbeats 8000000 in
set_option maxRecDepth 100000 in
theorem cc_X10_search (l : Launch) (D : va_G) (cI cB : ClassId) : ∀ dp : Nat, (∀ {A_t A_t_trial A_t_trial_rhymes A_t_trial_kind A_t_trial_salt A_t_trial_ink A_t_trial_dread A_t_trial_tries A_t_trial_rhymes_other : Nat} {x_t_bottle x_t_wanted x_t_fewest x_t_first x_t_trial_told x_t_trial_nerve x_t_trial_pictures x_t_trial_written x_t_trial_day x_t_trial_x a1 a2 a3 : Int32} {v_t_trial_dread v_t_trial_kind v_t_trial_rhymes_other v_t_trial_salt v_t_trial_tries : Nat → Int32} {o_x_t_fewest o_x_t_first : Int32} {o_v_t_trial_dread o_v_t_trial_tries : Nat → Int32}, f_X10_search dp v_t_trial_dread v_t_trial_kind v_t_trial_rhymes_other v_t_trial_salt v_t_trial_tries x_t_bottle x_t_fewest x_t_first x_t_wanted x_t_trial_nerve a1 a2 a3 = some (o_v_t_trial_dread, o_v_t_trial_tries, o_x_t_fewest, o_x_t_first) → CtV l D cI cB yX10_search cX10_search 6 (dp + 5) (dp * 28 + 111) [.ref A_t, .int a1, .int a2, .int a3] [oX10 A_t A_t_trial x_t_bottle x_t_wanted x_t_fewest x_t_first, oX8 A_t_trial A_t_trial_rhymes A_t_trial_kind A_t_trial_salt A_t_trial_ink A_t_trial_dread A_t_trial_tries x_t_trial_told x_t_trial_nerve x_t_trial_pictures x_t_trial_written x_t_trial_day x_t_trial_x, iA cI 128 A_t_trial_dread v_t_trial_dread, iA cI 8 A_t_trial_kind v_t_trial_kind, oX4 A_t_trial_rhymes A_t_trial_rhymes_other, iA cI 16 A_t_trial_rhymes_other v_t_trial_rhymes_other, iA cI 8 A_t_trial_salt v_t_trial_salt, iA cI 128 A_t_trial_tries v_t_trial_tries] [oX10 A_t A_t_trial x_t_bottle x_t_wanted o_x_t_fewest o_x_t_first, oX8 A_t_trial A_t_trial_rhymes A_t_trial_kind A_t_trial_salt A_t_trial_ink A_t_trial_dread A_t_trial_tries x_t_trial_told x_t_trial_nerve x_t_trial_pictures x_t_trial_written x_t_trial_day x_t_trial_x, iA cI 128 A_t_trial_dread o_v_t_trial_dread, iA cI 8 A_t_trial_kind v_t_trial_kind, oX4 A_t_trial_rhymes A_t_trial_rhymes_other, iA cI 16 A_t_trial_rhymes_other v_t_trial_rhymes_other, iA cI 8 A_t_trial_salt v_t_trial_salt, iA cI 128 A_t_trial_tries o_v_t_trial_tries]) ∧ (∀ {A_t A_t_trial A_t_trial_rhymes A_t_trial_kind A_t_trial_salt A_t_trial_ink A_t_trial_dread A_t_trial_tries A_t_trial_rhymes_other : Nat} {x_t_bottle x_t_wanted x_t_fewest x_t_first x_t_trial_told x_t_trial_nerve x_t_trial_pictures x_t_trial_written x_t_trial_day x_t_trial_x a1 a2 a3 a4 : Int32} {v_t_trial_dread v_t_trial_kind v_t_trial_rhymes_other v_t_trial_salt v_t_trial_tries : Nat → Int32} {o_x_t_fewest o_x_t_first : Int32} {o_v_t_trial_dread o_v_t_trial_tries : Nat → Int32}, f_X10_goOnWith dp v_t_trial_dread v_t_trial_kind v_t_trial_rhymes_other v_t_trial_salt v_t_trial_tries x_t_bottle x_t_fewest x_t_first x_t_wanted x_t_trial_nerve a1 a2 a3 a4 = some (o_v_t_trial_dread, o_v_t_trial_tries, o_x_t_fewest, o_x_t_first) → CtV l D cI cB yX10_goOnWith cX10_goOnWith 9 (dp + 5) (dp * 28 + 111) [.ref A_t, .int a1, .int a2, .int a3, .int a4] [oX10 A_t A_t_trial x_t_bottle x_t_wanted x_t_fewest x_t_first, oX8 A_t_trial A_t_trial_rhymes A_t_trial_kind A_t_trial_salt A_t_trial_ink A_t_trial_dread A_t_trial_tries x_t_trial_told x_t_trial_nerve x_t_trial_pictures x_t_trial_written x_t_trial_day x_t_trial_x, iA cI 128 A_t_trial_dread v_t_trial_dread, iA cI 8 A_t_trial_kind v_t_trial_kind, oX4 A_t_trial_rhymes A_t_trial_rhymes_other, iA cI 16 A_t_trial_rhymes_other v_t_trial_rhymes_other, iA cI 8 A_t_trial_salt v_t_trial_salt, iA cI 128 A_t_trial_tries v_t_trial_tries] [oX10 A_t A_t_trial x_t_bottle x_t_wanted o_x_t_fewest o_x_t_first, oX8 A_t_trial A_t_trial_rhymes A_t_trial_kind A_t_trial_salt A_t_trial_ink A_t_trial_dread A_t_trial_tries x_t_trial_told x_t_trial_nerve x_t_trial_pictures x_t_trial_written x_t_trial_day x_t_trial_x, iA cI 128 A_t_trial_dread o_v_t_trial_dread, iA cI 8 A_t_trial_kind v_t_trial_kind, oX4 A_t_trial_rhymes A_t_trial_rhymes_other, iA cI 16 A_t_trial_rhymes_other v_t_trial_rhymes_other, iA cI 8 A_t_trial_salt v_t_trial_salt, iA cI 128 A_t_trial_tries o_v_t_trial_tries]) := by
  intro dp
  induction dp with
  | zero =>
    refine ⟨?_, ?_⟩
    · intro A_t A_t_trial A_t_trial_rhymes A_t_trial_kind A_t_trial_salt A_t_trial_ink A_t_trial_dread A_t_trial_tries A_t_trial_rhymes_other x_t_bottle x_t_wanted x_t_fewest x_t_first x_t_trial_told x_t_trial_nerve x_t_trial_pictures x_t_trial_written x_t_trial_day x_t_trial_x a1 a2 a3 v_t_trial_dread v_t_trial_kind v_t_trial_rhymes_other v_t_trial_salt v_t_trial_tries o_x_t_fewest o_x_t_first o_v_t_trial_dread o_v_t_trial_tries hf
      exact absurd (show none = some _ from hf) (fun h => by cases h)
    · intro A_t A_t_trial A_t_trial_rhymes A_t_trial_kind A_t_trial_salt A_t_trial_ink A_t_trial_dread A_t_trial_tries A_t_trial_rhymes_other x_t_bottle x_t_wanted x_t_fewest x_t_first x_t_trial_told x_t_trial_nerve x_t_trial_pictures x_t_trial_written x_t_trial_day x_t_trial_x a1 a2 a3 a4 v_t_trial_dread v_t_trial_kind v_t_trial_rhymes_other v_t_trial_salt v_t_trial_tries o_x_t_fewest o_x_t_first o_v_t_trial_dread o_v_t_trial_tries hf
      exact absurd (show none = some _ from hf) (fun h => by cases h)
  | succ dp ih =>
    obtain ⟨ih_X10_search, ih_X10_goOnWith⟩ := ih
    refine ⟨?_, ?_⟩
    · intro A_t A_t_trial A_t_trial_rhymes A_t_trial_kind A_t_trial_salt A_t_trial_ink A_t_trial_dread A_t_trial_tries A_t_trial_rhymes_other x_t_bottle x_t_wanted x_t_fewest x_t_first x_t_trial_told x_t_trial_nerve x_t_trial_pictures x_t_trial_written x_t_trial_day x_t_trial_x a1 a2 a3 v_t_trial_dread v_t_trial_kind v_t_trial_rhymes_other v_t_trial_salt v_t_trial_tries o_x_t_fewest o_x_t_first o_v_t_trial_dread o_v_t_trial_tries hf
      have hf : fo_X10_search (f_X10_search dp) (f_X10_goOnWith dp) v_t_trial_dread v_t_trial_kind v_t_trial_rhymes_other v_t_trial_salt v_t_trial_tries x_t_bottle x_t_fewest x_t_first x_t_wanted x_t_trial_nerve a1 a2 a3 = some (o_v_t_trial_dread, o_v_t_trial_tries, o_x_t_fewest, o_x_t_first) := hf
      refine x_startV (by decide) (Nat.le_of_ble_eq_true rfl) ?_
      intro p e s m below meth c A C hr hlk hA hK hP hD hS ls hl
      have hl : lv_has ls 6 [(0, .ref A_t), (1, .int a1), (2, .int a2), (3, .int a3)] := hl
      have hx := C.1
      have hb := C.2.1
      unfold fo_X10_search at hf
      have hb_44 : ∀ (n_44 : Nat) (v_t_trial_dread : (Nat → Int32)) (v_t_trial_tries : (Nat → Int32)) (x_t_fewest : Int32) (x_t_first : Int32) (l4 : Int32) (H : Heap) (locs : List Loc) (ls : Array Slot), lv_has ls 6 [(0, .ref A_t), (1, .int a1), (2, .int a2), (3, .int a3), (4, .int l4)] → va_P D vwCl [oX10 A_t A_t_trial x_t_bottle x_t_wanted x_t_fewest x_t_first, oX8 A_t_trial A_t_trial_rhymes A_t_trial_kind A_t_trial_salt A_t_trial_ink A_t_trial_dread A_t_trial_tries x_t_trial_told x_t_trial_nerve x_t_trial_pictures x_t_trial_written x_t_trial_day x_t_trial_x, iA cI 128 A_t_trial_dread v_t_trial_dread, iA cI 8 A_t_trial_kind v_t_trial_kind, oX4 A_t_trial_rhymes A_t_trial_rhymes_other, iA cI 16 A_t_trial_rhymes_other v_t_trial_rhymes_other, iA cI 8 A_t_trial_salt v_t_trial_salt, iA cI 128 A_t_trial_tries v_t_trial_tries] H → va_D A [oX10 A_t A_t_trial x_t_bottle x_t_wanted x_t_fewest x_t_first, oX8 A_t_trial A_t_trial_rhymes A_t_trial_kind A_t_trial_salt A_t_trial_ink A_t_trial_dread A_t_trial_tries x_t_trial_told x_t_trial_nerve x_t_trial_pictures x_t_trial_written x_t_trial_day x_t_trial_x, iA cI 128 A_t_trial_dread v_t_trial_dread, iA cI 8 A_t_trial_kind v_t_trial_kind, oX4 A_t_trial_rhymes A_t_trial_rhymes_other, iA cI 16 A_t_trial_rhymes_other v_t_trial_rhymes_other, iA cI 8 A_t_trial_salt v_t_trial_salt, iA cI 128 A_t_trial_tries v_t_trial_tries] → va_S A s.heap H locs → f_X10_search_b44 (f_X10_search dp) (f_X10_goOnWith dp) v_t_trial_kind v_t_trial_rhymes_other v_t_trial_salt x_t_bottle x_t_wanted x_t_trial_nerve a1 a2 a3 n_44 v_t_trial_dread v_t_trial_tries x_t_fewest x_t_first l4 = some (o_v_t_trial_dread, o_v_t_trial_tries, o_x_t_fewest, o_x_t_first) → W p l e { frames := dp + 1 + 5, cells := 0, slots := 0, locals := (dp + 1) * 28 + 111 } s m ([.ref A_t, .int a1, .int a2, .int a3] : List Value).toArray below meth c H locs 0 0 (MQ below (PoV D A [oX10 A_t A_t_trial x_t_bottle x_t_wanted o_x_t_fewest o_x_t_first, oX8 A_t_trial A_t_trial_rhymes A_t_trial_kind A_t_trial_salt A_t_trial_ink A_t_trial_dread A_t_trial_tries x_t_trial_told x_t_trial_nerve x_t_trial_pictures x_t_trial_written x_t_trial_day x_t_trial_x, iA cI 128 A_t_trial_dread o_v_t_trial_dread, iA cI 8 A_t_trial_kind v_t_trial_kind, oX4 A_t_trial_rhymes A_t_trial_rhymes_other, iA cI 16 A_t_trial_rhymes_other v_t_trial_rhymes_other, iA cI 8 A_t_trial_salt v_t_trial_salt, iA cI 128 A_t_trial_tries o_v_t_trial_tries]) ([.ref A_t, .int a1, .int a2, .int a3] : List Value).toArray s 0 0 A) (F0 m 44 ls []) := by
        intro n_44
        induction n_44 with
        | zero =>
          intro v_t_trial_dread v_t_trial_tries x_t_fewest x_t_first l4 H locs ls hl hP hD hS hf
          exact absurd hf (fun h => by rw [f_X10_search_b44] at h; cases h)
        | succ n_44 ih_44 =>
          have hb_91 : ∀ (v_t_trial_dread : (Nat → Int32)) (v_t_trial_tries : (Nat → Int32)) (x_t_fewest : Int32) (x_t_first : Int32) (l4 : Int32) (H : Heap) (locs : List Loc) (ls : Array Slot), lv_has ls 6 [(0, .ref A_t), (1, .int a1), (2, .int a2), (3, .int a3), (4, .int l4)] → va_P D vwCl [oX10 A_t A_t_trial x_t_bottle x_t_wanted x_t_fewest x_t_first, oX8 A_t_trial A_t_trial_rhymes A_t_trial_kind A_t_trial_salt A_t_trial_ink A_t_trial_dread A_t_trial_tries x_t_trial_told x_t_trial_nerve x_t_trial_pictures x_t_trial_written x_t_trial_day x_t_trial_x, iA cI 128 A_t_trial_dread v_t_trial_dread, iA cI 8 A_t_trial_kind v_t_trial_kind, oX4 A_t_trial_rhymes A_t_trial_rhymes_other, iA cI 16 A_t_trial_rhymes_other v_t_trial_rhymes_other, iA cI 8 A_t_trial_salt v_t_trial_salt, iA cI 128 A_t_trial_tries v_t_trial_tries] H → va_D A [oX10 A_t A_t_trial x_t_bottle x_t_wanted x_t_fewest x_t_first, oX8 A_t_trial A_t_trial_rhymes A_t_trial_kind A_t_trial_salt A_t_trial_ink A_t_trial_dread A_t_trial_tries x_t_trial_told x_t_trial_nerve x_t_trial_pictures x_t_trial_written x_t_trial_day x_t_trial_x, iA cI 128 A_t_trial_dread v_t_trial_dread, iA cI 8 A_t_trial_kind v_t_trial_kind, oX4 A_t_trial_rhymes A_t_trial_rhymes_other, iA cI 16 A_t_trial_rhymes_other v_t_trial_rhymes_other, iA cI 8 A_t_trial_salt v_t_trial_salt, iA cI 128 A_t_trial_tries v_t_trial_tries] → va_S A s.heap H locs → f_X10_search_b91 (f_X10_search dp) (f_X10_goOnWith dp) a1 a2 a3 (f_X10_search_b44 (f_X10_search dp) (f_X10_goOnWith dp) v_t_trial_kind v_t_trial_rhymes_other v_t_trial_salt x_t_bottle x_t_wanted x_t_trial_nerve a1 a2 a3 n_44) v_t_trial_dread v_t_trial_tries x_t_fewest x_t_first l4 = some (o_v_t_trial_dread, o_v_t_trial_tries, o_x_t_fewest, o_x_t_first) → W p l e { frames := dp + 1 + 5, cells := 0, slots := 0, locals := (dp + 1) * 28 + 111 } s m ([.ref A_t, .int a1, .int a2, .int a3] : List Value).toArray below meth c H locs 0 0 (MQ below (PoV D A [oX10 A_t A_t_trial x_t_bottle x_t_wanted o_x_t_fewest o_x_t_first, oX8 A_t_trial A_t_trial_rhymes A_t_trial_kind A_t_trial_salt A_t_trial_ink A_t_trial_dread A_t_trial_tries x_t_trial_told x_t_trial_nerve x_t_trial_pictures x_t_trial_written x_t_trial_day x_t_trial_x, iA cI 128 A_t_trial_dread o_v_t_trial_dread, iA cI 8 A_t_trial_kind v_t_trial_kind, oX4 A_t_trial_rhymes A_t_trial_rhymes_other, iA cI 16 A_t_trial_rhymes_other v_t_trial_rhymes_other, iA cI 8 A_t_trial_salt v_t_trial_salt, iA cI 128 A_t_trial_tries o_v_t_trial_tries]) ([.ref A_t, .int a1, .int a2, .int a3] : List Value).toArray s 0 0 A) (F0 m 91 ls []) := by
            intro v_t_trial_dread v_t_trial_tries x_t_fewest x_t_first l4 H locs ls hl hP hD hS hf
            unfold f_X10_search_b91 at hf
            refine lv_iinc (v := (l4 + (1 : Int32))) (lv' := [(4, .int (l4 + (1 : Int32))), (0, .ref A_t), (1, .int a1), (2, .int a2), (3, .int a3)]) hx hb dX10_search_91 hl (k := 4) rfl rfl (by decide) rfl (fun ls hl => ?_)
            refine lv_goto (tgt := 44) hx hb dX10_search_94 (by decide) ?_
            exact ih_44 v_t_trial_dread v_t_trial_tries x_t_fewest x_t_first (l4 + (1 : Int32)) _ _ ls (lv_sub hl [1, 2, 3, 4, 0] rfl) hP hD hS hf
          have hb_72 : ∀ (v_t_trial_dread : (Nat → Int32)) (v_t_trial_tries : (Nat → Int32)) (x_t_fewest : Int32) (x_t_first : Int32) (s0 : Int32) (l4 : Int32) (H : Heap) (locs : List Loc) (ls : Array Slot), lv_has ls 6 [(0, .ref A_t), (1, .int a1), (2, .int a2), (3, .int a3), (4, .int l4)] → va_P D vwCl [oX10 A_t A_t_trial x_t_bottle x_t_wanted x_t_fewest x_t_first, oX8 A_t_trial A_t_trial_rhymes A_t_trial_kind A_t_trial_salt A_t_trial_ink A_t_trial_dread A_t_trial_tries x_t_trial_told x_t_trial_nerve x_t_trial_pictures x_t_trial_written x_t_trial_day x_t_trial_x, iA cI 128 A_t_trial_dread v_t_trial_dread, iA cI 8 A_t_trial_kind v_t_trial_kind, oX4 A_t_trial_rhymes A_t_trial_rhymes_other, iA cI 16 A_t_trial_rhymes_other v_t_trial_rhymes_other, iA cI 8 A_t_trial_salt v_t_trial_salt, iA cI 128 A_t_trial_tries v_t_trial_tries] H → va_D A [oX10 A_t A_t_trial x_t_bottle x_t_wanted x_t_fewest x_t_first, oX8 A_t_trial A_t_trial_rhymes A_t_trial_kind A_t_trial_salt A_t_trial_ink A_t_trial_dread A_t_trial_tries x_t_trial_told x_t_trial_nerve x_t_trial_pictures x_t_trial_written x_t_trial_day x_t_trial_x, iA cI 128 A_t_trial_dread v_t_trial_dread, iA cI 8 A_t_trial_kind v_t_trial_kind, oX4 A_t_trial_rhymes A_t_trial_rhymes_other, iA cI 16 A_t_trial_rhymes_other v_t_trial_rhymes_other, iA cI 8 A_t_trial_salt v_t_trial_salt, iA cI 128 A_t_trial_tries v_t_trial_tries] → va_S A s.heap H locs → f_X10_search_b72 (f_X10_search dp) (f_X10_goOnWith dp) v_t_trial_kind v_t_trial_rhymes_other v_t_trial_salt x_t_bottle x_t_wanted x_t_trial_nerve a1 a2 a3 (f_X10_search_b44 (f_X10_search dp) (f_X10_goOnWith dp) v_t_trial_kind v_t_trial_rhymes_other v_t_trial_salt x_t_bottle x_t_wanted x_t_trial_nerve a1 a2 a3 n_44) v_t_trial_dread v_t_trial_tries x_t_fewest x_t_first s0 l4 = some (o_v_t_trial_dread, o_v_t_trial_tries, o_x_t_fewest, o_x_t_first) → W p l e { frames := dp + 1 + 5, cells := 0, slots := 0, locals := (dp + 1) * 28 + 111 } s m ([.ref A_t, .int a1, .int a2, .int a3] : List Value).toArray below meth c H locs 0 0 (MQ below (PoV D A [oX10 A_t A_t_trial x_t_bottle x_t_wanted o_x_t_fewest o_x_t_first, oX8 A_t_trial A_t_trial_rhymes A_t_trial_kind A_t_trial_salt A_t_trial_ink A_t_trial_dread A_t_trial_tries x_t_trial_told x_t_trial_nerve x_t_trial_pictures x_t_trial_written x_t_trial_day x_t_trial_x, iA cI 128 A_t_trial_dread o_v_t_trial_dread, iA cI 8 A_t_trial_kind v_t_trial_kind, oX4 A_t_trial_rhymes A_t_trial_rhymes_other, iA cI 16 A_t_trial_rhymes_other v_t_trial_rhymes_other, iA cI 8 A_t_trial_salt v_t_trial_salt, iA cI 128 A_t_trial_tries o_v_t_trial_tries]) ([.ref A_t, .int a1, .int a2, .int a3] : List Value).toArray s 0 0 A) (F0 m 72 ls [.int s0]) := by
            intro v_t_trial_dread v_t_trial_tries x_t_fewest x_t_first s0 l4 H locs ls hl hP hD hS hf
            unfold f_X10_search_b72 at hf
            refine lv_istore (lv' := [(5, .int s0), (0, .ref A_t), (1, .int a1), (2, .int a2), (3, .int a3), (4, .int l4)]) hx hb dX10_search_72 hl (by decide) rfl (fun ls hl => ?_)
            refine lv_aload_n hx hb dX10_search_74 rfl (lv_at hl 1 rfl) ?_
            refine lv_iload hx hb dX10_search_75 (lv_at hl 5 rfl) ?_
            refine lv_iload_n hx hb dX10_search_77 rfl (lv_at hl 2 rfl) ?_
            refine lv_iconst (v := 1) hx hb dX10_search_78 (by decide) ?_
            refine lv_iload hx hb dX10_search_79 (lv_at hl 5 rfl) ?_
            refine lv_ishl hx hb dX10_search_81 ?_
            refine lv_iconst (v := -1) hx hb dX10_search_82 (by decide) ?_
            refine lv_ixor hx hb dX10_search_83 ?_
            refine lv_iand hx hb dX10_search_84 ?_
            refine lv_iload_n hx hb dX10_search_85 rfl (lv_at hl 3 rfl) ?_
            refine lv_iload hx hb dX10_search_86 (lv_at hl 0 rfl) ?_
            obtain ⟨w1, w2, w3, w4, hc5, hf⟩ := bd4_e hf
            refine x_callVV (ws' := [oX10 A_t A_t_trial x_t_bottle x_t_wanted w3 w4, oX8 A_t_trial A_t_trial_rhymes A_t_trial_kind A_t_trial_salt A_t_trial_ink A_t_trial_dread A_t_trial_tries x_t_trial_told x_t_trial_nerve x_t_trial_pictures x_t_trial_written x_t_trial_day x_t_trial_x, iA cI 128 A_t_trial_dread w1, iA cI 8 A_t_trial_kind v_t_trial_kind, oX4 A_t_trial_rhymes A_t_trial_rhymes_other, iA cI 16 A_t_trial_rhymes_other v_t_trial_rhymes_other, iA cI 8 A_t_trial_salt v_t_trial_salt, iA cI 128 A_t_trial_tries w2]) (rest := []) C hK hP hD hS hA hl mf_X10_38 (ih_X10_goOnWith hc5) [0, 1, 2, 3, 4, 5, 6, 7] 0 10 rfl rfl rfl rfl rfl rfl rfl rfl rfl rfl (Nat.le_of_ble_eq_true rfl) ⟨(show dp + 5 + 1 ≤ dp + 1 + 5 by omega), (show 8 + (9 + 11) + (dp * 28 + 111) ≤ (dp + 1) * 28 + 111 by omega)⟩ ⟨Nat.le_refl _, Nat.le_refl _⟩ dX10_search_88 ?_
            intro H locs hP hD hS
            exact hb_91 w1 w2 w3 w4 l4 _ _ ls (lv_sub hl [1, 2, 3, 4, 5] rfl) hP hD hS hf
          intro v_t_trial_dread v_t_trial_tries x_t_fewest x_t_first l4 H locs ls hl hP hD hS hf
          rw [f_X10_search_b44] at hf
          refine lv_iload hx hb dX10_search_44 (lv_at hl 4 rfl) ?_
          refine lv_bipush (v := 16) hx hb dX10_search_46 (by decide) ?_
          refine lv_icmp_ge (tgt := 97) hx hb dX10_search_48 (by decide) (fun q => ?_) (fun q => ?_)
          · have hf := if_t q hf
            obtain ⟨rfl, rfl, rfl, rfl⟩ := ev4 hf
            exact x_vret C hr hlk hP hD hS dX10_search_97
          · have hf := if_f q hf
            refine lv_iload_n hx hb dX10_search_51 rfl (lv_at hl 1 rfl) ?_
            refine lv_iload hx hb dX10_search_52 (lv_at hl 4 rfl) ?_
            refine lv_ishr hx hb dX10_search_54 ?_
            refine lv_iconst (v := 1) hx hb dX10_search_55 (by decide) ?_
            refine lv_iand hx hb dX10_search_56 ?_
            refine lv_if_eq (tgt := 91) hx hb dX10_search_57 (by decide) (fun q => ?_) (fun q => ?_)
            · have hf := if_t q hf
              exact hb_91 v_t_trial_dread v_t_trial_tries x_t_fewest x_t_first l4 _ _ ls (lv_sub hl [0, 1, 2, 3, 4] rfl) hP hD hS hf
            · have hf := if_f q hf
              refine lv_iload_n hx hb dX10_search_60 rfl (lv_at hl 3 rfl) ?_
              refine lv_bipush (v := -2) hx hb dX10_search_61 (by decide) ?_
              refine lv_icmp_ne (tgt := 71) hx hb dX10_search_63 (by decide) (fun q => ?_) (fun q => ?_)
              · have hf := if_f q hf
                refine lv_iload_n hx hb dX10_search_71 rfl (lv_at hl 3 rfl) ?_
                exact hb_72 v_t_trial_dread v_t_trial_tries x_t_fewest x_t_first a3 l4 _ _ ls (lv_sub hl [0, 1, 2, 3, 4] rfl) hP hD hS hf
              · have hf := if_t q hf
                refine lv_iload hx hb dX10_search_66 (lv_at hl 4 rfl) ?_
                refine lv_goto (tgt := 72) hx hb dX10_search_68 (by decide) ?_
                exact hb_72 v_t_trial_dread v_t_trial_tries x_t_fewest x_t_first l4 l4 _ _ ls (lv_sub hl [0, 1, 2, 3, 4] rfl) hP hD hS hf
      refine lv_iload_n hx hb dX10_search_0 rfl (lv_at hl 2 rfl) ?_
      refine lv_aload_n hx hb dX10_search_1 rfl (lv_at hl 0 rfl) ?_
      refine x_get C hK hP fd_X10_22 0 rfl rfl dX10_search_2 ?_
      refine lv_icmp_lt (tgt := 9) hx hb dX10_search_5 (by decide) (fun q => ?_) (fun q => ?_)
      · have hf := if_t q hf
        refine lv_aload_n hx hb dX10_search_9 rfl (lv_at hl 0 rfl) ?_
        refine x_get C hK hP fd_X10_19 0 rfl rfl dX10_search_10 ?_
        refine lv_aload_n hx hb dX10_search_13 rfl (lv_at hl 0 rfl) ?_
        refine x_get C hK hP fd_X10_9 0 rfl rfl dX10_search_14 ?_
        refine lv_aload_n hx hb dX10_search_17 rfl (lv_at hl 0 rfl) ?_
        refine x_get C hK hP fd_X10_15 0 rfl rfl dX10_search_18 ?_
        obtain ⟨r6, hc7, hf⟩ := bd1_e hf
        refine x_callVI (ws' := [oX10 A_t A_t_trial x_t_bottle x_t_wanted x_t_fewest x_t_first, oX8 A_t_trial A_t_trial_rhymes A_t_trial_kind A_t_trial_salt A_t_trial_ink A_t_trial_dread A_t_trial_tries x_t_trial_told x_t_trial_nerve x_t_trial_pictures x_t_trial_written x_t_trial_day x_t_trial_x, iA cI 128 A_t_trial_dread v_t_trial_dread, iA cI 8 A_t_trial_kind v_t_trial_kind, oX4 A_t_trial_rhymes A_t_trial_rhymes_other, iA cI 16 A_t_trial_rhymes_other v_t_trial_rhymes_other, iA cI 8 A_t_trial_salt v_t_trial_salt, iA cI 128 A_t_trial_tries v_t_trial_tries]) (rest := [.int x_t_wanted]) C hK hP hD hS hA hl mf_X10_32 (c_X8_wordsBorneBy hc7) [1, 2, 3, 4, 5, 6] 0 8 rfl rfl rfl rfl rfl rfl rfl rfl rfl rfl (Nat.le_of_ble_eq_true rfl) ⟨(show 4 + 1 ≤ dp + 1 + 5 by omega), (show 8 + (4 + 11) + 88 ≤ (dp + 1) * 28 + 111 by omega)⟩ ⟨Nat.le_refl _, Nat.le_refl _⟩ dX10_search_21 ?_
        intro H locs hP hD hS
        refine lv_iconst (v := -1) hx hb dX10_search_24 (by decide) ?_
        refine lv_ixor hx hb dX10_search_25 ?_
        refine lv_iand hx hb dX10_search_26 ?_
        refine lv_if_ne (tgt := 41) hx hb dX10_search_27 (by decide) (fun q => ?_) (fun q => ?_)
        · have hf := if_f q hf
          refine lv_iconst (v := 0) hx hb dX10_search_41 (by decide) ?_
          refine lv_istore (lv' := [(4, .int (0 : Int32)), (0, .ref A_t), (1, .int a1), (2, .int a2), (3, .int a3)]) hx hb dX10_search_42 hl (by decide) rfl (fun ls hl => ?_)
          exact hb_44 FU v_t_trial_dread v_t_trial_tries x_t_fewest x_t_first (0 : Int32) _ _ ls (lv_sub hl [1, 2, 3, 4, 0] rfl) hP hD hS hf
        · have hf := if_t q hf
          refine lv_aload_n hx hb dX10_search_30 rfl (lv_at hl 0 rfl) ?_
          refine lv_iload_n hx hb dX10_search_31 rfl (lv_at hl 2 rfl) ?_
          refine x_put (ws' := [oX10 A_t A_t_trial x_t_bottle x_t_wanted a2 x_t_first, oX8 A_t_trial A_t_trial_rhymes A_t_trial_kind A_t_trial_salt A_t_trial_ink A_t_trial_dread A_t_trial_tries x_t_trial_told x_t_trial_nerve x_t_trial_pictures x_t_trial_written x_t_trial_day x_t_trial_x, iA cI 128 A_t_trial_dread v_t_trial_dread, iA cI 8 A_t_trial_kind v_t_trial_kind, oX4 A_t_trial_rhymes A_t_trial_rhymes_other, iA cI 16 A_t_trial_rhymes_other v_t_trial_rhymes_other, iA cI 8 A_t_trial_salt v_t_trial_salt, iA cI 128 A_t_trial_tries v_t_trial_tries]) C hK hP hD hS fp_X10_22 0 rfl rfl rfl (Nat.le_of_ble_eq_true rfl) rfl dX10_search_32 ?_
          intro H locs hP hD hS
          refine lv_aload_n hx hb dX10_search_35 rfl (lv_at hl 0 rfl) ?_
          refine lv_iload_n hx hb dX10_search_36 rfl (lv_at hl 3 rfl) ?_
          refine x_put (ws' := [oX10 A_t A_t_trial x_t_bottle x_t_wanted a2 a3, oX8 A_t_trial A_t_trial_rhymes A_t_trial_kind A_t_trial_salt A_t_trial_ink A_t_trial_dread A_t_trial_tries x_t_trial_told x_t_trial_nerve x_t_trial_pictures x_t_trial_written x_t_trial_day x_t_trial_x, iA cI 128 A_t_trial_dread v_t_trial_dread, iA cI 8 A_t_trial_kind v_t_trial_kind, oX4 A_t_trial_rhymes A_t_trial_rhymes_other, iA cI 16 A_t_trial_rhymes_other v_t_trial_rhymes_other, iA cI 8 A_t_trial_salt v_t_trial_salt, iA cI 128 A_t_trial_tries v_t_trial_tries]) C hK hP hD hS fp_X10_25 0 rfl rfl rfl (Nat.le_of_ble_eq_true rfl) rfl dX10_search_37 ?_
          intro H locs hP hD hS
          obtain ⟨rfl, rfl, rfl, rfl⟩ := ev4 hf
          exact x_vret C hr hlk hP hD hS dX10_search_40
      · have hf := if_f q hf
        obtain ⟨rfl, rfl, rfl, rfl⟩ := ev4 hf
        exact x_vret C hr hlk hP hD hS dX10_search_8
    · intro A_t A_t_trial A_t_trial_rhymes A_t_trial_kind A_t_trial_salt A_t_trial_ink A_t_trial_dread A_t_trial_tries A_t_trial_rhymes_other x_t_bottle x_t_wanted x_t_fewest x_t_first x_t_trial_told x_t_trial_nerve x_t_trial_pictures x_t_trial_written x_t_trial_day x_t_trial_x a1 a2 a3 a4 v_t_trial_dread v_t_trial_kind v_t_trial_rhymes_other v_t_trial_salt v_t_trial_tries o_x_t_fewest o_x_t_first o_v_t_trial_dread o_v_t_trial_tries hf
      have hf : fo_X10_goOnWith (f_X10_search dp) (f_X10_goOnWith dp) v_t_trial_dread v_t_trial_kind v_t_trial_rhymes_other v_t_trial_salt v_t_trial_tries x_t_bottle x_t_fewest x_t_first x_t_wanted x_t_trial_nerve a1 a2 a3 a4 = some (o_v_t_trial_dread, o_v_t_trial_tries, o_x_t_fewest, o_x_t_first) := hf
      refine x_startV (by decide) (Nat.le_of_ble_eq_true rfl) ?_
      intro p e s m below meth c A C hr hlk hA hK hP hD hS ls hl
      have hl : lv_has ls 9 [(0, .ref A_t), (1, .int a1), (2, .int a2), (3, .int a3), (4, .int a4)] := hl
      have hx := C.1
      have hb := C.2.1
      unfold fo_X10_goOnWith at hf
      refine lv_aload_n hx hb dX10_goOnWith_0 rfl (lv_at hl 0 rfl) ?_
      refine x_get C hK hP fd_X10_9 0 rfl rfl dX10_goOnWith_1 ?_
      refine x_get C hK hP fd_X10_42 1 rfl rfl dX10_goOnWith_4 ?_
      refine lv_iload_n hx hb dX10_goOnWith_7 rfl (lv_at hl 1 rfl) ?_
      obtain ⟨r1, hc2, hf⟩ := bd1_e hf
      refine x_callVI (ws' := [oX10 A_t A_t_trial x_t_bottle x_t_wanted x_t_fewest x_t_first, oX8 A_t_trial A_t_trial_rhymes A_t_trial_kind A_t_trial_salt A_t_trial_ink A_t_trial_dread A_t_trial_tries x_t_trial_told x_t_trial_nerve x_t_trial_pictures x_t_trial_written x_t_trial_day x_t_trial_x, iA cI 128 A_t_trial_dread v_t_trial_dread, iA cI 8 A_t_trial_kind v_t_trial_kind, oX4 A_t_trial_rhymes A_t_trial_rhymes_other, iA cI 16 A_t_trial_rhymes_other v_t_trial_rhymes_other, iA cI 8 A_t_trial_salt v_t_trial_salt, iA cI 128 A_t_trial_tries v_t_trial_tries]) (rest := []) C hK hP hD hS hA hl mf_X10_46 (c_X4_of hc2) [4, 5] 0 4 rfl rfl rfl rfl rfl rfl rfl rfl rfl rfl (Nat.le_of_ble_eq_true rfl) ⟨(show 0 + 1 ≤ dp + 1 + 5 by omega), (show 8 + (2 + 11) + 0 ≤ (dp + 1) * 28 + 111 by omega)⟩ ⟨Nat.le_refl _, Nat.le_refl _⟩ dX10_goOnWith_8 ?_
      intro H locs hP hD hS
      refine lv_istore (lv' := [(5, .int r1), (0, .ref A_t), (1, .int a1), (2, .int a2), (3, .int a3), (4, .int a4)]) hx hb dX10_goOnWith_11 hl (by decide) rfl (fun ls hl => ?_)
      refine lv_aload_n hx hb dX10_goOnWith_13 rfl (lv_at hl 1 rfl) ?_
      refine x_get C hK hP fd_X10_9 0 rfl rfl dX10_goOnWith_14 ?_
      refine lv_aload_n hx hb dX10_goOnWith_17 rfl (lv_at hl 1 rfl) ?_
      refine x_get C hK hP fd_X10_15 0 rfl rfl dX10_goOnWith_18 ?_
      refine lv_iload_n hx hb dX10_goOnWith_21 rfl (lv_at hl 2 rfl) ?_
      obtain ⟨r3, hc4, hf⟩ := bd1_e hf
      refine x_callVI (ws' := [oX10 A_t A_t_trial x_t_bottle x_t_wanted x_t_fewest x_t_first, oX8 A_t_trial A_t_trial_rhymes A_t_trial_kind A_t_trial_salt A_t_trial_ink A_t_trial_dread A_t_trial_tries x_t_trial_told x_t_trial_nerve x_t_trial_pictures x_t_trial_written x_t_trial_day x_t_trial_x, iA cI 128 A_t_trial_dread v_t_trial_dread, iA cI 8 A_t_trial_kind v_t_trial_kind, oX4 A_t_trial_rhymes A_t_trial_rhymes_other, iA cI 16 A_t_trial_rhymes_other v_t_trial_rhymes_other, iA cI 8 A_t_trial_salt v_t_trial_salt, iA cI 128 A_t_trial_tries v_t_trial_tries]) (rest := []) C hK hP hD hS hA hl mf_X10_51 (c_X8_triesOf hc4) [1, 7] 0 8 rfl rfl rfl rfl rfl rfl rfl rfl rfl rfl (Nat.le_of_ble_eq_true rfl) ⟨(show 0 + 1 ≤ dp + 1 + 5 by omega), (show 8 + (3 + 11) + 0 ≤ (dp + 1) * 28 + 111 by omega)⟩ ⟨Nat.le_refl _, Nat.le_refl _⟩ dX10_goOnWith_22 ?_
      intro H locs hP hD hS
      refine lv_istore (lv' := [(6, .int r3), (5, .int r1), (0, .ref A_t), (1, .int a1), (2, .int a2), (3, .int a3), (4, .int a4)]) hx hb dX10_goOnWith_25 hl (by decide) rfl (fun ls hl => ?_)
      refine lv_aload_n hx hb dX10_goOnWith_27 rfl (lv_at hl 2 rfl) ?_
      refine x_get C hK hP fd_X10_9 0 rfl rfl dX10_goOnWith_28 ?_
      refine lv_aload_n hx hb dX10_goOnWith_31 rfl (lv_at hl 2 rfl) ?_
      refine x_get C hK hP fd_X10_15 0 rfl rfl dX10_goOnWith_32 ?_
      refine lv_iload_n hx hb dX10_goOnWith_35 rfl (lv_at hl 3 rfl) ?_
      obtain ⟨r5, hc6, hf⟩ := bd1_e hf
      refine x_callVI (ws' := [oX10 A_t A_t_trial x_t_bottle x_t_wanted x_t_fewest x_t_first, oX8 A_t_trial A_t_trial_rhymes A_t_trial_kind A_t_trial_salt A_t_trial_ink A_t_trial_dread A_t_trial_tries x_t_trial_told x_t_trial_nerve x_t_trial_pictures x_t_trial_written x_t_trial_day x_t_trial_x, iA cI 128 A_t_trial_dread v_t_trial_dread, iA cI 8 A_t_trial_kind v_t_trial_kind, oX4 A_t_trial_rhymes A_t_trial_rhymes_other, iA cI 16 A_t_trial_rhymes_other v_t_trial_rhymes_other, iA cI 8 A_t_trial_salt v_t_trial_salt, iA cI 128 A_t_trial_tries v_t_trial_tries]) (rest := []) C hK hP hD hS hA hl mf_X10_55 (c_X8_dreadOf hc6) [1, 2] 0 8 rfl rfl rfl rfl rfl rfl rfl rfl rfl rfl (Nat.le_of_ble_eq_true rfl) ⟨(show 0 + 1 ≤ dp + 1 + 5 by omega), (show 8 + (3 + 11) + 0 ≤ (dp + 1) * 28 + 111 by omega)⟩ ⟨Nat.le_refl _, Nat.le_refl _⟩ dX10_goOnWith_36 ?_
      intro H locs hP hD hS
      refine lv_istore (lv' := [(7, .int r5), (6, .int r3), (5, .int r1), (0, .ref A_t), (1, .int a1), (2, .int a2), (3, .int a3), (4, .int a4)]) hx hb dX10_goOnWith_39 hl (by decide) rfl (fun ls hl => ?_)
      refine lv_aload_n hx hb dX10_goOnWith_41 rfl (lv_at hl 3 rfl) ?_
      refine x_get C hK hP fd_X10_9 0 rfl rfl dX10_goOnWith_42 ?_
      refine lv_aload_n hx hb dX10_goOnWith_45 rfl (lv_at hl 3 rfl) ?_
      refine x_get C hK hP fd_X10_15 0 rfl rfl dX10_goOnWith_46 ?_
      refine lv_iload hx hb dX10_goOnWith_49 (lv_at hl 2 rfl) ?_
      obtain ⟨r7, hc8, hf⟩ := bd1_e hf
      refine x_callVI (ws' := [oX10 A_t A_t_trial x_t_bottle x_t_wanted x_t_fewest x_t_first, oX8 A_t_trial A_t_trial_rhymes A_t_trial_kind A_t_trial_salt A_t_trial_ink A_t_trial_dread A_t_trial_tries x_t_trial_told x_t_trial_nerve x_t_trial_pictures x_t_trial_written x_t_trial_day x_t_trial_x, iA cI 128 A_t_trial_dread v_t_trial_dread, iA cI 8 A_t_trial_kind v_t_trial_kind, oX4 A_t_trial_rhymes A_t_trial_rhymes_other, iA cI 16 A_t_trial_rhymes_other v_t_trial_rhymes_other, iA cI 8 A_t_trial_salt v_t_trial_salt, iA cI 128 A_t_trial_tries v_t_trial_tries]) (rest := []) C hK hP hD hS hA hl mf_X10_55 (c_X8_dreadOf hc8) [1, 2] 0 8 rfl rfl rfl rfl rfl rfl rfl rfl rfl rfl (Nat.le_of_ble_eq_true rfl) ⟨(show 0 + 1 ≤ dp + 1 + 5 by omega), (show 8 + (3 + 11) + 0 ≤ (dp + 1) * 28 + 111 by omega)⟩ ⟨Nat.le_refl _, Nat.le_refl _⟩ dX10_goOnWith_51 ?_
      intro H locs hP hD hS
      refine lv_istore (lv' := [(8, .int r7), (7, .int r5), (6, .int r3), (5, .int r1), (0, .ref A_t), (1, .int a1), (2, .int a2), (3, .int a3), (4, .int a4)]) hx hb dX10_goOnWith_54 hl (by decide) rfl (fun ls hl => ?_)
      refine lv_aload_n hx hb dX10_goOnWith_56 rfl (lv_at hl 4 rfl) ?_
      refine x_get C hK hP fd_X10_9 0 rfl rfl dX10_goOnWith_57 ?_
      refine lv_aload_n hx hb dX10_goOnWith_60 rfl (lv_at hl 4 rfl) ?_
      refine x_get C hK hP fd_X10_15 0 rfl rfl dX10_goOnWith_61 ?_
      refine lv_iload_n hx hb dX10_goOnWith_64 rfl (lv_at hl 5 rfl) ?_
      obtain ⟨w9, w10, hc11, hf⟩ := bd2_e hf
      refine x_callVV (ws' := [oX10 A_t A_t_trial x_t_bottle x_t_wanted x_t_fewest x_t_first, oX8 A_t_trial A_t_trial_rhymes A_t_trial_kind A_t_trial_salt A_t_trial_ink A_t_trial_dread A_t_trial_tries x_t_trial_told x_t_trial_nerve x_t_trial_pictures x_t_trial_written x_t_trial_day x_t_trial_x, iA cI 128 A_t_trial_dread w9, iA cI 8 A_t_trial_kind v_t_trial_kind, oX4 A_t_trial_rhymes A_t_trial_rhymes_other, iA cI 16 A_t_trial_rhymes_other v_t_trial_rhymes_other, iA cI 8 A_t_trial_salt v_t_trial_salt, iA cI 128 A_t_trial_tries w10]) (rest := []) C hK hP hD hS hA hl mf_X10_58 (c_X8_makeUsed hc11) [1, 2, 4, 5, 7] 0 8 rfl rfl rfl rfl rfl rfl rfl rfl rfl rfl (Nat.le_of_ble_eq_true rfl) ⟨(show 3 + 1 ≤ dp + 1 + 5 by omega), (show 8 + (4 + 11) + 65 ≤ (dp + 1) * 28 + 111 by omega)⟩ ⟨Nat.le_refl _, Nat.le_refl _⟩ dX10_goOnWith_65 ?_
      intro H locs hP hD hS
      refine lv_aload_n hx hb dX10_goOnWith_68 rfl (lv_at hl 4 rfl) ?_
      refine lv_iload_n hx hb dX10_goOnWith_69 rfl (lv_at hl 6 rfl) ?_
      refine lv_iload_n hx hb dX10_goOnWith_70 rfl (lv_at hl 7 rfl) ?_
      refine lv_bipush (v := 9) hx hb dX10_goOnWith_71 (by decide) ?_
      refine lv_iadd hx hb dX10_goOnWith_73 ?_
      refine lv_iload hx hb dX10_goOnWith_74 (lv_at hl 2 rfl) ?_
      refine lv_isub hx hb dX10_goOnWith_76 ?_
      refine lv_iload hx hb dX10_goOnWith_77 (lv_at hl 8 rfl) ?_
      obtain ⟨w12, w13, w14, w15, hc16, hf⟩ := bd4_e hf
      refine x_callVV (ws' := [oX10 A_t A_t_trial x_t_bottle x_t_wanted w14 w15, oX8 A_t_trial A_t_trial_rhymes A_t_trial_kind A_t_trial_salt A_t_trial_ink A_t_trial_dread A_t_trial_tries x_t_trial_told x_t_trial_nerve x_t_trial_pictures x_t_trial_written x_t_trial_day x_t_trial_x, iA cI 128 A_t_trial_dread w12, iA cI 8 A_t_trial_kind v_t_trial_kind, oX4 A_t_trial_rhymes A_t_trial_rhymes_other, iA cI 16 A_t_trial_rhymes_other v_t_trial_rhymes_other, iA cI 8 A_t_trial_salt v_t_trial_salt, iA cI 128 A_t_trial_tries w13]) (rest := []) C hK hP hD hS hA hl mf_X10_28 (ih_X10_search hc16) [0, 1, 2, 3, 4, 5, 6, 7] 0 10 rfl rfl rfl rfl rfl rfl rfl rfl rfl rfl (Nat.le_of_ble_eq_true rfl) ⟨(show dp + 5 + 1 ≤ dp + 1 + 5 by omega), (show 8 + (6 + 11) + (dp * 28 + 111) ≤ (dp + 1) * 28 + 111 by omega)⟩ ⟨Nat.le_refl _, Nat.le_refl _⟩ dX10_goOnWith_79 ?_
      intro H locs hP hD hS
      refine lv_aload_n hx hb dX10_goOnWith_82 rfl (lv_at hl 4 rfl) ?_
      refine x_get C hK hP fd_X10_9 0 rfl rfl dX10_goOnWith_83 ?_
      refine lv_aload_n hx hb dX10_goOnWith_86 rfl (lv_at hl 4 rfl) ?_
      refine x_get C hK hP fd_X10_15 0 rfl rfl dX10_goOnWith_87 ?_
      refine lv_iload_n hx hb dX10_goOnWith_90 rfl (lv_at hl 5 rfl) ?_
      refine lv_iload hx hb dX10_goOnWith_91 (lv_at hl 2 rfl) ?_
      obtain ⟨w17, hc18, hf⟩ := bd1_e hf
      refine x_callVV (ws' := [oX10 A_t A_t_trial x_t_bottle x_t_wanted w14 w15, oX8 A_t_trial A_t_trial_rhymes A_t_trial_kind A_t_trial_salt A_t_trial_ink A_t_trial_dread A_t_trial_tries x_t_trial_told x_t_trial_nerve x_t_trial_pictures x_t_trial_written x_t_trial_day x_t_trial_x, iA cI 128 A_t_trial_dread w12, iA cI 8 A_t_trial_kind v_t_trial_kind, oX4 A_t_trial_rhymes A_t_trial_rhymes_other, iA cI 16 A_t_trial_rhymes_other v_t_trial_rhymes_other, iA cI 8 A_t_trial_salt v_t_trial_salt, iA cI 128 A_t_trial_tries w17]) (rest := []) C hK hP hD hS hA hl mf_X10_62 (c_X8_setTries hc18) [1, 7] 0 8 rfl rfl rfl rfl rfl rfl rfl rfl rfl rfl (Nat.le_of_ble_eq_true rfl) ⟨(show 0 + 1 ≤ dp + 1 + 5 by omega), (show 8 + (4 + 11) + 0 ≤ (dp + 1) * 28 + 111 by omega)⟩ ⟨Nat.le_refl _, Nat.le_refl _⟩ dX10_goOnWith_93 ?_
      intro H locs hP hD hS
      refine lv_aload_n hx hb dX10_goOnWith_96 rfl (lv_at hl 4 rfl) ?_
      refine x_get C hK hP fd_X10_9 0 rfl rfl dX10_goOnWith_97 ?_
      refine lv_aload_n hx hb dX10_goOnWith_100 rfl (lv_at hl 4 rfl) ?_
      refine x_get C hK hP fd_X10_15 0 rfl rfl dX10_goOnWith_101 ?_
      refine lv_iload hx hb dX10_goOnWith_104 (lv_at hl 3 rfl) ?_
      refine lv_iload hx hb dX10_goOnWith_106 (lv_at hl 0 rfl) ?_
      obtain ⟨w19, hc20, hf⟩ := bd1_e hf
      refine x_callVV (ws' := [oX10 A_t A_t_trial x_t_bottle x_t_wanted w14 w15, oX8 A_t_trial A_t_trial_rhymes A_t_trial_kind A_t_trial_salt A_t_trial_ink A_t_trial_dread A_t_trial_tries x_t_trial_told x_t_trial_nerve x_t_trial_pictures x_t_trial_written x_t_trial_day x_t_trial_x, iA cI 128 A_t_trial_dread w19, iA cI 8 A_t_trial_kind v_t_trial_kind, oX4 A_t_trial_rhymes A_t_trial_rhymes_other, iA cI 16 A_t_trial_rhymes_other v_t_trial_rhymes_other, iA cI 8 A_t_trial_salt v_t_trial_salt, iA cI 128 A_t_trial_tries w17]) (rest := []) C hK hP hD hS hA hl mf_X10_65 (c_X8_setDread hc20) [1, 2] 0 8 rfl rfl rfl rfl rfl rfl rfl rfl rfl rfl (Nat.le_of_ble_eq_true rfl) ⟨(show 2 + 1 ≤ dp + 1 + 5 by omega), (show 8 + (4 + 11) + 42 ≤ (dp + 1) * 28 + 111 by omega)⟩ ⟨Nat.le_refl _, Nat.le_refl _⟩ dX10_goOnWith_108 ?_
      intro H locs hP hD hS
      refine lv_aload_n hx hb dX10_goOnWith_111 rfl (lv_at hl 4 rfl) ?_
      refine x_get C hK hP fd_X10_9 0 rfl rfl dX10_goOnWith_112 ?_
      refine lv_aload_n hx hb dX10_goOnWith_115 rfl (lv_at hl 4 rfl) ?_
      refine x_get C hK hP fd_X10_15 0 rfl rfl dX10_goOnWith_116 ?_
      refine lv_iload_n hx hb dX10_goOnWith_119 rfl (lv_at hl 5 rfl) ?_
      refine lv_iload hx hb dX10_goOnWith_120 (lv_at hl 1 rfl) ?_
      obtain ⟨w21, hc22, hf⟩ := bd1_e hf
      refine x_callVV (ws' := [oX10 A_t A_t_trial x_t_bottle x_t_wanted w14 w15, oX8 A_t_trial A_t_trial_rhymes A_t_trial_kind A_t_trial_salt A_t_trial_ink A_t_trial_dread A_t_trial_tries x_t_trial_told x_t_trial_nerve x_t_trial_pictures x_t_trial_written x_t_trial_day x_t_trial_x, iA cI 128 A_t_trial_dread w21, iA cI 8 A_t_trial_kind v_t_trial_kind, oX4 A_t_trial_rhymes A_t_trial_rhymes_other, iA cI 16 A_t_trial_rhymes_other v_t_trial_rhymes_other, iA cI 8 A_t_trial_salt v_t_trial_salt, iA cI 128 A_t_trial_tries w17]) (rest := []) C hK hP hD hS hA hl mf_X10_65 (c_X8_setDread hc22) [1, 2] 0 8 rfl rfl rfl rfl rfl rfl rfl rfl rfl rfl (Nat.le_of_ble_eq_true rfl) ⟨(show 2 + 1 ≤ dp + 1 + 5 by omega), (show 8 + (4 + 11) + 42 ≤ (dp + 1) * 28 + 111 by omega)⟩ ⟨Nat.le_refl _, Nat.le_refl _⟩ dX10_goOnWith_122 ?_
      intro H locs hP hD hS
      obtain ⟨rfl, rfl, rfl, rfl⟩ := ev4 hf
      exact x_vret C hr hlk hP hD hS dX10_goOnWith_125
theorem c_X10_search {l : Launch} {D : va_G} {cI cB : ClassId} {A_t A_t_trial A_t_trial_rhymes A_t_trial_kind A_t_trial_salt A_t_trial_ink A_t_trial_dread A_t_trial_tries A_t_trial_rhymes_other : Nat} {x_t_bottle x_t_wanted x_t_fewest x_t_first x_t_trial_told x_t_trial_nerve x_t_trial_pictures x_t_trial_written x_t_trial_day x_t_trial_x a1 a2 a3 : Int32} {v_t_trial_dread v_t_trial_kind v_t_trial_rhymes_other v_t_trial_salt v_t_trial_tries : Nat → Int32} {o_x_t_fewest o_x_t_first : Int32} {o_v_t_trial_dread o_v_t_trial_tries : Nat → Int32} (hf : f_X10_search DP v_t_trial_dread v_t_trial_kind v_t_trial_rhymes_other v_t_trial_salt v_t_trial_tries x_t_bottle x_t_fewest x_t_first x_t_wanted x_t_trial_nerve a1 a2 a3 = some (o_v_t_trial_dread, o_v_t_trial_tries, o_x_t_fewest, o_x_t_first)) : CtV l D cI cB yX10_search cX10_search 6 45 1231 [.ref A_t, .int a1, .int a2, .int a3] [oX10 A_t A_t_trial x_t_bottle x_t_wanted x_t_fewest x_t_first, oX8 A_t_trial A_t_trial_rhymes A_t_trial_kind A_t_trial_salt A_t_trial_ink A_t_trial_dread A_t_trial_tries x_t_trial_told x_t_trial_nerve x_t_trial_pictures x_t_trial_written x_t_trial_day x_t_trial_x, iA cI 128 A_t_trial_dread v_t_trial_dread, iA cI 8 A_t_trial_kind v_t_trial_kind, oX4 A_t_trial_rhymes A_t_trial_rhymes_other, iA cI 16 A_t_trial_rhymes_other v_t_trial_rhymes_other, iA cI 8 A_t_trial_salt v_t_trial_salt, iA cI 128 A_t_trial_tries v_t_trial_tries] [oX10 A_t A_t_trial x_t_bottle x_t_wanted o_x_t_fewest o_x_t_first, oX8 A_t_trial A_t_trial_rhymes A_t_trial_kind A_t_trial_salt A_t_trial_ink A_t_trial_dread A_t_trial_tries x_t_trial_told x_t_trial_nerve x_t_trial_pictures x_t_trial_written x_t_trial_day x_t_trial_x, iA cI 128 A_t_trial_dread o_v_t_trial_dread, iA cI 8 A_t_trial_kind v_t_trial_kind, oX4 A_t_trial_rhymes A_t_trial_rhymes_other, iA cI 16 A_t_trial_rhymes_other v_t_trial_rhymes_other, iA cI 8 A_t_trial_salt v_t_trial_salt, iA cI 128 A_t_trial_tries o_v_t_trial_tries] := (cc_X10_search l D cI cB DP).1 hf
theorem c_X10_goOnWith {l : Launch} {D : va_G} {cI cB : ClassId} {A_t A_t_trial A_t_trial_rhymes A_t_trial_kind A_t_trial_salt A_t_trial_ink A_t_trial_dread A_t_trial_tries A_t_trial_rhymes_other : Nat} {x_t_bottle x_t_wanted x_t_fewest x_t_first x_t_trial_told x_t_trial_nerve x_t_trial_pictures x_t_trial_written x_t_trial_day x_t_trial_x a1 a2 a3 a4 : Int32} {v_t_trial_dread v_t_trial_kind v_t_trial_rhymes_other v_t_trial_salt v_t_trial_tries : Nat → Int32} {o_x_t_fewest o_x_t_first : Int32} {o_v_t_trial_dread o_v_t_trial_tries : Nat → Int32} (hf : f_X10_goOnWith DP v_t_trial_dread v_t_trial_kind v_t_trial_rhymes_other v_t_trial_salt v_t_trial_tries x_t_bottle x_t_fewest x_t_first x_t_wanted x_t_trial_nerve a1 a2 a3 a4 = some (o_v_t_trial_dread, o_v_t_trial_tries, o_x_t_fewest, o_x_t_first)) : CtV l D cI cB yX10_goOnWith cX10_goOnWith 9 45 1231 [.ref A_t, .int a1, .int a2, .int a3, .int a4] [oX10 A_t A_t_trial x_t_bottle x_t_wanted x_t_fewest x_t_first, oX8 A_t_trial A_t_trial_rhymes A_t_trial_kind A_t_trial_salt A_t_trial_ink A_t_trial_dread A_t_trial_tries x_t_trial_told x_t_trial_nerve x_t_trial_pictures x_t_trial_written x_t_trial_day x_t_trial_x, iA cI 128 A_t_trial_dread v_t_trial_dread, iA cI 8 A_t_trial_kind v_t_trial_kind, oX4 A_t_trial_rhymes A_t_trial_rhymes_other, iA cI 16 A_t_trial_rhymes_other v_t_trial_rhymes_other, iA cI 8 A_t_trial_salt v_t_trial_salt, iA cI 128 A_t_trial_tries v_t_trial_tries] [oX10 A_t A_t_trial x_t_bottle x_t_wanted o_x_t_fewest o_x_t_first, oX8 A_t_trial A_t_trial_rhymes A_t_trial_kind A_t_trial_salt A_t_trial_ink A_t_trial_dread A_t_trial_tries x_t_trial_told x_t_trial_nerve x_t_trial_pictures x_t_trial_written x_t_trial_day x_t_trial_x, iA cI 128 A_t_trial_dread o_v_t_trial_dread, iA cI 8 A_t_trial_kind v_t_trial_kind, oX4 A_t_trial_rhymes A_t_trial_rhymes_other, iA cI 16 A_t_trial_rhymes_other v_t_trial_rhymes_other, iA cI 8 A_t_trial_salt v_t_trial_salt, iA cI 128 A_t_trial_tries o_v_t_trial_tries] := (cc_X10_search l D cI cB DP).2 hf
def f_X10_canTrain_b46 (v_t_trial_dread : (Nat → Int32)) (v_t_trial_tries : (Nat → Int32)) (x_t_bottle : Int32) (x_t_fewest : Int32) (x_t_first : Int32) (x_t_wanted : Int32) (s0 : Int32) : Option (Int32 × (Nat → Int32) × (Nat → Int32) × Int32 × Int32 × Int32 × Int32) :=
  zI s0 (some (s0, v_t_trial_dread, v_t_trial_tries, x_t_bottle, x_t_fewest, x_t_first, x_t_wanted))
def f_X10_canTrain (v_t_trial_dread : (Nat → Int32)) (v_t_trial_kind : (Nat → Int32)) (v_t_trial_rhymes_other : (Nat → Int32)) (v_t_trial_salt : (Nat → Int32)) (v_t_trial_tries : (Nat → Int32)) (x_t_bottle : Int32) (x_t_fewest : Int32) (x_t_first : Int32) (x_t_wanted : Int32) (x_t_trial_nerve : Int32) (a1 : Int32) (a2 : Int32) : Option (Int32 × (Nat → Int32) × (Nat → Int32) × Int32 × Int32 × Int32 × Int32) :=
  bd4 (f_X10_search DP v_t_trial_dread v_t_trial_kind v_t_trial_rhymes_other v_t_trial_salt v_t_trial_tries a1 (1000 : Int32) (-2 : Int32) a2 x_t_trial_nerve a2 (0 : Int32) (-2 : Int32)) (fun w1 w2 w3 w4 =>
  if (1000 : Int32) ≤ w3 then
    f_X10_canTrain_b46 w1 w2 a1 w3 w4 a2 (0 : Int32)
  else
    f_X10_canTrain_b46 w1 w2 a1 w3 w4 a2 (1 : Int32))
set_option maxHeartbeats 4000000 in
set_option maxRecDepth 100000 in
theorem c_X10_canTrain {l : Launch} {D : va_G} {cI cB : ClassId} {A_t A_t_trial A_t_trial_rhymes A_t_trial_kind A_t_trial_salt A_t_trial_ink A_t_trial_dread A_t_trial_tries A_t_trial_rhymes_other : Nat} {x_t_bottle x_t_wanted x_t_fewest x_t_first x_t_trial_told x_t_trial_nerve x_t_trial_pictures x_t_trial_written x_t_trial_day x_t_trial_x a1 a2 : Int32} {v_t_trial_dread v_t_trial_kind v_t_trial_rhymes_other v_t_trial_salt v_t_trial_tries : Nat → Int32} {o_r o_x_t_bottle o_x_t_fewest o_x_t_first o_x_t_wanted : Int32} {o_v_t_trial_dread o_v_t_trial_tries : Nat → Int32} (hf : f_X10_canTrain v_t_trial_dread v_t_trial_kind v_t_trial_rhymes_other v_t_trial_salt v_t_trial_tries x_t_bottle x_t_fewest x_t_first x_t_wanted x_t_trial_nerve a1 a2 = some (o_r, o_v_t_trial_dread, o_v_t_trial_tries, o_x_t_bottle, o_x_t_fewest, o_x_t_first, o_x_t_wanted)) : CtI l D cI cB yX10_canTrain cX10_canTrain 3 (some .boolean) 46 1256 [.ref A_t, .int a1, .int a2] [oX10 A_t A_t_trial x_t_bottle x_t_wanted x_t_fewest x_t_first, oX8 A_t_trial A_t_trial_rhymes A_t_trial_kind A_t_trial_salt A_t_trial_ink A_t_trial_dread A_t_trial_tries x_t_trial_told x_t_trial_nerve x_t_trial_pictures x_t_trial_written x_t_trial_day x_t_trial_x, iA cI 128 A_t_trial_dread v_t_trial_dread, iA cI 8 A_t_trial_kind v_t_trial_kind, oX4 A_t_trial_rhymes A_t_trial_rhymes_other, iA cI 16 A_t_trial_rhymes_other v_t_trial_rhymes_other, iA cI 8 A_t_trial_salt v_t_trial_salt, iA cI 128 A_t_trial_tries v_t_trial_tries] [oX10 A_t A_t_trial o_x_t_bottle o_x_t_wanted o_x_t_fewest o_x_t_first, oX8 A_t_trial A_t_trial_rhymes A_t_trial_kind A_t_trial_salt A_t_trial_ink A_t_trial_dread A_t_trial_tries x_t_trial_told x_t_trial_nerve x_t_trial_pictures x_t_trial_written x_t_trial_day x_t_trial_x, iA cI 128 A_t_trial_dread o_v_t_trial_dread, iA cI 8 A_t_trial_kind v_t_trial_kind, oX4 A_t_trial_rhymes A_t_trial_rhymes_other, iA cI 16 A_t_trial_rhymes_other v_t_trial_rhymes_other, iA cI 8 A_t_trial_salt v_t_trial_salt, iA cI 128 A_t_trial_tries o_v_t_trial_tries] o_r := by
  refine x_startI (by decide) (Nat.le_of_ble_eq_true rfl) ?_
  intro p e s m below meth c A C hr hlk hA hK hP hD hS ls hl
  have hl : lv_has ls 3 [(0, .ref A_t), (1, .int a1), (2, .int a2)] := hl
  have hx := C.1
  have hb := C.2.1
  unfold f_X10_canTrain at hf
  have hb_46 : ∀ (v_t_trial_dread : (Nat → Int32)) (v_t_trial_tries : (Nat → Int32)) (x_t_bottle : Int32) (x_t_fewest : Int32) (x_t_first : Int32) (x_t_wanted : Int32) (s0 : Int32) (H : Heap) (locs : List Loc) (ls : Array Slot), lv_has ls 3 [] → va_P D vwCl [oX10 A_t A_t_trial x_t_bottle x_t_wanted x_t_fewest x_t_first, oX8 A_t_trial A_t_trial_rhymes A_t_trial_kind A_t_trial_salt A_t_trial_ink A_t_trial_dread A_t_trial_tries x_t_trial_told x_t_trial_nerve x_t_trial_pictures x_t_trial_written x_t_trial_day x_t_trial_x, iA cI 128 A_t_trial_dread v_t_trial_dread, iA cI 8 A_t_trial_kind v_t_trial_kind, oX4 A_t_trial_rhymes A_t_trial_rhymes_other, iA cI 16 A_t_trial_rhymes_other v_t_trial_rhymes_other, iA cI 8 A_t_trial_salt v_t_trial_salt, iA cI 128 A_t_trial_tries v_t_trial_tries] H → va_D A [oX10 A_t A_t_trial x_t_bottle x_t_wanted x_t_fewest x_t_first, oX8 A_t_trial A_t_trial_rhymes A_t_trial_kind A_t_trial_salt A_t_trial_ink A_t_trial_dread A_t_trial_tries x_t_trial_told x_t_trial_nerve x_t_trial_pictures x_t_trial_written x_t_trial_day x_t_trial_x, iA cI 128 A_t_trial_dread v_t_trial_dread, iA cI 8 A_t_trial_kind v_t_trial_kind, oX4 A_t_trial_rhymes A_t_trial_rhymes_other, iA cI 16 A_t_trial_rhymes_other v_t_trial_rhymes_other, iA cI 8 A_t_trial_salt v_t_trial_salt, iA cI 128 A_t_trial_tries v_t_trial_tries] → va_S A s.heap H locs → f_X10_canTrain_b46 v_t_trial_dread v_t_trial_tries x_t_bottle x_t_fewest x_t_first x_t_wanted s0 = some (o_r, o_v_t_trial_dread, o_v_t_trial_tries, o_x_t_bottle, o_x_t_fewest, o_x_t_first, o_x_t_wanted) → W p l e { frames := 46, cells := 0, slots := 0, locals := 1256 } s m ([.ref A_t, .int a1, .int a2] : List Value).toArray below meth c H locs 0 0 (MQ below (PoI D A [oX10 A_t A_t_trial o_x_t_bottle o_x_t_wanted o_x_t_fewest o_x_t_first, oX8 A_t_trial A_t_trial_rhymes A_t_trial_kind A_t_trial_salt A_t_trial_ink A_t_trial_dread A_t_trial_tries x_t_trial_told x_t_trial_nerve x_t_trial_pictures x_t_trial_written x_t_trial_day x_t_trial_x, iA cI 128 A_t_trial_dread o_v_t_trial_dread, iA cI 8 A_t_trial_kind v_t_trial_kind, oX4 A_t_trial_rhymes A_t_trial_rhymes_other, iA cI 16 A_t_trial_rhymes_other v_t_trial_rhymes_other, iA cI 8 A_t_trial_salt v_t_trial_salt, iA cI 128 A_t_trial_tries o_v_t_trial_tries] o_r) ([.ref A_t, .int a1, .int a2] : List Value).toArray s 0 0 A) (F0 m 46 ls [.int s0]) := by
    intro v_t_trial_dread v_t_trial_tries x_t_bottle x_t_fewest x_t_first x_t_wanted s0 H locs ls hl hP hD hS hf
    unfold f_X10_canTrain_b46 at hf
    obtain ⟨hz, hf⟩ := zI_e hf
    obtain ⟨rfl, rfl, rfl, rfl, rfl, rfl, rfl⟩ := ev7 hf
    exact x_zret C hr hlk hz hP hD hS dX10_canTrain_46
  refine lv_aload_n hx hb dX10_canTrain_0 rfl (lv_at hl 0 rfl) ?_
  refine lv_iload_n hx hb dX10_canTrain_1 rfl (lv_at hl 1 rfl) ?_
  refine x_put (ws' := [oX10 A_t A_t_trial a1 x_t_wanted x_t_fewest x_t_first, oX8 A_t_trial A_t_trial_rhymes A_t_trial_kind A_t_trial_salt A_t_trial_ink A_t_trial_dread A_t_trial_tries x_t_trial_told x_t_trial_nerve x_t_trial_pictures x_t_trial_written x_t_trial_day x_t_trial_x, iA cI 128 A_t_trial_dread v_t_trial_dread, iA cI 8 A_t_trial_kind v_t_trial_kind, oX4 A_t_trial_rhymes A_t_trial_rhymes_other, iA cI 16 A_t_trial_rhymes_other v_t_trial_rhymes_other, iA cI 8 A_t_trial_salt v_t_trial_salt, iA cI 128 A_t_trial_tries v_t_trial_tries]) C hK hP hD hS fp_X10_15 0 rfl rfl rfl (Nat.le_of_ble_eq_true rfl) rfl dX10_canTrain_2 ?_
  intro H locs hP hD hS
  refine lv_aload_n hx hb dX10_canTrain_5 rfl (lv_at hl 0 rfl) ?_
  refine lv_iload_n hx hb dX10_canTrain_6 rfl (lv_at hl 2 rfl) ?_
  refine x_put (ws' := [oX10 A_t A_t_trial a1 a2 x_t_fewest x_t_first, oX8 A_t_trial A_t_trial_rhymes A_t_trial_kind A_t_trial_salt A_t_trial_ink A_t_trial_dread A_t_trial_tries x_t_trial_told x_t_trial_nerve x_t_trial_pictures x_t_trial_written x_t_trial_day x_t_trial_x, iA cI 128 A_t_trial_dread v_t_trial_dread, iA cI 8 A_t_trial_kind v_t_trial_kind, oX4 A_t_trial_rhymes A_t_trial_rhymes_other, iA cI 16 A_t_trial_rhymes_other v_t_trial_rhymes_other, iA cI 8 A_t_trial_salt v_t_trial_salt, iA cI 128 A_t_trial_tries v_t_trial_tries]) C hK hP hD hS fp_X10_19 0 rfl rfl rfl (Nat.le_of_ble_eq_true rfl) rfl dX10_canTrain_7 ?_
  intro H locs hP hD hS
  refine lv_aload_n hx hb dX10_canTrain_10 rfl (lv_at hl 0 rfl) ?_
  refine lv_sipush (v := 1000) hx hb dX10_canTrain_11 (by decide) ?_
  refine x_put (ws' := [oX10 A_t A_t_trial a1 a2 (1000 : Int32) x_t_first, oX8 A_t_trial A_t_trial_rhymes A_t_trial_kind A_t_trial_salt A_t_trial_ink A_t_trial_dread A_t_trial_tries x_t_trial_told x_t_trial_nerve x_t_trial_pictures x_t_trial_written x_t_trial_day x_t_trial_x, iA cI 128 A_t_trial_dread v_t_trial_dread, iA cI 8 A_t_trial_kind v_t_trial_kind, oX4 A_t_trial_rhymes A_t_trial_rhymes_other, iA cI 16 A_t_trial_rhymes_other v_t_trial_rhymes_other, iA cI 8 A_t_trial_salt v_t_trial_salt, iA cI 128 A_t_trial_tries v_t_trial_tries]) C hK hP hD hS fp_X10_22 0 rfl rfl rfl (Nat.le_of_ble_eq_true rfl) rfl dX10_canTrain_14 ?_
  intro H locs hP hD hS
  refine lv_aload_n hx hb dX10_canTrain_17 rfl (lv_at hl 0 rfl) ?_
  refine lv_bipush (v := -2) hx hb dX10_canTrain_18 (by decide) ?_
  refine x_put (ws' := [oX10 A_t A_t_trial a1 a2 (1000 : Int32) (-2 : Int32), oX8 A_t_trial A_t_trial_rhymes A_t_trial_kind A_t_trial_salt A_t_trial_ink A_t_trial_dread A_t_trial_tries x_t_trial_told x_t_trial_nerve x_t_trial_pictures x_t_trial_written x_t_trial_day x_t_trial_x, iA cI 128 A_t_trial_dread v_t_trial_dread, iA cI 8 A_t_trial_kind v_t_trial_kind, oX4 A_t_trial_rhymes A_t_trial_rhymes_other, iA cI 16 A_t_trial_rhymes_other v_t_trial_rhymes_other, iA cI 8 A_t_trial_salt v_t_trial_salt, iA cI 128 A_t_trial_tries v_t_trial_tries]) C hK hP hD hS fp_X10_25 0 rfl rfl rfl (Nat.le_of_ble_eq_true rfl) rfl dX10_canTrain_20 ?_
  intro H locs hP hD hS
  refine lv_aload_n hx hb dX10_canTrain_23 rfl (lv_at hl 0 rfl) ?_
  refine lv_iload_n hx hb dX10_canTrain_24 rfl (lv_at hl 2 rfl) ?_
  refine lv_iconst (v := 0) hx hb dX10_canTrain_25 (by decide) ?_
  refine lv_bipush (v := -2) hx hb dX10_canTrain_26 (by decide) ?_
  obtain ⟨w1, w2, w3, w4, hc5, hf⟩ := bd4_e hf
  refine x_callVV (ws' := [oX10 A_t A_t_trial a1 a2 w3 w4, oX8 A_t_trial A_t_trial_rhymes A_t_trial_kind A_t_trial_salt A_t_trial_ink A_t_trial_dread A_t_trial_tries x_t_trial_told x_t_trial_nerve x_t_trial_pictures x_t_trial_written x_t_trial_day x_t_trial_x, iA cI 128 A_t_trial_dread w1, iA cI 8 A_t_trial_kind v_t_trial_kind, oX4 A_t_trial_rhymes A_t_trial_rhymes_other, iA cI 16 A_t_trial_rhymes_other v_t_trial_rhymes_other, iA cI 8 A_t_trial_salt v_t_trial_salt, iA cI 128 A_t_trial_tries w2]) (rest := []) C hK hP hD hS hA hl mf_X10_28 (c_X10_search hc5) [0, 1, 2, 3, 4, 5, 6, 7] 0 10 rfl rfl rfl rfl rfl rfl rfl rfl rfl rfl (Nat.le_of_ble_eq_true rfl) ⟨Nat.le_of_ble_eq_true rfl, Nat.le_of_ble_eq_true rfl⟩ ⟨Nat.le_refl _, Nat.le_refl _⟩ dX10_canTrain_28 ?_
  intro H locs hP hD hS
  refine lv_aload_n hx hb dX10_canTrain_31 rfl (lv_at hl 0 rfl) ?_
  refine x_get C hK hP fd_X10_22 0 rfl rfl dX10_canTrain_32 ?_
  refine lv_sipush (v := 1000) hx hb dX10_canTrain_35 (by decide) ?_
  refine lv_icmp_ge (tgt := 45) hx hb dX10_canTrain_38 (by decide) (fun q => ?_) (fun q => ?_)
  · have hf := if_t q hf
    refine lv_iconst (v := 0) hx hb dX10_canTrain_45 (by decide) ?_
    exact hb_46 w1 w2 a1 w3 w4 a2 (0 : Int32) _ _ ls (lv_sub hl [] rfl) hP hD hS hf
  · have hf := if_f q hf
    refine lv_iconst (v := 1) hx hb dX10_canTrain_41 (by decide) ?_
    refine lv_goto (tgt := 46) hx hb dX10_canTrain_42 (by decide) ?_
    exact hb_46 w1 w2 a1 w3 w4 a2 (1 : Int32) _ _ ls (lv_sub hl [] rfl) hP hD hS hf
