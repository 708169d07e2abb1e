def M_X7_pack (r1 : Nat) (h : AH) : Int64 :=
  ((((281474976710656 ||| ((Int32.toInt64 (h.1 (r1 + 10) 6)) <<< (Int32.toInt64 40 &&& 63))) ||| ((Int32.toInt64 (h.1 (r1 + 10) 8)) <<< (Int32.toInt64 32 &&& 63))) ||| ((Int32.toInt64 (h.1 (r1 + 10) 7)) <<< (Int32.toInt64 24 &&& 63))) ||| (Int32.toInt64 (h.1 r1 10)))
set_option maxRecDepth 10000 in
theorem E_X7_pack_52 (h : AH) : Ev none mr_X7_pack (0, [(0, .ref 52)], [], h) (some (.long (M_X7_pack 52 h))) h := by
  unfold M_X7_pack
  refine Ev.steps (B := (41, [(1, .ref (52 + 10)), (0, .ref 52)], [.long ((((281474976710656 ||| ((Int32.toInt64 (h.1 (52 + 10) 6)) <<< (Int32.toInt64 40 &&& 63))) ||| ((Int32.toInt64 (h.1 (52 + 10) 8)) <<< (Int32.toInt64 32 &&& 63))) ||| ((Int32.toInt64 (h.1 (52 + 10) 7)) <<< (Int32.toInt64 24 &&& 63))) ||| (Int32.toInt64 (h.1 52 10)))], h)) 26 rfl ?_
  exact Ev.ret rfl
def B_X7_outcome_69 (n : Nat) (x1 : Int32) (h : AH) : Option (Int64 × AH) :=
  bif (am_in x1 503) then
    some (((h.2.2 38) (Int32.toNatClampNeg x1)), h)
  else none
set_option maxRecDepth 10000 in
theorem E_B_X7_outcome_69 (n : Nat) (vR : Int64) (hR : AH) (x1 : Int32) (h : AH) (hM : B_X7_outcome_69 n x1 h = some (vR, hR)) : Ev none mr_X7_outcome (69, [(0, .ref 37), (1, .int x1)], [], h) (some (.long vR)) hR := by
  unfold B_X7_outcome_69 at hM
  refine Ev.steps (B := (74, [(0, .ref 37), (1, .int x1)], [.int x1, .ref 38], h)) 3 rfl ?_
  obtain ⟨g1, hM⟩ := am_gS hM
  refine Ev.g (B := (75, [(0, .ref 37), (1, .int x1)], [.long ((h.2.2 38) (Int32.toNatClampNeg x1))], h)) g1 rfl ?_
  obtain ⟨rfl, rfl⟩ := am_sp hM
  exact Ev.ret rfl
def M_X7_outcome (n : Nat) (a1 : Int32) (h : AH) : Option (Int64 × AH) :=
  if a1 < 0 then
    some (0, h)
  else
    if a1 < 503 then
      bif (am_in a1 503) then
        if (lg_cmp ((h.2.2 38) (Int32.toNatClampNeg a1)) 0) = 0 then
          am_v (M_X4_becomeLike 39 21 h) fun h1 =>
          am_v (M_X7_alter a1 h1) fun h2 =>
          am_v (M_X2_pass n 52 39 h2) fun h3 =>
          bif (am_in a1 503) then
            B_X7_outcome_69 n a1 (am_sf (am_sl h3 38 (vp_updL (h3.2.2 38) (Int32.toNatClampNeg a1) (M_X7_pack 52 h3))) 37 4 0)
          else none
        else
          B_X7_outcome_69 n a1 h
      else none
    else
      some (0, h)
set_option maxRecDepth 10000 in
theorem E_X7_outcome_37 (n : Nat) (a1 : Int32) (h : AH) (vR : Int64) (hR : AH) (hM : M_X7_outcome n a1 h = some (vR, hR)) : Ev none mr_X7_outcome (0, [(0, .ref 37), (1, .int a1)], [], h) (some (.long vR)) hR := by
  unfold M_X7_outcome at hM
  refine Ev.steps (B := (1, [(0, .ref 37), (1, .int a1)], [.int a1], h)) 1 rfl ?_
  refine Ev.br (b := decide (a1 < 0)) rfl (fun c1 => ?_) (fun c1 => ?_)
  · have c1 := of_decide_eq_true c1
    rw [if_pos c1] at hM
    refine Ev.steps (B := (12, [(0, .ref 37), (1, .int a1)], [.long 0], h)) 1 rfl ?_
    obtain ⟨rfl, rfl⟩ := am_sp hM
    exact Ev.ret rfl
  · have c1 := of_decide_eq_false c1
    rw [if_neg c1] at hM
    refine Ev.steps (B := (8, [(0, .ref 37), (1, .int a1)], [.int 503, .int a1], h)) 2 rfl ?_
    refine Ev.br (b := decide (a1 < 503)) rfl (fun c2 => ?_) (fun c2 => ?_)
    · have c2 := of_decide_eq_true c2
      rw [if_pos c2] at hM
      refine Ev.steps (B := (18, [(0, .ref 37), (1, .int a1)], [.int a1, .ref 38], h)) 3 rfl ?_
      obtain ⟨g3, hM⟩ := am_gS hM
      refine Ev.g (B := (19, [(0, .ref 37), (1, .int a1)], [.long ((h.2.2 38) (Int32.toNatClampNeg a1))], h)) g3 rfl ?_
      refine Ev.steps (B := (21, [(0, .ref 37), (1, .int a1)], [.int (lg_cmp ((h.2.2 38) (Int32.toNatClampNeg a1)) 0)], h)) 2 rfl ?_
      refine Ev.br (b := decide (¬ (lg_cmp ((h.2.2 38) (Int32.toNatClampNeg a1)) 0) = 0)) rfl (fun c4 => ?_) (fun c4 => ?_)
      · have c4 := of_decide_eq_true c4
        rw [if_neg c4] at hM
        exact E_B_X7_outcome_69 n vR hR a1 h hM
      · have c4 := Decidable.of_not_not (of_decide_eq_false c4)
        rw [if_pos c4] at hM
        refine Ev.steps (B := (32, [(0, .ref 37), (1, .int a1)], [.ref 21, .ref 39], h)) 4 rfl ?_
        obtain ⟨h1, e5, hM⟩ := am_vS hM
        refine Ev.call (q := (mr_X4_becomeLike, [.ref 39, .ref 21], [])) rfl (E_X4_becomeLike_39_21 h h1 e5) ?_
        refine Ev.steps (B := (37, [(0, .ref 37), (1, .int a1)], [.int a1, .ref 37], h1)) 2 rfl ?_
        obtain ⟨h2, e6, hM⟩ := am_vS hM
        refine Ev.call (q := (mr_X7_alter, [.ref 37, .int a1], [])) rfl (E_X7_alter_37 a1 h1 h2 e6) ?_
        refine Ev.steps (B := (48, [(0, .ref 37), (1, .int a1)], [.ref 39, .ref 52], h2)) 4 rfl ?_
        obtain ⟨h3, e7, hM⟩ := am_vS hM
        refine Ev.call (q := (mr_X2_pass, [.ref 52, .ref 39], [])) rfl (E_X2_pass_52_39 n h2 h3 e7) ?_
        refine Ev.steps (B := (60, [(0, .ref 37), (1, .int a1)], [.ref 52, .int a1, .ref 38], h3)) 5 rfl ?_
        refine Ev.call (q := (mr_X7_pack, [.ref 52], [.int a1, .ref 38])) rfl (E_X7_pack_52 h3) ?_
        obtain ⟨g8, hM⟩ := am_gS hM
        refine Ev.g (B := (64, [(0, .ref 37), (1, .int a1)], [], (am_sl h3 38 (vp_updL (h3.2.2 38) (Int32.toNatClampNeg a1) (M_X7_pack 52 h3))))) g8 rfl ?_
        refine Ev.steps (B := (69, [(0, .ref 37), (1, .int a1)], [], (am_sf (am_sl h3 38 (vp_updL (h3.2.2 38) (Int32.toNatClampNeg a1) (M_X7_pack 52 h3))) 37 4 0))) 3 rfl ?_
        exact E_B_X7_outcome_69 n vR hR a1 (am_sf (am_sl h3 38 (vp_updL (h3.2.2 38) (Int32.toNatClampNeg a1) (M_X7_pack 52 h3))) 37 4 0) hM
    · have c2 := of_decide_eq_false c2
      rw [if_neg c2] at hM
      refine Ev.steps (B := (12, [(0, .ref 37), (1, .int a1)], [.long 0], h)) 1 rfl ?_
      obtain ⟨rfl, rfl⟩ := am_sp hM
      exact Ev.ret rfl
def M_X7_glassesIn (a1 : Int64) : Int32 :=
  (Int64.toInt32 ((a1 >>> (Int32.toInt64 40 &&& 63)) &&& 255))
set_option maxRecDepth 10000 in
theorem E_X7_glassesIn (a1 : Int64) (h : AH) : Ev none mr_X7_glassesIn (0, [(0, .long a1)], [], h) (some (.int (M_X7_glassesIn a1))) h := by
  unfold M_X7_glassesIn
  refine Ev.steps (B := (9, [(0, .long a1)], [.int (Int64.toInt32 ((a1 >>> (Int32.toInt64 40 &&& 63)) &&& 255))], h)) 6 rfl ?_
  exact Ev.ret rfl
def L_X8_mostGlasses_9 (n : Nat) : Nat → Int32 → Int32 → Int32 → Int32 → Int32 → Int32 → AH → Option (Int32 × AH)
  | 0, _, _, _, _, _, _, _ => none
  | m + 1, x1, x2, x3, x4, x5, x6, h =>
    if x2 ≤ x6 then
      if x3 = 0 then
        some (x4, h)
      else
        some (x5, h)
    else
      am_b (M_X7_outcome n (x1 + x6) h) fun v2 h1 =>
      if (M_X7_glassesIn v2) ≤ x5 then
        L_X8_mostGlasses_9 n m x1 x2 x3 x4 x5 (x6 + 1) h1
      else
        L_X8_mostGlasses_9 n m x1 x2 x3 x6 (M_X7_glassesIn v2) (x6 + 1) h1
set_option maxRecDepth 10000 in
theorem E_L_X8_mostGlasses_9 (n : Nat) (vR : Int32) (hR : AH) : ∀ (m : Nat) (x1 : Int32) (x2 : Int32) (x3 : Int32) (x4 : Int32) (x5 : Int32) (x6 : Int32) (h : AH), L_X8_mostGlasses_9 n m x1 x2 x3 x4 x5 x6 h = some (vR, hR) → Ev none mr_X8_mostGlasses (9, [(0, .ref 0), (1, .int x1), (2, .int x2), (3, .int x3), (4, .int x4), (5, .int x5), (6, .int x6)], [], h) (some (.int vR)) hR := by
  intro m
  induction m with
  | zero =>
    intro x1 x2 x3 x4 x5 x6 h hM
    exact (am_no hM).elim
  | succ m ih =>
    intro x1 x2 x3 x4 x5 x6 h hM
    rw [L_X8_mostGlasses_9] at hM
    refine Ev.steps (B := (12, [(0, .ref 0), (1, .int x1), (2, .int x2), (3, .int x3), (4, .int x4), (5, .int x5), (6, .int x6)], [.int x2, .int x6], h)) 2 rfl ?_
    refine Ev.br (b := decide (x2 ≤ x6)) rfl (fun c1 => ?_) (fun c1 => ?_)
    · have c1 := of_decide_eq_true c1
      rw [if_pos c1] at hM
      refine Ev.steps (B := (53, [(0, .ref 0), (1, .int x1), (2, .int x2), (3, .int x3), (4, .int x4), (5, .int x5), (6, .int x6)], [.int x3], h)) 1 rfl ?_
      refine Ev.br (b := decide (¬ x3 = 0)) rfl (fun c2 => ?_) (fun c2 => ?_)
      · have c2 := of_decide_eq_true c2
        rw [if_neg c2] at hM
        refine Ev.steps (B := (63, [(0, .ref 0), (1, .int x1), (2, .int x2), (3, .int x3), (4, .int x4), (5, .int x5), (6, .int x6)], [.int x5], h)) 1 rfl ?_
        obtain ⟨rfl, rfl⟩ := am_sp hM
        exact Ev.ret rfl
      · have c2 := Decidable.of_not_not (of_decide_eq_false c2)
        rw [if_pos c2] at hM
        refine Ev.steps (B := (63, [(0, .ref 0), (1, .int x1), (2, .int x2), (3, .int x3), (4, .int x4), (5, .int x5), (6, .int x6)], [.int x4], h)) 2 rfl ?_
        obtain ⟨rfl, rfl⟩ := am_sp hM
        exact Ev.ret rfl
    · have c1 := of_decide_eq_false c1
      rw [if_neg c1] at hM
      refine Ev.steps (B := (23, [(0, .ref 0), (1, .int x1), (2, .int x2), (3, .int x3), (4, .int x4), (5, .int x5), (6, .int x6)], [.int (x1 + x6), .ref 37], h)) 5 rfl ?_
      obtain ⟨v2, h1, e3, hM⟩ := am_bS hM
      refine Ev.call (q := (mr_X7_outcome, [.ref 37, .int (x1 + x6)], [])) rfl (E_X7_outcome_37 n (x1 + x6) h v2 h1 e3) ?_
      refine Ev.call (q := (mr_X7_glassesIn, [.long v2], [])) rfl (E_X7_glassesIn v2 h1) ?_
      refine Ev.steps (B := (35, [(7, .int (M_X7_glassesIn v2)), (0, .ref 0), (1, .int x1), (2, .int x2), (3, .int x3), (4, .int x4), (5, .int x5), (6, .int x6)], [.int x5, .int (M_X7_glassesIn v2)], h1)) 3 rfl ?_
      refine Ev.br (b := decide ((M_X7_glassesIn v2) ≤ x5)) rfl (fun c4 => ?_) (fun c4 => ?_)
      · have c4 := of_decide_eq_true c4
        rw [if_pos c4] at hM
        refine Ev.steps (B := (9, [(6, .int (x6 + 1)), (7, .int (M_X7_glassesIn v2)), (0, .ref 0), (1, .int x1), (2, .int x2), (3, .int x3), (4, .int x4), (5, .int x5)], [], h1)) 2 rfl ?_
        refine Ev.lv (lv := [(0, .ref 0), (1, .int x1), (2, .int x2), (3, .int x3), (4, .int x4), (5, .int x5), (6, .int (x6 + 1))]) ⟨rfl, rfl, rfl, rfl, rfl, rfl, rfl, trivial⟩ rfl rfl ?_
        exact ih x1 x2 x3 x4 x5 (x6 + 1) h1 hM
      · have c4 := of_decide_eq_false c4
        rw [if_neg c4] at hM
        refine Ev.steps (B := (9, [(6, .int (x6 + 1)), (5, .int (M_X7_glassesIn v2)), (4, .int x6), (7, .int (M_X7_glassesIn v2)), (0, .ref 0), (1, .int x1), (2, .int x2), (3, .int x3)], [], h1)) 6 rfl ?_
        refine Ev.lv (lv := [(0, .ref 0), (1, .int x1), (2, .int x2), (3, .int x3), (4, .int x6), (5, .int (M_X7_glassesIn v2)), (6, .int (x6 + 1))]) ⟨rfl, rfl, rfl, rfl, rfl, rfl, rfl, trivial⟩ rfl rfl ?_
        exact ih x1 x2 x3 x6 (M_X7_glassesIn v2) (x6 + 1) h1 hM
def M_X8_mostGlasses (n : Nat) (a1 : Int32) (a2 : Int32) (a3 : Int32) (h : AH) : Option (Int32 × AH) :=
  L_X8_mostGlasses_9 n n a1 a2 a3 0 (-1) 0 h
set_option maxRecDepth 10000 in
theorem E_X8_mostGlasses_0 (n : Nat) (a1 : Int32) (a2 : Int32) (a3 : Int32) (h : AH) (vR : Int32) (hR : AH) (hM : M_X8_mostGlasses n a1 a2 a3 h = some (vR, hR)) : Ev none mr_X8_mostGlasses (0, [(0, .ref 0), (1, .int a1), (2, .int a2), (3, .int a3)], [], h) (some (.int vR)) hR := by
  unfold M_X8_mostGlasses at hM
  refine Ev.steps (B := (9, [(6, .int 0), (5, .int (-1)), (4, .int 0), (0, .ref 0), (1, .int a1), (2, .int a2), (3, .int a3)], [], h)) 6 rfl ?_
  refine Ev.lv (lv := [(0, .ref 0), (1, .int a1), (2, .int a2), (3, .int a3), (4, .int 0), (5, .int (-1)), (6, .int 0)]) ⟨rfl, rfl, rfl, rfl, rfl, rfl, rfl, trivial⟩ rfl rfl ?_
  exact E_L_X8_mostGlasses_9 n vR hR n a1 a2 a3 0 (-1) 0 h hM
def M_X8_better (n : Nat) (a1 : Int32) (a2 : Int32) (h : AH) : Option (Int32 × AH) :=
  if (M_X1_has 2 a1 h) = 0 then
    some ((-2), h)
  else
    if (M_X8_within a2 1) = 0 then
      some ((-2), h)
    else
      am_b (M_X8_mostGlasses n (M_X7_kindsOf a1) 3 a2 h) fun v2 h1 =>
      some (v2, h1)
set_option maxRecDepth 10000 in
theorem E_X8_better_0 (n : Nat) (a1 : Int32) (a2 : Int32) (h : AH) (vR : Int32) (hR : AH) (hM : M_X8_better n a1 a2 h = some (vR, hR)) : Ev none mr_X8_better (0, [(0, .ref 0), (1, .int a1), (2, .int a2)], [], h) (some (.int vR)) hR := by
  unfold M_X8_better at hM
  refine Ev.steps (B := (8, [(0, .ref 0), (1, .int a1), (2, .int a2)], [.int a1, .ref 2], h)) 4 rfl ?_
  refine Ev.call (q := (mr_X1_has, [.ref 2, .int a1], [])) rfl (E_X1_has_2 a1 h) ?_
  refine Ev.br (b := decide ((M_X1_has 2 a1 h) = 0)) rfl (fun c1 => ?_) (fun c1 => ?_)
  · have c1 := of_decide_eq_true c1
    rw [if_pos c1] at hM
    refine Ev.steps (B := (24, [(0, .ref 0), (1, .int a1), (2, .int a2)], [.int (-2)], h)) 1 rfl ?_
    obtain ⟨rfl, rfl⟩ := am_sp hM
    exact Ev.ret rfl
  · have c1 := of_decide_eq_false c1
    rw [if_neg c1] at hM
    refine Ev.steps (B := (16, [(0, .ref 0), (1, .int a1), (2, .int a2)], [.int 1, .int a2], h)) 2 rfl ?_
    refine Ev.call (q := (mr_X8_within, [.int a2, .int 1], [])) rfl (E_X8_within a2 1 h) ?_
    refine Ev.br (b := decide (¬ (M_X8_within a2 1) = 0)) rfl (fun c2 => ?_) (fun c2 => ?_)
    · have c2 := of_decide_eq_true c2
      rw [if_neg c2] at hM
      refine Ev.steps (B := (27, [(0, .ref 0), (1, .int a1), (2, .int a2)], [.int a1, .ref 0], h)) 2 rfl ?_
      refine Ev.call (q := (mr_X7_kindsOf, [.int a1], [.ref 0])) rfl (E_X7_kindsOf a1 h) ?_
      refine Ev.steps (B := (32, [(0, .ref 0), (1, .int a1), (2, .int a2)], [.int a2, .int 3, .int (M_X7_kindsOf a1), .ref 0], h)) 2 rfl ?_
      obtain ⟨v2, h1, e3, hM⟩ := am_bS hM
      refine Ev.call (q := (mr_X8_mostGlasses, [.ref 0, .int (M_X7_kindsOf a1), .int 3, .int a2], [])) rfl (E_X8_mostGlasses_0 n (M_X7_kindsOf a1) 3 a2 h v2 h1 e3) ?_
      obtain ⟨rfl, rfl⟩ := am_sp hM
      exact Ev.ret rfl
    · have c2 := Decidable.of_not_not (of_decide_eq_false c2)
      rw [if_pos c2] at hM
      refine Ev.steps (B := (24, [(0, .ref 0), (1, .int a1), (2, .int a2)], [.int (-2)], h)) 1 rfl ?_
      obtain ⟨rfl, rfl⟩ := am_sp hM
      exact Ev.ret rfl
def M_X9_starts (n : Nat) (h : AH) : Option AH :=
  am_v (M_X9_asTold n h) fun h1 =>
  some (am_sf (am_sf h1 75 40 (-1)) 75 41 (-1))
set_option maxRecDepth 10000 in
theorem E_X9_starts_75 (n : Nat) (h : AH) (hR : AH) (hM : M_X9_starts n h = some hR) : Ev none mr_X9_starts (0, [(0, .ref 75)], [], h) none hR := by
  unfold M_X9_starts at hM
  refine Ev.steps (B := (1, [(0, .ref 75)], [.ref 75], h)) 1 rfl ?_
  obtain ⟨h1, e1, hM⟩ := am_vS hM
  refine Ev.call (q := (mr_X9_asTold, [.ref 75], [])) rfl (E_X9_asTold_75 n h h1 e1) ?_
  refine Ev.steps (B := (14, [(0, .ref 75)], [], (am_sf (am_sf h1 75 40 (-1)) 75 41 (-1)))) 6 rfl ?_
  obtain rfl := am_s1 hM
  exact Ev.ret rfl
def B_X9_tries_26 (n : Nat) (x2 : Int32) (y0 : Int32) (h : AH) : Option AH :=
  if x2 ≤ (h.1 75 41) then
    some (am_sf (am_sf h 75 40 y0) 75 41 (h.1 75 41))
  else
    some (am_sf (am_sf h 75 40 y0) 75 41 x2)
set_option maxRecDepth 10000 in
theorem E_B_X9_tries_26 (n : Nat) (hR : AH) (x2 : Int32) (y0 : Int32) (h : AH) (hM : B_X9_tries_26 n x2 y0 h = some hR) : Ev none mr_X9_tries (26, [(0, .ref 75), (2, .int x2)], [.int y0, .ref 75], h) none hR := by
  unfold B_X9_tries_26 at hM
  refine Ev.steps (B := (35, [(0, .ref 75), (2, .int x2)], [.int (h.1 75 41), .int x2, .ref 75], (am_sf h 75 40 y0))) 5 rfl ?_
  refine Ev.br (b := decide (x2 ≤ (h.1 75 41))) rfl (fun c1 => ?_) (fun c1 => ?_)
  · have c1 := of_decide_eq_true c1
    rw [if_pos c1] at hM
    refine Ev.steps (B := (49, [(0, .ref 75), (2, .int x2)], [], (am_sf (am_sf h 75 40 y0) 75 41 (h.1 75 41)))) 3 rfl ?_
    obtain rfl := am_s1 hM
    exact Ev.ret rfl
  · have c1 := of_decide_eq_false c1
    rw [if_neg c1] at hM
    refine Ev.steps (B := (49, [(0, .ref 75), (2, .int x2)], [], (am_sf (am_sf h 75 40 y0) 75 41 x2))) 3 rfl ?_
    obtain rfl := am_s1 hM
    exact Ev.ret rfl
def M_X9_tries (n : Nat) (a1 : Int32) (h : AH) : Option AH :=
  am_v (M_X9_runs n h) fun h1 =>
  am_o (M_X9_drunkNow n h1) fun v2 =>
  if v2 ≤ (h1.1 75 41) then
    B_X9_tries_26 n v2 (h1.1 75 40) h1
  else
    B_X9_tries_26 n v2 a1 h1
set_option maxRecDepth 10000 in
theorem E_X9_tries_75 (n : Nat) (a1 : Int32) (h : AH) (hR : AH) (hM : M_X9_tries n a1 h = some hR) : Ev none mr_X9_tries (0, [(0, .ref 75), (1, .int a1)], [], h) none hR := by
  unfold M_X9_tries at hM
  refine Ev.steps (B := (1, [(0, .ref 75), (1, .int a1)], [.ref 75], h)) 1 rfl ?_
  obtain ⟨h1, e1, hM⟩ := am_vS hM
  refine Ev.call (q := (mr_X9_runs, [.ref 75], [])) rfl (E_X9_runs_75 n h h1 e1) ?_
  refine Ev.steps (B := (5, [(0, .ref 75), (1, .int a1)], [.ref 75], h1)) 1 rfl ?_
  obtain ⟨v2, e2, hM⟩ := am_oS hM
  refine Ev.call (q := (mr_X9_drunkNow, [.ref 75], [])) rfl (E_X9_drunkNow_75 n h1 v2 e2) ?_
  refine Ev.steps (B := (15, [(2, .int v2), (0, .ref 75), (1, .int a1)], [.int (h1.1 75 41), .int v2, .ref 75], h1)) 5 rfl ?_
  refine Ev.br (b := decide (v2 ≤ (h1.1 75 41))) rfl (fun c3 => ?_) (fun c3 => ?_)
  · have c3 := of_decide_eq_true c3
    rw [if_pos c3] at hM
    refine Ev.steps (B := (26, [(2, .int v2), (0, .ref 75), (1, .int a1)], [.int (h1.1 75 40), .ref 75], h1)) 2 rfl ?_
    refine Ev.lv (lv := [(0, .ref 75), (2, .int v2)]) ⟨rfl, rfl, trivial⟩ rfl rfl ?_
    exact E_B_X9_tries_26 n hR v2 (h1.1 75 40) h1 hM
  · have c3 := of_decide_eq_false c3
    rw [if_neg c3] at hM
    refine Ev.steps (B := (26, [(2, .int v2), (0, .ref 75), (1, .int a1)], [.int a1, .ref 75], h1)) 2 rfl ?_
    refine Ev.lv (lv := [(0, .ref 75), (2, .int v2)]) ⟨rfl, rfl, trivial⟩ rfl rfl ?_
    exact E_B_X9_tries_26 n hR v2 a1 h1 hM
def L_X9_betterOf_14 (n : Nat) : Nat → Int32 → Int32 → Int32 → Int32 → AH → Option (Int32 × AH)
  | 0, _, _, _, _, _ => none
  | m + 1, x1, x2, x3, x4, h =>
    if 3 ≤ x4 then
      bif (am_in x1 9) then
        if x2 = 0 then
          some ((h.1 75 40), (am_sa h 79 (upd (h.2.1 79) (Int32.toNatClampNeg x1) x3)))
        else
          some ((h.1 75 41), (am_sa h 79 (upd (h.2.1 79) (Int32.toNatClampNeg x1) x3)))
      else none
    else
      bif (am_in x1 9) then
        am_v (M_X9_tries n x4 (am_sa h 79 (upd (h.2.1 79) (Int32.toNatClampNeg x1) x4))) fun h1 =>
        L_X9_betterOf_14 n m x1 x2 x3 (x4 + 1) h1
      else none
set_option maxRecDepth 10000 in
theorem E_L_X9_betterOf_14 (n : Nat) (vR : Int32) (hR : AH) : ∀ (m : Nat) (x1 : Int32) (x2 : Int32) (x3 : Int32) (x4 : Int32) (h : AH), L_X9_betterOf_14 n m x1 x2 x3 x4 h = some (vR, hR) → Ev none mr_X9_betterOf (14, [(0, .ref 75), (1, .int x1), (2, .int x2), (3, .int x3), (4, .int x4)], [], h) (some (.int vR)) hR := by
  intro m
  induction m with
  | zero =>
    intro x1 x2 x3 x4 h hM
    exact (am_no hM).elim
  | succ m ih =>
    intro x1 x2 x3 x4 h hM
    rw [L_X9_betterOf_14] at hM
    refine Ev.steps (B := (17, [(0, .ref 75), (1, .int x1), (2, .int x2), (3, .int x3), (4, .int x4)], [.int 3, .int x4], h)) 2 rfl ?_
    refine Ev.br (b := decide (3 ≤ x4)) rfl (fun c1 => ?_) (fun c1 => ?_)
    · have c1 := of_decide_eq_true c1
      rw [if_pos c1] at hM
      refine Ev.steps (B := (46, [(0, .ref 75), (1, .int x1), (2, .int x2), (3, .int x3), (4, .int x4)], [.int x3, .int x1, .ref 79], h)) 4 rfl ?_
      obtain ⟨g2, hM⟩ := am_gS hM
      refine Ev.g (B := (47, [(0, .ref 75), (1, .int x1), (2, .int x2), (3, .int x3), (4, .int x4)], [], (am_sa h 79 (upd (h.2.1 79) (Int32.toNatClampNeg x1) x3)))) g2 rfl ?_
      refine Ev.steps (B := (48, [(0, .ref 75), (1, .int x1), (2, .int x2), (3, .int x3), (4, .int x4)], [.int x2], (am_sa h 79 (upd (h.2.1 79) (Int32.toNatClampNeg x1) x3)))) 1 rfl ?_
      refine Ev.br (b := decide (¬ x2 = 0)) rfl (fun c3 => ?_) (fun c3 => ?_)
      · have c3 := of_decide_eq_true c3
        rw [if_neg c3] at hM
        refine Ev.steps (B := (62, [(0, .ref 75), (1, .int x1), (2, .int x2), (3, .int x3), (4, .int x4)], [.int (h.1 75 41)], (am_sa h 79 (upd (h.2.1 79) (Int32.toNatClampNeg x1) x3)))) 2 rfl ?_
        obtain ⟨rfl, rfl⟩ := am_sp hM
        exact Ev.ret rfl
      · have c3 := Decidable.of_not_not (of_decide_eq_false c3)
        rw [if_pos c3] at hM
        refine Ev.steps (B := (62, [(0, .ref 75), (1, .int x1), (2, .int x2), (3, .int x3), (4, .int x4)], [.int (h.1 75 40)], (am_sa h 79 (upd (h.2.1 79) (Int32.toNatClampNeg x1) x3)))) 3 rfl ?_
        obtain ⟨rfl, rfl⟩ := am_sp hM
        exact Ev.ret rfl
    · have c1 := of_decide_eq_false c1
      rw [if_neg c1] at hM
      refine Ev.steps (B := (27, [(0, .ref 75), (1, .int x1), (2, .int x2), (3, .int x3), (4, .int x4)], [.int x4, .int x1, .ref 79], h)) 4 rfl ?_
      obtain ⟨g4, hM⟩ := am_gS hM
      refine Ev.g (B := (28, [(0, .ref 75), (1, .int x1), (2, .int x2), (3, .int x3), (4, .int x4)], [], (am_sa h 79 (upd (h.2.1 79) (Int32.toNatClampNeg x1) x4)))) g4 rfl ?_
      refine Ev.steps (B := (31, [(0, .ref 75), (1, .int x1), (2, .int x2), (3, .int x3), (4, .int x4)], [.int x4, .ref 75], (am_sa h 79 (upd (h.2.1 79) (Int32.toNatClampNeg x1) x4)))) 2 rfl ?_
      obtain ⟨h1, e5, hM⟩ := am_vS hM
      refine Ev.call (q := (mr_X9_tries, [.ref 75, .int x4], [])) rfl (E_X9_tries_75 n x4 (am_sa h 79 (upd (h.2.1 79) (Int32.toNatClampNeg x1) x4)) h1 e5) ?_
      refine Ev.steps (B := (14, [(4, .int (x4 + 1)), (0, .ref 75), (1, .int x1), (2, .int x2), (3, .int x3)], [], h1)) 2 rfl ?_
      refine Ev.lv (lv := [(0, .ref 75), (1, .int x1), (2, .int x2), (3, .int x3), (4, .int (x4 + 1))]) ⟨rfl, rfl, rfl, rfl, rfl, trivial⟩ rfl rfl ?_
      exact ih x1 x2 x3 (x4 + 1) h1 hM
def M_X9_betterOf (n : Nat) (a1 : Int32) (a2 : Int32) (h : AH) : Option (Int32 × AH) :=
  am_v (M_X9_starts n h) fun h1 =>
  bif (am_in a1 9) then
    L_X9_betterOf_14 n n a1 a2 ((h1.2.1 79) (Int32.toNatClampNeg a1)) 0 h1
  else none
set_option maxRecDepth 10000 in
theorem E_X9_betterOf_75 (n : Nat) (a1 : Int32) (a2 : Int32) (h : AH) (vR : Int32) (hR : AH) (hM : M_X9_betterOf n a1 a2 h = some (vR, hR)) : Ev none mr_X9_betterOf (0, [(0, .ref 75), (1, .int a1), (2, .int a2)], [], h) (some (.int vR)) hR := by
  unfold M_X9_betterOf at hM
  refine Ev.steps (B := (1, [(0, .ref 75), (1, .int a1), (2, .int a2)], [.ref 75], h)) 1 rfl ?_
  obtain ⟨h1, e1, hM⟩ := am_vS hM
  refine Ev.call (q := (mr_X9_starts, [.ref 75], [])) rfl (E_X9_starts_75 n h h1 e1) ?_
  refine Ev.steps (B := (9, [(0, .ref 75), (1, .int a1), (2, .int a2)], [.int a1, .ref 79], h1)) 3 rfl ?_
  obtain ⟨g2, hM⟩ := am_gS hM
  refine Ev.g (B := (10, [(0, .ref 75), (1, .int a1), (2, .int a2)], [.int ((h1.2.1 79) (Int32.toNatClampNeg a1))], h1)) g2 rfl ?_
  refine Ev.steps (B := (14, [(4, .int 0), (3, .int ((h1.2.1 79) (Int32.toNatClampNeg a1))), (0, .ref 75), (1, .int a1), (2, .int a2)], [], h1)) 3 rfl ?_
  refine Ev.lv (lv := [(0, .ref 75), (1, .int a1), (2, .int a2), (3, .int ((h1.2.1 79) (Int32.toNatClampNeg a1))), (4, .int 0)]) ⟨rfl, rfl, rfl, rfl, rfl, trivial⟩ rfl rfl ?_
  exact E_L_X9_betterOf_14 n vR hR n a1 a2 ((h1.2.1 79) (Int32.toNatClampNeg a1)) 0 h1 hM
def M_X9_better (n : Nat) (a1 : Int32) (a2 : Int32) (h : AH) : Option (Int32 × AH) :=
  am_b (M_X9_isPiece n a1 h) fun v2 h1 =>
  if v2 = 0 then
    some ((-2), h1)
  else
    if (M_X9_isTwo a2) = 0 then
      some ((-2), h1)
    else
      am_b (M_X9_betterOf n a1 a2 h1) fun v4 h3 =>
      some (v4, h3)
set_option maxRecDepth 10000 in
theorem E_X9_better_75 (n : Nat) (a1 : Int32) (a2 : Int32) (h : AH) (vR : Int32) (hR : AH) (hM : M_X9_better n a1 a2 h = some (vR, hR)) : Ev none mr_X9_better (0, [(0, .ref 75), (1, .int a1), (2, .int a2)], [], h) (some (.int vR)) hR := by
  unfold M_X9_better at hM
  refine Ev.steps (B := (2, [(0, .ref 75), (1, .int a1), (2, .int a2)], [.int a1, .ref 75], h)) 2 rfl ?_
  obtain ⟨v2, h1, e1, hM⟩ := am_bS hM
  refine Ev.call (q := (mr_X9_isPiece, [.ref 75, .int a1], [])) rfl (E_X9_isPiece_75 n a1 h v2 h1 e1) ?_
  refine Ev.br (b := decide (v2 = 0)) rfl (fun c2 => ?_) (fun c2 => ?_)
  · have c2 := of_decide_eq_true c2
    rw [if_pos c2] at hM
    refine Ev.steps (B := (26, [(0, .ref 75), (1, .int a1), (2, .int a2)], [.int (-2)], h1)) 1 rfl ?_
    obtain ⟨rfl, rfl⟩ := am_sp hM
    exact Ev.ret rfl
  · have c2 := of_decide_eq_false c2
    rw [if_neg c2] at hM
    refine Ev.steps (B := (9, [(0, .ref 75), (1, .int a1), (2, .int a2)], [.int a2], h1)) 1 rfl ?_
    refine Ev.call (q := (mr_X9_isTwo, [.int a2], [])) rfl (E_X9_isTwo a2 h1) ?_
    refine Ev.br (b := decide ((M_X9_isTwo a2) = 0)) rfl (fun c3 => ?_) (fun c3 => ?_)
    · have c3 := of_decide_eq_true c3
      rw [if_pos c3] at hM
      refine Ev.steps (B := (26, [(0, .ref 75), (1, .int a1), (2, .int a2)], [.int (-2)], h1)) 1 rfl ?_
      obtain ⟨rfl, rfl⟩ := am_sp hM
      exact Ev.ret rfl
    · have c3 := of_decide_eq_false c3
      rw [if_neg c3] at hM
      refine Ev.steps (B := (18, [(0, .ref 75), (1, .int a1), (2, .int a2)], [.int a2, .int a1, .ref 75], h1)) 3 rfl ?_
      obtain ⟨v4, h3, e4, hM⟩ := am_bS hM
      refine Ev.call (q := (mr_X9_betterOf, [.ref 75, .int a1, .int a2], [])) rfl (E_X9_betterOf_75 n a1 a2 h1 v4 h3 e4) ?_
      refine Ev.steps (B := (26, [(0, .ref 75), (1, .int a1), (2, .int a2)], [.int v4], h3)) 1 rfl ?_
      obtain ⟨rfl, rfl⟩ := am_sp hM
      exact Ev.ret rfl
def M_X8_fill (n : Nat) (a1 : Int32) (h : AH) : Option (Int32 × AH) :=
  if (M_X8_within a1 1) = 0 then
    some ((-2), h)
  else
    am_b (M_X8_mostGlasses n 256 31 a1 h) fun v2 h1 =>
    some (v2, h1)
set_option maxRecDepth 10000 in
theorem E_X8_fill_0 (n : Nat) (a1 : Int32) (h : AH) (vR : Int32) (hR : AH) (hM : M_X8_fill n a1 h = some (vR, hR)) : Ev none mr_X8_fill (0, [(0, .ref 0), (1, .int a1)], [], h) (some (.int vR)) hR := by
  unfold M_X8_fill at hM
  refine Ev.steps (B := (2, [(0, .ref 0), (1, .int a1)], [.int 1, .int a1], h)) 2 rfl ?_
  refine Ev.call (q := (mr_X8_within, [.int a1, .int 1], [])) rfl (E_X8_within a1 1 h) ?_
  refine Ev.br (b := decide (¬ (M_X8_within a1 1) = 0)) rfl (fun c1 => ?_) (fun c1 => ?_)
  · have c1 := of_decide_eq_true c1
    rw [if_neg c1] at hM
    refine Ev.steps (B := (18, [(0, .ref 0), (1, .int a1)], [.int a1, .int 31, .int 256, .ref 0], h)) 4 rfl ?_
    obtain ⟨v2, h1, e2, hM⟩ := am_bS hM
    refine Ev.call (q := (mr_X8_mostGlasses, [.ref 0, .int 256, .int 31, .int a1], [])) rfl (E_X8_mostGlasses_0 n 256 31 a1 h v2 h1 e2) ?_
    obtain ⟨rfl, rfl⟩ := am_sp hM
    exact Ev.ret rfl
  · have c1 := Decidable.of_not_not (of_decide_eq_false c1)
    rw [if_pos c1] at hM
    refine Ev.steps (B := (10, [(0, .ref 0), (1, .int a1)], [.int (-2)], h)) 1 rfl ?_
    obtain ⟨rfl, rfl⟩ := am_sp hM
    exact Ev.ret rfl
def L_X9_fillOf_6 (n : Nat) : Nat → Int32 → Int32 → AH → Option (Int32 × AH)
  | 0, _, _, _ => none
  | m + 1, x1, x2, h =>
    if 30 < x2 then
      if x1 = 0 then
        some ((h.1 75 40), h)
      else
        some ((h.1 75 41), h)
    else
      am_v (M_X9_tries n x2 (am_sf h 75 20 x2)) fun h1 =>
      L_X9_fillOf_6 n m x1 (x2 + 1) h1
set_option maxRecDepth 10000 in
theorem E_L_X9_fillOf_6 (n : Nat) (vR : Int32) (hR : AH) : ∀ (m : Nat) (x1 : Int32) (x2 : Int32) (h : AH), L_X9_fillOf_6 n m x1 x2 h = some (vR, hR) → Ev none mr_X9_fillOf (6, [(0, .ref 75), (1, .int x1), (2, .int x2)], [], h) (some (.int vR)) hR := by
  intro m
  induction m with
  | zero =>
    intro x1 x2 h hM
    exact (am_no hM).elim
  | succ m ih =>
    intro x1 x2 h hM
    rw [L_X9_fillOf_6] at hM
    refine Ev.steps (B := (9, [(0, .ref 75), (1, .int x1), (2, .int x2)], [.int 30, .int x2], h)) 2 rfl ?_
    refine Ev.br (b := decide (30 < x2)) rfl (fun c1 => ?_) (fun c1 => ?_)
    · have c1 := of_decide_eq_true c1
      rw [if_pos c1] at hM
      refine Ev.steps (B := (29, [(0, .ref 75), (1, .int x1), (2, .int x2)], [.int x1], h)) 1 rfl ?_
      refine Ev.br (b := decide (¬ x1 = 0)) rfl (fun c2 => ?_) (fun c2 => ?_)
      · have c2 := of_decide_eq_true c2
        rw [if_neg c2] at hM
        refine Ev.steps (B := (43, [(0, .ref 75), (1, .int x1), (2, .int x2)], [.int (h.1 75 41)], h)) 2 rfl ?_
        obtain ⟨rfl, rfl⟩ := am_sp hM
        exact Ev.ret rfl
      · have c2 := Decidable.of_not_not (of_decide_eq_false c2)
        rw [if_pos c2] at hM
        refine Ev.steps (B := (43, [(0, .ref 75), (1, .int x1), (2, .int x2)], [.int (h.1 75 40)], h)) 3 rfl ?_
        obtain ⟨rfl, rfl⟩ := am_sp hM
        exact Ev.ret rfl
    · have c1 := of_decide_eq_false c1
      rw [if_neg c1] at hM
      refine Ev.steps (B := (19, [(0, .ref 75), (1, .int x1), (2, .int x2)], [.int x2, .ref 75], (am_sf h 75 20 x2))) 5 rfl ?_
      obtain ⟨h1, e3, hM⟩ := am_vS hM
      refine Ev.call (q := (mr_X9_tries, [.ref 75, .int x2], [])) rfl (E_X9_tries_75 n x2 (am_sf h 75 20 x2) h1 e3) ?_
      refine Ev.steps (B := (6, [(2, .int (x2 + 1)), (0, .ref 75), (1, .int x1)], [], h1)) 2 rfl ?_
      refine Ev.lv (lv := [(0, .ref 75), (1, .int x1), (2, .int (x2 + 1))]) ⟨rfl, rfl, rfl, trivial⟩ rfl rfl ?_
      exact ih x1 (x2 + 1) h1 hM
def M_X9_fillOf (n : Nat) (a1 : Int32) (h : AH) : Option (Int32 × AH) :=
  am_v (M_X9_starts n h) fun h1 =>
  L_X9_fillOf_6 n n a1 0 h1
set_option maxRecDepth 10000 in
theorem E_X9_fillOf_75 (n : Nat) (a1 : Int32) (h : AH) (vR : Int32) (hR : AH) (hM : M_X9_fillOf n a1 h = some (vR, hR)) : Ev none mr_X9_fillOf (0, [(0, .ref 75), (1, .int a1)], [], h) (some (.int vR)) hR := by
  unfold M_X9_fillOf at hM
  refine Ev.steps (B := (1, [(0, .ref 75), (1, .int a1)], [.ref 75], h)) 1 rfl ?_
  obtain ⟨h1, e1, hM⟩ := am_vS hM
  refine Ev.call (q := (mr_X9_starts, [.ref 75], [])) rfl (E_X9_starts_75 n h h1 e1) ?_
  refine Ev.steps (B := (6, [(2, .int 0), (0, .ref 75), (1, .int a1)], [], h1)) 2 rfl ?_
  refine Ev.lv (lv := [(0, .ref 75), (1, .int a1), (2, .int 0)]) ⟨rfl, rfl, rfl, trivial⟩ rfl rfl ?_
  exact E_L_X9_fillOf_6 n vR hR n a1 0 h1 hM
def M_X9_fill (n : Nat) (a1 : Int32) (h : AH) : Option (Int32 × AH) :=
  if (M_X9_isTwo a1) = 0 then
    some ((-2), h)
  else
    am_b (M_X9_fillOf n a1 h) fun v2 h1 =>
    some (v2, h1)
set_option maxRecDepth 10000 in
theorem E_X9_fill_75 (n : Nat) (a1 : Int32) (h : AH) (vR : Int32) (hR : AH) (hM : M_X9_fill n a1 h = some (vR, hR)) : Ev none mr_X9_fill (0, [(0, .ref 75), (1, .int a1)], [], h) (some (.int vR)) hR := by
  unfold M_X9_fill at hM
  refine Ev.steps (B := (1, [(0, .ref 75), (1, .int a1)], [.int a1], h)) 1 rfl ?_
  refine Ev.call (q := (mr_X9_isTwo, [.int a1], [])) rfl (E_X9_isTwo a1 h) ?_
  refine Ev.br (b := decide ((M_X9_isTwo a1) = 0)) rfl (fun c1 => ?_) (fun c1 => ?_)
  · have c1 := of_decide_eq_true c1
    rw [if_pos c1] at hM
    refine Ev.steps (B := (17, [(0, .ref 75), (1, .int a1)], [.int (-2)], h)) 1 rfl ?_
    obtain ⟨rfl, rfl⟩ := am_sp hM
    exact Ev.ret rfl
  · have c1 := of_decide_eq_false c1
    rw [if_neg c1] at hM
    refine Ev.steps (B := (9, [(0, .ref 75), (1, .int a1)], [.int a1, .ref 75], h)) 2 rfl ?_
    obtain ⟨v2, h1, e2, hM⟩ := am_bS hM
    refine Ev.call (q := (mr_X9_fillOf, [.ref 75, .int a1], [])) rfl (E_X9_fillOf_75 n a1 h v2 h1 e2) ?_
    refine Ev.steps (B := (17, [(0, .ref 75), (1, .int a1)], [.int v2], h1)) 1 rfl ?_
    obtain ⟨rfl, rfl⟩ := am_sp hM
    exact Ev.ret rfl
def M_X7_minutesOf (a1 : Int32) : Int32 :=
  (311 + (a1 * 24))
set_option maxRecDepth 10000 in
theorem E_X7_minutesOf (a1 : Int32) (h : AH) : Ev none mr_X7_minutesOf (0, [(0, .int a1)], [], h) (some (.int (M_X7_minutesOf a1))) h := by
  unfold M_X7_minutesOf
  refine Ev.steps (B := (8, [(0, .int a1)], [.int (311 + (a1 * 24))], h)) 5 rfl ?_
  exact Ev.ret rfl
def M_X8_come (n : Nat) (a1 : Int32) (a2 : Int32) (h : AH) : Option (Int32 × AH) :=
  if (M_X1_has 8 a1 h) = 0 then
    some ((-2), h)
  else
    if (M_X8_within a2 1) = 0 then
      some ((-2), h)
    else
      am_b (M_X8_mostGlasses n (M_X7_minutesOf a1) 24 a2 h) fun v2 h1 =>
      some (v2, h1)
set_option maxRecDepth 10000 in
theorem E_X8_come_0 (n : Nat) (a1 : Int32) (a2 : Int32) (h : AH) (vR : Int32) (hR : AH) (hM : M_X8_come n a1 a2 h = some (vR, hR)) : Ev none mr_X8_come (0, [(0, .ref 0), (1, .int a1), (2, .int a2)], [], h) (some (.int vR)) hR := by
  unfold M_X8_come at hM
  refine Ev.steps (B := (8, [(0, .ref 0), (1, .int a1), (2, .int a2)], [.int a1, .ref 8], h)) 4 rfl ?_
  refine Ev.call (q := (mr_X1_has, [.ref 8, .int a1], [])) rfl (E_X1_has_8 a1 h) ?_
  refine Ev.br (b := decide ((M_X1_has 8 a1 h) = 0)) rfl (fun c1 => ?_) (fun c1 => ?_)
  · have c1 := of_decide_eq_true c1
    rw [if_pos c1] at hM
    refine Ev.steps (B := (24, [(0, .ref 0), (1, .int a1), (2, .int a2)], [.int (-2)], h)) 1 rfl ?_
    obtain ⟨rfl, rfl⟩ := am_sp hM
    exact Ev.ret rfl
  · have c1 := of_decide_eq_false c1
    rw [if_neg c1] at hM
    refine Ev.steps (B := (16, [(0, .ref 0), (1, .int a1), (2, .int a2)], [.int 1, .int a2], h)) 2 rfl ?_
    refine Ev.call (q := (mr_X8_within, [.int a2, .int 1], [])) rfl (E_X8_within a2 1 h) ?_
    refine Ev.br (b := decide (¬ (M_X8_within a2 1) = 0)) rfl (fun c2 => ?_) (fun c2 => ?_)
    · have c2 := of_decide_eq_true c2
      rw [if_neg c2] at hM
      refine Ev.steps (B := (27, [(0, .ref 0), (1, .int a1), (2, .int a2)], [.int a1, .ref 0], h)) 2 rfl ?_
      refine Ev.call (q := (mr_X7_minutesOf, [.int a1], [.ref 0])) rfl (E_X7_minutesOf a1 h) ?_
      refine Ev.steps (B := (33, [(0, .ref 0), (1, .int a1), (2, .int a2)], [.int a2, .int 24, .int (M_X7_minutesOf a1), .ref 0], h)) 2 rfl ?_
      obtain ⟨v2, h1, e3, hM⟩ := am_bS hM
      refine Ev.call (q := (mr_X8_mostGlasses, [.ref 0, .int (M_X7_minutesOf a1), .int 24, .int a2], [])) rfl (E_X8_mostGlasses_0 n (M_X7_minutesOf a1) 24 a2 h v2 h1 e3) ?_
      obtain ⟨rfl, rfl⟩ := am_sp hM
      exact Ev.ret rfl
    · have c2 := Decidable.of_not_not (of_decide_eq_false c2)
      rw [if_pos c2] at hM
      refine Ev.steps (B := (24, [(0, .ref 0), (1, .int a1), (2, .int a2)], [.int (-2)], h)) 1 rfl ?_
      obtain ⟨rfl, rfl⟩ := am_sp hM
      exact Ev.ret rfl
def L_X9_comeOf_6 (n : Nat) : Nat → Int32 → Int32 → Int32 → AH → Option (Int32 × AH)
  | 0, _, _, _, _ => none
  | m + 1, x1, x2, x3, h =>
    if 24 ≤ x3 then
      if x2 = 0 then
        some ((h.1 75 40), h)
      else
        some ((h.1 75 41), h)
    else
      bif (am_in x1 8) then
        am_v (M_X9_tries n x3 (am_sa h 87 (upd (h.2.1 87) (Int32.toNatClampNeg x1) x3))) fun h1 =>
        L_X9_comeOf_6 n m x1 x2 (x3 + 1) h1
      else none
set_option maxRecDepth 10000 in
theorem E_L_X9_comeOf_6 (n : Nat) (vR : Int32) (hR : AH) : ∀ (m : Nat) (x1 : Int32) (x2 : Int32) (x3 : Int32) (h : AH), L_X9_comeOf_6 n m x1 x2 x3 h = some (vR, hR) → Ev none mr_X9_comeOf (6, [(0, .ref 75), (1, .int x1), (2, .int x2), (3, .int x3)], [], h) (some (.int vR)) hR := by
  intro m
  induction m with
  | zero =>
    intro x1 x2 x3 h hM
    exact (am_no hM).elim
  | succ m ih =>
    intro x1 x2 x3 h hM
    rw [L_X9_comeOf_6] at hM
    refine Ev.steps (B := (9, [(0, .ref 75), (1, .int x1), (2, .int x2), (3, .int x3)], [.int 24, .int x3], h)) 2 rfl ?_
    refine Ev.br (b := decide (24 ≤ x3)) rfl (fun c1 => ?_) (fun c1 => ?_)
    · have c1 := of_decide_eq_true c1
      rw [if_pos c1] at hM
      refine Ev.steps (B := (31, [(0, .ref 75), (1, .int x1), (2, .int x2), (3, .int x3)], [.int x2], h)) 1 rfl ?_
      refine Ev.br (b := decide (¬ x2 = 0)) rfl (fun c2 => ?_) (fun c2 => ?_)
      · have c2 := of_decide_eq_true c2
        rw [if_neg c2] at hM
        refine Ev.steps (B := (45, [(0, .ref 75), (1, .int x1), (2, .int x2), (3, .int x3)], [.int (h.1 75 41)], h)) 2 rfl ?_
        obtain ⟨rfl, rfl⟩ := am_sp hM
        exact Ev.ret rfl
      · have c2 := Decidable.of_not_not (of_decide_eq_false c2)
        rw [if_pos c2] at hM
        refine Ev.steps (B := (45, [(0, .ref 75), (1, .int x1), (2, .int x2), (3, .int x3)], [.int (h.1 75 40)], h)) 3 rfl ?_
        obtain ⟨rfl, rfl⟩ := am_sp hM
        exact Ev.ret rfl
    · have c1 := of_decide_eq_false c1
      rw [if_neg c1] at hM
      refine Ev.steps (B := (18, [(0, .ref 75), (1, .int x1), (2, .int x2), (3, .int x3)], [.int x3, .int x1, .ref 87], h)) 4 rfl ?_
      obtain ⟨g3, hM⟩ := am_gS hM
      refine Ev.g (B := (19, [(0, .ref 75), (1, .int x1), (2, .int x2), (3, .int x3)], [], (am_sa h 87 (upd (h.2.1 87) (Int32.toNatClampNeg x1) x3)))) g3 rfl ?_
      refine Ev.steps (B := (21, [(0, .ref 75), (1, .int x1), (2, .int x2), (3, .int x3)], [.int x3, .ref 75], (am_sa h 87 (upd (h.2.1 87) (Int32.toNatClampNeg x1) x3)))) 2 rfl ?_
      obtain ⟨h1, e4, hM⟩ := am_vS hM
      refine Ev.call (q := (mr_X9_tries, [.ref 75, .int x3], [])) rfl (E_X9_tries_75 n x3 (am_sa h 87 (upd (h.2.1 87) (Int32.toNatClampNeg x1) x3)) h1 e4) ?_
      refine Ev.steps (B := (6, [(3, .int (x3 + 1)), (0, .ref 75), (1, .int x1), (2, .int x2)], [], h1)) 2 rfl ?_
      refine Ev.lv (lv := [(0, .ref 75), (1, .int x1), (2, .int x2), (3, .int (x3 + 1))]) ⟨rfl, rfl, rfl, rfl, trivial⟩ rfl rfl ?_
      exact ih x1 x2 (x3 + 1) h1 hM
def M_X9_comeOf (n : Nat) (a1 : Int32) (a2 : Int32) (h : AH) : Option (Int32 × AH) :=
  am_v (M_X9_starts n h) fun h1 =>
  L_X9_comeOf_6 n n a1 a2 0 h1
set_option maxRecDepth 10000 in
theorem E_X9_comeOf_75 (n : Nat) (a1 : Int32) (a2 : Int32) (h : AH) (vR : Int32) (hR : AH) (hM : M_X9_comeOf n a1 a2 h = some (vR, hR)) : Ev none mr_X9_comeOf (0, [(0, .ref 75), (1, .int a1), (2, .int a2)], [], h) (some (.int vR)) hR := by
  unfold M_X9_comeOf at hM
  refine Ev.steps (B := (1, [(0, .ref 75), (1, .int a1), (2, .int a2)], [.ref 75], h)) 1 rfl ?_
  obtain ⟨h1, e1, hM⟩ := am_vS hM
  refine Ev.call (q := (mr_X9_starts, [.ref 75], [])) rfl (E_X9_starts_75 n h h1 e1) ?_
  refine Ev.steps (B := (6, [(3, .int 0), (0, .ref 75), (1, .int a1), (2, .int a2)], [], h1)) 2 rfl ?_
  refine Ev.lv (lv := [(0, .ref 75), (1, .int a1), (2, .int a2), (3, .int 0)]) ⟨rfl, rfl, rfl, rfl, trivial⟩ rfl rfl ?_
  exact E_L_X9_comeOf_6 n vR hR n a1 a2 0 h1 hM
def M_X9_come (n : Nat) (a1 : Int32) (a2 : Int32) (h : AH) : Option (Int32 × AH) :=
  am_b (M_X9_isGuest n a1 h) fun v2 h1 =>
  if v2 = 0 then
    some ((-2), h1)
  else
    if (M_X9_isTwo a2) = 0 then
      some ((-2), h1)
    else
      am_b (M_X9_comeOf n a1 a2 h1) fun v4 h3 =>
      some (v4, h3)
set_option maxRecDepth 10000 in
theorem E_X9_come_75 (n : Nat) (a1 : Int32) (a2 : Int32) (h : AH) (vR : Int32) (hR : AH) (hM : M_X9_come n a1 a2 h = some (vR, hR)) : Ev none mr_X9_come (0, [(0, .ref 75), (1, .int a1), (2, .int a2)], [], h) (some (.int vR)) hR := by
  unfold M_X9_come at hM
  refine Ev.steps (B := (2, [(0, .ref 75), (1, .int a1), (2, .int a2)], [.int a1, .ref 75], h)) 2 rfl ?_
  obtain ⟨v2, h1, e1, hM⟩ := am_bS hM
  refine Ev.call (q := (mr_X9_isGuest, [.ref 75, .int a1], [])) rfl (E_X9_isGuest_75 n a1 h v2 h1 e1) ?_
  refine Ev.br (b := decide (v2 = 0)) rfl (fun c2 => ?_) (fun c2 => ?_)
  · have c2 := of_decide_eq_true c2
    rw [if_pos c2] at hM
    refine Ev.steps (B := (26, [(0, .ref 75), (1, .int a1), (2, .int a2)], [.int (-2)], h1)) 1 rfl ?_
    obtain ⟨rfl, rfl⟩ := am_sp hM
    exact Ev.ret rfl
  · have c2 := of_decide_eq_false c2
    rw [if_neg c2] at hM
    refine Ev.steps (B := (9, [(0, .ref 75), (1, .int a1), (2, .int a2)], [.int a2], h1)) 1 rfl ?_
    refine Ev.call (q := (mr_X9_isTwo, [.int a2], [])) rfl (E_X9_isTwo a2 h1) ?_
    refine Ev.br (b := decide ((M_X9_isTwo a2) = 0)) rfl (fun c3 => ?_) (fun c3 => ?_)
    · have c3 := of_decide_eq_true c3
      rw [if_pos c3] at hM
      refine Ev.steps (B := (26, [(0, .ref 75), (1, .int a1), (2, .int a2)], [.int (-2)], h1)) 1 rfl ?_
      obtain ⟨rfl, rfl⟩ := am_sp hM
      exact Ev.ret rfl
    · have c3 := of_decide_eq_false c3
      rw [if_neg c3] at hM
      refine Ev.steps (B := (18, [(0, .ref 75), (1, .int a1), (2, .int a2)], [.int a2, .int a1, .ref 75], h1)) 3 rfl ?_
      obtain ⟨v4, h3, e4, hM⟩ := am_bS hM
      refine Ev.call (q := (mr_X9_comeOf, [.ref 75, .int a1, .int a2], [])) rfl (E_X9_comeOf_75 n a1 a2 h1 v4 h3 e4) ?_
      refine Ev.steps (B := (26, [(0, .ref 75), (1, .int a1), (2, .int a2)], [.int v4], h3)) 1 rfl ?_
      obtain ⟨rfl, rfl⟩ := am_sp hM
      exact Ev.ret rfl
def M_X7_goneIn (a1 : Int64) : Int32 :=
  (Int64.toInt32 ((a1 >>> (Int32.toInt64 32 &&& 63)) &&& 255))
set_option maxRecDepth 10000 in
theorem E_X7_goneIn (a1 : Int64) (h : AH) : Ev none mr_X7_goneIn (0, [(0, .long a1)], [], h) (some (.int (M_X7_goneIn a1))) h := by
  unfold M_X7_goneIn
  refine Ev.steps (B := (9, [(0, .long a1)], [.int (Int64.toInt32 ((a1 >>> (Int32.toInt64 32 &&& 63)) &&& 255))], h)) 6 rfl ?_
  exact Ev.ret rfl
def L_X8_sparedEvents_73 (n : Nat) (k64 : Int32 → Int32 → AH → Option (Int32 × AH)) : Nat → Int32 → Int32 → Int32 → AH → Option (Int32 × AH)
  | 0, _, _, _, _ => none
  | m + 1, x1, x2, x3, h =>
    if x1 ≤ x3 then
      k64 x1 (x2 + 1) h
    else
      am_b (M_X7_outcome n ((1 <<< (x2 &&& 31)) ||| (1 <<< (x3 &&& 31))) h) fun v2 h1 =>
      if (M_X7_goneIn v2) = 0 then
        some (((1 <<< (x2 &&& 31)) ||| (1 <<< (x3 &&& 31))), h1)
      else
        L_X8_sparedEvents_73 n k64 m x1 x2 (x3 + 1) h1
set_option maxRecDepth 10000 in
theorem E_L_X8_sparedEvents_73 (n : Nat) (k64 : Int32 → Int32 → AH → Option (Int32 × AH)) (vR : Int32) (hR : AH) (hk64 : ∀ (x1 : Int32) (x2 : Int32) (h0 : AH), k64 x1 x2 h0 = some (vR, hR) → Ev none mr_X8_sparedEvents (64, [(0, .ref 0), (1, .int x1), (2, .int x2)], [], h0) (some (.int vR)) hR) : ∀ (m : Nat) (x1 : Int32) (x2 : Int32) (x3 : Int32) (h : AH), L_X8_sparedEvents_73 n k64 m x1 x2 x3 h = some (vR, hR) → Ev none mr_X8_sparedEvents (73, [(0, .ref 0), (1, .int x1), (2, .int x2), (3, .int x3)], [], h) (some (.int vR)) hR := by
  intro m
  induction m with
  | zero =>
    intro x1 x2 x3 h hM
    exact (am_no hM).elim
  | succ m ih =>
    intro x1 x2 x3 h hM
    rw [L_X8_sparedEvents_73] at hM
    refine Ev.steps (B := (75, [(0, .ref 0), (1, .int x1), (2, .int x2), (3, .int x3)], [.int x1, .int x3], h)) 2 rfl ?_
    refine Ev.br (b := decide (x1 ≤ x3)) rfl (fun c1 => ?_) (fun c1 => ?_)
    · have c1 := of_decide_eq_true c1
      rw [if_pos c1] at hM
      refine Ev.steps (B := (64, [(2, .int (x2 + 1)), (0, .ref 0), (1, .int x1), (3, .int x3)], [], h)) 2 rfl ?_
      refine Ev.lv (lv := [(0, .ref 0), (1, .int x1), (2, .int (x2 + 1))]) ⟨rfl, rfl, rfl, trivial⟩ rfl rfl ?_
      exact hk64 x1 (x2 + 1) h hM
    · have c1 := of_decide_eq_false c1
      rw [if_neg c1] at hM
      refine Ev.steps (B := (93, [(4, .int ((1 <<< (x2 &&& 31)) ||| (1 <<< (x3 &&& 31)))), (0, .ref 0), (1, .int x1), (2, .int x2), (3, .int x3)], [.int ((1 <<< (x2 &&& 31)) ||| (1 <<< (x3 &&& 31))), .ref 37], h)) 11 rfl ?_
      obtain ⟨v2, h1, e2, hM⟩ := am_bS hM
      refine Ev.call (q := (mr_X7_outcome, [.ref 37, .int ((1 <<< (x2 &&& 31)) ||| (1 <<< (x3 &&& 31)))], [])) rfl (E_X7_outcome_37 n ((1 <<< (x2 &&& 31)) ||| (1 <<< (x3 &&& 31))) h v2 h1 e2) ?_
      refine Ev.call (q := (mr_X7_goneIn, [.long v2], [])) rfl (E_X7_goneIn v2 h1) ?_
      refine Ev.br (b := decide (¬ (M_X7_goneIn v2) = 0)) rfl (fun c3 => ?_) (fun c3 => ?_)
      · have c3 := of_decide_eq_true c3
        rw [if_neg c3] at hM
        refine Ev.steps (B := (73, [(3, .int (x3 + 1)), (4, .int ((1 <<< (x2 &&& 31)) ||| (1 <<< (x3 &&& 31)))), (0, .ref 0), (1, .int x1), (2, .int x2)], [], h1)) 2 rfl ?_
        refine Ev.lv (lv := [(0, .ref 0), (1, .int x1), (2, .int x2), (3, .int (x3 + 1))]) ⟨rfl, rfl, rfl, rfl, trivial⟩ rfl rfl ?_
        exact ih x1 x2 (x3 + 1) h1 hM
      · have c3 := Decidable.of_not_not (of_decide_eq_false c3)
        rw [if_pos c3] at hM
        refine Ev.steps (B := (104, [(4, .int ((1 <<< (x2 &&& 31)) ||| (1 <<< (x3 &&& 31)))), (0, .ref 0), (1, .int x1), (2, .int x2), (3, .int x3)], [.int ((1 <<< (x2 &&& 31)) ||| (1 <<< (x3 &&& 31)))], h1)) 1 rfl ?_
        obtain ⟨rfl, rfl⟩ := am_sp hM
        exact Ev.ret rfl
def L_X8_sparedEvents_64 (n : Nat) : Nat → Int32 → Int32 → AH → Option (Int32 × AH)
  | 0, _, _, _ => none
  | m + 1, x1, x2, h =>
    if x1 ≤ x2 then
      some ((-1), h)
    else
      L_X8_sparedEvents_73 n (L_X8_sparedEvents_64 n m) n x1 x2 (x2 + 1) h
set_option maxRecDepth 10000 in
theorem E_L_X8_sparedEvents_64 (n : Nat) (vR : Int32) (hR : AH) : ∀ (m : Nat) (x1 : Int32) (x2 : Int32) (h : AH), L_X8_sparedEvents_64 n m x1 x2 h = some (vR, hR) → Ev none mr_X8_sparedEvents (64, [(0, .ref 0), (1, .int x1), (2, .int x2)], [], h) (some (.int vR)) hR := by
  intro m
  induction m with
  | zero =>
    intro x1 x2 h hM
    exact (am_no hM).elim
  | succ m ih =>
    intro x1 x2 h hM
    rw [L_X8_sparedEvents_64] at hM
    refine Ev.steps (B := (66, [(0, .ref 0), (1, .int x1), (2, .int x2)], [.int x1, .int x2], h)) 2 rfl ?_
    refine Ev.br (b := decide (x1 ≤ x2)) rfl (fun c1 => ?_) (fun c1 => ?_)
    · have c1 := of_decide_eq_true c1
      rw [if_pos c1] at hM
      refine Ev.steps (B := (118, [(0, .ref 0), (1, .int x1), (2, .int x2)], [.int (-1)], h)) 1 rfl ?_
      obtain ⟨rfl, rfl⟩ := am_sp hM
      exact Ev.ret rfl
    · have c1 := of_decide_eq_false c1
      rw [if_neg c1] at hM
      refine Ev.steps (B := (73, [(3, .int (x2 + 1)), (0, .ref 0), (1, .int x1), (2, .int x2)], [], h)) 4 rfl ?_
      refine Ev.lv (lv := [(0, .ref 0), (1, .int x1), (2, .int x2), (3, .int (x2 + 1))]) ⟨rfl, rfl, rfl, rfl, trivial⟩ rfl rfl ?_
      exact E_L_X8_sparedEvents_73 n (L_X8_sparedEvents_64 n m) vR hR ih n x1 x2 (x2 + 1) h hM
def L_X8_sparedEvents_31 (n : Nat) : Nat → Int32 → Int32 → AH → Option (Int32 × AH)
  | 0, _, _, _ => none
  | m + 1, x1, x2, h =>
    if x1 ≤ x2 then
      L_X8_sparedEvents_64 n n x1 0 h
    else
      am_b (M_X7_outcome n (1 <<< (x2 &&& 31)) h) fun v2 h1 =>
      if (M_X7_goneIn v2) = 0 then
        some ((1 <<< (x2 &&& 31)), h1)
      else
        L_X8_sparedEvents_31 n m x1 (x2 + 1) h1
set_option maxRecDepth 10000 in
theorem E_L_X8_sparedEvents_31 (n : Nat) (vR : Int32) (hR : AH) : ∀ (m : Nat) (x1 : Int32) (x2 : Int32) (h : AH), L_X8_sparedEvents_31 n m x1 x2 h = some (vR, hR) → Ev none mr_X8_sparedEvents (31, [(0, .ref 0), (1, .int x1), (2, .int x2)], [], h) (some (.int vR)) hR := by
  intro m
  induction m with
  | zero =>
    intro x1 x2 h hM
    exact (am_no hM).elim
  | succ m ih =>
    intro x1 x2 h hM
    rw [L_X8_sparedEvents_31] at hM
    refine Ev.steps (B := (33, [(0, .ref 0), (1, .int x1), (2, .int x2)], [.int x1, .int x2], h)) 2 rfl ?_
    refine Ev.br (b := decide (x1 ≤ x2)) rfl (fun c1 => ?_) (fun c1 => ?_)
    · have c1 := of_decide_eq_true c1
      rw [if_pos c1] at hM
      refine Ev.steps (B := (64, [(2, .int 0), (0, .ref 0), (1, .int x1)], [], h)) 2 rfl ?_
      refine Ev.lv (lv := [(0, .ref 0), (1, .int x1), (2, .int 0)]) ⟨rfl, rfl, rfl, trivial⟩ rfl rfl ?_
      exact E_L_X8_sparedEvents_64 n vR hR n x1 0 h hM
    · have c1 := of_decide_eq_false c1
      rw [if_neg c1] at hM
      refine Ev.steps (B := (43, [(0, .ref 0), (1, .int x1), (2, .int x2)], [.int (1 <<< (x2 &&& 31)), .ref 37], h)) 5 rfl ?_
      obtain ⟨v2, h1, e2, hM⟩ := am_bS hM
      refine Ev.call (q := (mr_X7_outcome, [.ref 37, .int (1 <<< (x2 &&& 31))], [])) rfl (E_X7_outcome_37 n (1 <<< (x2 &&& 31)) h v2 h1 e2) ?_
      refine Ev.call (q := (mr_X7_goneIn, [.long v2], [])) rfl (E_X7_goneIn v2 h1) ?_
      refine Ev.br (b := decide (¬ (M_X7_goneIn v2) = 0)) rfl (fun c3 => ?_) (fun c3 => ?_)
      · have c3 := of_decide_eq_true c3
        rw [if_neg c3] at hM
        refine Ev.steps (B := (31, [(2, .int (x2 + 1)), (0, .ref 0), (1, .int x1)], [], h1)) 2 rfl ?_
        refine Ev.lv (lv := [(0, .ref 0), (1, .int x1), (2, .int (x2 + 1))]) ⟨rfl, rfl, rfl, trivial⟩ rfl rfl ?_
        exact ih x1 (x2 + 1) h1 hM
      · have c3 := Decidable.of_not_not (of_decide_eq_false c3)
        rw [if_pos c3] at hM
        refine Ev.steps (B := (55, [(0, .ref 0), (1, .int x1), (2, .int x2)], [.int (1 <<< (x2 &&& 31))], h1)) 3 rfl ?_
        obtain ⟨rfl, rfl⟩ := am_sp hM
        exact Ev.ret rfl
def M_X8_sparedEvents (n : Nat) (h : AH) : Option (Int32 × AH) :=
  am_b (M_X7_outcome n 0 h) fun v2 h1 =>
  if (M_X7_goneIn v2) = 0 then
    some (0, h1)
  else
    L_X8_sparedEvents_31 n n (am_min (h1.1 13 3) 8) 0 h1
set_option maxRecDepth 10000 in
theorem E_X8_sparedEvents_0 (n : Nat) (h : AH) (vR : Int32) (hR : AH) (hM : M_X8_sparedEvents n h = some (vR, hR)) : Ev none mr_X8_sparedEvents (0, [(0, .ref 0)], [], h) (some (.int vR)) hR := by
  unfold M_X8_sparedEvents at hM
  refine Ev.steps (B := (5, [(0, .ref 0)], [.int 0, .ref 37], h)) 3 rfl ?_
  obtain ⟨v2, h1, e1, hM⟩ := am_bS hM
  refine Ev.call (q := (mr_X7_outcome, [.ref 37, .int 0], [])) rfl (E_X7_outcome_37 n 0 h v2 h1 e1) ?_
  refine Ev.call (q := (mr_X7_goneIn, [.long v2], [])) rfl (E_X7_goneIn v2 h1) ?_
  refine Ev.br (b := decide (¬ (M_X7_goneIn v2) = 0)) rfl (fun c2 => ?_) (fun c2 => ?_)
  · have c2 := of_decide_eq_true c2
    rw [if_neg c2] at hM
    refine Ev.steps (B := (31, [(2, .int 0), (1, .int (am_min (h1.1 13 3) 8)), (0, .ref 0)], [], h1)) 8 rfl ?_
    refine Ev.lv (lv := [(0, .ref 0), (1, .int (am_min (h1.1 13 3) 8)), (2, .int 0)]) ⟨rfl, rfl, rfl, trivial⟩ rfl rfl ?_
    exact E_L_X8_sparedEvents_31 n vR hR n (am_min (h1.1 13 3) 8) 0 h1 hM
  · have c2 := Decidable.of_not_not (of_decide_eq_false c2)
    rw [if_pos c2] at hM
    refine Ev.steps (B := (15, [(0, .ref 0)], [.int 0], h1)) 1 rfl ?_
    obtain ⟨rfl, rfl⟩ := am_sp hM
    exact Ev.ret rfl
def L_X8_bitAt_4 (n : Nat) : Nat → Int32 → Int32 → Int32 → Int32 → Option Int32
  | 0, _, _, _, _ => none
  | m + 1, x0, x1, x2, x3 =>
    if 8 ≤ x3 then
      some (-1)
    else
      if ((x0 >>> (x3 &&& 31)) &&& 1) = 1 then
        if x2 = x1 then
          some x3
        else
          L_X8_bitAt_4 n m x0 x1 (x2 + 1) (x3 + 1)
      else
        L_X8_bitAt_4 n m x0 x1 x2 (x3 + 1)
set_option maxRecDepth 10000 in
theorem E_L_X8_bitAt_4 (n : Nat) (h : AH) (vR : Int32) : ∀ (m : Nat) (x0 : Int32) (x1 : Int32) (x2 : Int32) (x3 : Int32), L_X8_bitAt_4 n m x0 x1 x2 x3 = some vR → Ev none mr_X8_bitAt (4, [(0, .int x0), (1, .int x1), (2, .int x2), (3, .int x3)], [], h) (some (.int vR)) h := by
  intro m
  induction m with
  | zero =>
    intro x0 x1 x2 x3 hM
    exact (am_no hM).elim
  | succ m ih =>
    intro x0 x1 x2 x3 hM
    rw [L_X8_bitAt_4] at hM
    refine Ev.steps (B := (7, [(0, .int x0), (1, .int x1), (2, .int x2), (3, .int x3)], [.int 8, .int x3], h)) 2 rfl ?_
    refine Ev.br (b := decide (8 ≤ x3)) rfl (fun c1 => ?_) (fun c1 => ?_)
    · have c1 := of_decide_eq_true c1
      rw [if_pos c1] at hM
      refine Ev.steps (B := (36, [(0, .int x0), (1, .int x1), (2, .int x2), (3, .int x3)], [.int (-1)], h)) 1 rfl ?_
      obtain rfl := am_s1 hM
      exact Ev.ret rfl
    · have c1 := of_decide_eq_false c1
      rw [if_neg c1] at hM
      refine Ev.steps (B := (16, [(0, .int x0), (1, .int x1), (2, .int x2), (3, .int x3)], [.int 1, .int ((x0 >>> (x3 &&& 31)) &&& 1)], h)) 6 rfl ?_
      refine Ev.br (b := decide (¬ ((x0 >>> (x3 &&& 31)) &&& 1) = 1)) rfl (fun c2 => ?_) (fun c2 => ?_)
      · have c2 := of_decide_eq_true c2
        rw [if_neg c2] at hM
        refine Ev.steps (B := (4, [(3, .int (x3 + 1)), (0, .int x0), (1, .int x1), (2, .int x2)], [], h)) 2 rfl ?_
        refine Ev.lv (lv := [(0, .int x0), (1, .int x1), (2, .int x2), (3, .int (x3 + 1))]) ⟨rfl, rfl, rfl, rfl, trivial⟩ rfl rfl ?_
        exact ih x0 x1 x2 (x3 + 1) hM
      · have c2 := Decidable.of_not_not (of_decide_eq_false c2)
        rw [if_pos c2] at hM
        refine Ev.steps (B := (21, [(0, .int x0), (1, .int x1), (2, .int x2), (3, .int x3)], [.int x1, .int x2], h)) 2 rfl ?_
        refine Ev.br (b := decide (¬ x2 = x1)) rfl (fun c3 => ?_) (fun c3 => ?_)
        · have c3 := of_decide_eq_true c3
          rw [if_neg c3] at hM
          refine Ev.steps (B := (4, [(3, .int (x3 + 1)), (2, .int (x2 + 1)), (0, .int x0), (1, .int x1)], [], h)) 3 rfl ?_
          refine Ev.lv (lv := [(0, .int x0), (1, .int x1), (2, .int (x2 + 1)), (3, .int (x3 + 1))]) ⟨rfl, rfl, rfl, rfl, trivial⟩ rfl rfl ?_
          exact ih x0 x1 (x2 + 1) (x3 + 1) hM
        · have c3 := Decidable.of_not_not (of_decide_eq_false c3)
          rw [if_pos c3] at hM
          refine Ev.steps (B := (25, [(0, .int x0), (1, .int x1), (2, .int x2), (3, .int x3)], [.int x3], h)) 1 rfl ?_
          obtain rfl := am_s1 hM
          exact Ev.ret rfl
def M_X8_bitAt (n : Nat) (a1 : Int32) (a2 : Int32) : Option Int32 :=
  L_X8_bitAt_4 n n a1 a2 0 0
set_option maxRecDepth 10000 in
theorem E_X8_bitAt (n : Nat) (a1 : Int32) (a2 : Int32) (h : AH) (vR : Int32) (hM : M_X8_bitAt n a1 a2 = some vR) : Ev none mr_X8_bitAt (0, [(0, .int a1), (1, .int a2)], [], h) (some (.int vR)) h := by
  unfold M_X8_bitAt at hM
  refine Ev.steps (B := (4, [(3, .int 0), (2, .int 0), (0, .int a1), (1, .int a2)], [], h)) 4 rfl ?_
  refine Ev.lv (lv := [(0, .int a1), (1, .int a2), (2, .int 0), (3, .int 0)]) ⟨rfl, rfl, rfl, rfl, trivial⟩ rfl rfl ?_
  exact E_L_X8_bitAt_4 n h vR n a1 a2 0 0 hM
def M_X8_spare (n : Nat) (a1 : Int32) (h : AH) : Option (Int32 × AH) :=
  if a1 < (-1) then
    some ((-2), h)
  else
    if a1 ≤ 1 then
      am_b (M_X8_sparedEvents n h) fun v2 h1 =>
      if v2 = (-1) then
        some ((-1), h1)
      else
        if a1 = (-1) then
          some ((M_J13_bitCount v2), h1)
        else
          am_o (M_X8_bitAt n v2 a1) fun v3 =>
          some (v3, h1)
    else
      some ((-2), h)
set_option maxRecDepth 10000 in
theorem E_X8_spare_0 (n : Nat) (a1 : Int32) (h : AH) (vR : Int32) (hR : AH) (hM : M_X8_spare n a1 h = some (vR, hR)) : Ev none mr_X8_spare (0, [(0, .ref 0), (1, .int a1)], [], h) (some (.int vR)) hR := by
  unfold M_X8_spare at hM
  refine Ev.steps (B := (2, [(0, .ref 0), (1, .int a1)], [.int (-1), .int a1], h)) 2 rfl ?_
  refine Ev.br (b := decide (a1 < (-1))) rfl (fun c1 => ?_) (fun c1 => ?_)
  · have c1 := of_decide_eq_true c1
    rw [if_pos c1] at hM
    refine Ev.steps (B := (12, [(0, .ref 0), (1, .int a1)], [.int (-2)], h)) 1 rfl ?_
    obtain ⟨rfl, rfl⟩ := am_sp hM
    exact Ev.ret rfl
  · have c1 := of_decide_eq_false c1
    rw [if_neg c1] at hM
    refine Ev.steps (B := (7, [(0, .ref 0), (1, .int a1)], [.int 1, .int a1], h)) 2 rfl ?_
    refine Ev.br (b := decide (a1 ≤ 1)) rfl (fun c2 => ?_) (fun c2 => ?_)
    · have c2 := of_decide_eq_true c2
      rw [if_pos c2] at hM
      refine Ev.steps (B := (14, [(0, .ref 0), (1, .int a1)], [.ref 0], h)) 1 rfl ?_
      obtain ⟨v2, h1, e3, hM⟩ := am_bS hM
      refine Ev.call (q := (mr_X8_sparedEvents, [.ref 0], [])) rfl (E_X8_sparedEvents_0 n h v2 h1 e3) ?_
      refine Ev.steps (B := (20, [(2, .int v2), (0, .ref 0), (1, .int a1)], [.int (-1), .int v2], h1)) 3 rfl ?_
      refine Ev.br (b := decide (¬ v2 = (-1))) rfl (fun c4 => ?_) (fun c4 => ?_)
      · have c4 := of_decide_eq_true c4
        rw [if_neg c4] at hM
        refine Ev.steps (B := (27, [(2, .int v2), (0, .ref 0), (1, .int a1)], [.int (-1), .int a1], h1)) 2 rfl ?_
        refine Ev.br (b := decide (¬ a1 = (-1))) rfl (fun c5 => ?_) (fun c5 => ?_)
        · have c5 := of_decide_eq_true c5
          rw [if_neg c5] at hM
          refine Ev.steps (B := (39, [(2, .int v2), (0, .ref 0), (1, .int a1)], [.int a1, .int v2], h1)) 2 rfl ?_
          obtain ⟨v3, e6, hM⟩ := am_oS hM
          refine Ev.call (q := (mr_X8_bitAt, [.int v2, .int a1], [])) rfl (E_X8_bitAt n v2 a1 h1 v3 e6) ?_
          obtain ⟨rfl, rfl⟩ := am_sp hM
          exact Ev.ret rfl
        · have c5 := Decidable.of_not_not (of_decide_eq_false c5)
          rw [if_pos c5] at hM
          refine Ev.steps (B := (31, [(2, .int v2), (0, .ref 0), (1, .int a1)], [.int v2], h1)) 1 rfl ?_
          refine Ev.call (q := (mr_J13_bitCount, [.int v2], [])) rfl (E_J13_bitCount v2 h1) ?_
          refine Ev.steps (B := (42, [(2, .int v2), (0, .ref 0), (1, .int a1)], [.int (M_J13_bitCount v2)], h1)) 1 rfl ?_
          obtain ⟨rfl, rfl⟩ := am_sp hM
          exact Ev.ret rfl
      · have c4 := Decidable.of_not_not (of_decide_eq_false c4)
        rw [if_pos c4] at hM
        refine Ev.steps (B := (24, [(2, .int v2), (0, .ref 0), (1, .int a1)], [.int (-1)], h1)) 1 rfl ?_
        obtain ⟨rfl, rfl⟩ := am_sp hM
        exact Ev.ret rfl
    · have c2 := of_decide_eq_false c2
      rw [if_neg c2] at hM
      refine Ev.steps (B := (12, [(0, .ref 0), (1, .int a1)], [.int (-2)], h)) 1 rfl ?_
      obtain ⟨rfl, rfl⟩ := am_sp hM
      exact Ev.ret rfl
def M_X9_isSpared (n : Nat) (a1 : Int32) (h : AH) : Option (Int32 × AH) :=
  am_v (M_X9_runs n (am_sf h 75 21 a1)) fun h1 =>
  am_o (M_X9_manyOf n 4 h1) fun v2 =>
  if v2 = 0 then
    some (1, h1)
  else
    some (0, h1)
set_option maxRecDepth 10000 in
theorem E_X9_isSpared_75 (n : Nat) (a1 : Int32) (h : AH) (vR : Int32) (hR : AH) (hM : M_X9_isSpared n a1 h = some (vR, hR)) : Ev none mr_X9_isSpared (0, [(0, .ref 75), (1, .int a1)], [], h) (some (.int vR)) hR := by
  unfold M_X9_isSpared at hM
  refine Ev.steps (B := (6, [(0, .ref 75), (1, .int a1)], [.ref 75], (am_sf h 75 21 a1))) 4 rfl ?_
  obtain ⟨h1, e1, hM⟩ := am_vS hM
  refine Ev.call (q := (mr_X9_runs, [.ref 75], [])) rfl (E_X9_runs_75 n (am_sf h 75 21 a1) h1 e1) ?_
  refine Ev.steps (B := (11, [(0, .ref 75), (1, .int a1)], [.int 4, .ref 75], h1)) 2 rfl ?_
  obtain ⟨v2, e2, hM⟩ := am_oS hM
  refine Ev.call (q := (mr_X9_manyOf, [.ref 75, .int 4], [])) rfl (E_X9_manyOf_75 n 4 h1 v2 e2) ?_
  refine Ev.br (b := decide (¬ v2 = 0)) rfl (fun c3 => ?_) (fun c3 => ?_)
  · have c3 := of_decide_eq_true c3
    rw [if_neg c3] at hM
    refine Ev.steps (B := (22, [(0, .ref 75), (1, .int a1)], [.int 0], h1)) 1 rfl ?_
    obtain ⟨rfl, rfl⟩ := am_sp hM
    exact Ev.ret rfl
  · have c3 := Decidable.of_not_not (of_decide_eq_false c3)
    rw [if_pos c3] at hM
    refine Ev.steps (B := (22, [(0, .ref 75), (1, .int a1)], [.int 1], h1)) 2 rfl ?_
    obtain ⟨rfl, rfl⟩ := am_sp hM
    exact Ev.ret rfl
def L_X9_spareBy_63 (n : Nat) (k51 : Int32 → AH → Option (Int32 × AH)) : Nat → Int32 → Int32 → AH → Option (Int32 × AH)
  | 0, _, _, _ => none
  | m + 1, x1, x2, h =>
    if (h.1 75 12) ≤ x2 then
      k51 (x1 + 1) h
    else
      bif (am_in 0 2) then
        bif (am_in 1 2) then
          am_b (M_X9_isSpared n ((1 <<< (x1 &&& 31)) ||| (1 <<< (x2 &&& 31))) (am_sa (am_sa h 100 (upd (h.2.1 100) (Int32.toNatClampNeg 0) x1)) 100 (upd (upd (h.2.1 100) (Int32.toNatClampNeg 0) x1) (Int32.toNatClampNeg 1) x2))) fun v2 h1 =>
          if v2 = 0 then
            L_X9_spareBy_63 n k51 m x1 (x2 + 1) h1
          else
            some (2, h1)
        else none
      else none
set_option maxRecDepth 10000 in
theorem E_L_X9_spareBy_63 (n : Nat) (k51 : Int32 → AH → Option (Int32 × AH)) (vR : Int32) (hR : AH) (hk51 : ∀ (x1 : Int32) (h0 : AH), k51 x1 h0 = some (vR, hR) → Ev none mr_X9_spareBy (51, [(0, .ref 75), (1, .int x1)], [], h0) (some (.int vR)) hR) : ∀ (m : Nat) (x1 : Int32) (x2 : Int32) (h : AH), L_X9_spareBy_63 n k51 m x1 x2 h = some (vR, hR) → Ev none mr_X9_spareBy (63, [(0, .ref 75), (1, .int x1), (2, .int x2)], [], h) (some (.int vR)) hR := by
  intro m
  induction m with
  | zero =>
    intro x1 x2 h hM
    exact (am_no hM).elim
  | succ m ih =>
    intro x1 x2 h hM
    rw [L_X9_spareBy_63] at hM
    refine Ev.steps (B := (68, [(0, .ref 75), (1, .int x1), (2, .int x2)], [.int (h.1 75 12), .int x2], h)) 3 rfl ?_
    refine Ev.br (b := decide ((h.1 75 12) ≤ x2)) rfl (fun c1 => ?_) (fun c1 => ?_)
    · have c1 := of_decide_eq_true c1
      rw [if_pos c1] at hM
      refine Ev.steps (B := (51, [(1, .int (x1 + 1)), (0, .ref 75), (2, .int x2)], [], h)) 2 rfl ?_
      refine Ev.lv (lv := [(0, .ref 75), (1, .int (x1 + 1))]) ⟨rfl, rfl, trivial⟩ rfl rfl ?_
      exact hk51 (x1 + 1) h hM
    · have c1 := of_decide_eq_false c1
      rw [if_neg c1] at hM
      refine Ev.steps (B := (77, [(0, .ref 75), (1, .int x1), (2, .int x2)], [.int x1, .int 0, .ref 100], h)) 4 rfl ?_
      obtain ⟨g2, hM⟩ := am_gS hM
      refine Ev.g (B := (78, [(0, .ref 75), (1, .int x1), (2, .int x2)], [], (am_sa h 100 (upd (h.2.1 100) (Int32.toNatClampNeg 0) x1)))) g2 rfl ?_
      refine Ev.steps (B := (84, [(0, .ref 75), (1, .int x1), (2, .int x2)], [.int x2, .int 1, .ref 100], (am_sa h 100 (upd (h.2.1 100) (Int32.toNatClampNeg 0) x1)))) 4 rfl ?_
      obtain ⟨g3, hM⟩ := am_gS hM
      refine Ev.g (B := (85, [(0, .ref 75), (1, .int x1), (2, .int x2)], [], (am_sa (am_sa h 100 (upd (h.2.1 100) (Int32.toNatClampNeg 0) x1)) 100 (upd (upd (h.2.1 100) (Int32.toNatClampNeg 0) x1) (Int32.toNatClampNeg 1) x2)))) g3 rfl ?_
      refine Ev.steps (B := (93, [(0, .ref 75), (1, .int x1), (2, .int x2)], [.int ((1 <<< (x1 &&& 31)) ||| (1 <<< (x2 &&& 31))), .ref 75], (am_sa (am_sa h 100 (upd (h.2.1 100) (Int32.toNatClampNeg 0) x1)) 100 (upd (upd (h.2.1 100) (Int32.toNatClampNeg 0) x1) (Int32.toNatClampNeg 1) x2)))) 8 rfl ?_
      obtain ⟨v2, h1, e4, hM⟩ := am_bS hM
      refine Ev.call (q := (mr_X9_isSpared, [.ref 75, .int ((1 <<< (x1 &&& 31)) ||| (1 <<< (x2 &&& 31)))], [])) rfl (E_X9_isSpared_75 n ((1 <<< (x1 &&& 31)) ||| (1 <<< (x2 &&& 31))) (am_sa (am_sa h 100 (upd (h.2.1 100) (Int32.toNatClampNeg 0) x1)) 100 (upd (upd (h.2.1 100) (Int32.toNatClampNeg 0) x1) (Int32.toNatClampNeg 1) x2)) v2 h1 e4) ?_
      refine Ev.br (b := decide (v2 = 0)) rfl (fun c5 => ?_) (fun c5 => ?_)
      · have c5 := of_decide_eq_true c5
        rw [if_pos c5] at hM
        refine Ev.steps (B := (63, [(2, .int (x2 + 1)), (0, .ref 75), (1, .int x1)], [], h1)) 2 rfl ?_
        refine Ev.lv (lv := [(0, .ref 75), (1, .int x1), (2, .int (x2 + 1))]) ⟨rfl, rfl, rfl, trivial⟩ rfl rfl ?_
        exact ih x1 (x2 + 1) h1 hM
      · have c5 := of_decide_eq_false c5
        rw [if_neg c5] at hM
        refine Ev.steps (B := (100, [(0, .ref 75), (1, .int x1), (2, .int x2)], [.int 2], h1)) 1 rfl ?_
        obtain ⟨rfl, rfl⟩ := am_sp hM
        exact Ev.ret rfl
def L_X9_spareBy_51 (n : Nat) : Nat → Int32 → AH → Option (Int32 × AH)
  | 0, _, _ => none
  | m + 1, x1, h =>
    if (h.1 75 12) ≤ x1 then
      some ((-1), h)
    else
      L_X9_spareBy_63 n (L_X9_spareBy_51 n m) n x1 (x1 + 1) h
set_option maxRecDepth 10000 in
theorem E_L_X9_spareBy_51 (n : Nat) (vR : Int32) (hR : AH) : ∀ (m : Nat) (x1 : Int32) (h : AH), L_X9_spareBy_51 n m x1 h = some (vR, hR) → Ev none mr_X9_spareBy (51, [(0, .ref 75), (1, .int x1)], [], h) (some (.int vR)) hR := by
  intro m
  induction m with
  | zero =>
    intro x1 h hM
    exact (am_no hM).elim
  | succ m ih =>
    intro x1 h hM
    rw [L_X9_spareBy_51] at hM
    refine Ev.steps (B := (56, [(0, .ref 75), (1, .int x1)], [.int (h.1 75 12), .int x1], h)) 3 rfl ?_
    refine Ev.br (b := decide ((h.1 75 12) ≤ x1)) rfl (fun c1 => ?_) (fun c1 => ?_)
    · have c1 := of_decide_eq_true c1
      rw [if_pos c1] at hM
      refine Ev.steps (B := (114, [(0, .ref 75), (1, .int x1)], [.int (-1)], h)) 1 rfl ?_
      obtain ⟨rfl, rfl⟩ := am_sp hM
      exact Ev.ret rfl
    · have c1 := of_decide_eq_false c1
      rw [if_neg c1] at hM
      refine Ev.steps (B := (63, [(2, .int (x1 + 1)), (0, .ref 75), (1, .int x1)], [], h)) 4 rfl ?_
      refine Ev.lv (lv := [(0, .ref 75), (1, .int x1), (2, .int (x1 + 1))]) ⟨rfl, rfl, rfl, trivial⟩ rfl rfl ?_
      exact E_L_X9_spareBy_63 n (L_X9_spareBy_51 n m) vR hR ih n x1 (x1 + 1) h hM
def L_X9_spareBy_16 (n : Nat) : Nat → Int32 → AH → Option (Int32 × AH)
  | 0, _, _ => none
  | m + 1, x1, h =>
    if (h.1 75 12) ≤ x1 then
      L_X9_spareBy_51 n n 0 h
    else
      bif (am_in 0 2) then
        am_b (M_X9_isSpared n (1 <<< (x1 &&& 31)) (am_sa h 100 (upd (h.2.1 100) (Int32.toNatClampNeg 0) x1))) fun v2 h1 =>
        if v2 = 0 then
          L_X9_spareBy_16 n m (x1 + 1) h1
        else
          some (1, h1)
      else none
set_option maxRecDepth 10000 in
theorem E_L_X9_spareBy_16 (n : Nat) (vR : Int32) (hR : AH) : ∀ (m : Nat) (x1 : Int32) (h : AH), L_X9_spareBy_16 n m x1 h = some (vR, hR) → Ev none mr_X9_spareBy (16, [(0, .ref 75), (1, .int x1)], [], h) (some (.int vR)) hR := by
  intro m
  induction m with
  | zero =>
    intro x1 h hM
    exact (am_no hM).elim
  | succ m ih =>
    intro x1 h hM
    rw [L_X9_spareBy_16] at hM
    refine Ev.steps (B := (21, [(0, .ref 75), (1, .int x1)], [.int (h.1 75 12), .int x1], h)) 3 rfl ?_
    refine Ev.br (b := decide ((h.1 75 12) ≤ x1)) rfl (fun c1 => ?_) (fun c1 => ?_)
    · have c1 := of_decide_eq_true c1
      rw [if_pos c1] at hM
      refine Ev.steps (B := (51, [(1, .int 0), (0, .ref 75)], [], h)) 2 rfl ?_
      refine Ev.lv (lv := [(0, .ref 75), (1, .int 0)]) ⟨rfl, rfl, trivial⟩ rfl rfl ?_
      exact E_L_X9_spareBy_51 n vR hR n 0 h hM
    · have c1 := of_decide_eq_false c1
      rw [if_neg c1] at hM
      refine Ev.steps (B := (30, [(0, .ref 75), (1, .int x1)], [.int x1, .int 0, .ref 100], h)) 4 rfl ?_
      obtain ⟨g2, hM⟩ := am_gS hM
      refine Ev.g (B := (31, [(0, .ref 75), (1, .int x1)], [], (am_sa h 100 (upd (h.2.1 100) (Int32.toNatClampNeg 0) x1)))) g2 rfl ?_
      refine Ev.steps (B := (35, [(0, .ref 75), (1, .int x1)], [.int (1 <<< (x1 &&& 31)), .ref 75], (am_sa h 100 (upd (h.2.1 100) (Int32.toNatClampNeg 0) x1)))) 4 rfl ?_
      obtain ⟨v2, h1, e3, hM⟩ := am_bS hM
      refine Ev.call (q := (mr_X9_isSpared, [.ref 75, .int (1 <<< (x1 &&& 31))], [])) rfl (E_X9_isSpared_75 n (1 <<< (x1 &&& 31)) (am_sa h 100 (upd (h.2.1 100) (Int32.toNatClampNeg 0) x1)) v2 h1 e3) ?_
      refine Ev.br (b := decide (v2 = 0)) rfl (fun c4 => ?_) (fun c4 => ?_)
      · have c4 := of_decide_eq_true c4
        rw [if_pos c4] at hM
        refine Ev.steps (B := (16, [(1, .int (x1 + 1)), (0, .ref 75)], [], h1)) 2 rfl ?_
        refine Ev.lv (lv := [(0, .ref 75), (1, .int (x1 + 1))]) ⟨rfl, rfl, trivial⟩ rfl rfl ?_
        exact ih (x1 + 1) h1 hM
      · have c4 := of_decide_eq_false c4
        rw [if_neg c4] at hM
        refine Ev.steps (B := (42, [(0, .ref 75), (1, .int x1)], [.int 1], h1)) 1 rfl ?_
        obtain ⟨rfl, rfl⟩ := am_sp hM
        exact Ev.ret rfl
def M_X9_spareBy (n : Nat) (h : AH) : Option (Int32 × AH) :=
  am_v (M_X9_asTold n h) fun h1 =>
  am_b (M_X9_isSpared n 0 h1) fun v3 h2 =>
  if v3 = 0 then
    L_X9_spareBy_16 n n 0 h2
  else
    some (0, h2)
set_option maxRecDepth 10000 in
theorem E_X9_spareBy_75 (n : Nat) (h : AH) (vR : Int32) (hR : AH) (hM : M_X9_spareBy n h = some (vR, hR)) : Ev none mr_X9_spareBy (0, [(0, .ref 75)], [], h) (some (.int vR)) hR := by
  unfold M_X9_spareBy at hM
  refine Ev.steps (B := (1, [(0, .ref 75)], [.ref 75], h)) 1 rfl ?_
  obtain ⟨h1, e1, hM⟩ := am_vS hM
  refine Ev.call (q := (mr_X9_asTold, [.ref 75], [])) rfl (E_X9_asTold_75 n h h1 e1) ?_
  refine Ev.steps (B := (6, [(0, .ref 75)], [.int 0, .ref 75], h1)) 2 rfl ?_
  obtain ⟨v3, h2, e2, hM⟩ := am_bS hM
  refine Ev.call (q := (mr_X9_isSpared, [.ref 75, .int 0], [])) rfl (E_X9_isSpared_75 n 0 h1 v3 h2 e2) ?_
  refine Ev.br (b := decide (v3 = 0)) rfl (fun c3 => ?_) (fun c3 => ?_)
  · have c3 := of_decide_eq_true c3
    rw [if_pos c3] at hM
    refine Ev.steps (B := (16, [(1, .int 0), (0, .ref 75)], [], h2)) 2 rfl ?_
    refine Ev.lv (lv := [(0, .ref 75), (1, .int 0)]) ⟨rfl, rfl, trivial⟩ rfl rfl ?_
    exact E_L_X9_spareBy_16 n vR hR n 0 h2 hM
  · have c3 := of_decide_eq_false c3
    rw [if_neg c3] at hM
    refine Ev.steps (B := (13, [(0, .ref 75)], [.int 0], h2)) 1 rfl ?_
    obtain ⟨rfl, rfl⟩ := am_sp hM
    exact Ev.ret rfl
def M_X9_ofRow (a1 : Int32) (a2 : Int32) (h : AH) : Option Int32 :=
  if a2 = (-1) then
    some a1
  else
    if a1 ≤ a2 then
      some (-1)
    else
      bif (am_in a2 2) then
        some ((h.2.1 100) (Int32.toNatClampNeg a2))
      else none
set_option maxRecDepth 10000 in
theorem E_X9_ofRow_75 (a1 : Int32) (a2 : Int32) (h : AH) (vR : Int32) (hM : M_X9_ofRow a1 a2 h = some vR) : Ev none mr_X9_ofRow (0, [(0, .ref 75), (1, .int a1), (2, .int a2)], [], h) (some (.int vR)) h := by
  unfold M_X9_ofRow at hM
  refine Ev.steps (B := (2, [(0, .ref 75), (1, .int a1), (2, .int a2)], [.int (-1), .int a2], h)) 2 rfl ?_
  refine Ev.br (b := decide (¬ a2 = (-1))) rfl (fun c1 => ?_) (fun c1 => ?_)
  · have c1 := of_decide_eq_true c1
    rw [if_neg c1] at hM
    refine Ev.steps (B := (11, [(0, .ref 75), (1, .int a1), (2, .int a2)], [.int a1, .int a2], h)) 2 rfl ?_
    refine Ev.br (b := decide (a1 ≤ a2)) rfl (fun c2 => ?_) (fun c2 => ?_)
    · have c2 := of_decide_eq_true c2
      rw [if_pos c2] at hM
      refine Ev.steps (B := (24, [(0, .ref 75), (1, .int a1), (2, .int a2)], [.int (-1)], h)) 1 rfl ?_
      obtain rfl := am_s1 hM
      exact Ev.ret rfl
    · have c2 := of_decide_eq_false c2
      rw [if_neg c2] at hM
      refine Ev.steps (B := (19, [(0, .ref 75), (1, .int a1), (2, .int a2)], [.int a2, .ref 100], h)) 3 rfl ?_
      obtain ⟨g3, hM⟩ := am_gS hM
      refine Ev.g (B := (20, [(0, .ref 75), (1, .int a1), (2, .int a2)], [.int ((h.2.1 100) (Int32.toNatClampNeg a2))], h)) g3 rfl ?_
      refine Ev.steps (B := (24, [(0, .ref 75), (1, .int a1), (2, .int a2)], [.int ((h.2.1 100) (Int32.toNatClampNeg a2))], h)) 1 rfl ?_
      obtain rfl := am_s1 hM
      exact Ev.ret rfl
  · have c1 := Decidable.of_not_not (of_decide_eq_false c1)
    rw [if_pos c1] at hM
    refine Ev.steps (B := (24, [(0, .ref 75), (1, .int a1), (2, .int a2)], [.int a1], h)) 2 rfl ?_
    obtain rfl := am_s1 hM
    exact Ev.ret rfl
def M_X9_spare (n : Nat) (a1 : Int32) (h : AH) : Option (Int32 × AH) :=
  if (M_X9_in a1 (-1) 1) = 0 then
    some ((-2), h)
  else
    am_b (M_X9_spareBy n h) fun v2 h1 =>
    am_o (M_X9_ofRow v2 a1 h1) fun v3 =>
    some (v3, h1)
set_option maxRecDepth 10000 in
theorem E_X9_spare_75 (n : Nat) (a1 : Int32) (h : AH) (vR : Int32) (hR : AH) (hM : M_X9_spare n a1 h = some (vR, hR)) : Ev none mr_X9_spare (0, [(0, .ref 75), (1, .int a1)], [], h) (some (.int vR)) hR := by
  unfold M_X9_spare at hM
  refine Ev.steps (B := (3, [(0, .ref 75), (1, .int a1)], [.int 1, .int (-1), .int a1], h)) 3 rfl ?_
  refine Ev.call (q := (mr_X9_in, [.int a1, .int (-1), .int 1], [])) rfl (E_X9_in a1 (-1) 1 h) ?_
  refine Ev.br (b := decide ((M_X9_in a1 (-1) 1) = 0)) rfl (fun c1 => ?_) (fun c1 => ?_)
  · have c1 := of_decide_eq_true c1
    rw [if_pos c1] at hM
    refine Ev.steps (B := (23, [(0, .ref 75), (1, .int a1)], [.int (-2)], h)) 1 rfl ?_
    obtain ⟨rfl, rfl⟩ := am_sp hM
    exact Ev.ret rfl
  · have c1 := of_decide_eq_false c1
    rw [if_neg c1] at hM
    refine Ev.steps (B := (11, [(0, .ref 75), (1, .int a1)], [.ref 75, .ref 75], h)) 2 rfl ?_
    obtain ⟨v2, h1, e2, hM⟩ := am_bS hM
    refine Ev.call (q := (mr_X9_spareBy, [.ref 75], [.ref 75])) rfl (E_X9_spareBy_75 n h v2 h1 e2) ?_
    refine Ev.steps (B := (15, [(0, .ref 75), (1, .int a1)], [.int a1, .int v2, .ref 75], h1)) 1 rfl ?_
    obtain ⟨v3, e3, hM⟩ := am_oS hM
    refine Ev.call (q := (mr_X9_ofRow, [.ref 75, .int v2, .int a1], [])) rfl (E_X9_ofRow_75 v2 a1 h1 v3 e3) ?_
    refine Ev.steps (B := (23, [(0, .ref 75), (1, .int a1)], [.int v3], h1)) 1 rfl ?_
    obtain ⟨rfl, rfl⟩ := am_sp hM
    exact Ev.ret rfl
set_option maxRecDepth 10000 in
theorem E_X1_add_17 (a1 : Int32) (a2 : Int32) (a3 : Int32) (h : AH) (hR : AH) (hM : M_X1_add 17 a1 a2 a3 h = some hR) : Ev none mr_X1_add (0, [(0, .ref 17), (1, .int a1), (2, .int a2), (3, .int a3)], [], h) none hR := by
  unfold M_X1_add at hM
  refine Ev.steps (B := (4, [(0, .ref 17), (1, .int a1), (2, .int a2), (3, .int a3)], [.int (h.1 17 3)], h)) 2 rfl ?_
  refine Ev.br (b := decide ((h.1 17 3) < 0)) rfl (fun c1 => ?_) (fun c1 => ?_)
  · have c1 := of_decide_eq_true c1
    rw [if_pos c1] at hM
    obtain rfl := am_s1 hM
    exact Ev.ret rfl
  · have c1 := of_decide_eq_false c1
    rw [if_neg c1] at hM
    refine Ev.steps (B := (13, [(0, .ref 17), (1, .int a1), (2, .int a2), (3, .int a3)], [.int 8, .int (h.1 17 3)], h)) 3 rfl ?_
    refine Ev.br (b := decide ((h.1 17 3) < 8)) rfl (fun c2 => ?_) (fun c2 => ?_)
    · have c2 := of_decide_eq_true c2
      rw [if_pos c2] at hM
      refine Ev.steps (B := (26, [(0, .ref 17), (1, .int a1), (2, .int a2), (3, .int a3)], [.int a1, .int (h.1 17 3), .ref (17 + 1)], h)) 5 rfl ?_
      obtain ⟨g3, hM⟩ := am_gS hM
      refine Ev.g (B := (27, [(0, .ref 17), (1, .int a1), (2, .int a2), (3, .int a3)], [], (am_sa h (17 + 1) (upd (h.2.1 (17 + 1)) (Int32.toNatClampNeg (h.1 17 3)) a1)))) g3 rfl ?_
      refine Ev.steps (B := (36, [(0, .ref 17), (1, .int a1), (2, .int a2), (3, .int a3)], [.int a2, .int (h.1 17 3), .ref (17 + 2)], (am_sa h (17 + 1) (upd (h.2.1 (17 + 1)) (Int32.toNatClampNeg (h.1 17 3)) a1)))) 5 rfl ?_
      obtain ⟨g4, hM⟩ := am_gS hM
      refine Ev.g (B := (37, [(0, .ref 17), (1, .int a1), (2, .int a2), (3, .int a3)], [], (am_sa (am_sa h (17 + 1) (upd (h.2.1 (17 + 1)) (Int32.toNatClampNeg (h.1 17 3)) a1)) (17 + 2) (upd (h.2.1 (17 + 2)) (Int32.toNatClampNeg (h.1 17 3)) a2)))) g4 rfl ?_
      refine Ev.steps (B := (46, [(0, .ref 17), (1, .int a1), (2, .int a2), (3, .int a3)], [.int a3, .int (h.1 17 3), .ref (17 + 3)], (am_sa (am_sa h (17 + 1) (upd (h.2.1 (17 + 1)) (Int32.toNatClampNeg (h.1 17 3)) a1)) (17 + 2) (upd (h.2.1 (17 + 2)) (Int32.toNatClampNeg (h.1 17 3)) a2)))) 5 rfl ?_
      obtain ⟨g5, hM⟩ := am_gS hM
      refine Ev.g (B := (47, [(0, .ref 17), (1, .int a1), (2, .int a2), (3, .int a3)], [], (am_sa (am_sa (am_sa h (17 + 1) (upd (h.2.1 (17 + 1)) (Int32.toNatClampNeg (h.1 17 3)) a1)) (17 + 2) (upd (h.2.1 (17 + 2)) (Int32.toNatClampNeg (h.1 17 3)) a2)) (17 + 3) (upd (h.2.1 (17 + 3)) (Int32.toNatClampNeg (h.1 17 3)) a3)))) g5 rfl ?_
      refine Ev.steps (B := (57, [(0, .ref 17), (1, .int a1), (2, .int a2), (3, .int a3)], [], (am_sf (am_sa (am_sa (am_sa h (17 + 1) (upd (h.2.1 (17 + 1)) (Int32.toNatClampNeg (h.1 17 3)) a1)) (17 + 2) (upd (h.2.1 (17 + 2)) (Int32.toNatClampNeg (h.1 17 3)) a2)) (17 + 3) (upd (h.2.1 (17 + 3)) (Int32.toNatClampNeg (h.1 17 3)) a3)) 17 3 ((h.1 17 3) + 1)))) 6 rfl ?_
      obtain rfl := am_s1 hM
      exact Ev.ret rfl
    · have c2 := of_decide_eq_false c2
      rw [if_neg c2] at hM
      obtain rfl := am_s1 hM
      exact Ev.ret rfl
def M_X8_seen (a1 : Int32) (a2 : Int32) (h : AH) : Option (Int32 × AH) :=
  if (M_X8_within a1 23) = 0 then
    some ((-2), h)
  else
    if (M_X8_within a2 1) = 0 then
      some ((-2), h)
    else
      if (h.1 17 3) < 8 then
        am_v (M_X1_add 17 a1 a2 0 h) fun h1 =>
        some ((h1.1 17 3), h1)
      else
        some ((-4), h)
set_option maxRecDepth 10000 in
theorem E_X8_seen_0 (a1 : Int32) (a2 : Int32) (h : AH) (vR : Int32) (hR : AH) (hM : M_X8_seen a1 a2 h = some (vR, hR)) : Ev none mr_X8_seen (0, [(0, .ref 0), (1, .int a1), (2, .int a2)], [], h) (some (.int vR)) hR := by
  unfold M_X8_seen at hM
  refine Ev.steps (B := (3, [(0, .ref 0), (1, .int a1), (2, .int a2)], [.int 23, .int a1], h)) 2 rfl ?_
  refine Ev.call (q := (mr_X8_within, [.int a1, .int 23], [])) rfl (E_X8_within a1 23 h) ?_
  refine Ev.br (b := decide ((M_X8_within a1 23) = 0)) rfl (fun c1 => ?_) (fun c1 => ?_)
  · have c1 := of_decide_eq_true c1
    rw [if_pos c1] at hM
    refine Ev.steps (B := (19, [(0, .ref 0), (1, .int a1), (2, .int a2)], [.int (-2)], h)) 1 rfl ?_
    obtain ⟨rfl, rfl⟩ := am_sp hM
    exact Ev.ret rfl
  · have c1 := of_decide_eq_false c1
    rw [if_neg c1] at hM
    refine Ev.steps (B := (11, [(0, .ref 0), (1, .int a1), (2, .int a2)], [.int 1, .int a2], h)) 2 rfl ?_
    refine Ev.call (q := (mr_X8_within, [.int a2, .int 1], [])) rfl (E_X8_within a2 1 h) ?_
    refine Ev.br (b := decide (¬ (M_X8_within a2 1) = 0)) rfl (fun c2 => ?_) (fun c2 => ?_)
    · have c2 := of_decide_eq_true c2
      rw [if_neg c2] at hM
      refine Ev.steps (B := (29, [(0, .ref 0), (1, .int a1), (2, .int a2)], [.int 8, .int (h.1 17 3)], h)) 4 rfl ?_
      refine Ev.br (b := decide ((h.1 17 3) < 8)) rfl (fun c3 => ?_) (fun c3 => ?_)
      · have c3 := of_decide_eq_true c3
        rw [if_pos c3] at hM
        refine Ev.steps (B := (42, [(0, .ref 0), (1, .int a1), (2, .int a2)], [.int 0, .int a2, .int a1, .ref 17], h)) 5 rfl ?_
        obtain ⟨h1, e4, hM⟩ := am_vS hM
        refine Ev.call (q := (mr_X1_add, [.ref 17, .int a1, .int a2, .int 0], [])) rfl (E_X1_add_17 a1 a2 0 h h1 e4) ?_
        refine Ev.steps (B := (52, [(0, .ref 0), (1, .int a1), (2, .int a2)], [.int (h1.1 17 3)], h1)) 3 rfl ?_
        obtain ⟨rfl, rfl⟩ := am_sp hM
        exact Ev.ret rfl
      · have c3 := of_decide_eq_false c3
        rw [if_neg c3] at hM
        refine Ev.steps (B := (34, [(0, .ref 0), (1, .int a1), (2, .int a2)], [.int (-4)], h)) 1 rfl ?_
        obtain ⟨rfl, rfl⟩ := am_sp hM
        exact Ev.ret rfl
    · have c2 := Decidable.of_not_not (of_decide_eq_false c2)
      rw [if_pos c2] at hM
      refine Ev.steps (B := (19, [(0, .ref 0), (1, .int a1), (2, .int a2)], [.int (-2)], h)) 1 rfl ?_
      obtain ⟨rfl, rfl⟩ := am_sp hM
      exact Ev.ret rfl
def M_X9_seen (a1 : Int32) (a2 : Int32) (h : AH) : Option (Int32 × AH) :=
  if (M_X9_isMinute a1) = 0 then
    some ((-2), h)
  else
    if (M_X9_isTwo a2) = 0 then
      some ((-2), h)
    else
      if (h.1 75 43) = 8 then
        some ((-4), h)
      else
        bif (am_in (h.1 75 43) 8) then
          bif (am_in (h.1 75 43) 8) then
            some (((h.1 75 43) + 1), (am_sf (am_sa (am_sa h 101 (upd (h.2.1 101) (Int32.toNatClampNeg (h.1 75 43)) a1)) 102 (upd (h.2.1 102) (Int32.toNatClampNeg (h.1 75 43)) a2)) 75 43 ((h.1 75 43) + 1)))
          else none
        else none
set_option maxRecDepth 10000 in
theorem E_X9_seen_75 (a1 : Int32) (a2 : Int32) (h : AH) (vR : Int32) (hR : AH) (hM : M_X9_seen a1 a2 h = some (vR, hR)) : Ev none mr_X9_seen (0, [(0, .ref 75), (1, .int a1), (2, .int a2)], [], h) (some (.int vR)) hR := by
  unfold M_X9_seen at hM
  refine Ev.steps (B := (1, [(0, .ref 75), (1, .int a1), (2, .int a2)], [.int a1], h)) 1 rfl ?_
  refine Ev.call (q := (mr_X9_isMinute, [.int a1], [])) rfl (E_X9_isMinute a1 h) ?_
  refine Ev.br (b := decide ((M_X9_isMinute a1) = 0)) rfl (fun c1 => ?_) (fun c1 => ?_)
  · have c1 := of_decide_eq_true c1
    rw [if_pos c1] at hM
    refine Ev.steps (B := (16, [(0, .ref 75), (1, .int a1), (2, .int a2)], [.int (-2)], h)) 1 rfl ?_
    obtain ⟨rfl, rfl⟩ := am_sp hM
    exact Ev.ret rfl
  · have c1 := of_decide_eq_false c1
    rw [if_neg c1] at hM
    refine Ev.steps (B := (8, [(0, .ref 75), (1, .int a1), (2, .int a2)], [.int a2], h)) 1 rfl ?_
    refine Ev.call (q := (mr_X9_isTwo, [.int a2], [])) rfl (E_X9_isTwo a2 h) ?_
    refine Ev.br (b := decide (¬ (M_X9_isTwo a2) = 0)) rfl (fun c2 => ?_) (fun c2 => ?_)
    · have c2 := of_decide_eq_true c2
      rw [if_neg c2] at hM
      refine Ev.steps (B := (23, [(0, .ref 75), (1, .int a1), (2, .int a2)], [.int 8, .int (h.1 75 43)], h)) 3 rfl ?_
      refine Ev.br (b := decide (¬ (h.1 75 43) = 8)) rfl (fun c3 => ?_) (fun c3 => ?_)
      · have c3 := of_decide_eq_true c3
        rw [if_neg c3] at hM
        refine Ev.steps (B := (38, [(0, .ref 75), (1, .int a1), (2, .int a2)], [.int a1, .int (h.1 75 43), .ref 101], h)) 5 rfl ?_
        obtain ⟨g4, hM⟩ := am_gS hM
        refine Ev.g (B := (39, [(0, .ref 75), (1, .int a1), (2, .int a2)], [], (am_sa h 101 (upd (h.2.1 101) (Int32.toNatClampNeg (h.1 75 43)) a1)))) g4 rfl ?_
        refine Ev.steps (B := (48, [(0, .ref 75), (1, .int a1), (2, .int a2)], [.int a2, .int (h.1 75 43), .ref 102], (am_sa h 101 (upd (h.2.1 101) (Int32.toNatClampNeg (h.1 75 43)) a1)))) 5 rfl ?_
        obtain ⟨g5, hM⟩ := am_gS hM
        refine Ev.g (B := (49, [(0, .ref 75), (1, .int a1), (2, .int a2)], [], (am_sa (am_sa h 101 (upd (h.2.1 101) (Int32.toNatClampNeg (h.1 75 43)) a1)) 102 (upd (h.2.1 102) (Int32.toNatClampNeg (h.1 75 43)) a2)))) g5 rfl ?_
        refine Ev.steps (B := (63, [(0, .ref 75), (1, .int a1), (2, .int a2)], [.int ((h.1 75 43) + 1)], (am_sf (am_sa (am_sa h 101 (upd (h.2.1 101) (Int32.toNatClampNeg (h.1 75 43)) a1)) 102 (upd (h.2.1 102) (Int32.toNatClampNeg (h.1 75 43)) a2)) 75 43 ((h.1 75 43) + 1)))) 8 rfl ?_
        obtain ⟨rfl, rfl⟩ := am_sp hM
        exact Ev.ret rfl
      · have c3 := Decidable.of_not_not (of_decide_eq_false c3)
        rw [if_pos c3] at hM
        refine Ev.steps (B := (28, [(0, .ref 75), (1, .int a1), (2, .int a2)], [.int (-4)], h)) 1 rfl ?_
        obtain ⟨rfl, rfl⟩ := am_sp hM
        exact Ev.ret rfl
    · have c2 := Decidable.of_not_not (of_decide_eq_false c2)
      rw [if_pos c2] at hM
      refine Ev.steps (B := (16, [(0, .ref 75), (1, .int a1), (2, .int a2)], [.int (-2)], h)) 1 rfl ?_
      obtain ⟨rfl, rfl⟩ := am_sp hM
      exact Ev.ret rfl
def M_X8_forget (h : AH) : Option (Int32 × AH) :=
  some ((h.1 17 3), (am_sf h 17 3 0))
set_option maxRecDepth 10000 in
theorem E_X8_forget_0 (h : AH) (vR : Int32) (hR : AH) (hM : M_X8_forget h = some (vR, hR)) : Ev none mr_X8_forget (0, [(0, .ref 0)], [], h) (some (.int vR)) hR := by
  unfold M_X8_forget at hM
  refine Ev.steps (B := (17, [(1, .int (h.1 17 3)), (0, .ref 0)], [.int (h.1 17 3)], (am_sf h 17 3 0))) 9 rfl ?_
  obtain ⟨rfl, rfl⟩ := am_sp hM
  exact Ev.ret rfl
def M_X9_forget (h : AH) : Option (Int32 × AH) :=
  some ((h.1 75 43), (am_sf h 75 43 0))
set_option maxRecDepth 10000 in
theorem E_X9_forget_75 (h : AH) (vR : Int32) (hR : AH) (hM : M_X9_forget h = some (vR, hR)) : Ev none mr_X9_forget (0, [(0, .ref 75)], [], h) (some (.int vR)) hR := by
  unfold M_X9_forget at hM
  refine Ev.steps (B := (11, [(1, .int (h.1 75 43)), (0, .ref 75)], [.int (h.1 75 43)], (am_sf h 75 43 0))) 7 rfl ?_
  obtain ⟨rfl, rfl⟩ := am_sp hM
  exact Ev.ret rfl
def M_X7_boiledIn (a1 : Int64) : Int32 :=
  (Int64.toInt32 (a1 &&& 16777215))
set_option maxRecDepth 10000 in
theorem E_X7_boiledIn (a1 : Int64) (h : AH) : Ev none mr_X7_boiledIn (0, [(0, .long a1)], [], h) (some (.int (M_X7_boiledIn a1))) h := by
  unfold M_X7_boiledIn
  refine Ev.steps (B := (6, [(0, .long a1)], [.int (Int64.toInt32 (a1 &&& 16777215))], h)) 4 rfl ?_
  exact Ev.ret rfl
def L_X8_comesOutAsSeen_8 (n : Nat) : Nat → Int32 → Int32 → AH → Option Int32
  | 0, _, _, _ => none
  | m + 1, x3, x4, h =>
    if (h.1 17 3) ≤ x4 then
      some 1
    else
      if 8 ≤ x4 then
        some 1
      else
        bif (am_in x4 8) then
          bif (am_in x4 8) then
            if ((x3 >>> (((h.2.1 18) (Int32.toNatClampNeg x4)) &&& 31)) &&& 1) = ((h.2.1 19) (Int32.toNatClampNeg x4)) then
              L_X8_comesOutAsSeen_8 n m x3 (x4 + 1) h
            else
              some 0
          else none
        else none
set_option maxRecDepth 10000 in
theorem E_L_X8_comesOutAsSeen_8 (n : Nat) (h : AH) (vR : Int32) : ∀ (m : Nat) (x3 : Int32) (x4 : Int32), L_X8_comesOutAsSeen_8 n m x3 x4 h = some vR → Ev none mr_X8_comesOutAsSeen (8, [(0, .ref 0), (3, .int x3), (4, .int x4)], [], h) (some (.int vR)) h := by
  intro m
  induction m with
  | zero =>
    intro x3 x4 hM
    exact (am_no hM).elim
  | succ m ih =>
    intro x3 x4 hM
    rw [L_X8_comesOutAsSeen_8] at hM
    refine Ev.steps (B := (17, [(0, .ref 0), (3, .int x3), (4, .int x4)], [.int (h.1 17 3), .int x4], h)) 4 rfl ?_
    refine Ev.br (b := decide ((h.1 17 3) ≤ x4)) rfl (fun c1 => ?_) (fun c1 => ?_)
    · have c1 := of_decide_eq_true c1
      rw [if_pos c1] at hM
      refine Ev.steps (B := (63, [(0, .ref 0), (3, .int x3), (4, .int x4)], [.int 1], h)) 1 rfl ?_
      obtain rfl := am_s1 hM
      exact Ev.ret rfl
    · have c1 := of_decide_eq_false c1
      rw [if_neg c1] at hM
      refine Ev.steps (B := (24, [(0, .ref 0), (3, .int x3), (4, .int x4)], [.int 8, .int x4], h)) 2 rfl ?_
      refine Ev.br (b := decide (8 ≤ x4)) rfl (fun c2 => ?_) (fun c2 => ?_)
      · have c2 := of_decide_eq_true c2
        rw [if_pos c2] at hM
        refine Ev.steps (B := (63, [(0, .ref 0), (3, .int x3), (4, .int x4)], [.int 1], h)) 1 rfl ?_
        obtain rfl := am_s1 hM
        exact Ev.ret rfl
      · have c2 := of_decide_eq_false c2
        rw [if_neg c2] at hM
        refine Ev.steps (B := (37, [(0, .ref 0), (3, .int x3), (4, .int x4)], [.int x4, .ref 18, .int x3], h)) 5 rfl ?_
        obtain ⟨g3, hM⟩ := am_gS hM
        refine Ev.g (B := (38, [(0, .ref 0), (3, .int x3), (4, .int x4)], [.int ((h.2.1 18) (Int32.toNatClampNeg x4)), .int x3], h)) g3 rfl ?_
        refine Ev.steps (B := (50, [(0, .ref 0), (3, .int x3), (4, .int x4)], [.int x4, .ref 19, .int ((x3 >>> (((h.2.1 18) (Int32.toNatClampNeg x4)) &&& 31)) &&& 1)], h)) 7 rfl ?_
        obtain ⟨g4, hM⟩ := am_gS hM
        refine Ev.g (B := (51, [(0, .ref 0), (3, .int x3), (4, .int x4)], [.int ((h.2.1 19) (Int32.toNatClampNeg x4)), .int ((x3 >>> (((h.2.1 18) (Int32.toNatClampNeg x4)) &&& 31)) &&& 1)], h)) g4 rfl ?_
        refine Ev.br (b := decide (((x3 >>> (((h.2.1 18) (Int32.toNatClampNeg x4)) &&& 31)) &&& 1) = ((h.2.1 19) (Int32.toNatClampNeg x4)))) rfl (fun c5 => ?_) (fun c5 => ?_)
        · have c5 := of_decide_eq_true c5
          rw [if_pos c5] at hM
          refine Ev.steps (B := (8, [(4, .int (x4 + 1)), (0, .ref 0), (3, .int x3)], [], h)) 2 rfl ?_
          refine Ev.lv (lv := [(0, .ref 0), (3, .int x3), (4, .int (x4 + 1))]) ⟨rfl, rfl, rfl, trivial⟩ rfl rfl ?_
          exact ih x3 (x4 + 1) hM
        · have c5 := of_decide_eq_false c5
          rw [if_neg c5] at hM
          refine Ev.steps (B := (55, [(0, .ref 0), (3, .int x3), (4, .int x4)], [.int 0], h)) 1 rfl ?_
          obtain rfl := am_s1 hM
          exact Ev.ret rfl
def M_X8_comesOutAsSeen (n : Nat) (a1 : Int64) (h : AH) : Option Int32 :=
  L_X8_comesOutAsSeen_8 n n (M_X7_boiledIn a1) 0 h
set_option maxRecDepth 10000 in
theorem E_X8_comesOutAsSeen_0 (n : Nat) (a1 : Int64) (h : AH) (vR : Int32) (hM : M_X8_comesOutAsSeen n a1 h = some vR) : Ev none mr_X8_comesOutAsSeen (0, [(0, .ref 0), (1, .long a1)], [], h) (some (.int vR)) h := by
  unfold M_X8_comesOutAsSeen at hM
  refine Ev.steps (B := (1, [(0, .ref 0), (1, .long a1)], [.long a1], h)) 1 rfl ?_
  refine Ev.call (q := (mr_X7_boiledIn, [.long a1], [])) rfl (E_X7_boiledIn a1 h) ?_
  refine Ev.steps (B := (8, [(4, .int 0), (3, .int (M_X7_boiledIn a1)), (0, .ref 0), (1, .long a1)], [], h)) 3 rfl ?_
  refine Ev.lv (lv := [(0, .ref 0), (3, .int (M_X7_boiledIn a1)), (4, .int 0)]) ⟨rfl, rfl, rfl, trivial⟩ rfl rfl ?_
  exact E_L_X8_comesOutAsSeen_8 n h vR n (M_X7_boiledIn a1) 0 hM
def L_X8_never_4 (n : Nat) : Nat → Int32 → Int32 → AH → Option (Int32 × AH)
  | 0, _, _, _ => none
  | m + 1, x1, x2, h =>
    if (h.1 13 3) ≤ x2 then
      some (x1, h)
    else
      if 8 ≤ x2 then
        some (x1, h)
      else
        am_b (M_X7_outcome n (1 <<< (x2 &&& 31)) h) fun v2 h1 =>
        am_o (M_X8_comesOutAsSeen n v2 h1) fun v3 =>
        if v3 = 0 then
          L_X8_never_4 n m x1 (x2 + 1) h1
        else
          L_X8_never_4 n m (x1 ||| (1 <<< (x2 &&& 31))) (x2 + 1) h1
set_option maxRecDepth 10000 in
theorem E_L_X8_never_4 (n : Nat) (vR : Int32) (hR : AH) : ∀ (m : Nat) (x1 : Int32) (x2 : Int32) (h : AH), L_X8_never_4 n m x1 x2 h = some (vR, hR) → Ev none mr_X8_never (4, [(0, .ref 0), (1, .int x1), (2, .int x2)], [], h) (some (.int vR)) hR := by
  intro m
  induction m with
  | zero =>
    intro x1 x2 h hM
    exact (am_no hM).elim
  | succ m ih =>
    intro x1 x2 h hM
    rw [L_X8_never_4] at hM
    refine Ev.steps (B := (12, [(0, .ref 0), (1, .int x1), (2, .int x2)], [.int (h.1 13 3), .int x2], h)) 4 rfl ?_
    refine Ev.br (b := decide ((h.1 13 3) ≤ x2)) rfl (fun c1 => ?_) (fun c1 => ?_)
    · have c1 := of_decide_eq_true c1
      rw [if_pos c1] at hM
      refine Ev.steps (B := (51, [(0, .ref 0), (1, .int x1), (2, .int x2)], [.int x1], h)) 1 rfl ?_
      obtain ⟨rfl, rfl⟩ := am_sp hM
      exact Ev.ret rfl
    · have c1 := of_decide_eq_false c1
      rw [if_neg c1] at hM
      refine Ev.steps (B := (18, [(0, .ref 0), (1, .int x1), (2, .int x2)], [.int 8, .int x2], h)) 2 rfl ?_
      refine Ev.br (b := decide (8 ≤ x2)) rfl (fun c2 => ?_) (fun c2 => ?_)
      · have c2 := of_decide_eq_true c2
        rw [if_pos c2] at hM
        refine Ev.steps (B := (51, [(0, .ref 0), (1, .int x1), (2, .int x2)], [.int x1], h)) 1 rfl ?_
        obtain ⟨rfl, rfl⟩ := am_sp hM
        exact Ev.ret rfl
      · have c2 := of_decide_eq_false c2
        rw [if_neg c2] at hM
        refine Ev.steps (B := (29, [(0, .ref 0), (1, .int x1), (2, .int x2)], [.int (1 <<< (x2 &&& 31)), .ref 37, .ref 0], h)) 6 rfl ?_
        obtain ⟨v2, h1, e3, hM⟩ := am_bS hM
        refine Ev.call (q := (mr_X7_outcome, [.ref 37, .int (1 <<< (x2 &&& 31))], [.ref 0])) rfl (E_X7_outcome_37 n (1 <<< (x2 &&& 31)) h v2 h1 e3) ?_
        obtain ⟨v3, e4, hM⟩ := am_oS hM
        refine Ev.call (q := (mr_X8_comesOutAsSeen, [.ref 0, .long v2], [])) rfl (E_X8_comesOutAsSeen_0 n v2 h1 v3 e4) ?_
        refine Ev.br (b := decide (v3 = 0)) rfl (fun c5 => ?_) (fun c5 => ?_)
        · have c5 := of_decide_eq_true c5
          rw [if_pos c5] at hM
          refine Ev.steps (B := (4, [(2, .int (x2 + 1)), (0, .ref 0), (1, .int x1)], [], h1)) 2 rfl ?_
          refine Ev.lv (lv := [(0, .ref 0), (1, .int x1), (2, .int (x2 + 1))]) ⟨rfl, rfl, rfl, trivial⟩ rfl rfl ?_
          exact ih x1 (x2 + 1) h1 hM
        · have c5 := of_decide_eq_false c5
          rw [if_neg c5] at hM
          refine Ev.steps (B := (4, [(2, .int (x2 + 1)), (1, .int (x1 ||| (1 <<< (x2 &&& 31)))), (0, .ref 0)], [], h1)) 8 rfl ?_
          refine Ev.lv (lv := [(0, .ref 0), (1, .int (x1 ||| (1 <<< (x2 &&& 31)))), (2, .int (x2 + 1))]) ⟨rfl, rfl, rfl, trivial⟩ rfl rfl ?_
          exact ih (x1 ||| (1 <<< (x2 &&& 31))) (x2 + 1) h1 hM
def M_X8_never (n : Nat) (h : AH) : Option (Int32 × AH) :=
  L_X8_never_4 n n 0 0 h
set_option maxRecDepth 10000 in
theorem E_X8_never_0 (n : Nat) (h : AH) (vR : Int32) (hR : AH) (hM : M_X8_never n h = some (vR, hR)) : Ev none mr_X8_never (0, [(0, .ref 0)], [], h) (some (.int vR)) hR := by
  unfold M_X8_never at hM
  refine Ev.steps (B := (4, [(2, .int 0), (1, .int 0), (0, .ref 0)], [], h)) 4 rfl ?_
  refine Ev.lv (lv := [(0, .ref 0), (1, .int 0), (2, .int 0)]) ⟨rfl, rfl, rfl, trivial⟩ rfl rfl ?_
  exact E_L_X8_never_4 n vR hR n 0 0 h hM
def L_X9_isSeen_8 (n : Nat) : Nat → Int32 → Int32 → AH → Option (Int32 × AH)
  | 0, _, _, _ => none
  | m + 1, x1, x2, h =>
    if (h.1 75 43) ≤ x2 then
      bif am_b01 x1 then some (x1, h) else none
    else
      if x1 = 0 then
        bif am_b01 x1 then some (x1, h) else none
      else
        bif (am_in x2 8) then
          bif (am_in ((6 * ((h.2.1 101) (Int32.toNatClampNeg x2))) + 4) 144) then
            bif (am_in x2 8) then
              if ((h.2.1 96) (Int32.toNatClampNeg ((6 * ((h.2.1 101) (Int32.toNatClampNeg x2))) + 4))) = ((h.2.1 102) (Int32.toNatClampNeg x2)) then
                L_X9_isSeen_8 n m 1 (x2 + 1) h
              else
                L_X9_isSeen_8 n m 0 (x2 + 1) h
            else none
          else none
        else none
set_option maxRecDepth 10000 in
theorem E_L_X9_isSeen_8 (n : Nat) (vR : Int32) (hR : AH) : ∀ (m : Nat) (x1 : Int32) (x2 : Int32) (h : AH), L_X9_isSeen_8 n m x1 x2 h = some (vR, hR) → Ev none mr_X9_isSeen (8, [(0, .ref 75), (1, .int x1), (2, .int x2)], [], h) (some (.int vR)) hR := by
  intro m
  induction m with
  | zero =>
    intro x1 x2 h hM
    exact (am_no hM).elim
  | succ m ih =>
    intro x1 x2 h hM
    rw [L_X9_isSeen_8] at hM
    refine Ev.steps (B := (13, [(0, .ref 75), (1, .int x1), (2, .int x2)], [.int (h.1 75 43), .int x2], h)) 3 rfl ?_
    refine Ev.br (b := decide ((h.1 75 43) ≤ x2)) rfl (fun c1 => ?_) (fun c1 => ?_)
    · have c1 := of_decide_eq_true c1
      rw [if_pos c1] at hM
      refine Ev.steps (B := (58, [(0, .ref 75), (1, .int x1), (2, .int x2)], [.int x1], h)) 1 rfl ?_
      obtain ⟨g2, hM⟩ := am_gS hM
      obtain ⟨rfl, rfl⟩ := am_sp hM
      exact Ev.retg g2 rfl
    · have c1 := of_decide_eq_false c1
      rw [if_neg c1] at hM
      refine Ev.steps (B := (17, [(0, .ref 75), (1, .int x1), (2, .int x2)], [.int x1], h)) 1 rfl ?_
      refine Ev.br (b := decide (x1 = 0)) rfl (fun c3 => ?_) (fun c3 => ?_)
      · have c3 := of_decide_eq_true c3
        rw [if_pos c3] at hM
        refine Ev.steps (B := (58, [(0, .ref 75), (1, .int x1), (2, .int x2)], [.int x1], h)) 1 rfl ?_
        obtain ⟨g4, hM⟩ := am_gS hM
        obtain ⟨rfl, rfl⟩ := am_sp hM
        exact Ev.retg g4 rfl
      · have c3 := of_decide_eq_false c3
        rw [if_neg c3] at hM
        refine Ev.steps (B := (31, [(0, .ref 75), (1, .int x1), (2, .int x2)], [.int x2, .ref 101, .int 6, .ref 96], h)) 6 rfl ?_
        obtain ⟨g5, hM⟩ := am_gS hM
        refine Ev.g (B := (32, [(0, .ref 75), (1, .int x1), (2, .int x2)], [.int ((h.2.1 101) (Int32.toNatClampNeg x2)), .int 6, .ref 96], h)) g5 rfl ?_
        refine Ev.steps (B := (35, [(0, .ref 75), (1, .int x1), (2, .int x2)], [.int ((6 * ((h.2.1 101) (Int32.toNatClampNeg x2))) + 4), .ref 96], h)) 3 rfl ?_
        obtain ⟨g6, hM⟩ := am_gS hM
        refine Ev.g (B := (36, [(0, .ref 75), (1, .int x1), (2, .int x2)], [.int ((h.2.1 96) (Int32.toNatClampNeg ((6 * ((h.2.1 101) (Int32.toNatClampNeg x2))) + 4)))], h)) g6 rfl ?_
        refine Ev.steps (B := (41, [(0, .ref 75), (1, .int x1), (2, .int x2)], [.int x2, .ref 102, .int ((h.2.1 96) (Int32.toNatClampNeg ((6 * ((h.2.1 101) (Int32.toNatClampNeg x2))) + 4)))], h)) 3 rfl ?_
        obtain ⟨g7, hM⟩ := am_gS hM
        refine Ev.g (B := (42, [(0, .ref 75), (1, .int x1), (2, .int x2)], [.int ((h.2.1 102) (Int32.toNatClampNeg x2)), .int ((h.2.1 96) (Int32.toNatClampNeg ((6 * ((h.2.1 101) (Int32.toNatClampNeg x2))) + 4)))], h)) g7 rfl ?_
        refine Ev.br (b := decide (¬ ((h.2.1 96) (Int32.toNatClampNeg ((6 * ((h.2.1 101) (Int32.toNatClampNeg x2))) + 4))) = ((h.2.1 102) (Int32.toNatClampNeg x2)))) rfl (fun c8 => ?_) (fun c8 => ?_)
        · have c8 := of_decide_eq_true c8
          rw [if_neg c8] at hM
          refine Ev.steps (B := (8, [(2, .int (x2 + 1)), (1, .int 0), (0, .ref 75)], [], h)) 4 rfl ?_
          refine Ev.lv (lv := [(0, .ref 75), (1, .int 0), (2, .int (x2 + 1))]) ⟨rfl, rfl, rfl, trivial⟩ rfl rfl ?_
          exact ih 0 (x2 + 1) h hM
        · have c8 := Decidable.of_not_not (of_decide_eq_false c8)
          rw [if_pos c8] at hM
          refine Ev.steps (B := (8, [(2, .int (x2 + 1)), (1, .int 1), (0, .ref 75)], [], h)) 5 rfl ?_
          refine Ev.lv (lv := [(0, .ref 75), (1, .int 1), (2, .int (x2 + 1))]) ⟨rfl, rfl, rfl, trivial⟩ rfl rfl ?_
          exact ih 1 (x2 + 1) h hM
