def M_X8_put (a1 : Int32) (a2 : Int32) (a3 : Int32) (a4 : Int32) (h : AH) : Option (Int32 × AH) :=
  if a1 = 0 then
    B_X8_put_7 a2 a3 a4 67 h
  else
  if a1 = 1 then
    B_X8_put_7 a2 a3 a4 69 h
  else
  if a1 = 2 then
    B_X8_put_7 a2 a3 a4 71 h
  else
  if a1 = 3 then
    B_X8_put_7 a2 a3 a4 73 h
  else
    some ((-2), h)
set_option maxRecDepth 10000 in
theorem E_X8_put_0 (a1 : Int32) (a2 : Int32) (a3 : Int32) (a4 : Int32) (h : AH) (vR : Int32) (hR : AH) (hM : M_X8_put a1 a2 a3 a4 h = some (vR, hR)) : Ev none mr_X8_put (0, [(0, .ref 0), (1, .int a1), (2, .int a2), (3, .int a3), (4, .int a4)], [], h) (some (.int vR)) hR := by
  unfold M_X8_put at hM
  refine Ev.steps (B := (2, [(0, .ref 0), (1, .int a1), (2, .int a2), (3, .int a3), (4, .int a4)], [.int a1, .ref 0], h)) 2 rfl ?_
  by_cases c1 : a1 = 0
  · rw [if_pos c1] at hM
    refine Ev.call (q := (mr_X8_sheetAt, [.ref 0, .int a1], [])) rfl (E_X8_sheetAt_67 a1 h c1) ?_
    refine Ev.steps (B := (7, [(5, .ref 67), (0, .ref 0), (1, .int a1), (2, .int a2), (3, .int a3), (4, .int a4)], [], h)) 1 rfl ?_
    refine Ev.lv (lv := [(0, .ref 0), (2, .int a2), (3, .int a3), (4, .int a4), (5, .ref 67)]) ⟨rfl, rfl, rfl, rfl, rfl, trivial⟩ rfl rfl ?_
    exact E_B_X8_put_7_67 vR hR a2 a3 a4 h hM
  · rw [if_neg c1] at hM
    by_cases c2 : a1 = 1
    · rw [if_pos c2] at hM
      refine Ev.call (q := (mr_X8_sheetAt, [.ref 0, .int a1], [])) rfl (E_X8_sheetAt_69 a1 h c2) ?_
      refine Ev.steps (B := (7, [(5, .ref 69), (0, .ref 0), (1, .int a1), (2, .int a2), (3, .int a3), (4, .int a4)], [], h)) 1 rfl ?_
      refine Ev.lv (lv := [(0, .ref 0), (2, .int a2), (3, .int a3), (4, .int a4), (5, .ref 69)]) ⟨rfl, rfl, rfl, rfl, rfl, trivial⟩ rfl rfl ?_
      exact E_B_X8_put_7_69 vR hR a2 a3 a4 h hM
    · rw [if_neg c2] at hM
      by_cases c3 : a1 = 2
      · rw [if_pos c3] at hM
        refine Ev.call (q := (mr_X8_sheetAt, [.ref 0, .int a1], [])) rfl (E_X8_sheetAt_71 a1 h c3) ?_
        refine Ev.steps (B := (7, [(5, .ref 71), (0, .ref 0), (1, .int a1), (2, .int a2), (3, .int a3), (4, .int a4)], [], h)) 1 rfl ?_
        refine Ev.lv (lv := [(0, .ref 0), (2, .int a2), (3, .int a3), (4, .int a4), (5, .ref 71)]) ⟨rfl, rfl, rfl, rfl, rfl, trivial⟩ rfl rfl ?_
        exact E_B_X8_put_7_71 vR hR a2 a3 a4 h hM
      · rw [if_neg c3] at hM
        by_cases c4 : a1 = 3
        · rw [if_pos c4] at hM
          refine Ev.call (q := (mr_X8_sheetAt, [.ref 0, .int a1], [])) rfl (E_X8_sheetAt_73 a1 h c4) ?_
          refine Ev.steps (B := (7, [(5, .ref 73), (0, .ref 0), (1, .int a1), (2, .int a2), (3, .int a3), (4, .int a4)], [], h)) 1 rfl ?_
          refine Ev.lv (lv := [(0, .ref 0), (2, .int a2), (3, .int a3), (4, .int a4), (5, .ref 73)]) ⟨rfl, rfl, rfl, rfl, rfl, trivial⟩ rfl rfl ?_
          exact E_B_X8_put_7_73 vR hR a2 a3 a4 h hM
        · rw [if_neg c4] at hM
          refine Ev.call (q := (mr_X8_sheetAt, [.ref 0, .int a1], [])) rfl (E_X8_sheetAt_d a1 h c1 c2 c3 c4) ?_
          refine Ev.steps (B := (22, [(5, .null), (0, .ref 0), (1, .int a1), (2, .int a2), (3, .int a3), (4, .int a4)], [.int (-2)], h)) 4 rfl ?_
          obtain ⟨rfl, rfl⟩ := am_sp hM
          exact Ev.ret rfl
def M_X9_lacks (a1 : Int32) (a2 : Int32) (a3 : Int32) (h : AH) : Option Int32 :=
  bif (am_in a1 4) then
    if ((h.2.1 104) (Int32.toNatClampNeg a1)) = 0 then
      some 1
    else
      bif (am_in a1 4) then
        if ((h.2.1 105) (Int32.toNatClampNeg a1)) = a2 then
          bif (am_in a1 4) then
            if (M_X9_in a3 0 (((h.2.1 106) (Int32.toNatClampNeg a1)) - 1)) = 0 then
              some 2
            else
              some 0
          else none
        else
          some 3
      else none
  else none
set_option maxRecDepth 10000 in
theorem E_X9_lacks_75 (a1 : Int32) (a2 : Int32) (a3 : Int32) (h : AH) (vR : Int32) (hM : M_X9_lacks a1 a2 a3 h = some vR) : Ev none mr_X9_lacks (0, [(0, .ref 75), (1, .int a1), (2, .int a2), (3, .int a3)], [], h) (some (.int vR)) h := by
  unfold M_X9_lacks at hM
  refine Ev.steps (B := (5, [(0, .ref 75), (1, .int a1), (2, .int a2), (3, .int a3)], [.int a1, .ref 104], h)) 3 rfl ?_
  obtain ⟨g1, hM⟩ := am_gS hM
  refine Ev.g (B := (6, [(0, .ref 75), (1, .int a1), (2, .int a2), (3, .int a3)], [.int ((h.2.1 104) (Int32.toNatClampNeg a1))], h)) g1 rfl ?_
  refine Ev.br (b := decide (¬ ((h.2.1 104) (Int32.toNatClampNeg a1)) = 0)) rfl (fun c2 => ?_) (fun c2 => ?_)
  · have c2 := of_decide_eq_true c2
    rw [if_neg c2] at hM
    refine Ev.steps (B := (18, [(0, .ref 75), (1, .int a1), (2, .int a2), (3, .int a3)], [.int a1, .ref 105], h)) 3 rfl ?_
    obtain ⟨g3, hM⟩ := am_gS hM
    refine Ev.g (B := (19, [(0, .ref 75), (1, .int a1), (2, .int a2), (3, .int a3)], [.int ((h.2.1 105) (Int32.toNatClampNeg a1))], h)) g3 rfl ?_
    refine Ev.steps (B := (20, [(0, .ref 75), (1, .int a1), (2, .int a2), (3, .int a3)], [.int a2, .int ((h.2.1 105) (Int32.toNatClampNeg a1))], h)) 1 rfl ?_
    refine Ev.br (b := decide (((h.2.1 105) (Int32.toNatClampNeg a1)) = a2)) rfl (fun c4 => ?_) (fun c4 => ?_)
    · have c4 := of_decide_eq_true c4
      rw [if_pos c4] at hM
      refine Ev.steps (B := (34, [(0, .ref 75), (1, .int a1), (2, .int a2), (3, .int a3)], [.int a1, .ref 106, .int 0, .int a3], h)) 5 rfl ?_
      obtain ⟨g5, hM⟩ := am_gS hM
      refine Ev.g (B := (35, [(0, .ref 75), (1, .int a1), (2, .int a2), (3, .int a3)], [.int ((h.2.1 106) (Int32.toNatClampNeg a1)), .int 0, .int a3], h)) g5 rfl ?_
      refine Ev.steps (B := (37, [(0, .ref 75), (1, .int a1), (2, .int a2), (3, .int a3)], [.int (((h.2.1 106) (Int32.toNatClampNeg a1)) - 1), .int 0, .int a3], h)) 2 rfl ?_
      refine Ev.call (q := (mr_X9_in, [.int a3, .int 0, .int (((h.2.1 106) (Int32.toNatClampNeg a1)) - 1)], [])) rfl (E_X9_in a3 0 (((h.2.1 106) (Int32.toNatClampNeg a1)) - 1) h) ?_
      refine Ev.br (b := decide ((M_X9_in a3 0 (((h.2.1 106) (Int32.toNatClampNeg a1)) - 1)) = 0)) rfl (fun c6 => ?_) (fun c6 => ?_)
      · have c6 := of_decide_eq_true c6
        rw [if_pos c6] at hM
        refine Ev.steps (B := (48, [(0, .ref 75), (1, .int a1), (2, .int a2), (3, .int a3)], [.int 2], h)) 1 rfl ?_
        obtain rfl := am_s1 hM
        exact Ev.ret rfl
      · have c6 := of_decide_eq_false c6
        rw [if_neg c6] at hM
        refine Ev.steps (B := (48, [(0, .ref 75), (1, .int a1), (2, .int a2), (3, .int a3)], [.int 0], h)) 2 rfl ?_
        obtain rfl := am_s1 hM
        exact Ev.ret rfl
    · have c4 := of_decide_eq_false c4
      rw [if_neg c4] at hM
      refine Ev.steps (B := (48, [(0, .ref 75), (1, .int a1), (2, .int a2), (3, .int a3)], [.int 3], h)) 2 rfl ?_
      obtain rfl := am_s1 hM
      exact Ev.ret rfl
  · have c2 := Decidable.of_not_not (of_decide_eq_false c2)
    rw [if_pos c2] at hM
    refine Ev.steps (B := (48, [(0, .ref 75), (1, .int a1), (2, .int a2), (3, .int a3)], [.int 1], h)) 2 rfl ?_
    obtain rfl := am_s1 hM
    exact Ev.ret rfl
def M_X9_keep (a1 : Int32) (a2 : Int32) (a3 : Int32) (h : AH) : Option AH :=
  bif (am_in a1 4) then
    if ((h.2.1 105) (Int32.toNatClampNeg a1)) = 0 then
      bif (am_in ((60 * a1) + a2) 240) then
        some (am_sa h 107 (upd (h.2.1 107) (Int32.toNatClampNeg ((60 * a1) + a2)) ((Int32.toInt8 a3).toInt32)))
      else none
    else
      bif (am_in a1 4) then
        if ((h.2.1 105) (Int32.toNatClampNeg a1)) = 1 then
          bif (am_in ((60 * a1) + a2) 240) then
            some (am_sa h 107 (upd (h.2.1 107) (Int32.toNatClampNeg ((60 * a1) + a2)) ((Int32.toInt16 a3).toInt32)))
          else none
        else
          bif (am_in ((60 * a1) + a2) 240) then
            some (am_sa h 107 (upd (h.2.1 107) (Int32.toNatClampNeg ((60 * a1) + a2)) a3))
          else none
      else none
  else none
set_option maxRecDepth 10000 in
theorem E_X9_keep_75 (a1 : Int32) (a2 : Int32) (a3 : Int32) (h : AH) (hR : AH) (hM : M_X9_keep a1 a2 a3 h = some hR) : Ev none mr_X9_keep (0, [(0, .ref 75), (1, .int a1), (2, .int a2), (3, .int a3)], [], h) none hR := by
  unfold M_X9_keep at hM
  refine Ev.steps (B := (15, [(0, .ref 75), (1, .int a1), (2, .int a2), (3, .int a3)], [.int a1, .ref 105, .int ((60 * a1) + a2), .ref 107], h)) 10 rfl ?_
  obtain ⟨g1, hM⟩ := am_gS hM
  refine Ev.g (B := (16, [(0, .ref 75), (1, .int a1), (2, .int a2), (3, .int a3)], [.int ((h.2.1 105) (Int32.toNatClampNeg a1)), .int ((60 * a1) + a2), .ref 107], h)) g1 rfl ?_
  refine Ev.br (b := decide (¬ ((h.2.1 105) (Int32.toNatClampNeg a1)) = 0)) rfl (fun c2 => ?_) (fun c2 => ?_)
  · have c2 := of_decide_eq_true c2
    rw [if_neg c2] at hM
    refine Ev.steps (B := (29, [(0, .ref 75), (1, .int a1), (2, .int a2), (3, .int a3)], [.int a1, .ref 105, .int ((60 * a1) + a2), .ref 107], h)) 3 rfl ?_
    obtain ⟨g3, hM⟩ := am_gS hM
    refine Ev.g (B := (30, [(0, .ref 75), (1, .int a1), (2, .int a2), (3, .int a3)], [.int ((h.2.1 105) (Int32.toNatClampNeg a1)), .int ((60 * a1) + a2), .ref 107], h)) g3 rfl ?_
    refine Ev.steps (B := (31, [(0, .ref 75), (1, .int a1), (2, .int a2), (3, .int a3)], [.int 1, .int ((h.2.1 105) (Int32.toNatClampNeg a1)), .int ((60 * a1) + a2), .ref 107], h)) 1 rfl ?_
    refine Ev.br (b := decide (¬ ((h.2.1 105) (Int32.toNatClampNeg a1)) = 1)) rfl (fun c4 => ?_) (fun c4 => ?_)
    · have c4 := of_decide_eq_true c4
      rw [if_neg c4] at hM
      refine Ev.steps (B := (40, [(0, .ref 75), (1, .int a1), (2, .int a2), (3, .int a3)], [.int a3, .int ((60 * a1) + a2), .ref 107], h)) 1 rfl ?_
      obtain ⟨g5, hM⟩ := am_gS hM
      refine Ev.g (B := (41, [(0, .ref 75), (1, .int a1), (2, .int a2), (3, .int a3)], [], (am_sa h 107 (upd (h.2.1 107) (Int32.toNatClampNeg ((60 * a1) + a2)) a3)))) g5 rfl ?_
      obtain rfl := am_s1 hM
      exact Ev.ret rfl
    · have c4 := Decidable.of_not_not (of_decide_eq_false c4)
      rw [if_pos c4] at hM
      refine Ev.steps (B := (40, [(0, .ref 75), (1, .int a1), (2, .int a2), (3, .int a3)], [.int ((Int32.toInt16 a3).toInt32), .int ((60 * a1) + a2), .ref 107], h)) 3 rfl ?_
      obtain ⟨g6, hM⟩ := am_gS hM
      refine Ev.g (B := (41, [(0, .ref 75), (1, .int a1), (2, .int a2), (3, .int a3)], [], (am_sa h 107 (upd (h.2.1 107) (Int32.toNatClampNeg ((60 * a1) + a2)) ((Int32.toInt16 a3).toInt32))))) g6 rfl ?_
      obtain rfl := am_s1 hM
      exact Ev.ret rfl
  · have c2 := Decidable.of_not_not (of_decide_eq_false c2)
    rw [if_pos c2] at hM
    refine Ev.steps (B := (40, [(0, .ref 75), (1, .int a1), (2, .int a2), (3, .int a3)], [.int ((Int32.toInt8 a3).toInt32), .int ((60 * a1) + a2), .ref 107], h)) 3 rfl ?_
    obtain ⟨g7, hM⟩ := am_gS hM
    refine Ev.g (B := (41, [(0, .ref 75), (1, .int a1), (2, .int a2), (3, .int a3)], [], (am_sa h 107 (upd (h.2.1 107) (Int32.toNatClampNeg ((60 * a1) + a2)) ((Int32.toInt8 a3).toInt32))))) g7 rfl ?_
    obtain rfl := am_s1 hM
    exact Ev.ret rfl
def M_X9_put (a1 : Int32) (a2 : Int32) (a3 : Int32) (a4 : Int32) (h : AH) : Option (Int32 × AH) :=
  if (M_X9_isSheet a1) = 0 then
    some ((-2), h)
  else
    if (M_X9_in a2 0 2) = 0 then
      some ((-2), h)
    else
      am_o (M_X9_lacks a1 a2 a3 h) fun v1 =>
      if v1 ≤ 0 then
        am_v (M_X9_keep a1 a3 a4 h) fun h2 =>
        some (1, h2)
      else
        am_b (M_X9_meets v1 h) fun v4 h3 =>
        some (v4, h3)
set_option maxRecDepth 10000 in
theorem E_X9_put_75 (a1 : Int32) (a2 : Int32) (a3 : Int32) (a4 : Int32) (h : AH) (vR : Int32) (hR : AH) (hM : M_X9_put a1 a2 a3 a4 h = some (vR, hR)) : Ev none mr_X9_put (0, [(0, .ref 75), (1, .int a1), (2, .int a2), (3, .int a3), (4, .int a4)], [], h) (some (.int vR)) hR := by
  unfold M_X9_put at hM
  refine Ev.steps (B := (1, [(0, .ref 75), (1, .int a1), (2, .int a2), (3, .int a3), (4, .int a4)], [.int a1], h)) 1 rfl ?_
  refine Ev.call (q := (mr_X9_isSheet, [.int a1], [])) rfl (E_X9_isSheet a1 h) ?_
  refine Ev.br (b := decide ((M_X9_isSheet a1) = 0)) rfl (fun c1 => ?_) (fun c1 => ?_)
  · have c1 := of_decide_eq_true c1
    rw [if_pos c1] at hM
    refine Ev.steps (B := (18, [(0, .ref 75), (1, .int a1), (2, .int a2), (3, .int a3), (4, .int a4)], [.int (-2)], h)) 1 rfl ?_
    obtain ⟨rfl, rfl⟩ := am_sp hM
    exact Ev.ret rfl
  · have c1 := of_decide_eq_false c1
    rw [if_neg c1] at hM
    refine Ev.steps (B := (10, [(0, .ref 75), (1, .int a1), (2, .int a2), (3, .int a3), (4, .int a4)], [.int 2, .int 0, .int a2], h)) 3 rfl ?_
    refine Ev.call (q := (mr_X9_in, [.int a2, .int 0, .int 2], [])) rfl (E_X9_in a2 0 2 h) ?_
    refine Ev.br (b := decide (¬ (M_X9_in a2 0 2) = 0)) rfl (fun c2 => ?_) (fun c2 => ?_)
    · have c2 := of_decide_eq_true c2
      rw [if_neg c2] at hM
      refine Ev.steps (B := (23, [(0, .ref 75), (1, .int a1), (2, .int a2), (3, .int a3), (4, .int a4)], [.int a3, .int a2, .int a1, .ref 75], h)) 4 rfl ?_
      obtain ⟨v1, e3, hM⟩ := am_oS hM
      refine Ev.call (q := (mr_X9_lacks, [.ref 75, .int a1, .int a2, .int a3], [])) rfl (E_X9_lacks_75 a1 a2 a3 h v1 e3) ?_
      refine Ev.steps (B := (30, [(5, .int v1), (0, .ref 75), (1, .int a1), (2, .int a2), (3, .int a3), (4, .int a4)], [.int v1], h)) 2 rfl ?_
      refine Ev.br (b := decide (v1 ≤ 0)) rfl (fun c4 => ?_) (fun c4 => ?_)
      · have c4 := of_decide_eq_true c4
        rw [if_pos c4] at hM
        refine Ev.steps (B := (45, [(5, .int v1), (0, .ref 75), (1, .int a1), (2, .int a2), (3, .int a3), (4, .int a4)], [.int a4, .int a3, .int a1, .ref 75], h)) 4 rfl ?_
        obtain ⟨h2, e5, hM⟩ := am_vS hM
        refine Ev.call (q := (mr_X9_keep, [.ref 75, .int a1, .int a3, .int a4], [])) rfl (E_X9_keep_75 a1 a3 a4 h h2 e5) ?_
        refine Ev.steps (B := (49, [(5, .int v1), (0, .ref 75), (1, .int a1), (2, .int a2), (3, .int a3), (4, .int a4)], [.int 1], h2)) 1 rfl ?_
        obtain ⟨rfl, rfl⟩ := am_sp hM
        exact Ev.ret rfl
      · have c4 := of_decide_eq_false c4
        rw [if_neg c4] at hM
        refine Ev.steps (B := (36, [(5, .int v1), (0, .ref 75), (1, .int a1), (2, .int a2), (3, .int a3), (4, .int a4)], [.int v1, .ref 75], h)) 2 rfl ?_
        obtain ⟨v4, h3, e6, hM⟩ := am_bS hM
        refine Ev.call (q := (mr_X9_meets, [.ref 75, .int v1], [])) rfl (E_X9_meets_75 v1 h v4 h3 e6) ?_
        obtain ⟨rfl, rfl⟩ := am_sp hM
        exact Ev.ret rfl
    · have c2 := Decidable.of_not_not (of_decide_eq_false c2)
      rw [if_pos c2] at hM
      refine Ev.steps (B := (18, [(0, .ref 75), (1, .int a1), (2, .int a2), (3, .int a3), (4, .int a4)], [.int (-2)], h)) 1 rfl ?_
      obtain ⟨rfl, rfl⟩ := am_sp hM
      exact Ev.ret rfl
def B_X8_get_7 (x2 : Int32) (x3 : Int32) (q4 : Nat) (h : AH) : Option (Int32 × AH) :=
  if (M_X8_within x2 2) = 0 then
    some ((-2147483648), h)
  else
    if (M_X5_faultOf q4 x2 x3 h) = 0 then
      am_o (M_X5_item q4 x3 h) fun v1 =>
      some (v1, h)
    else
      some ((-2147483648), (am_sf h 0 12 (M_X5_faultOf q4 x2 x3 h)))
set_option maxRecDepth 10000 in
theorem E_B_X8_get_7_67 (vR : Int32) (hR : AH) (x2 : Int32) (x3 : Int32) (h : AH) (hM : B_X8_get_7 x2 x3 67 h = some (vR, hR)) : Ev none mr_X8_get (7, [(0, .ref 0), (2, .int x2), (3, .int x3), (4, .ref 67)], [], h) (some (.int vR)) hR := by
  unfold B_X8_get_7 at hM
  refine Ev.steps (B := (14, [(0, .ref 0), (2, .int x2), (3, .int x3), (4, .ref 67)], [.int 2, .int x2], h)) 4 rfl ?_
  refine Ev.call (q := (mr_X8_within, [.int x2, .int 2], [])) rfl (E_X8_within x2 2 h) ?_
  refine Ev.br (b := decide (¬ (M_X8_within x2 2) = 0)) rfl (fun c1 => ?_) (fun c1 => ?_)
  · have c1 := of_decide_eq_true c1
    rw [if_neg c1] at hM
    refine Ev.steps (B := (28, [(0, .ref 0), (2, .int x2), (3, .int x3), (4, .ref 67)], [.int x3, .int x2, .ref 67], h)) 3 rfl ?_
    refine Ev.call (q := (mr_X5_faultOf, [.ref 67, .int x2, .int x3], [])) rfl (E_X5_faultOf_67 x2 x3 h) ?_
    refine Ev.steps (B := (35, [(5, .int (M_X5_faultOf 67 x2 x3 h)), (0, .ref 0), (2, .int x2), (3, .int x3), (4, .ref 67)], [.int (M_X5_faultOf 67 x2 x3 h)], h)) 2 rfl ?_
    refine Ev.br (b := decide ((M_X5_faultOf 67 x2 x3 h) = 0)) rfl (fun c2 => ?_) (fun c2 => ?_)
    · have c2 := of_decide_eq_true c2
      rw [if_pos c2] at hM
      refine Ev.steps (B := (51, [(5, .int (M_X5_faultOf 67 x2 x3 h)), (0, .ref 0), (2, .int x2), (3, .int x3), (4, .ref 67)], [.int x3, .ref 67], h)) 2 rfl ?_
      obtain ⟨v1, e3, hM⟩ := am_oS hM
      refine Ev.call (q := (mr_X5_item, [.ref 67, .int x3], [])) rfl (E_X5_item_67 x3 h v1 e3) ?_
      obtain ⟨rfl, rfl⟩ := am_sp hM
      exact Ev.ret rfl
    · have c2 := of_decide_eq_false c2
      rw [if_neg c2] at hM
      refine Ev.steps (B := (47, [(5, .int (M_X5_faultOf 67 x2 x3 h)), (0, .ref 0), (2, .int x2), (3, .int x3), (4, .ref 67)], [.int (-2147483648)], (am_sf h 0 12 (M_X5_faultOf 67 x2 x3 h)))) 4 rfl ?_
      obtain ⟨rfl, rfl⟩ := am_sp hM
      exact Ev.ret rfl
  · have c1 := Decidable.of_not_not (of_decide_eq_false c1)
    rw [if_pos c1] at hM
    refine Ev.steps (B := (23, [(0, .ref 0), (2, .int x2), (3, .int x3), (4, .ref 67)], [.int (-2147483648)], h)) 1 rfl ?_
    obtain ⟨rfl, rfl⟩ := am_sp hM
    exact Ev.ret rfl
set_option maxRecDepth 10000 in
theorem E_B_X8_get_7_69 (vR : Int32) (hR : AH) (x2 : Int32) (x3 : Int32) (h : AH) (hM : B_X8_get_7 x2 x3 69 h = some (vR, hR)) : Ev none mr_X8_get (7, [(0, .ref 0), (2, .int x2), (3, .int x3), (4, .ref 69)], [], h) (some (.int vR)) hR := by
  unfold B_X8_get_7 at hM
  refine Ev.steps (B := (14, [(0, .ref 0), (2, .int x2), (3, .int x3), (4, .ref 69)], [.int 2, .int x2], h)) 4 rfl ?_
  refine Ev.call (q := (mr_X8_within, [.int x2, .int 2], [])) rfl (E_X8_within x2 2 h) ?_
  refine Ev.br (b := decide (¬ (M_X8_within x2 2) = 0)) rfl (fun c1 => ?_) (fun c1 => ?_)
  · have c1 := of_decide_eq_true c1
    rw [if_neg c1] at hM
    refine Ev.steps (B := (28, [(0, .ref 0), (2, .int x2), (3, .int x3), (4, .ref 69)], [.int x3, .int x2, .ref 69], h)) 3 rfl ?_
    refine Ev.call (q := (mr_X5_faultOf, [.ref 69, .int x2, .int x3], [])) rfl (E_X5_faultOf_69 x2 x3 h) ?_
    refine Ev.steps (B := (35, [(5, .int (M_X5_faultOf 69 x2 x3 h)), (0, .ref 0), (2, .int x2), (3, .int x3), (4, .ref 69)], [.int (M_X5_faultOf 69 x2 x3 h)], h)) 2 rfl ?_
    refine Ev.br (b := decide ((M_X5_faultOf 69 x2 x3 h) = 0)) rfl (fun c2 => ?_) (fun c2 => ?_)
    · have c2 := of_decide_eq_true c2
      rw [if_pos c2] at hM
      refine Ev.steps (B := (51, [(5, .int (M_X5_faultOf 69 x2 x3 h)), (0, .ref 0), (2, .int x2), (3, .int x3), (4, .ref 69)], [.int x3, .ref 69], h)) 2 rfl ?_
      obtain ⟨v1, e3, hM⟩ := am_oS hM
      refine Ev.call (q := (mr_X5_item, [.ref 69, .int x3], [])) rfl (E_X5_item_69 x3 h v1 e3) ?_
      obtain ⟨rfl, rfl⟩ := am_sp hM
      exact Ev.ret rfl
    · have c2 := of_decide_eq_false c2
      rw [if_neg c2] at hM
      refine Ev.steps (B := (47, [(5, .int (M_X5_faultOf 69 x2 x3 h)), (0, .ref 0), (2, .int x2), (3, .int x3), (4, .ref 69)], [.int (-2147483648)], (am_sf h 0 12 (M_X5_faultOf 69 x2 x3 h)))) 4 rfl ?_
      obtain ⟨rfl, rfl⟩ := am_sp hM
      exact Ev.ret rfl
  · have c1 := Decidable.of_not_not (of_decide_eq_false c1)
    rw [if_pos c1] at hM
    refine Ev.steps (B := (23, [(0, .ref 0), (2, .int x2), (3, .int x3), (4, .ref 69)], [.int (-2147483648)], h)) 1 rfl ?_
    obtain ⟨rfl, rfl⟩ := am_sp hM
    exact Ev.ret rfl
set_option maxRecDepth 10000 in
theorem E_B_X8_get_7_71 (vR : Int32) (hR : AH) (x2 : Int32) (x3 : Int32) (h : AH) (hM : B_X8_get_7 x2 x3 71 h = some (vR, hR)) : Ev none mr_X8_get (7, [(0, .ref 0), (2, .int x2), (3, .int x3), (4, .ref 71)], [], h) (some (.int vR)) hR := by
  unfold B_X8_get_7 at hM
  refine Ev.steps (B := (14, [(0, .ref 0), (2, .int x2), (3, .int x3), (4, .ref 71)], [.int 2, .int x2], h)) 4 rfl ?_
  refine Ev.call (q := (mr_X8_within, [.int x2, .int 2], [])) rfl (E_X8_within x2 2 h) ?_
  refine Ev.br (b := decide (¬ (M_X8_within x2 2) = 0)) rfl (fun c1 => ?_) (fun c1 => ?_)
  · have c1 := of_decide_eq_true c1
    rw [if_neg c1] at hM
    refine Ev.steps (B := (28, [(0, .ref 0), (2, .int x2), (3, .int x3), (4, .ref 71)], [.int x3, .int x2, .ref 71], h)) 3 rfl ?_
    refine Ev.call (q := (mr_X5_faultOf, [.ref 71, .int x2, .int x3], [])) rfl (E_X5_faultOf_71 x2 x3 h) ?_
    refine Ev.steps (B := (35, [(5, .int (M_X5_faultOf 71 x2 x3 h)), (0, .ref 0), (2, .int x2), (3, .int x3), (4, .ref 71)], [.int (M_X5_faultOf 71 x2 x3 h)], h)) 2 rfl ?_
    refine Ev.br (b := decide ((M_X5_faultOf 71 x2 x3 h) = 0)) rfl (fun c2 => ?_) (fun c2 => ?_)
    · have c2 := of_decide_eq_true c2
      rw [if_pos c2] at hM
      refine Ev.steps (B := (51, [(5, .int (M_X5_faultOf 71 x2 x3 h)), (0, .ref 0), (2, .int x2), (3, .int x3), (4, .ref 71)], [.int x3, .ref 71], h)) 2 rfl ?_
      obtain ⟨v1, e3, hM⟩ := am_oS hM
      refine Ev.call (q := (mr_X5_item, [.ref 71, .int x3], [])) rfl (E_X5_item_71 x3 h v1 e3) ?_
      obtain ⟨rfl, rfl⟩ := am_sp hM
      exact Ev.ret rfl
    · have c2 := of_decide_eq_false c2
      rw [if_neg c2] at hM
      refine Ev.steps (B := (47, [(5, .int (M_X5_faultOf 71 x2 x3 h)), (0, .ref 0), (2, .int x2), (3, .int x3), (4, .ref 71)], [.int (-2147483648)], (am_sf h 0 12 (M_X5_faultOf 71 x2 x3 h)))) 4 rfl ?_
      obtain ⟨rfl, rfl⟩ := am_sp hM
      exact Ev.ret rfl
  · have c1 := Decidable.of_not_not (of_decide_eq_false c1)
    rw [if_pos c1] at hM
    refine Ev.steps (B := (23, [(0, .ref 0), (2, .int x2), (3, .int x3), (4, .ref 71)], [.int (-2147483648)], h)) 1 rfl ?_
    obtain ⟨rfl, rfl⟩ := am_sp hM
    exact Ev.ret rfl
set_option maxRecDepth 10000 in
theorem E_B_X8_get_7_73 (vR : Int32) (hR : AH) (x2 : Int32) (x3 : Int32) (h : AH) (hM : B_X8_get_7 x2 x3 73 h = some (vR, hR)) : Ev none mr_X8_get (7, [(0, .ref 0), (2, .int x2), (3, .int x3), (4, .ref 73)], [], h) (some (.int vR)) hR := by
  unfold B_X8_get_7 at hM
  refine Ev.steps (B := (14, [(0, .ref 0), (2, .int x2), (3, .int x3), (4, .ref 73)], [.int 2, .int x2], h)) 4 rfl ?_
  refine Ev.call (q := (mr_X8_within, [.int x2, .int 2], [])) rfl (E_X8_within x2 2 h) ?_
  refine Ev.br (b := decide (¬ (M_X8_within x2 2) = 0)) rfl (fun c1 => ?_) (fun c1 => ?_)
  · have c1 := of_decide_eq_true c1
    rw [if_neg c1] at hM
    refine Ev.steps (B := (28, [(0, .ref 0), (2, .int x2), (3, .int x3), (4, .ref 73)], [.int x3, .int x2, .ref 73], h)) 3 rfl ?_
    refine Ev.call (q := (mr_X5_faultOf, [.ref 73, .int x2, .int x3], [])) rfl (E_X5_faultOf_73 x2 x3 h) ?_
    refine Ev.steps (B := (35, [(5, .int (M_X5_faultOf 73 x2 x3 h)), (0, .ref 0), (2, .int x2), (3, .int x3), (4, .ref 73)], [.int (M_X5_faultOf 73 x2 x3 h)], h)) 2 rfl ?_
    refine Ev.br (b := decide ((M_X5_faultOf 73 x2 x3 h) = 0)) rfl (fun c2 => ?_) (fun c2 => ?_)
    · have c2 := of_decide_eq_true c2
      rw [if_pos c2] at hM
      refine Ev.steps (B := (51, [(5, .int (M_X5_faultOf 73 x2 x3 h)), (0, .ref 0), (2, .int x2), (3, .int x3), (4, .ref 73)], [.int x3, .ref 73], h)) 2 rfl ?_
      obtain ⟨v1, e3, hM⟩ := am_oS hM
      refine Ev.call (q := (mr_X5_item, [.ref 73, .int x3], [])) rfl (E_X5_item_73 x3 h v1 e3) ?_
      obtain ⟨rfl, rfl⟩ := am_sp hM
      exact Ev.ret rfl
    · have c2 := of_decide_eq_false c2
      rw [if_neg c2] at hM
      refine Ev.steps (B := (47, [(5, .int (M_X5_faultOf 73 x2 x3 h)), (0, .ref 0), (2, .int x2), (3, .int x3), (4, .ref 73)], [.int (-2147483648)], (am_sf h 0 12 (M_X5_faultOf 73 x2 x3 h)))) 4 rfl ?_
      obtain ⟨rfl, rfl⟩ := am_sp hM
      exact Ev.ret rfl
  · have c1 := Decidable.of_not_not (of_decide_eq_false c1)
    rw [if_pos c1] at hM
    refine Ev.steps (B := (23, [(0, .ref 0), (2, .int x2), (3, .int x3), (4, .ref 73)], [.int (-2147483648)], h)) 1 rfl ?_
    obtain ⟨rfl, rfl⟩ := am_sp hM
    exact Ev.ret rfl
def M_X8_get (a1 : Int32) (a2 : Int32) (a3 : Int32) (h : AH) : Option (Int32 × AH) :=
  if a1 = 0 then
    B_X8_get_7 a2 a3 67 h
  else
  if a1 = 1 then
    B_X8_get_7 a2 a3 69 h
  else
  if a1 = 2 then
    B_X8_get_7 a2 a3 71 h
  else
  if a1 = 3 then
    B_X8_get_7 a2 a3 73 h
  else
    some ((-2147483648), h)
set_option maxRecDepth 10000 in
theorem E_X8_get_0 (a1 : Int32) (a2 : Int32) (a3 : Int32) (h : AH) (vR : Int32) (hR : AH) (hM : M_X8_get a1 a2 a3 h = some (vR, hR)) : Ev none mr_X8_get (0, [(0, .ref 0), (1, .int a1), (2, .int a2), (3, .int a3)], [], h) (some (.int vR)) hR := by
  unfold M_X8_get at hM
  refine Ev.steps (B := (2, [(0, .ref 0), (1, .int a1), (2, .int a2), (3, .int a3)], [.int a1, .ref 0], h)) 2 rfl ?_
  by_cases c1 : a1 = 0
  · rw [if_pos c1] at hM
    refine Ev.call (q := (mr_X8_sheetAt, [.ref 0, .int a1], [])) rfl (E_X8_sheetAt_67 a1 h c1) ?_
    refine Ev.steps (B := (7, [(4, .ref 67), (0, .ref 0), (1, .int a1), (2, .int a2), (3, .int a3)], [], h)) 1 rfl ?_
    refine Ev.lv (lv := [(0, .ref 0), (2, .int a2), (3, .int a3), (4, .ref 67)]) ⟨rfl, rfl, rfl, rfl, trivial⟩ rfl rfl ?_
    exact E_B_X8_get_7_67 vR hR a2 a3 h hM
  · rw [if_neg c1] at hM
    by_cases c2 : a1 = 1
    · rw [if_pos c2] at hM
      refine Ev.call (q := (mr_X8_sheetAt, [.ref 0, .int a1], [])) rfl (E_X8_sheetAt_69 a1 h c2) ?_
      refine Ev.steps (B := (7, [(4, .ref 69), (0, .ref 0), (1, .int a1), (2, .int a2), (3, .int a3)], [], h)) 1 rfl ?_
      refine Ev.lv (lv := [(0, .ref 0), (2, .int a2), (3, .int a3), (4, .ref 69)]) ⟨rfl, rfl, rfl, rfl, trivial⟩ rfl rfl ?_
      exact E_B_X8_get_7_69 vR hR a2 a3 h hM
    · rw [if_neg c2] at hM
      by_cases c3 : a1 = 2
      · rw [if_pos c3] at hM
        refine Ev.call (q := (mr_X8_sheetAt, [.ref 0, .int a1], [])) rfl (E_X8_sheetAt_71 a1 h c3) ?_
        refine Ev.steps (B := (7, [(4, .ref 71), (0, .ref 0), (1, .int a1), (2, .int a2), (3, .int a3)], [], h)) 1 rfl ?_
        refine Ev.lv (lv := [(0, .ref 0), (2, .int a2), (3, .int a3), (4, .ref 71)]) ⟨rfl, rfl, rfl, rfl, trivial⟩ rfl rfl ?_
        exact E_B_X8_get_7_71 vR hR a2 a3 h hM
      · rw [if_neg c3] at hM
        by_cases c4 : a1 = 3
        · rw [if_pos c4] at hM
          refine Ev.call (q := (mr_X8_sheetAt, [.ref 0, .int a1], [])) rfl (E_X8_sheetAt_73 a1 h c4) ?_
          refine Ev.steps (B := (7, [(4, .ref 73), (0, .ref 0), (1, .int a1), (2, .int a2), (3, .int a3)], [], h)) 1 rfl ?_
          refine Ev.lv (lv := [(0, .ref 0), (2, .int a2), (3, .int a3), (4, .ref 73)]) ⟨rfl, rfl, rfl, rfl, trivial⟩ rfl rfl ?_
          exact E_B_X8_get_7_73 vR hR a2 a3 h hM
        · rw [if_neg c4] at hM
          refine Ev.call (q := (mr_X8_sheetAt, [.ref 0, .int a1], [])) rfl (E_X8_sheetAt_d a1 h c1 c2 c3 c4) ?_
          refine Ev.steps (B := (23, [(4, .null), (0, .ref 0), (1, .int a1), (2, .int a2), (3, .int a3)], [.int (-2147483648)], h)) 4 rfl ?_
          obtain ⟨rfl, rfl⟩ := am_sp hM
          exact Ev.ret rfl
def M_X9_get (a1 : Int32) (a2 : Int32) (a3 : Int32) (h : AH) : Option (Int32 × AH) :=
  if (M_X9_isSheet a1) = 0 then
    some ((-2147483648), h)
  else
    if (M_X9_in a2 0 2) = 0 then
      some ((-2147483648), h)
    else
      am_o (M_X9_lacks a1 a2 a3 h) fun v1 =>
      if v1 ≤ 0 then
        bif (am_in ((60 * a1) + a3) 240) then
          some (((h.2.1 107) (Int32.toNatClampNeg ((60 * a1) + a3))), h)
        else none
      else
        some ((-2147483648), (am_sf h 75 52 v1))
set_option maxRecDepth 10000 in
theorem E_X9_get_75 (a1 : Int32) (a2 : Int32) (a3 : Int32) (h : AH) (vR : Int32) (hR : AH) (hM : M_X9_get a1 a2 a3 h = some (vR, hR)) : Ev none mr_X9_get (0, [(0, .ref 75), (1, .int a1), (2, .int a2), (3, .int a3)], [], h) (some (.int vR)) hR := by
  unfold M_X9_get at hM
  refine Ev.steps (B := (1, [(0, .ref 75), (1, .int a1), (2, .int a2), (3, .int a3)], [.int a1], h)) 1 rfl ?_
  refine Ev.call (q := (mr_X9_isSheet, [.int a1], [])) rfl (E_X9_isSheet a1 h) ?_
  refine Ev.br (b := decide ((M_X9_isSheet a1) = 0)) rfl (fun c1 => ?_) (fun c1 => ?_)
  · have c1 := of_decide_eq_true c1
    rw [if_pos c1] at hM
    refine Ev.steps (B := (19, [(0, .ref 75), (1, .int a1), (2, .int a2), (3, .int a3)], [.int (-2147483648)], h)) 1 rfl ?_
    obtain ⟨rfl, rfl⟩ := am_sp hM
    exact Ev.ret rfl
  · have c1 := of_decide_eq_false c1
    rw [if_neg c1] at hM
    refine Ev.steps (B := (10, [(0, .ref 75), (1, .int a1), (2, .int a2), (3, .int a3)], [.int 2, .int 0, .int a2], h)) 3 rfl ?_
    refine Ev.call (q := (mr_X9_in, [.int a2, .int 0, .int 2], [])) rfl (E_X9_in a2 0 2 h) ?_
    refine Ev.br (b := decide (¬ (M_X9_in a2 0 2) = 0)) rfl (fun c2 => ?_) (fun c2 => ?_)
    · have c2 := of_decide_eq_true c2
      rw [if_neg c2] at hM
      refine Ev.steps (B := (24, [(0, .ref 75), (1, .int a1), (2, .int a2), (3, .int a3)], [.int a3, .int a2, .int a1, .ref 75], h)) 4 rfl ?_
      obtain ⟨v1, e3, hM⟩ := am_oS hM
      refine Ev.call (q := (mr_X9_lacks, [.ref 75, .int a1, .int a2, .int a3], [])) rfl (E_X9_lacks_75 a1 a2 a3 h v1 e3) ?_
      refine Ev.steps (B := (31, [(4, .int v1), (0, .ref 75), (1, .int a1), (2, .int a2), (3, .int a3)], [.int v1], h)) 2 rfl ?_
      refine Ev.br (b := decide (v1 ≤ 0)) rfl (fun c4 => ?_) (fun c4 => ?_)
      · have c4 := of_decide_eq_true c4
        rw [if_pos c4] at hM
        refine Ev.steps (B := (54, [(4, .int v1), (0, .ref 75), (1, .int a1), (2, .int a2), (3, .int a3)], [.int ((60 * a1) + a3), .ref 107], h)) 7 rfl ?_
        obtain ⟨g5, hM⟩ := am_gS hM
        refine Ev.g (B := (55, [(4, .int v1), (0, .ref 75), (1, .int a1), (2, .int a2), (3, .int a3)], [.int ((h.2.1 107) (Int32.toNatClampNeg ((60 * a1) + a3)))], h)) g5 rfl ?_
        obtain ⟨rfl, rfl⟩ := am_sp hM
        exact Ev.ret rfl
      · have c4 := of_decide_eq_false c4
        rw [if_neg c4] at hM
        refine Ev.steps (B := (43, [(4, .int v1), (0, .ref 75), (1, .int a1), (2, .int a2), (3, .int a3)], [.int (-2147483648)], (am_sf h 75 52 v1))) 4 rfl ?_
        obtain ⟨rfl, rfl⟩ := am_sp hM
        exact Ev.ret rfl
    · have c2 := Decidable.of_not_not (of_decide_eq_false c2)
      rw [if_pos c2] at hM
      refine Ev.steps (B := (19, [(0, .ref 75), (1, .int a1), (2, .int a2), (3, .int a3)], [.int (-2147483648)], h)) 1 rfl ?_
      obtain ⟨rfl, rfl⟩ := am_sp hM
      exact Ev.ret rfl
def M_X5_hasSome (r0 : Nat) (a1 : Int32) (a2 : Int32) (h : AH) : Int32 :=
  if a1 < 0 then
    0
  else
    if a2 < 0 then
      0
    else
      if ((h.1 r0 3) - a1) < a2 then
        0
      else
        1
set_option maxRecDepth 10000 in
theorem E_X5_hasSome_67 (a1 : Int32) (a2 : Int32) (h : AH) : Ev none mr_X5_hasSome (0, [(0, .ref 67), (1, .int a1), (2, .int a2)], [], h) (some (.int (M_X5_hasSome 67 a1 a2 h))) h := by
  unfold M_X5_hasSome
  refine Ev.steps (B := (1, [(0, .ref 67), (1, .int a1), (2, .int a2)], [.int a1], h)) 1 rfl ?_
  refine Ev.br (b := decide (a1 < 0)) rfl (fun c1 => ?_) (fun c1 => ?_)
  · have c1 := of_decide_eq_true c1
    rw [if_pos c1]
    refine Ev.steps (B := (23, [(0, .ref 67), (1, .int a1), (2, .int a2)], [.int 0], h)) 1 rfl ?_
    exact Ev.ret rfl
  · have c1 := of_decide_eq_false c1
    rw [if_neg c1]
    refine Ev.steps (B := (5, [(0, .ref 67), (1, .int a1), (2, .int a2)], [.int a2], h)) 1 rfl ?_
    refine Ev.br (b := decide (a2 < 0)) rfl (fun c2 => ?_) (fun c2 => ?_)
    · have c2 := of_decide_eq_true c2
      rw [if_pos c2]
      refine Ev.steps (B := (23, [(0, .ref 67), (1, .int a1), (2, .int a2)], [.int 0], h)) 1 rfl ?_
      exact Ev.ret rfl
    · have c2 := of_decide_eq_false c2
      rw [if_neg c2]
      refine Ev.steps (B := (15, [(0, .ref 67), (1, .int a1), (2, .int a2)], [.int ((h.1 67 3) - a1), .int a2], h)) 5 rfl ?_
      refine Ev.br (b := decide (((h.1 67 3) - a1) < a2)) rfl (fun c3 => ?_) (fun c3 => ?_)
      · have c3 := of_decide_eq_true c3
        rw [if_pos c3]
        refine Ev.steps (B := (23, [(0, .ref 67), (1, .int a1), (2, .int a2)], [.int 0], h)) 1 rfl ?_
        exact Ev.ret rfl
      · have c3 := of_decide_eq_false c3
        rw [if_neg c3]
        refine Ev.steps (B := (23, [(0, .ref 67), (1, .int a1), (2, .int a2)], [.int 1], h)) 2 rfl ?_
        exact Ev.ret rfl
set_option maxRecDepth 10000 in
theorem Z_X5_hasSome (r0 : Nat) (a1 : Int32) (a2 : Int32) (h : AH) : am_b01 (M_X5_hasSome r0 a1 a2 h) = true := by
  unfold M_X5_hasSome
  split
  · rfl
  · split
    · rfl
    · split
      · rfl
      · rfl
def B_X8_copy_43 (h : AH) : Option (Int32 × AH) :=
  am_b (M_X8_found 1 h) fun v2 h1 =>
  some (v2, h1)
set_option maxRecDepth 10000 in
theorem E_B_X8_copy_43 (vR : Int32) (hR : AH) (h : AH) (hM : B_X8_copy_43 h = some (vR, hR)) : Ev none mr_X8_copy (43, [(0, .ref 0)], [], h) (some (.int vR)) hR := by
  unfold B_X8_copy_43 at hM
  refine Ev.steps (B := (45, [(0, .ref 0)], [.int 1, .ref 0], h)) 2 rfl ?_
  obtain ⟨v2, h1, e1, hM⟩ := am_bS hM
  refine Ev.call (q := (mr_X8_found, [.ref 0, .int 1], [])) rfl (E_X8_found_0 1 h v2 h1 e1) ?_
  obtain ⟨rfl, rfl⟩ := am_sp hM
  exact Ev.ret rfl
def B_X8_copy_91 (h : AH) : Option (Int32 × AH) :=
  am_b (M_X8_found 2 h) fun v2 h1 =>
  some (v2, h1)
set_option maxRecDepth 10000 in
theorem E_B_X8_copy_91 (vR : Int32) (hR : AH) (h : AH) (hM : B_X8_copy_91 h = some (vR, hR)) : Ev none mr_X8_copy (91, [(0, .ref 0)], [], h) (some (.int vR)) hR := by
  unfold B_X8_copy_91 at hM
  refine Ev.steps (B := (93, [(0, .ref 0)], [.int 2, .ref 0], h)) 2 rfl ?_
  obtain ⟨v2, h1, e1, hM⟩ := am_bS hM
  refine Ev.call (q := (mr_X8_found, [.ref 0, .int 2], [])) rfl (E_X8_found_0 2 h v2 h1 e1) ?_
  obtain ⟨rfl, rfl⟩ := am_sp hM
  exact Ev.ret rfl
def B_X8_copy_14 (x2 : Int32) (x4 : Int32) (x5 : Int32) (q6 : Nat) (q7 : Nat) (h : AH) : Option (Int32 × AH) :=
  if (h.1 q6 1) = 0 then
    if (h.1 q7 1) = 0 then
      if (h.1 q6 2) = (h.1 q7 2) then
        if (M_X5_hasSome q6 x2 x5 h) = 0 then
          B_X8_copy_91 h
        else
          if (M_X5_hasSome q7 x4 x5 h) = 0 then
            B_X8_copy_91 h
          else
            bif (am_cpok x2 x4 x5 60 60) then
              some (1, (am_sa h (q7 + 1) (va_cpy (h.2.1 (q6 + 1)) (h.2.1 (q7 + 1)) (Int32.toNatClampNeg x2) (Int32.toNatClampNeg x4) (Int32.toNatClampNeg x5))))
            else none
      else
        am_b (M_X8_found 4 h) fun v2 h1 =>
        some (v2, h1)
    else
      B_X8_copy_43 h
  else
    B_X8_copy_43 h
set_option maxRecDepth 10000 in
theorem E_B_X8_copy_14_67_67 (vR : Int32) (hR : AH) (x2 : Int32) (x4 : Int32) (x5 : Int32) (h : AH) (hM : B_X8_copy_14 x2 x4 x5 67 67 h = some (vR, hR)) : Ev none mr_X8_copy (14, [(0, .ref 0), (2, .int x2), (4, .int x4), (5, .int x5), (6, .ref 67), (7, .ref 67)], [], h) (some (.int vR)) hR := by
  unfold B_X8_copy_14 at hM
  refine Ev.steps (B := (32, [(0, .ref 0), (2, .int x2), (4, .int x4), (5, .int x5), (6, .ref 67), (7, .ref 67)], [.int (h.1 67 1)], h)) 6 rfl ?_
  refine Ev.br (b := decide (¬ (h.1 67 1) = 0)) rfl (fun c1 => ?_) (fun c1 => ?_)
  · have c1 := of_decide_eq_true c1
    rw [if_neg c1] at hM
    refine Ev.lv (lv := [(0, .ref 0)]) ⟨rfl, trivial⟩ rfl rfl ?_
    exact E_B_X8_copy_43 vR hR h hM
  · have c1 := Decidable.of_not_not (of_decide_eq_false c1)
    rw [if_pos c1] at hM
    refine Ev.steps (B := (40, [(0, .ref 0), (2, .int x2), (4, .int x4), (5, .int x5), (6, .ref 67), (7, .ref 67)], [.int (h.1 67 1)], h)) 2 rfl ?_
    refine Ev.br (b := decide ((h.1 67 1) = 0)) rfl (fun c2 => ?_) (fun c2 => ?_)
    · have c2 := of_decide_eq_true c2
      rw [if_pos c2] at hM
      refine Ev.steps (B := (59, [(0, .ref 0), (2, .int x2), (4, .int x4), (5, .int x5), (6, .ref 67), (7, .ref 67)], [.int (h.1 67 2), .int (h.1 67 2)], h)) 4 rfl ?_
      refine Ev.br (b := decide ((h.1 67 2) = (h.1 67 2))) rfl (fun c3 => ?_) (fun c3 => ?_)
      · have c3 := of_decide_eq_true c3
        rw [if_pos c3] at hM
        refine Ev.steps (B := (73, [(0, .ref 0), (2, .int x2), (4, .int x4), (5, .int x5), (6, .ref 67), (7, .ref 67)], [.int x5, .int x2, .ref 67], h)) 3 rfl ?_
        refine Ev.call (q := (mr_X5_hasSome, [.ref 67, .int x2, .int x5], [])) rfl (E_X5_hasSome_67 x2 x5 h) ?_
        refine Ev.br (b := decide ((M_X5_hasSome 67 x2 x5 h) = 0)) rfl (fun c4 => ?_) (fun c4 => ?_)
        · have c4 := of_decide_eq_true c4
          rw [if_pos c4] at hM
          refine Ev.lv (lv := [(0, .ref 0)]) ⟨rfl, trivial⟩ rfl rfl ?_
          exact E_B_X8_copy_91 vR hR h hM
        · have c4 := of_decide_eq_false c4
          rw [if_neg c4] at hM
          refine Ev.steps (B := (85, [(0, .ref 0), (2, .int x2), (4, .int x4), (5, .int x5), (6, .ref 67), (7, .ref 67)], [.int x5, .int x4, .ref 67], h)) 3 rfl ?_
          refine Ev.call (q := (mr_X5_hasSome, [.ref 67, .int x4, .int x5], [])) rfl (E_X5_hasSome_67 x4 x5 h) ?_
          refine Ev.br (b := decide (¬ (M_X5_hasSome 67 x4 x5 h) = 0)) rfl (fun c5 => ?_) (fun c5 => ?_)
          · have c5 := of_decide_eq_true c5
            rw [if_neg c5] at hM
            refine Ev.steps (B := (112, [(0, .ref 0), (2, .int x2), (4, .int x4), (5, .int x5), (6, .ref 67), (7, .ref 67)], [.int x5, .int x4, .ref (67 + 1), .int x2, .ref (67 + 1)], h)) 7 rfl ?_
            obtain ⟨g6, hM⟩ := am_gS hM
            refine Ev.g (B := (115, [(0, .ref 0), (2, .int x2), (4, .int x4), (5, .int x5), (6, .ref 67), (7, .ref 67)], [], (am_sa h (67 + 1) (va_cpy (h.2.1 (67 + 1)) (h.2.1 (67 + 1)) (Int32.toNatClampNeg x2) (Int32.toNatClampNeg x4) (Int32.toNatClampNeg x5))))) g6 rfl ?_
            refine Ev.steps (B := (116, [(0, .ref 0), (2, .int x2), (4, .int x4), (5, .int x5), (6, .ref 67), (7, .ref 67)], [.int 1], (am_sa h (67 + 1) (va_cpy (h.2.1 (67 + 1)) (h.2.1 (67 + 1)) (Int32.toNatClampNeg x2) (Int32.toNatClampNeg x4) (Int32.toNatClampNeg x5))))) 1 rfl ?_
            obtain ⟨rfl, rfl⟩ := am_sp hM
            exact Ev.ret rfl
          · have c5 := Decidable.of_not_not (of_decide_eq_false c5)
            rw [if_pos c5] at hM
            refine Ev.lv (lv := [(0, .ref 0)]) ⟨rfl, trivial⟩ rfl rfl ?_
            exact E_B_X8_copy_91 vR hR h hM
      · have c3 := of_decide_eq_false c3
        rw [if_neg c3] at hM
        refine Ev.steps (B := (64, [(0, .ref 0), (2, .int x2), (4, .int x4), (5, .int x5), (6, .ref 67), (7, .ref 67)], [.int 4, .ref 0], h)) 2 rfl ?_
        obtain ⟨v2, h1, e7, hM⟩ := am_bS hM
        refine Ev.call (q := (mr_X8_found, [.ref 0, .int 4], [])) rfl (E_X8_found_0 4 h v2 h1 e7) ?_
        obtain ⟨rfl, rfl⟩ := am_sp hM
        exact Ev.ret rfl
    · have c2 := of_decide_eq_false c2
      rw [if_neg c2] at hM
      refine Ev.lv (lv := [(0, .ref 0)]) ⟨rfl, trivial⟩ rfl rfl ?_
      exact E_B_X8_copy_43 vR hR h hM
set_option maxRecDepth 10000 in
theorem E_X5_hasSome_69 (a1 : Int32) (a2 : Int32) (h : AH) : Ev none mr_X5_hasSome (0, [(0, .ref 69), (1, .int a1), (2, .int a2)], [], h) (some (.int (M_X5_hasSome 69 a1 a2 h))) h := by
  unfold M_X5_hasSome
  refine Ev.steps (B := (1, [(0, .ref 69), (1, .int a1), (2, .int a2)], [.int a1], h)) 1 rfl ?_
  refine Ev.br (b := decide (a1 < 0)) rfl (fun c1 => ?_) (fun c1 => ?_)
  · have c1 := of_decide_eq_true c1
    rw [if_pos c1]
    refine Ev.steps (B := (23, [(0, .ref 69), (1, .int a1), (2, .int a2)], [.int 0], h)) 1 rfl ?_
    exact Ev.ret rfl
  · have c1 := of_decide_eq_false c1
    rw [if_neg c1]
    refine Ev.steps (B := (5, [(0, .ref 69), (1, .int a1), (2, .int a2)], [.int a2], h)) 1 rfl ?_
    refine Ev.br (b := decide (a2 < 0)) rfl (fun c2 => ?_) (fun c2 => ?_)
    · have c2 := of_decide_eq_true c2
      rw [if_pos c2]
      refine Ev.steps (B := (23, [(0, .ref 69), (1, .int a1), (2, .int a2)], [.int 0], h)) 1 rfl ?_
      exact Ev.ret rfl
    · have c2 := of_decide_eq_false c2
      rw [if_neg c2]
      refine Ev.steps (B := (15, [(0, .ref 69), (1, .int a1), (2, .int a2)], [.int ((h.1 69 3) - a1), .int a2], h)) 5 rfl ?_
      refine Ev.br (b := decide (((h.1 69 3) - a1) < a2)) rfl (fun c3 => ?_) (fun c3 => ?_)
      · have c3 := of_decide_eq_true c3
        rw [if_pos c3]
        refine Ev.steps (B := (23, [(0, .ref 69), (1, .int a1), (2, .int a2)], [.int 0], h)) 1 rfl ?_
        exact Ev.ret rfl
      · have c3 := of_decide_eq_false c3
        rw [if_neg c3]
        refine Ev.steps (B := (23, [(0, .ref 69), (1, .int a1), (2, .int a2)], [.int 1], h)) 2 rfl ?_
        exact Ev.ret rfl
set_option maxRecDepth 10000 in
theorem E_B_X8_copy_14_67_69 (vR : Int32) (hR : AH) (x2 : Int32) (x4 : Int32) (x5 : Int32) (h : AH) (hM : B_X8_copy_14 x2 x4 x5 67 69 h = some (vR, hR)) : Ev none mr_X8_copy (14, [(0, .ref 0), (2, .int x2), (4, .int x4), (5, .int x5), (6, .ref 67), (7, .ref 69)], [], h) (some (.int vR)) hR := by
  unfold B_X8_copy_14 at hM
  refine Ev.steps (B := (32, [(0, .ref 0), (2, .int x2), (4, .int x4), (5, .int x5), (6, .ref 67), (7, .ref 69)], [.int (h.1 67 1)], h)) 6 rfl ?_
  refine Ev.br (b := decide (¬ (h.1 67 1) = 0)) rfl (fun c1 => ?_) (fun c1 => ?_)
  · have c1 := of_decide_eq_true c1
    rw [if_neg c1] at hM
    refine Ev.lv (lv := [(0, .ref 0)]) ⟨rfl, trivial⟩ rfl rfl ?_
    exact E_B_X8_copy_43 vR hR h hM
  · have c1 := Decidable.of_not_not (of_decide_eq_false c1)
    rw [if_pos c1] at hM
    refine Ev.steps (B := (40, [(0, .ref 0), (2, .int x2), (4, .int x4), (5, .int x5), (6, .ref 67), (7, .ref 69)], [.int (h.1 69 1)], h)) 2 rfl ?_
    refine Ev.br (b := decide ((h.1 69 1) = 0)) rfl (fun c2 => ?_) (fun c2 => ?_)
    · have c2 := of_decide_eq_true c2
      rw [if_pos c2] at hM
      refine Ev.steps (B := (59, [(0, .ref 0), (2, .int x2), (4, .int x4), (5, .int x5), (6, .ref 67), (7, .ref 69)], [.int (h.1 69 2), .int (h.1 67 2)], h)) 4 rfl ?_
      refine Ev.br (b := decide ((h.1 67 2) = (h.1 69 2))) rfl (fun c3 => ?_) (fun c3 => ?_)
      · have c3 := of_decide_eq_true c3
        rw [if_pos c3] at hM
        refine Ev.steps (B := (73, [(0, .ref 0), (2, .int x2), (4, .int x4), (5, .int x5), (6, .ref 67), (7, .ref 69)], [.int x5, .int x2, .ref 67], h)) 3 rfl ?_
        refine Ev.call (q := (mr_X5_hasSome, [.ref 67, .int x2, .int x5], [])) rfl (E_X5_hasSome_67 x2 x5 h) ?_
        refine Ev.br (b := decide ((M_X5_hasSome 67 x2 x5 h) = 0)) rfl (fun c4 => ?_) (fun c4 => ?_)
        · have c4 := of_decide_eq_true c4
          rw [if_pos c4] at hM
          refine Ev.lv (lv := [(0, .ref 0)]) ⟨rfl, trivial⟩ rfl rfl ?_
          exact E_B_X8_copy_91 vR hR h hM
        · have c4 := of_decide_eq_false c4
          rw [if_neg c4] at hM
          refine Ev.steps (B := (85, [(0, .ref 0), (2, .int x2), (4, .int x4), (5, .int x5), (6, .ref 67), (7, .ref 69)], [.int x5, .int x4, .ref 69], h)) 3 rfl ?_
          refine Ev.call (q := (mr_X5_hasSome, [.ref 69, .int x4, .int x5], [])) rfl (E_X5_hasSome_69 x4 x5 h) ?_
          refine Ev.br (b := decide (¬ (M_X5_hasSome 69 x4 x5 h) = 0)) rfl (fun c5 => ?_) (fun c5 => ?_)
          · have c5 := of_decide_eq_true c5
            rw [if_neg c5] at hM
            refine Ev.steps (B := (112, [(0, .ref 0), (2, .int x2), (4, .int x4), (5, .int x5), (6, .ref 67), (7, .ref 69)], [.int x5, .int x4, .ref (69 + 1), .int x2, .ref (67 + 1)], h)) 7 rfl ?_
            obtain ⟨g6, hM⟩ := am_gS hM
            refine Ev.g (B := (115, [(0, .ref 0), (2, .int x2), (4, .int x4), (5, .int x5), (6, .ref 67), (7, .ref 69)], [], (am_sa h (69 + 1) (va_cpy (h.2.1 (67 + 1)) (h.2.1 (69 + 1)) (Int32.toNatClampNeg x2) (Int32.toNatClampNeg x4) (Int32.toNatClampNeg x5))))) g6 rfl ?_
            refine Ev.steps (B := (116, [(0, .ref 0), (2, .int x2), (4, .int x4), (5, .int x5), (6, .ref 67), (7, .ref 69)], [.int 1], (am_sa h (69 + 1) (va_cpy (h.2.1 (67 + 1)) (h.2.1 (69 + 1)) (Int32.toNatClampNeg x2) (Int32.toNatClampNeg x4) (Int32.toNatClampNeg x5))))) 1 rfl ?_
            obtain ⟨rfl, rfl⟩ := am_sp hM
            exact Ev.ret rfl
          · have c5 := Decidable.of_not_not (of_decide_eq_false c5)
            rw [if_pos c5] at hM
            refine Ev.lv (lv := [(0, .ref 0)]) ⟨rfl, trivial⟩ rfl rfl ?_
            exact E_B_X8_copy_91 vR hR h hM
      · have c3 := of_decide_eq_false c3
        rw [if_neg c3] at hM
        refine Ev.steps (B := (64, [(0, .ref 0), (2, .int x2), (4, .int x4), (5, .int x5), (6, .ref 67), (7, .ref 69)], [.int 4, .ref 0], h)) 2 rfl ?_
        obtain ⟨v2, h1, e7, hM⟩ := am_bS hM
        refine Ev.call (q := (mr_X8_found, [.ref 0, .int 4], [])) rfl (E_X8_found_0 4 h v2 h1 e7) ?_
        obtain ⟨rfl, rfl⟩ := am_sp hM
        exact Ev.ret rfl
    · have c2 := of_decide_eq_false c2
      rw [if_neg c2] at hM
      refine Ev.lv (lv := [(0, .ref 0)]) ⟨rfl, trivial⟩ rfl rfl ?_
      exact E_B_X8_copy_43 vR hR h hM
set_option maxRecDepth 10000 in
theorem E_X5_hasSome_71 (a1 : Int32) (a2 : Int32) (h : AH) : Ev none mr_X5_hasSome (0, [(0, .ref 71), (1, .int a1), (2, .int a2)], [], h) (some (.int (M_X5_hasSome 71 a1 a2 h))) h := by
  unfold M_X5_hasSome
  refine Ev.steps (B := (1, [(0, .ref 71), (1, .int a1), (2, .int a2)], [.int a1], h)) 1 rfl ?_
  refine Ev.br (b := decide (a1 < 0)) rfl (fun c1 => ?_) (fun c1 => ?_)
  · have c1 := of_decide_eq_true c1
    rw [if_pos c1]
    refine Ev.steps (B := (23, [(0, .ref 71), (1, .int a1), (2, .int a2)], [.int 0], h)) 1 rfl ?_
    exact Ev.ret rfl
  · have c1 := of_decide_eq_false c1
    rw [if_neg c1]
    refine Ev.steps (B := (5, [(0, .ref 71), (1, .int a1), (2, .int a2)], [.int a2], h)) 1 rfl ?_
    refine Ev.br (b := decide (a2 < 0)) rfl (fun c2 => ?_) (fun c2 => ?_)
    · have c2 := of_decide_eq_true c2
      rw [if_pos c2]
      refine Ev.steps (B := (23, [(0, .ref 71), (1, .int a1), (2, .int a2)], [.int 0], h)) 1 rfl ?_
      exact Ev.ret rfl
    · have c2 := of_decide_eq_false c2
      rw [if_neg c2]
      refine Ev.steps (B := (15, [(0, .ref 71), (1, .int a1), (2, .int a2)], [.int ((h.1 71 3) - a1), .int a2], h)) 5 rfl ?_
      refine Ev.br (b := decide (((h.1 71 3) - a1) < a2)) rfl (fun c3 => ?_) (fun c3 => ?_)
      · have c3 := of_decide_eq_true c3
        rw [if_pos c3]
        refine Ev.steps (B := (23, [(0, .ref 71), (1, .int a1), (2, .int a2)], [.int 0], h)) 1 rfl ?_
        exact Ev.ret rfl
      · have c3 := of_decide_eq_false c3
        rw [if_neg c3]
        refine Ev.steps (B := (23, [(0, .ref 71), (1, .int a1), (2, .int a2)], [.int 1], h)) 2 rfl ?_
        exact Ev.ret rfl
set_option maxRecDepth 10000 in
theorem E_B_X8_copy_14_67_71 (vR : Int32) (hR : AH) (x2 : Int32) (x4 : Int32) (x5 : Int32) (h : AH) (hM : B_X8_copy_14 x2 x4 x5 67 71 h = some (vR, hR)) : Ev none mr_X8_copy (14, [(0, .ref 0), (2, .int x2), (4, .int x4), (5, .int x5), (6, .ref 67), (7, .ref 71)], [], h) (some (.int vR)) hR := by
  unfold B_X8_copy_14 at hM
  refine Ev.steps (B := (32, [(0, .ref 0), (2, .int x2), (4, .int x4), (5, .int x5), (6, .ref 67), (7, .ref 71)], [.int (h.1 67 1)], h)) 6 rfl ?_
  refine Ev.br (b := decide (¬ (h.1 67 1) = 0)) rfl (fun c1 => ?_) (fun c1 => ?_)
  · have c1 := of_decide_eq_true c1
    rw [if_neg c1] at hM
    refine Ev.lv (lv := [(0, .ref 0)]) ⟨rfl, trivial⟩ rfl rfl ?_
    exact E_B_X8_copy_43 vR hR h hM
  · have c1 := Decidable.of_not_not (of_decide_eq_false c1)
    rw [if_pos c1] at hM
    refine Ev.steps (B := (40, [(0, .ref 0), (2, .int x2), (4, .int x4), (5, .int x5), (6, .ref 67), (7, .ref 71)], [.int (h.1 71 1)], h)) 2 rfl ?_
    refine Ev.br (b := decide ((h.1 71 1) = 0)) rfl (fun c2 => ?_) (fun c2 => ?_)
    · have c2 := of_decide_eq_true c2
      rw [if_pos c2] at hM
      refine Ev.steps (B := (59, [(0, .ref 0), (2, .int x2), (4, .int x4), (5, .int x5), (6, .ref 67), (7, .ref 71)], [.int (h.1 71 2), .int (h.1 67 2)], h)) 4 rfl ?_
      refine Ev.br (b := decide ((h.1 67 2) = (h.1 71 2))) rfl (fun c3 => ?_) (fun c3 => ?_)
      · have c3 := of_decide_eq_true c3
        rw [if_pos c3] at hM
        refine Ev.steps (B := (73, [(0, .ref 0), (2, .int x2), (4, .int x4), (5, .int x5), (6, .ref 67), (7, .ref 71)], [.int x5, .int x2, .ref 67], h)) 3 rfl ?_
        refine Ev.call (q := (mr_X5_hasSome, [.ref 67, .int x2, .int x5], [])) rfl (E_X5_hasSome_67 x2 x5 h) ?_
        refine Ev.br (b := decide ((M_X5_hasSome 67 x2 x5 h) = 0)) rfl (fun c4 => ?_) (fun c4 => ?_)
        · have c4 := of_decide_eq_true c4
          rw [if_pos c4] at hM
          refine Ev.lv (lv := [(0, .ref 0)]) ⟨rfl, trivial⟩ rfl rfl ?_
          exact E_B_X8_copy_91 vR hR h hM
        · have c4 := of_decide_eq_false c4
          rw [if_neg c4] at hM
          refine Ev.steps (B := (85, [(0, .ref 0), (2, .int x2), (4, .int x4), (5, .int x5), (6, .ref 67), (7, .ref 71)], [.int x5, .int x4, .ref 71], h)) 3 rfl ?_
          refine Ev.call (q := (mr_X5_hasSome, [.ref 71, .int x4, .int x5], [])) rfl (E_X5_hasSome_71 x4 x5 h) ?_
          refine Ev.br (b := decide (¬ (M_X5_hasSome 71 x4 x5 h) = 0)) rfl (fun c5 => ?_) (fun c5 => ?_)
          · have c5 := of_decide_eq_true c5
            rw [if_neg c5] at hM
            refine Ev.steps (B := (112, [(0, .ref 0), (2, .int x2), (4, .int x4), (5, .int x5), (6, .ref 67), (7, .ref 71)], [.int x5, .int x4, .ref (71 + 1), .int x2, .ref (67 + 1)], h)) 7 rfl ?_
            obtain ⟨g6, hM⟩ := am_gS hM
            refine Ev.g (B := (115, [(0, .ref 0), (2, .int x2), (4, .int x4), (5, .int x5), (6, .ref 67), (7, .ref 71)], [], (am_sa h (71 + 1) (va_cpy (h.2.1 (67 + 1)) (h.2.1 (71 + 1)) (Int32.toNatClampNeg x2) (Int32.toNatClampNeg x4) (Int32.toNatClampNeg x5))))) g6 rfl ?_
            refine Ev.steps (B := (116, [(0, .ref 0), (2, .int x2), (4, .int x4), (5, .int x5), (6, .ref 67), (7, .ref 71)], [.int 1], (am_sa h (71 + 1) (va_cpy (h.2.1 (67 + 1)) (h.2.1 (71 + 1)) (Int32.toNatClampNeg x2) (Int32.toNatClampNeg x4) (Int32.toNatClampNeg x5))))) 1 rfl ?_
            obtain ⟨rfl, rfl⟩ := am_sp hM
            exact Ev.ret rfl
          · have c5 := Decidable.of_not_not (of_decide_eq_false c5)
            rw [if_pos c5] at hM
            refine Ev.lv (lv := [(0, .ref 0)]) ⟨rfl, trivial⟩ rfl rfl ?_
            exact E_B_X8_copy_91 vR hR h hM
      · have c3 := of_decide_eq_false c3
        rw [if_neg c3] at hM
        refine Ev.steps (B := (64, [(0, .ref 0), (2, .int x2), (4, .int x4), (5, .int x5), (6, .ref 67), (7, .ref 71)], [.int 4, .ref 0], h)) 2 rfl ?_
        obtain ⟨v2, h1, e7, hM⟩ := am_bS hM
        refine Ev.call (q := (mr_X8_found, [.ref 0, .int 4], [])) rfl (E_X8_found_0 4 h v2 h1 e7) ?_
        obtain ⟨rfl, rfl⟩ := am_sp hM
        exact Ev.ret rfl
    · have c2 := of_decide_eq_false c2
      rw [if_neg c2] at hM
      refine Ev.lv (lv := [(0, .ref 0)]) ⟨rfl, trivial⟩ rfl rfl ?_
      exact E_B_X8_copy_43 vR hR h hM
set_option maxRecDepth 10000 in
theorem E_X5_hasSome_73 (a1 : Int32) (a2 : Int32) (h : AH) : Ev none mr_X5_hasSome (0, [(0, .ref 73), (1, .int a1), (2, .int a2)], [], h) (some (.int (M_X5_hasSome 73 a1 a2 h))) h := by
  unfold M_X5_hasSome
  refine Ev.steps (B := (1, [(0, .ref 73), (1, .int a1), (2, .int a2)], [.int a1], h)) 1 rfl ?_
  refine Ev.br (b := decide (a1 < 0)) rfl (fun c1 => ?_) (fun c1 => ?_)
  · have c1 := of_decide_eq_true c1
    rw [if_pos c1]
    refine Ev.steps (B := (23, [(0, .ref 73), (1, .int a1), (2, .int a2)], [.int 0], h)) 1 rfl ?_
    exact Ev.ret rfl
  · have c1 := of_decide_eq_false c1
    rw [if_neg c1]
    refine Ev.steps (B := (5, [(0, .ref 73), (1, .int a1), (2, .int a2)], [.int a2], h)) 1 rfl ?_
    refine Ev.br (b := decide (a2 < 0)) rfl (fun c2 => ?_) (fun c2 => ?_)
    · have c2 := of_decide_eq_true c2
      rw [if_pos c2]
      refine Ev.steps (B := (23, [(0, .ref 73), (1, .int a1), (2, .int a2)], [.int 0], h)) 1 rfl ?_
      exact Ev.ret rfl
    · have c2 := of_decide_eq_false c2
      rw [if_neg c2]
      refine Ev.steps (B := (15, [(0, .ref 73), (1, .int a1), (2, .int a2)], [.int ((h.1 73 3) - a1), .int a2], h)) 5 rfl ?_
      refine Ev.br (b := decide (((h.1 73 3) - a1) < a2)) rfl (fun c3 => ?_) (fun c3 => ?_)
      · have c3 := of_decide_eq_true c3
        rw [if_pos c3]
        refine Ev.steps (B := (23, [(0, .ref 73), (1, .int a1), (2, .int a2)], [.int 0], h)) 1 rfl ?_
        exact Ev.ret rfl
      · have c3 := of_decide_eq_false c3
        rw [if_neg c3]
        refine Ev.steps (B := (23, [(0, .ref 73), (1, .int a1), (2, .int a2)], [.int 1], h)) 2 rfl ?_
        exact Ev.ret rfl
set_option maxRecDepth 10000 in
theorem E_B_X8_copy_14_67_73 (vR : Int32) (hR : AH) (x2 : Int32) (x4 : Int32) (x5 : Int32) (h : AH) (hM : B_X8_copy_14 x2 x4 x5 67 73 h = some (vR, hR)) : Ev none mr_X8_copy (14, [(0, .ref 0), (2, .int x2), (4, .int x4), (5, .int x5), (6, .ref 67), (7, .ref 73)], [], h) (some (.int vR)) hR := by
  unfold B_X8_copy_14 at hM
  refine Ev.steps (B := (32, [(0, .ref 0), (2, .int x2), (4, .int x4), (5, .int x5), (6, .ref 67), (7, .ref 73)], [.int (h.1 67 1)], h)) 6 rfl ?_
  refine Ev.br (b := decide (¬ (h.1 67 1) = 0)) rfl (fun c1 => ?_) (fun c1 => ?_)
  · have c1 := of_decide_eq_true c1
    rw [if_neg c1] at hM
    refine Ev.lv (lv := [(0, .ref 0)]) ⟨rfl, trivial⟩ rfl rfl ?_
    exact E_B_X8_copy_43 vR hR h hM
  · have c1 := Decidable.of_not_not (of_decide_eq_false c1)
    rw [if_pos c1] at hM
    refine Ev.steps (B := (40, [(0, .ref 0), (2, .int x2), (4, .int x4), (5, .int x5), (6, .ref 67), (7, .ref 73)], [.int (h.1 73 1)], h)) 2 rfl ?_
    refine Ev.br (b := decide ((h.1 73 1) = 0)) rfl (fun c2 => ?_) (fun c2 => ?_)
    · have c2 := of_decide_eq_true c2
      rw [if_pos c2] at hM
      refine Ev.steps (B := (59, [(0, .ref 0), (2, .int x2), (4, .int x4), (5, .int x5), (6, .ref 67), (7, .ref 73)], [.int (h.1 73 2), .int (h.1 67 2)], h)) 4 rfl ?_
      refine Ev.br (b := decide ((h.1 67 2) = (h.1 73 2))) rfl (fun c3 => ?_) (fun c3 => ?_)
      · have c3 := of_decide_eq_true c3
        rw [if_pos c3] at hM
        refine Ev.steps (B := (73, [(0, .ref 0), (2, .int x2), (4, .int x4), (5, .int x5), (6, .ref 67), (7, .ref 73)], [.int x5, .int x2, .ref 67], h)) 3 rfl ?_
        refine Ev.call (q := (mr_X5_hasSome, [.ref 67, .int x2, .int x5], [])) rfl (E_X5_hasSome_67 x2 x5 h) ?_
        refine Ev.br (b := decide ((M_X5_hasSome 67 x2 x5 h) = 0)) rfl (fun c4 => ?_) (fun c4 => ?_)
        · have c4 := of_decide_eq_true c4
          rw [if_pos c4] at hM
          refine Ev.lv (lv := [(0, .ref 0)]) ⟨rfl, trivial⟩ rfl rfl ?_
          exact E_B_X8_copy_91 vR hR h hM
        · have c4 := of_decide_eq_false c4
          rw [if_neg c4] at hM
          refine Ev.steps (B := (85, [(0, .ref 0), (2, .int x2), (4, .int x4), (5, .int x5), (6, .ref 67), (7, .ref 73)], [.int x5, .int x4, .ref 73], h)) 3 rfl ?_
          refine Ev.call (q := (mr_X5_hasSome, [.ref 73, .int x4, .int x5], [])) rfl (E_X5_hasSome_73 x4 x5 h) ?_
          refine Ev.br (b := decide (¬ (M_X5_hasSome 73 x4 x5 h) = 0)) rfl (fun c5 => ?_) (fun c5 => ?_)
          · have c5 := of_decide_eq_true c5
            rw [if_neg c5] at hM
            refine Ev.steps (B := (112, [(0, .ref 0), (2, .int x2), (4, .int x4), (5, .int x5), (6, .ref 67), (7, .ref 73)], [.int x5, .int x4, .ref (73 + 1), .int x2, .ref (67 + 1)], h)) 7 rfl ?_
            obtain ⟨g6, hM⟩ := am_gS hM
            refine Ev.g (B := (115, [(0, .ref 0), (2, .int x2), (4, .int x4), (5, .int x5), (6, .ref 67), (7, .ref 73)], [], (am_sa h (73 + 1) (va_cpy (h.2.1 (67 + 1)) (h.2.1 (73 + 1)) (Int32.toNatClampNeg x2) (Int32.toNatClampNeg x4) (Int32.toNatClampNeg x5))))) g6 rfl ?_
            refine Ev.steps (B := (116, [(0, .ref 0), (2, .int x2), (4, .int x4), (5, .int x5), (6, .ref 67), (7, .ref 73)], [.int 1], (am_sa h (73 + 1) (va_cpy (h.2.1 (67 + 1)) (h.2.1 (73 + 1)) (Int32.toNatClampNeg x2) (Int32.toNatClampNeg x4) (Int32.toNatClampNeg x5))))) 1 rfl ?_
            obtain ⟨rfl, rfl⟩ := am_sp hM
            exact Ev.ret rfl
          · have c5 := Decidable.of_not_not (of_decide_eq_false c5)
            rw [if_pos c5] at hM
            refine Ev.lv (lv := [(0, .ref 0)]) ⟨rfl, trivial⟩ rfl rfl ?_
            exact E_B_X8_copy_91 vR hR h hM
      · have c3 := of_decide_eq_false c3
        rw [if_neg c3] at hM
        refine Ev.steps (B := (64, [(0, .ref 0), (2, .int x2), (4, .int x4), (5, .int x5), (6, .ref 67), (7, .ref 73)], [.int 4, .ref 0], h)) 2 rfl ?_
        obtain ⟨v2, h1, e7, hM⟩ := am_bS hM
        refine Ev.call (q := (mr_X8_found, [.ref 0, .int 4], [])) rfl (E_X8_found_0 4 h v2 h1 e7) ?_
        obtain ⟨rfl, rfl⟩ := am_sp hM
        exact Ev.ret rfl
    · have c2 := of_decide_eq_false c2
      rw [if_neg c2] at hM
      refine Ev.lv (lv := [(0, .ref 0)]) ⟨rfl, trivial⟩ rfl rfl ?_
      exact E_B_X8_copy_43 vR hR h hM
def B_X8_copy_7 (x2 : Int32) (x3 : Int32) (x4 : Int32) (x5 : Int32) (q6 : Nat) (h : AH) : Option (Int32 × AH) :=
  if x3 = 0 then
    B_X8_copy_14 x2 x4 x5 q6 67 h
  else
  if x3 = 1 then
    B_X8_copy_14 x2 x4 x5 q6 69 h
  else
  if x3 = 2 then
    B_X8_copy_14 x2 x4 x5 q6 71 h
  else
  if x3 = 3 then
    B_X8_copy_14 x2 x4 x5 q6 73 h
  else
    some ((-2), h)
set_option maxRecDepth 10000 in
theorem E_B_X8_copy_7_67 (vR : Int32) (hR : AH) (x2 : Int32) (x3 : Int32) (x4 : Int32) (x5 : Int32) (h : AH) (hM : B_X8_copy_7 x2 x3 x4 x5 67 h = some (vR, hR)) : Ev none mr_X8_copy (7, [(0, .ref 0), (2, .int x2), (3, .int x3), (4, .int x4), (5, .int x5), (6, .ref 67)], [], h) (some (.int vR)) hR := by
  unfold B_X8_copy_7 at hM
  refine Ev.steps (B := (9, [(0, .ref 0), (2, .int x2), (3, .int x3), (4, .int x4), (5, .int x5), (6, .ref 67)], [.int x3, .ref 0], h)) 2 rfl ?_
  by_cases c1 : x3 = 0
  · rw [if_pos c1] at hM
    refine Ev.call (q := (mr_X8_sheetAt, [.ref 0, .int x3], [])) rfl (E_X8_sheetAt_67 x3 h c1) ?_
    refine Ev.steps (B := (14, [(7, .ref 67), (0, .ref 0), (2, .int x2), (3, .int x3), (4, .int x4), (5, .int x5), (6, .ref 67)], [], h)) 1 rfl ?_
    refine Ev.lv (lv := [(0, .ref 0), (2, .int x2), (4, .int x4), (5, .int x5), (6, .ref 67), (7, .ref 67)]) ⟨rfl, rfl, rfl, rfl, rfl, rfl, trivial⟩ rfl rfl ?_
    exact E_B_X8_copy_14_67_67 vR hR x2 x4 x5 h hM
  · rw [if_neg c1] at hM
    by_cases c2 : x3 = 1
    · rw [if_pos c2] at hM
      refine Ev.call (q := (mr_X8_sheetAt, [.ref 0, .int x3], [])) rfl (E_X8_sheetAt_69 x3 h c2) ?_
      refine Ev.steps (B := (14, [(7, .ref 69), (0, .ref 0), (2, .int x2), (3, .int x3), (4, .int x4), (5, .int x5), (6, .ref 67)], [], h)) 1 rfl ?_
      refine Ev.lv (lv := [(0, .ref 0), (2, .int x2), (4, .int x4), (5, .int x5), (6, .ref 67), (7, .ref 69)]) ⟨rfl, rfl, rfl, rfl, rfl, rfl, trivial⟩ rfl rfl ?_
      exact E_B_X8_copy_14_67_69 vR hR x2 x4 x5 h hM
    · rw [if_neg c2] at hM
      by_cases c3 : x3 = 2
      · rw [if_pos c3] at hM
        refine Ev.call (q := (mr_X8_sheetAt, [.ref 0, .int x3], [])) rfl (E_X8_sheetAt_71 x3 h c3) ?_
        refine Ev.steps (B := (14, [(7, .ref 71), (0, .ref 0), (2, .int x2), (3, .int x3), (4, .int x4), (5, .int x5), (6, .ref 67)], [], h)) 1 rfl ?_
        refine Ev.lv (lv := [(0, .ref 0), (2, .int x2), (4, .int x4), (5, .int x5), (6, .ref 67), (7, .ref 71)]) ⟨rfl, rfl, rfl, rfl, rfl, rfl, trivial⟩ rfl rfl ?_
        exact E_B_X8_copy_14_67_71 vR hR x2 x4 x5 h hM
      · rw [if_neg c3] at hM
        by_cases c4 : x3 = 3
        · rw [if_pos c4] at hM
          refine Ev.call (q := (mr_X8_sheetAt, [.ref 0, .int x3], [])) rfl (E_X8_sheetAt_73 x3 h c4) ?_
          refine Ev.steps (B := (14, [(7, .ref 73), (0, .ref 0), (2, .int x2), (3, .int x3), (4, .int x4), (5, .int x5), (6, .ref 67)], [], h)) 1 rfl ?_
          refine Ev.lv (lv := [(0, .ref 0), (2, .int x2), (4, .int x4), (5, .int x5), (6, .ref 67), (7, .ref 73)]) ⟨rfl, rfl, rfl, rfl, rfl, rfl, trivial⟩ rfl rfl ?_
          exact E_B_X8_copy_14_67_73 vR hR x2 x4 x5 h hM
        · rw [if_neg c4] at hM
          refine Ev.call (q := (mr_X8_sheetAt, [.ref 0, .int x3], [])) rfl (E_X8_sheetAt_d x3 h c1 c2 c3 c4) ?_
          refine Ev.steps (B := (26, [(7, .null), (0, .ref 0), (2, .int x2), (3, .int x3), (4, .int x4), (5, .int x5), (6, .ref 67)], [.int (-2)], h)) 6 rfl ?_
          obtain ⟨rfl, rfl⟩ := am_sp hM
          exact Ev.ret rfl
set_option maxRecDepth 10000 in
theorem E_B_X8_copy_14_69_67 (vR : Int32) (hR : AH) (x2 : Int32) (x4 : Int32) (x5 : Int32) (h : AH) (hM : B_X8_copy_14 x2 x4 x5 69 67 h = some (vR, hR)) : Ev none mr_X8_copy (14, [(0, .ref 0), (2, .int x2), (4, .int x4), (5, .int x5), (6, .ref 69), (7, .ref 67)], [], h) (some (.int vR)) hR := by
  unfold B_X8_copy_14 at hM
  refine Ev.steps (B := (32, [(0, .ref 0), (2, .int x2), (4, .int x4), (5, .int x5), (6, .ref 69), (7, .ref 67)], [.int (h.1 69 1)], h)) 6 rfl ?_
  refine Ev.br (b := decide (¬ (h.1 69 1) = 0)) rfl (fun c1 => ?_) (fun c1 => ?_)
  · have c1 := of_decide_eq_true c1
    rw [if_neg c1] at hM
    refine Ev.lv (lv := [(0, .ref 0)]) ⟨rfl, trivial⟩ rfl rfl ?_
    exact E_B_X8_copy_43 vR hR h hM
  · have c1 := Decidable.of_not_not (of_decide_eq_false c1)
    rw [if_pos c1] at hM
    refine Ev.steps (B := (40, [(0, .ref 0), (2, .int x2), (4, .int x4), (5, .int x5), (6, .ref 69), (7, .ref 67)], [.int (h.1 67 1)], h)) 2 rfl ?_
    refine Ev.br (b := decide ((h.1 67 1) = 0)) rfl (fun c2 => ?_) (fun c2 => ?_)
    · have c2 := of_decide_eq_true c2
      rw [if_pos c2] at hM
      refine Ev.steps (B := (59, [(0, .ref 0), (2, .int x2), (4, .int x4), (5, .int x5), (6, .ref 69), (7, .ref 67)], [.int (h.1 67 2), .int (h.1 69 2)], h)) 4 rfl ?_
      refine Ev.br (b := decide ((h.1 69 2) = (h.1 67 2))) rfl (fun c3 => ?_) (fun c3 => ?_)
      · have c3 := of_decide_eq_true c3
        rw [if_pos c3] at hM
        refine Ev.steps (B := (73, [(0, .ref 0), (2, .int x2), (4, .int x4), (5, .int x5), (6, .ref 69), (7, .ref 67)], [.int x5, .int x2, .ref 69], h)) 3 rfl ?_
        refine Ev.call (q := (mr_X5_hasSome, [.ref 69, .int x2, .int x5], [])) rfl (E_X5_hasSome_69 x2 x5 h) ?_
        refine Ev.br (b := decide ((M_X5_hasSome 69 x2 x5 h) = 0)) rfl (fun c4 => ?_) (fun c4 => ?_)
        · have c4 := of_decide_eq_true c4
          rw [if_pos c4] at hM
          refine Ev.lv (lv := [(0, .ref 0)]) ⟨rfl, trivial⟩ rfl rfl ?_
          exact E_B_X8_copy_91 vR hR h hM
        · have c4 := of_decide_eq_false c4
          rw [if_neg c4] at hM
          refine Ev.steps (B := (85, [(0, .ref 0), (2, .int x2), (4, .int x4), (5, .int x5), (6, .ref 69), (7, .ref 67)], [.int x5, .int x4, .ref 67], h)) 3 rfl ?_
          refine Ev.call (q := (mr_X5_hasSome, [.ref 67, .int x4, .int x5], [])) rfl (E_X5_hasSome_67 x4 x5 h) ?_
          refine Ev.br (b := decide (¬ (M_X5_hasSome 67 x4 x5 h) = 0)) rfl (fun c5 => ?_) (fun c5 => ?_)
          · have c5 := of_decide_eq_true c5
            rw [if_neg c5] at hM
            refine Ev.steps (B := (112, [(0, .ref 0), (2, .int x2), (4, .int x4), (5, .int x5), (6, .ref 69), (7, .ref 67)], [.int x5, .int x4, .ref (67 + 1), .int x2, .ref (69 + 1)], h)) 7 rfl ?_
            obtain ⟨g6, hM⟩ := am_gS hM
            refine Ev.g (B := (115, [(0, .ref 0), (2, .int x2), (4, .int x4), (5, .int x5), (6, .ref 69), (7, .ref 67)], [], (am_sa h (67 + 1) (va_cpy (h.2.1 (69 + 1)) (h.2.1 (67 + 1)) (Int32.toNatClampNeg x2) (Int32.toNatClampNeg x4) (Int32.toNatClampNeg x5))))) g6 rfl ?_
            refine Ev.steps (B := (116, [(0, .ref 0), (2, .int x2), (4, .int x4), (5, .int x5), (6, .ref 69), (7, .ref 67)], [.int 1], (am_sa h (67 + 1) (va_cpy (h.2.1 (69 + 1)) (h.2.1 (67 + 1)) (Int32.toNatClampNeg x2) (Int32.toNatClampNeg x4) (Int32.toNatClampNeg x5))))) 1 rfl ?_
            obtain ⟨rfl, rfl⟩ := am_sp hM
            exact Ev.ret rfl
          · have c5 := Decidable.of_not_not (of_decide_eq_false c5)
            rw [if_pos c5] at hM
            refine Ev.lv (lv := [(0, .ref 0)]) ⟨rfl, trivial⟩ rfl rfl ?_
            exact E_B_X8_copy_91 vR hR h hM
      · have c3 := of_decide_eq_false c3
        rw [if_neg c3] at hM
        refine Ev.steps (B := (64, [(0, .ref 0), (2, .int x2), (4, .int x4), (5, .int x5), (6, .ref 69), (7, .ref 67)], [.int 4, .ref 0], h)) 2 rfl ?_
        obtain ⟨v2, h1, e7, hM⟩ := am_bS hM
        refine Ev.call (q := (mr_X8_found, [.ref 0, .int 4], [])) rfl (E_X8_found_0 4 h v2 h1 e7) ?_
        obtain ⟨rfl, rfl⟩ := am_sp hM
        exact Ev.ret rfl
    · have c2 := of_decide_eq_false c2
      rw [if_neg c2] at hM
      refine Ev.lv (lv := [(0, .ref 0)]) ⟨rfl, trivial⟩ rfl rfl ?_
      exact E_B_X8_copy_43 vR hR h hM
set_option maxRecDepth 10000 in
theorem E_B_X8_copy_14_69_69 (vR : Int32) (hR : AH) (x2 : Int32) (x4 : Int32) (x5 : Int32) (h : AH) (hM : B_X8_copy_14 x2 x4 x5 69 69 h = some (vR, hR)) : Ev none mr_X8_copy (14, [(0, .ref 0), (2, .int x2), (4, .int x4), (5, .int x5), (6, .ref 69), (7, .ref 69)], [], h) (some (.int vR)) hR := by
  unfold B_X8_copy_14 at hM
  refine Ev.steps (B := (32, [(0, .ref 0), (2, .int x2), (4, .int x4), (5, .int x5), (6, .ref 69), (7, .ref 69)], [.int (h.1 69 1)], h)) 6 rfl ?_
  refine Ev.br (b := decide (¬ (h.1 69 1) = 0)) rfl (fun c1 => ?_) (fun c1 => ?_)
  · have c1 := of_decide_eq_true c1
    rw [if_neg c1] at hM
    refine Ev.lv (lv := [(0, .ref 0)]) ⟨rfl, trivial⟩ rfl rfl ?_
    exact E_B_X8_copy_43 vR hR h hM
  · have c1 := Decidable.of_not_not (of_decide_eq_false c1)
    rw [if_pos c1] at hM
    refine Ev.steps (B := (40, [(0, .ref 0), (2, .int x2), (4, .int x4), (5, .int x5), (6, .ref 69), (7, .ref 69)], [.int (h.1 69 1)], h)) 2 rfl ?_
    refine Ev.br (b := decide ((h.1 69 1) = 0)) rfl (fun c2 => ?_) (fun c2 => ?_)
    · have c2 := of_decide_eq_true c2
      rw [if_pos c2] at hM
      refine Ev.steps (B := (59, [(0, .ref 0), (2, .int x2), (4, .int x4), (5, .int x5), (6, .ref 69), (7, .ref 69)], [.int (h.1 69 2), .int (h.1 69 2)], h)) 4 rfl ?_
      refine Ev.br (b := decide ((h.1 69 2) = (h.1 69 2))) rfl (fun c3 => ?_) (fun c3 => ?_)
      · have c3 := of_decide_eq_true c3
        rw [if_pos c3] at hM
        refine Ev.steps (B := (73, [(0, .ref 0), (2, .int x2), (4, .int x4), (5, .int x5), (6, .ref 69), (7, .ref 69)], [.int x5, .int x2, .ref 69], h)) 3 rfl ?_
        refine Ev.call (q := (mr_X5_hasSome, [.ref 69, .int x2, .int x5], [])) rfl (E_X5_hasSome_69 x2 x5 h) ?_
        refine Ev.br (b := decide ((M_X5_hasSome 69 x2 x5 h) = 0)) rfl (fun c4 => ?_) (fun c4 => ?_)
        · have c4 := of_decide_eq_true c4
          rw [if_pos c4] at hM
          refine Ev.lv (lv := [(0, .ref 0)]) ⟨rfl, trivial⟩ rfl rfl ?_
          exact E_B_X8_copy_91 vR hR h hM
        · have c4 := of_decide_eq_false c4
          rw [if_neg c4] at hM
          refine Ev.steps (B := (85, [(0, .ref 0), (2, .int x2), (4, .int x4), (5, .int x5), (6, .ref 69), (7, .ref 69)], [.int x5, .int x4, .ref 69], h)) 3 rfl ?_
          refine Ev.call (q := (mr_X5_hasSome, [.ref 69, .int x4, .int x5], [])) rfl (E_X5_hasSome_69 x4 x5 h) ?_
          refine Ev.br (b := decide (¬ (M_X5_hasSome 69 x4 x5 h) = 0)) rfl (fun c5 => ?_) (fun c5 => ?_)
          · have c5 := of_decide_eq_true c5
            rw [if_neg c5] at hM
            refine Ev.steps (B := (112, [(0, .ref 0), (2, .int x2), (4, .int x4), (5, .int x5), (6, .ref 69), (7, .ref 69)], [.int x5, .int x4, .ref (69 + 1), .int x2, .ref (69 + 1)], h)) 7 rfl ?_
            obtain ⟨g6, hM⟩ := am_gS hM
            refine Ev.g (B := (115, [(0, .ref 0), (2, .int x2), (4, .int x4), (5, .int x5), (6, .ref 69), (7, .ref 69)], [], (am_sa h (69 + 1) (va_cpy (h.2.1 (69 + 1)) (h.2.1 (69 + 1)) (Int32.toNatClampNeg x2) (Int32.toNatClampNeg x4) (Int32.toNatClampNeg x5))))) g6 rfl ?_
            refine Ev.steps (B := (116, [(0, .ref 0), (2, .int x2), (4, .int x4), (5, .int x5), (6, .ref 69), (7, .ref 69)], [.int 1], (am_sa h (69 + 1) (va_cpy (h.2.1 (69 + 1)) (h.2.1 (69 + 1)) (Int32.toNatClampNeg x2) (Int32.toNatClampNeg x4) (Int32.toNatClampNeg x5))))) 1 rfl ?_
            obtain ⟨rfl, rfl⟩ := am_sp hM
            exact Ev.ret rfl
          · have c5 := Decidable.of_not_not (of_decide_eq_false c5)
            rw [if_pos c5] at hM
            refine Ev.lv (lv := [(0, .ref 0)]) ⟨rfl, trivial⟩ rfl rfl ?_
            exact E_B_X8_copy_91 vR hR h hM
      · have c3 := of_decide_eq_false c3
        rw [if_neg c3] at hM
        refine Ev.steps (B := (64, [(0, .ref 0), (2, .int x2), (4, .int x4), (5, .int x5), (6, .ref 69), (7, .ref 69)], [.int 4, .ref 0], h)) 2 rfl ?_
        obtain ⟨v2, h1, e7, hM⟩ := am_bS hM
        refine Ev.call (q := (mr_X8_found, [.ref 0, .int 4], [])) rfl (E_X8_found_0 4 h v2 h1 e7) ?_
        obtain ⟨rfl, rfl⟩ := am_sp hM
        exact Ev.ret rfl
    · have c2 := of_decide_eq_false c2
      rw [if_neg c2] at hM
      refine Ev.lv (lv := [(0, .ref 0)]) ⟨rfl, trivial⟩ rfl rfl ?_
      exact E_B_X8_copy_43 vR hR h hM
set_option maxRecDepth 10000 in
theorem E_B_X8_copy_14_69_71 (vR : Int32) (hR : AH) (x2 : Int32) (x4 : Int32) (x5 : Int32) (h : AH) (hM : B_X8_copy_14 x2 x4 x5 69 71 h = some (vR, hR)) : Ev none mr_X8_copy (14, [(0, .ref 0), (2, .int x2), (4, .int x4), (5, .int x5), (6, .ref 69), (7, .ref 71)], [], h) (some (.int vR)) hR := by
  unfold B_X8_copy_14 at hM
  refine Ev.steps (B := (32, [(0, .ref 0), (2, .int x2), (4, .int x4), (5, .int x5), (6, .ref 69), (7, .ref 71)], [.int (h.1 69 1)], h)) 6 rfl ?_
  refine Ev.br (b := decide (¬ (h.1 69 1) = 0)) rfl (fun c1 => ?_) (fun c1 => ?_)
  · have c1 := of_decide_eq_true c1
    rw [if_neg c1] at hM
    refine Ev.lv (lv := [(0, .ref 0)]) ⟨rfl, trivial⟩ rfl rfl ?_
    exact E_B_X8_copy_43 vR hR h hM
  · have c1 := Decidable.of_not_not (of_decide_eq_false c1)
    rw [if_pos c1] at hM
    refine Ev.steps (B := (40, [(0, .ref 0), (2, .int x2), (4, .int x4), (5, .int x5), (6, .ref 69), (7, .ref 71)], [.int (h.1 71 1)], h)) 2 rfl ?_
    refine Ev.br (b := decide ((h.1 71 1) = 0)) rfl (fun c2 => ?_) (fun c2 => ?_)
    · have c2 := of_decide_eq_true c2
      rw [if_pos c2] at hM
      refine Ev.steps (B := (59, [(0, .ref 0), (2, .int x2), (4, .int x4), (5, .int x5), (6, .ref 69), (7, .ref 71)], [.int (h.1 71 2), .int (h.1 69 2)], h)) 4 rfl ?_
      refine Ev.br (b := decide ((h.1 69 2) = (h.1 71 2))) rfl (fun c3 => ?_) (fun c3 => ?_)
      · have c3 := of_decide_eq_true c3
        rw [if_pos c3] at hM
        refine Ev.steps (B := (73, [(0, .ref 0), (2, .int x2), (4, .int x4), (5, .int x5), (6, .ref 69), (7, .ref 71)], [.int x5, .int x2, .ref 69], h)) 3 rfl ?_
        refine Ev.call (q := (mr_X5_hasSome, [.ref 69, .int x2, .int x5], [])) rfl (E_X5_hasSome_69 x2 x5 h) ?_
        refine Ev.br (b := decide ((M_X5_hasSome 69 x2 x5 h) = 0)) rfl (fun c4 => ?_) (fun c4 => ?_)
        · have c4 := of_decide_eq_true c4
          rw [if_pos c4] at hM
          refine Ev.lv (lv := [(0, .ref 0)]) ⟨rfl, trivial⟩ rfl rfl ?_
          exact E_B_X8_copy_91 vR hR h hM
        · have c4 := of_decide_eq_false c4
          rw [if_neg c4] at hM
          refine Ev.steps (B := (85, [(0, .ref 0), (2, .int x2), (4, .int x4), (5, .int x5), (6, .ref 69), (7, .ref 71)], [.int x5, .int x4, .ref 71], h)) 3 rfl ?_
          refine Ev.call (q := (mr_X5_hasSome, [.ref 71, .int x4, .int x5], [])) rfl (E_X5_hasSome_71 x4 x5 h) ?_
          refine Ev.br (b := decide (¬ (M_X5_hasSome 71 x4 x5 h) = 0)) rfl (fun c5 => ?_) (fun c5 => ?_)
          · have c5 := of_decide_eq_true c5
            rw [if_neg c5] at hM
            refine Ev.steps (B := (112, [(0, .ref 0), (2, .int x2), (4, .int x4), (5, .int x5), (6, .ref 69), (7, .ref 71)], [.int x5, .int x4, .ref (71 + 1), .int x2, .ref (69 + 1)], h)) 7 rfl ?_
            obtain ⟨g6, hM⟩ := am_gS hM
            refine Ev.g (B := (115, [(0, .ref 0), (2, .int x2), (4, .int x4), (5, .int x5), (6, .ref 69), (7, .ref 71)], [], (am_sa h (71 + 1) (va_cpy (h.2.1 (69 + 1)) (h.2.1 (71 + 1)) (Int32.toNatClampNeg x2) (Int32.toNatClampNeg x4) (Int32.toNatClampNeg x5))))) g6 rfl ?_
            refine Ev.steps (B := (116, [(0, .ref 0), (2, .int x2), (4, .int x4), (5, .int x5), (6, .ref 69), (7, .ref 71)], [.int 1], (am_sa h (71 + 1) (va_cpy (h.2.1 (69 + 1)) (h.2.1 (71 + 1)) (Int32.toNatClampNeg x2) (Int32.toNatClampNeg x4) (Int32.toNatClampNeg x5))))) 1 rfl ?_
            obtain ⟨rfl, rfl⟩ := am_sp hM
            exact Ev.ret rfl
          · have c5 := Decidable.of_not_not (of_decide_eq_false c5)
            rw [if_pos c5] at hM
            refine Ev.lv (lv := [(0, .ref 0)]) ⟨rfl, trivial⟩ rfl rfl ?_
            exact E_B_X8_copy_91 vR hR h hM
      · have c3 := of_decide_eq_false c3
        rw [if_neg c3] at hM
        refine Ev.steps (B := (64, [(0, .ref 0), (2, .int x2), (4, .int x4), (5, .int x5), (6, .ref 69), (7, .ref 71)], [.int 4, .ref 0], h)) 2 rfl ?_
        obtain ⟨v2, h1, e7, hM⟩ := am_bS hM
        refine Ev.call (q := (mr_X8_found, [.ref 0, .int 4], [])) rfl (E_X8_found_0 4 h v2 h1 e7) ?_
        obtain ⟨rfl, rfl⟩ := am_sp hM
        exact Ev.ret rfl
    · have c2 := of_decide_eq_false c2
      rw [if_neg c2] at hM
      refine Ev.lv (lv := [(0, .ref 0)]) ⟨rfl, trivial⟩ rfl rfl ?_
      exact E_B_X8_copy_43 vR hR h hM
set_option maxRecDepth 10000 in
theorem E_B_X8_copy_14_69_73 (vR : Int32) (hR : AH) (x2 : Int32) (x4 : Int32) (x5 : Int32) (h : AH) (hM : B_X8_copy_14 x2 x4 x5 69 73 h = some (vR, hR)) : Ev none mr_X8_copy (14, [(0, .ref 0), (2, .int x2), (4, .int x4), (5, .int x5), (6, .ref 69), (7, .ref 73)], [], h) (some (.int vR)) hR := by
  unfold B_X8_copy_14 at hM
  refine Ev.steps (B := (32, [(0, .ref 0), (2, .int x2), (4, .int x4), (5, .int x5), (6, .ref 69), (7, .ref 73)], [.int (h.1 69 1)], h)) 6 rfl ?_
  refine Ev.br (b := decide (¬ (h.1 69 1) = 0)) rfl (fun c1 => ?_) (fun c1 => ?_)
  · have c1 := of_decide_eq_true c1
    rw [if_neg c1] at hM
    refine Ev.lv (lv := [(0, .ref 0)]) ⟨rfl, trivial⟩ rfl rfl ?_
    exact E_B_X8_copy_43 vR hR h hM
  · have c1 := Decidable.of_not_not (of_decide_eq_false c1)
    rw [if_pos c1] at hM
    refine Ev.steps (B := (40, [(0, .ref 0), (2, .int x2), (4, .int x4), (5, .int x5), (6, .ref 69), (7, .ref 73)], [.int (h.1 73 1)], h)) 2 rfl ?_
    refine Ev.br (b := decide ((h.1 73 1) = 0)) rfl (fun c2 => ?_) (fun c2 => ?_)
    · have c2 := of_decide_eq_true c2
      rw [if_pos c2] at hM
      refine Ev.steps (B := (59, [(0, .ref 0), (2, .int x2), (4, .int x4), (5, .int x5), (6, .ref 69), (7, .ref 73)], [.int (h.1 73 2), .int (h.1 69 2)], h)) 4 rfl ?_
      refine Ev.br (b := decide ((h.1 69 2) = (h.1 73 2))) rfl (fun c3 => ?_) (fun c3 => ?_)
      · have c3 := of_decide_eq_true c3
        rw [if_pos c3] at hM
        refine Ev.steps (B := (73, [(0, .ref 0), (2, .int x2), (4, .int x4), (5, .int x5), (6, .ref 69), (7, .ref 73)], [.int x5, .int x2, .ref 69], h)) 3 rfl ?_
        refine Ev.call (q := (mr_X5_hasSome, [.ref 69, .int x2, .int x5], [])) rfl (E_X5_hasSome_69 x2 x5 h) ?_
        refine Ev.br (b := decide ((M_X5_hasSome 69 x2 x5 h) = 0)) rfl (fun c4 => ?_) (fun c4 => ?_)
        · have c4 := of_decide_eq_true c4
          rw [if_pos c4] at hM
          refine Ev.lv (lv := [(0, .ref 0)]) ⟨rfl, trivial⟩ rfl rfl ?_
          exact E_B_X8_copy_91 vR hR h hM
        · have c4 := of_decide_eq_false c4
          rw [if_neg c4] at hM
          refine Ev.steps (B := (85, [(0, .ref 0), (2, .int x2), (4, .int x4), (5, .int x5), (6, .ref 69), (7, .ref 73)], [.int x5, .int x4, .ref 73], h)) 3 rfl ?_
          refine Ev.call (q := (mr_X5_hasSome, [.ref 73, .int x4, .int x5], [])) rfl (E_X5_hasSome_73 x4 x5 h) ?_
          refine Ev.br (b := decide (¬ (M_X5_hasSome 73 x4 x5 h) = 0)) rfl (fun c5 => ?_) (fun c5 => ?_)
          · have c5 := of_decide_eq_true c5
            rw [if_neg c5] at hM
            refine Ev.steps (B := (112, [(0, .ref 0), (2, .int x2), (4, .int x4), (5, .int x5), (6, .ref 69), (7, .ref 73)], [.int x5, .int x4, .ref (73 + 1), .int x2, .ref (69 + 1)], h)) 7 rfl ?_
            obtain ⟨g6, hM⟩ := am_gS hM
            refine Ev.g (B := (115, [(0, .ref 0), (2, .int x2), (4, .int x4), (5, .int x5), (6, .ref 69), (7, .ref 73)], [], (am_sa h (73 + 1) (va_cpy (h.2.1 (69 + 1)) (h.2.1 (73 + 1)) (Int32.toNatClampNeg x2) (Int32.toNatClampNeg x4) (Int32.toNatClampNeg x5))))) g6 rfl ?_
            refine Ev.steps (B := (116, [(0, .ref 0), (2, .int x2), (4, .int x4), (5, .int x5), (6, .ref 69), (7, .ref 73)], [.int 1], (am_sa h (73 + 1) (va_cpy (h.2.1 (69 + 1)) (h.2.1 (73 + 1)) (Int32.toNatClampNeg x2) (Int32.toNatClampNeg x4) (Int32.toNatClampNeg x5))))) 1 rfl ?_
            obtain ⟨rfl, rfl⟩ := am_sp hM
            exact Ev.ret rfl
          · have c5 := Decidable.of_not_not (of_decide_eq_false c5)
            rw [if_pos c5] at hM
            refine Ev.lv (lv := [(0, .ref 0)]) ⟨rfl, trivial⟩ rfl rfl ?_
            exact E_B_X8_copy_91 vR hR h hM
      · have c3 := of_decide_eq_false c3
        rw [if_neg c3] at hM
        refine Ev.steps (B := (64, [(0, .ref 0), (2, .int x2), (4, .int x4), (5, .int x5), (6, .ref 69), (7, .ref 73)], [.int 4, .ref 0], h)) 2 rfl ?_
        obtain ⟨v2, h1, e7, hM⟩ := am_bS hM
        refine Ev.call (q := (mr_X8_found, [.ref 0, .int 4], [])) rfl (E_X8_found_0 4 h v2 h1 e7) ?_
        obtain ⟨rfl, rfl⟩ := am_sp hM
        exact Ev.ret rfl
    · have c2 := of_decide_eq_false c2
      rw [if_neg c2] at hM
      refine Ev.lv (lv := [(0, .ref 0)]) ⟨rfl, trivial⟩ rfl rfl ?_
      exact E_B_X8_copy_43 vR hR h hM
set_option maxRecDepth 10000 in
theorem E_B_X8_copy_7_69 (vR : Int32) (hR : AH) (x2 : Int32) (x3 : Int32) (x4 : Int32) (x5 : Int32) (h : AH) (hM : B_X8_copy_7 x2 x3 x4 x5 69 h = some (vR, hR)) : Ev none mr_X8_copy (7, [(0, .ref 0), (2, .int x2), (3, .int x3), (4, .int x4), (5, .int x5), (6, .ref 69)], [], h) (some (.int vR)) hR := by
  unfold B_X8_copy_7 at hM
  refine Ev.steps (B := (9, [(0, .ref 0), (2, .int x2), (3, .int x3), (4, .int x4), (5, .int x5), (6, .ref 69)], [.int x3, .ref 0], h)) 2 rfl ?_
  by_cases c1 : x3 = 0
  · rw [if_pos c1] at hM
    refine Ev.call (q := (mr_X8_sheetAt, [.ref 0, .int x3], [])) rfl (E_X8_sheetAt_67 x3 h c1) ?_
    refine Ev.steps (B := (14, [(7, .ref 67), (0, .ref 0), (2, .int x2), (3, .int x3), (4, .int x4), (5, .int x5), (6, .ref 69)], [], h)) 1 rfl ?_
    refine Ev.lv (lv := [(0, .ref 0), (2, .int x2), (4, .int x4), (5, .int x5), (6, .ref 69), (7, .ref 67)]) ⟨rfl, rfl, rfl, rfl, rfl, rfl, trivial⟩ rfl rfl ?_
    exact E_B_X8_copy_14_69_67 vR hR x2 x4 x5 h hM
  · rw [if_neg c1] at hM
    by_cases c2 : x3 = 1
    · rw [if_pos c2] at hM
      refine Ev.call (q := (mr_X8_sheetAt, [.ref 0, .int x3], [])) rfl (E_X8_sheetAt_69 x3 h c2) ?_
      refine Ev.steps (B := (14, [(7, .ref 69), (0, .ref 0), (2, .int x2), (3, .int x3), (4, .int x4), (5, .int x5), (6, .ref 69)], [], h)) 1 rfl ?_
      refine Ev.lv (lv := [(0, .ref 0), (2, .int x2), (4, .int x4), (5, .int x5), (6, .ref 69), (7, .ref 69)]) ⟨rfl, rfl, rfl, rfl, rfl, rfl, trivial⟩ rfl rfl ?_
      exact E_B_X8_copy_14_69_69 vR hR x2 x4 x5 h hM
    · rw [if_neg c2] at hM
      by_cases c3 : x3 = 2
      · rw [if_pos c3] at hM
        refine Ev.call (q := (mr_X8_sheetAt, [.ref 0, .int x3], [])) rfl (E_X8_sheetAt_71 x3 h c3) ?_
        refine Ev.steps (B := (14, [(7, .ref 71), (0, .ref 0), (2, .int x2), (3, .int x3), (4, .int x4), (5, .int x5), (6, .ref 69)], [], h)) 1 rfl ?_
        refine Ev.lv (lv := [(0, .ref 0), (2, .int x2), (4, .int x4), (5, .int x5), (6, .ref 69), (7, .ref 71)]) ⟨rfl, rfl, rfl, rfl, rfl, rfl, trivial⟩ rfl rfl ?_
        exact E_B_X8_copy_14_69_71 vR hR x2 x4 x5 h hM
      · rw [if_neg c3] at hM
        by_cases c4 : x3 = 3
        · rw [if_pos c4] at hM
          refine Ev.call (q := (mr_X8_sheetAt, [.ref 0, .int x3], [])) rfl (E_X8_sheetAt_73 x3 h c4) ?_
          refine Ev.steps (B := (14, [(7, .ref 73), (0, .ref 0), (2, .int x2), (3, .int x3), (4, .int x4), (5, .int x5), (6, .ref 69)], [], h)) 1 rfl ?_
          refine Ev.lv (lv := [(0, .ref 0), (2, .int x2), (4, .int x4), (5, .int x5), (6, .ref 69), (7, .ref 73)]) ⟨rfl, rfl, rfl, rfl, rfl, rfl, trivial⟩ rfl rfl ?_
          exact E_B_X8_copy_14_69_73 vR hR x2 x4 x5 h hM
        · rw [if_neg c4] at hM
          refine Ev.call (q := (mr_X8_sheetAt, [.ref 0, .int x3], [])) rfl (E_X8_sheetAt_d x3 h c1 c2 c3 c4) ?_
          refine Ev.steps (B := (26, [(7, .null), (0, .ref 0), (2, .int x2), (3, .int x3), (4, .int x4), (5, .int x5), (6, .ref 69)], [.int (-2)], h)) 6 rfl ?_
          obtain ⟨rfl, rfl⟩ := am_sp hM
          exact Ev.ret rfl
set_option maxRecDepth 10000 in
theorem E_B_X8_copy_14_71_67 (vR : Int32) (hR : AH) (x2 : Int32) (x4 : Int32) (x5 : Int32) (h : AH) (hM : B_X8_copy_14 x2 x4 x5 71 67 h = some (vR, hR)) : Ev none mr_X8_copy (14, [(0, .ref 0), (2, .int x2), (4, .int x4), (5, .int x5), (6, .ref 71), (7, .ref 67)], [], h) (some (.int vR)) hR := by
  unfold B_X8_copy_14 at hM
  refine Ev.steps (B := (32, [(0, .ref 0), (2, .int x2), (4, .int x4), (5, .int x5), (6, .ref 71), (7, .ref 67)], [.int (h.1 71 1)], h)) 6 rfl ?_
  refine Ev.br (b := decide (¬ (h.1 71 1) = 0)) rfl (fun c1 => ?_) (fun c1 => ?_)
  · have c1 := of_decide_eq_true c1
    rw [if_neg c1] at hM
    refine Ev.lv (lv := [(0, .ref 0)]) ⟨rfl, trivial⟩ rfl rfl ?_
    exact E_B_X8_copy_43 vR hR h hM
  · have c1 := Decidable.of_not_not (of_decide_eq_false c1)
    rw [if_pos c1] at hM
    refine Ev.steps (B := (40, [(0, .ref 0), (2, .int x2), (4, .int x4), (5, .int x5), (6, .ref 71), (7, .ref 67)], [.int (h.1 67 1)], h)) 2 rfl ?_
    refine Ev.br (b := decide ((h.1 67 1) = 0)) rfl (fun c2 => ?_) (fun c2 => ?_)
    · have c2 := of_decide_eq_true c2
      rw [if_pos c2] at hM
      refine Ev.steps (B := (59, [(0, .ref 0), (2, .int x2), (4, .int x4), (5, .int x5), (6, .ref 71), (7, .ref 67)], [.int (h.1 67 2), .int (h.1 71 2)], h)) 4 rfl ?_
      refine Ev.br (b := decide ((h.1 71 2) = (h.1 67 2))) rfl (fun c3 => ?_) (fun c3 => ?_)
      · have c3 := of_decide_eq_true c3
        rw [if_pos c3] at hM
        refine Ev.steps (B := (73, [(0, .ref 0), (2, .int x2), (4, .int x4), (5, .int x5), (6, .ref 71), (7, .ref 67)], [.int x5, .int x2, .ref 71], h)) 3 rfl ?_
        refine Ev.call (q := (mr_X5_hasSome, [.ref 71, .int x2, .int x5], [])) rfl (E_X5_hasSome_71 x2 x5 h) ?_
        refine Ev.br (b := decide ((M_X5_hasSome 71 x2 x5 h) = 0)) rfl (fun c4 => ?_) (fun c4 => ?_)
        · have c4 := of_decide_eq_true c4
          rw [if_pos c4] at hM
          refine Ev.lv (lv := [(0, .ref 0)]) ⟨rfl, trivial⟩ rfl rfl ?_
          exact E_B_X8_copy_91 vR hR h hM
        · have c4 := of_decide_eq_false c4
          rw [if_neg c4] at hM
          refine Ev.steps (B := (85, [(0, .ref 0), (2, .int x2), (4, .int x4), (5, .int x5), (6, .ref 71), (7, .ref 67)], [.int x5, .int x4, .ref 67], h)) 3 rfl ?_
          refine Ev.call (q := (mr_X5_hasSome, [.ref 67, .int x4, .int x5], [])) rfl (E_X5_hasSome_67 x4 x5 h) ?_
          refine Ev.br (b := decide (¬ (M_X5_hasSome 67 x4 x5 h) = 0)) rfl (fun c5 => ?_) (fun c5 => ?_)
          · have c5 := of_decide_eq_true c5
            rw [if_neg c5] at hM
            refine Ev.steps (B := (112, [(0, .ref 0), (2, .int x2), (4, .int x4), (5, .int x5), (6, .ref 71), (7, .ref 67)], [.int x5, .int x4, .ref (67 + 1), .int x2, .ref (71 + 1)], h)) 7 rfl ?_
            obtain ⟨g6, hM⟩ := am_gS hM
            refine Ev.g (B := (115, [(0, .ref 0), (2, .int x2), (4, .int x4), (5, .int x5), (6, .ref 71), (7, .ref 67)], [], (am_sa h (67 + 1) (va_cpy (h.2.1 (71 + 1)) (h.2.1 (67 + 1)) (Int32.toNatClampNeg x2) (Int32.toNatClampNeg x4) (Int32.toNatClampNeg x5))))) g6 rfl ?_
            refine Ev.steps (B := (116, [(0, .ref 0), (2, .int x2), (4, .int x4), (5, .int x5), (6, .ref 71), (7, .ref 67)], [.int 1], (am_sa h (67 + 1) (va_cpy (h.2.1 (71 + 1)) (h.2.1 (67 + 1)) (Int32.toNatClampNeg x2) (Int32.toNatClampNeg x4) (Int32.toNatClampNeg x5))))) 1 rfl ?_
            obtain ⟨rfl, rfl⟩ := am_sp hM
            exact Ev.ret rfl
          · have c5 := Decidable.of_not_not (of_decide_eq_false c5)
            rw [if_pos c5] at hM
            refine Ev.lv (lv := [(0, .ref 0)]) ⟨rfl, trivial⟩ rfl rfl ?_
            exact E_B_X8_copy_91 vR hR h hM
      · have c3 := of_decide_eq_false c3
        rw [if_neg c3] at hM
        refine Ev.steps (B := (64, [(0, .ref 0), (2, .int x2), (4, .int x4), (5, .int x5), (6, .ref 71), (7, .ref 67)], [.int 4, .ref 0], h)) 2 rfl ?_
        obtain ⟨v2, h1, e7, hM⟩ := am_bS hM
        refine Ev.call (q := (mr_X8_found, [.ref 0, .int 4], [])) rfl (E_X8_found_0 4 h v2 h1 e7) ?_
        obtain ⟨rfl, rfl⟩ := am_sp hM
        exact Ev.ret rfl
    · have c2 := of_decide_eq_false c2
      rw [if_neg c2] at hM
      refine Ev.lv (lv := [(0, .ref 0)]) ⟨rfl, trivial⟩ rfl rfl ?_
      exact E_B_X8_copy_43 vR hR h hM
set_option maxRecDepth 10000 in
theorem E_B_X8_copy_14_71_69 (vR : Int32) (hR : AH) (x2 : Int32) (x4 : Int32) (x5 : Int32) (h : AH) (hM : B_X8_copy_14 x2 x4 x5 71 69 h = some (vR, hR)) : Ev none mr_X8_copy (14, [(0, .ref 0), (2, .int x2), (4, .int x4), (5, .int x5), (6, .ref 71), (7, .ref 69)], [], h) (some (.int vR)) hR := by
  unfold B_X8_copy_14 at hM
  refine Ev.steps (B := (32, [(0, .ref 0), (2, .int x2), (4, .int x4), (5, .int x5), (6, .ref 71), (7, .ref 69)], [.int (h.1 71 1)], h)) 6 rfl ?_
  refine Ev.br (b := decide (¬ (h.1 71 1) = 0)) rfl (fun c1 => ?_) (fun c1 => ?_)
  · have c1 := of_decide_eq_true c1
    rw [if_neg c1] at hM
    refine Ev.lv (lv := [(0, .ref 0)]) ⟨rfl, trivial⟩ rfl rfl ?_
    exact E_B_X8_copy_43 vR hR h hM
  · have c1 := Decidable.of_not_not (of_decide_eq_false c1)
    rw [if_pos c1] at hM
    refine Ev.steps (B := (40, [(0, .ref 0), (2, .int x2), (4, .int x4), (5, .int x5), (6, .ref 71), (7, .ref 69)], [.int (h.1 69 1)], h)) 2 rfl ?_
    refine Ev.br (b := decide ((h.1 69 1) = 0)) rfl (fun c2 => ?_) (fun c2 => ?_)
    · have c2 := of_decide_eq_true c2
      rw [if_pos c2] at hM
      refine Ev.steps (B := (59, [(0, .ref 0), (2, .int x2), (4, .int x4), (5, .int x5), (6, .ref 71), (7, .ref 69)], [.int (h.1 69 2), .int (h.1 71 2)], h)) 4 rfl ?_
      refine Ev.br (b := decide ((h.1 71 2) = (h.1 69 2))) rfl (fun c3 => ?_) (fun c3 => ?_)
      · have c3 := of_decide_eq_true c3
        rw [if_pos c3] at hM
        refine Ev.steps (B := (73, [(0, .ref 0), (2, .int x2), (4, .int x4), (5, .int x5), (6, .ref 71), (7, .ref 69)], [.int x5, .int x2, .ref 71], h)) 3 rfl ?_
        refine Ev.call (q := (mr_X5_hasSome, [.ref 71, .int x2, .int x5], [])) rfl (E_X5_hasSome_71 x2 x5 h) ?_
        refine Ev.br (b := decide ((M_X5_hasSome 71 x2 x5 h) = 0)) rfl (fun c4 => ?_) (fun c4 => ?_)
        · have c4 := of_decide_eq_true c4
          rw [if_pos c4] at hM
          refine Ev.lv (lv := [(0, .ref 0)]) ⟨rfl, trivial⟩ rfl rfl ?_
          exact E_B_X8_copy_91 vR hR h hM
        · have c4 := of_decide_eq_false c4
          rw [if_neg c4] at hM
          refine Ev.steps (B := (85, [(0, .ref 0), (2, .int x2), (4, .int x4), (5, .int x5), (6, .ref 71), (7, .ref 69)], [.int x5, .int x4, .ref 69], h)) 3 rfl ?_
          refine Ev.call (q := (mr_X5_hasSome, [.ref 69, .int x4, .int x5], [])) rfl (E_X5_hasSome_69 x4 x5 h) ?_
          refine Ev.br (b := decide (¬ (M_X5_hasSome 69 x4 x5 h) = 0)) rfl (fun c5 => ?_) (fun c5 => ?_)
          · have c5 := of_decide_eq_true c5
            rw [if_neg c5] at hM
            refine Ev.steps (B := (112, [(0, .ref 0), (2, .int x2), (4, .int x4), (5, .int x5), (6, .ref 71), (7, .ref 69)], [.int x5, .int x4, .ref (69 + 1), .int x2, .ref (71 + 1)], h)) 7 rfl ?_
            obtain ⟨g6, hM⟩ := am_gS hM
            refine Ev.g (B := (115, [(0, .ref 0), (2, .int x2), (4, .int x4), (5, .int x5), (6, .ref 71), (7, .ref 69)], [], (am_sa h (69 + 1) (va_cpy (h.2.1 (71 + 1)) (h.2.1 (69 + 1)) (Int32.toNatClampNeg x2) (Int32.toNatClampNeg x4) (Int32.toNatClampNeg x5))))) g6 rfl ?_
            refine Ev.steps (B := (116, [(0, .ref 0), (2, .int x2), (4, .int x4), (5, .int x5), (6, .ref 71), (7, .ref 69)], [.int 1], (am_sa h (69 + 1) (va_cpy (h.2.1 (71 + 1)) (h.2.1 (69 + 1)) (Int32.toNatClampNeg x2) (Int32.toNatClampNeg x4) (Int32.toNatClampNeg x5))))) 1 rfl ?_
            obtain ⟨rfl, rfl⟩ := am_sp hM
            exact Ev.ret rfl
          · have c5 := Decidable.of_not_not (of_decide_eq_false c5)
            rw [if_pos c5] at hM
            refine Ev.lv (lv := [(0, .ref 0)]) ⟨rfl, trivial⟩ rfl rfl ?_
            exact E_B_X8_copy_91 vR hR h hM
      · have c3 := of_decide_eq_false c3
        rw [if_neg c3] at hM
        refine Ev.steps (B := (64, [(0, .ref 0), (2, .int x2), (4, .int x4), (5, .int x5), (6, .ref 71), (7, .ref 69)], [.int 4, .ref 0], h)) 2 rfl ?_
        obtain ⟨v2, h1, e7, hM⟩ := am_bS hM
        refine Ev.call (q := (mr_X8_found, [.ref 0, .int 4], [])) rfl (E_X8_found_0 4 h v2 h1 e7) ?_
        obtain ⟨rfl, rfl⟩ := am_sp hM
        exact Ev.ret rfl
    · have c2 := of_decide_eq_false c2
      rw [if_neg c2] at hM
      refine Ev.lv (lv := [(0, .ref 0)]) ⟨rfl, trivial⟩ rfl rfl ?_
      exact E_B_X8_copy_43 vR hR h hM
set_option maxRecDepth 10000 in
theorem E_B_X8_copy_14_71_71 (vR : Int32) (hR : AH) (x2 : Int32) (x4 : Int32) (x5 : Int32) (h : AH) (hM : B_X8_copy_14 x2 x4 x5 71 71 h = some (vR, hR)) : Ev none mr_X8_copy (14, [(0, .ref 0), (2, .int x2), (4, .int x4), (5, .int x5), (6, .ref 71), (7, .ref 71)], [], h) (some (.int vR)) hR := by
  unfold B_X8_copy_14 at hM
  refine Ev.steps (B := (32, [(0, .ref 0), (2, .int x2), (4, .int x4), (5, .int x5), (6, .ref 71), (7, .ref 71)], [.int (h.1 71 1)], h)) 6 rfl ?_
  refine Ev.br (b := decide (¬ (h.1 71 1) = 0)) rfl (fun c1 => ?_) (fun c1 => ?_)
  · have c1 := of_decide_eq_true c1
    rw [if_neg c1] at hM
    refine Ev.lv (lv := [(0, .ref 0)]) ⟨rfl, trivial⟩ rfl rfl ?_
    exact E_B_X8_copy_43 vR hR h hM
  · have c1 := Decidable.of_not_not (of_decide_eq_false c1)
    rw [if_pos c1] at hM
    refine Ev.steps (B := (40, [(0, .ref 0), (2, .int x2), (4, .int x4), (5, .int x5), (6, .ref 71), (7, .ref 71)], [.int (h.1 71 1)], h)) 2 rfl ?_
    refine Ev.br (b := decide ((h.1 71 1) = 0)) rfl (fun c2 => ?_) (fun c2 => ?_)
    · have c2 := of_decide_eq_true c2
      rw [if_pos c2] at hM
      refine Ev.steps (B := (59, [(0, .ref 0), (2, .int x2), (4, .int x4), (5, .int x5), (6, .ref 71), (7, .ref 71)], [.int (h.1 71 2), .int (h.1 71 2)], h)) 4 rfl ?_
      refine Ev.br (b := decide ((h.1 71 2) = (h.1 71 2))) rfl (fun c3 => ?_) (fun c3 => ?_)
      · have c3 := of_decide_eq_true c3
        rw [if_pos c3] at hM
        refine Ev.steps (B := (73, [(0, .ref 0), (2, .int x2), (4, .int x4), (5, .int x5), (6, .ref 71), (7, .ref 71)], [.int x5, .int x2, .ref 71], h)) 3 rfl ?_
        refine Ev.call (q := (mr_X5_hasSome, [.ref 71, .int x2, .int x5], [])) rfl (E_X5_hasSome_71 x2 x5 h) ?_
        refine Ev.br (b := decide ((M_X5_hasSome 71 x2 x5 h) = 0)) rfl (fun c4 => ?_) (fun c4 => ?_)
        · have c4 := of_decide_eq_true c4
          rw [if_pos c4] at hM
          refine Ev.lv (lv := [(0, .ref 0)]) ⟨rfl, trivial⟩ rfl rfl ?_
          exact E_B_X8_copy_91 vR hR h hM
        · have c4 := of_decide_eq_false c4
          rw [if_neg c4] at hM
          refine Ev.steps (B := (85, [(0, .ref 0), (2, .int x2), (4, .int x4), (5, .int x5), (6, .ref 71), (7, .ref 71)], [.int x5, .int x4, .ref 71], h)) 3 rfl ?_
          refine Ev.call (q := (mr_X5_hasSome, [.ref 71, .int x4, .int x5], [])) rfl (E_X5_hasSome_71 x4 x5 h) ?_
          refine Ev.br (b := decide (¬ (M_X5_hasSome 71 x4 x5 h) = 0)) rfl (fun c5 => ?_) (fun c5 => ?_)
          · have c5 := of_decide_eq_true c5
            rw [if_neg c5] at hM
            refine Ev.steps (B := (112, [(0, .ref 0), (2, .int x2), (4, .int x4), (5, .int x5), (6, .ref 71), (7, .ref 71)], [.int x5, .int x4, .ref (71 + 1), .int x2, .ref (71 + 1)], h)) 7 rfl ?_
            obtain ⟨g6, hM⟩ := am_gS hM
            refine Ev.g (B := (115, [(0, .ref 0), (2, .int x2), (4, .int x4), (5, .int x5), (6, .ref 71), (7, .ref 71)], [], (am_sa h (71 + 1) (va_cpy (h.2.1 (71 + 1)) (h.2.1 (71 + 1)) (Int32.toNatClampNeg x2) (Int32.toNatClampNeg x4) (Int32.toNatClampNeg x5))))) g6 rfl ?_
            refine Ev.steps (B := (116, [(0, .ref 0), (2, .int x2), (4, .int x4), (5, .int x5), (6, .ref 71), (7, .ref 71)], [.int 1], (am_sa h (71 + 1) (va_cpy (h.2.1 (71 + 1)) (h.2.1 (71 + 1)) (Int32.toNatClampNeg x2) (Int32.toNatClampNeg x4) (Int32.toNatClampNeg x5))))) 1 rfl ?_
            obtain ⟨rfl, rfl⟩ := am_sp hM
            exact Ev.ret rfl
          · have c5 := Decidable.of_not_not (of_decide_eq_false c5)
            rw [if_pos c5] at hM
            refine Ev.lv (lv := [(0, .ref 0)]) ⟨rfl, trivial⟩ rfl rfl ?_
            exact E_B_X8_copy_91 vR hR h hM
      · have c3 := of_decide_eq_false c3
        rw [if_neg c3] at hM
        refine Ev.steps (B := (64, [(0, .ref 0), (2, .int x2), (4, .int x4), (5, .int x5), (6, .ref 71), (7, .ref 71)], [.int 4, .ref 0], h)) 2 rfl ?_
        obtain ⟨v2, h1, e7, hM⟩ := am_bS hM
        refine Ev.call (q := (mr_X8_found, [.ref 0, .int 4], [])) rfl (E_X8_found_0 4 h v2 h1 e7) ?_
        obtain ⟨rfl, rfl⟩ := am_sp hM
        exact Ev.ret rfl
    · have c2 := of_decide_eq_false c2
      rw [if_neg c2] at hM
      refine Ev.lv (lv := [(0, .ref 0)]) ⟨rfl, trivial⟩ rfl rfl ?_
      exact E_B_X8_copy_43 vR hR h hM
set_option maxRecDepth 10000 in
theorem E_B_X8_copy_14_71_73 (vR : Int32) (hR : AH) (x2 : Int32) (x4 : Int32) (x5 : Int32) (h : AH) (hM : B_X8_copy_14 x2 x4 x5 71 73 h = some (vR, hR)) : Ev none mr_X8_copy (14, [(0, .ref 0), (2, .int x2), (4, .int x4), (5, .int x5), (6, .ref 71), (7, .ref 73)], [], h) (some (.int vR)) hR := by
  unfold B_X8_copy_14 at hM
  refine Ev.steps (B := (32, [(0, .ref 0), (2, .int x2), (4, .int x4), (5, .int x5), (6, .ref 71), (7, .ref 73)], [.int (h.1 71 1)], h)) 6 rfl ?_
  refine Ev.br (b := decide (¬ (h.1 71 1) = 0)) rfl (fun c1 => ?_) (fun c1 => ?_)
  · have c1 := of_decide_eq_true c1
    rw [if_neg c1] at hM
    refine Ev.lv (lv := [(0, .ref 0)]) ⟨rfl, trivial⟩ rfl rfl ?_
    exact E_B_X8_copy_43 vR hR h hM
  · have c1 := Decidable.of_not_not (of_decide_eq_false c1)
    rw [if_pos c1] at hM
    refine Ev.steps (B := (40, [(0, .ref 0), (2, .int x2), (4, .int x4), (5, .int x5), (6, .ref 71), (7, .ref 73)], [.int (h.1 73 1)], h)) 2 rfl ?_
    refine Ev.br (b := decide ((h.1 73 1) = 0)) rfl (fun c2 => ?_) (fun c2 => ?_)
    · have c2 := of_decide_eq_true c2
      rw [if_pos c2] at hM
      refine Ev.steps (B := (59, [(0, .ref 0), (2, .int x2), (4, .int x4), (5, .int x5), (6, .ref 71), (7, .ref 73)], [.int (h.1 73 2), .int (h.1 71 2)], h)) 4 rfl ?_
      refine Ev.br (b := decide ((h.1 71 2) = (h.1 73 2))) rfl (fun c3 => ?_) (fun c3 => ?_)
      · have c3 := of_decide_eq_true c3
        rw [if_pos c3] at hM
        refine Ev.steps (B := (73, [(0, .ref 0), (2, .int x2), (4, .int x4), (5, .int x5), (6, .ref 71), (7, .ref 73)], [.int x5, .int x2, .ref 71], h)) 3 rfl ?_
        refine Ev.call (q := (mr_X5_hasSome, [.ref 71, .int x2, .int x5], [])) rfl (E_X5_hasSome_71 x2 x5 h) ?_
        refine Ev.br (b := decide ((M_X5_hasSome 71 x2 x5 h) = 0)) rfl (fun c4 => ?_) (fun c4 => ?_)
        · have c4 := of_decide_eq_true c4
          rw [if_pos c4] at hM
          refine Ev.lv (lv := [(0, .ref 0)]) ⟨rfl, trivial⟩ rfl rfl ?_
          exact E_B_X8_copy_91 vR hR h hM
        · have c4 := of_decide_eq_false c4
          rw [if_neg c4] at hM
          refine Ev.steps (B := (85, [(0, .ref 0), (2, .int x2), (4, .int x4), (5, .int x5), (6, .ref 71), (7, .ref 73)], [.int x5, .int x4, .ref 73], h)) 3 rfl ?_
          refine Ev.call (q := (mr_X5_hasSome, [.ref 73, .int x4, .int x5], [])) rfl (E_X5_hasSome_73 x4 x5 h) ?_
          refine Ev.br (b := decide (¬ (M_X5_hasSome 73 x4 x5 h) = 0)) rfl (fun c5 => ?_) (fun c5 => ?_)
          · have c5 := of_decide_eq_true c5
            rw [if_neg c5] at hM
            refine Ev.steps (B := (112, [(0, .ref 0), (2, .int x2), (4, .int x4), (5, .int x5), (6, .ref 71), (7, .ref 73)], [.int x5, .int x4, .ref (73 + 1), .int x2, .ref (71 + 1)], h)) 7 rfl ?_
            obtain ⟨g6, hM⟩ := am_gS hM
            refine Ev.g (B := (115, [(0, .ref 0), (2, .int x2), (4, .int x4), (5, .int x5), (6, .ref 71), (7, .ref 73)], [], (am_sa h (73 + 1) (va_cpy (h.2.1 (71 + 1)) (h.2.1 (73 + 1)) (Int32.toNatClampNeg x2) (Int32.toNatClampNeg x4) (Int32.toNatClampNeg x5))))) g6 rfl ?_
            refine Ev.steps (B := (116, [(0, .ref 0), (2, .int x2), (4, .int x4), (5, .int x5), (6, .ref 71), (7, .ref 73)], [.int 1], (am_sa h (73 + 1) (va_cpy (h.2.1 (71 + 1)) (h.2.1 (73 + 1)) (Int32.toNatClampNeg x2) (Int32.toNatClampNeg x4) (Int32.toNatClampNeg x5))))) 1 rfl ?_
            obtain ⟨rfl, rfl⟩ := am_sp hM
            exact Ev.ret rfl
          · have c5 := Decidable.of_not_not (of_decide_eq_false c5)
            rw [if_pos c5] at hM
            refine Ev.lv (lv := [(0, .ref 0)]) ⟨rfl, trivial⟩ rfl rfl ?_
            exact E_B_X8_copy_91 vR hR h hM
      · have c3 := of_decide_eq_false c3
        rw [if_neg c3] at hM
        refine Ev.steps (B := (64, [(0, .ref 0), (2, .int x2), (4, .int x4), (5, .int x5), (6, .ref 71), (7, .ref 73)], [.int 4, .ref 0], h)) 2 rfl ?_
        obtain ⟨v2, h1, e7, hM⟩ := am_bS hM
        refine Ev.call (q := (mr_X8_found, [.ref 0, .int 4], [])) rfl (E_X8_found_0 4 h v2 h1 e7) ?_
        obtain ⟨rfl, rfl⟩ := am_sp hM
        exact Ev.ret rfl
    · have c2 := of_decide_eq_false c2
      rw [if_neg c2] at hM
      refine Ev.lv (lv := [(0, .ref 0)]) ⟨rfl, trivial⟩ rfl rfl ?_
      exact E_B_X8_copy_43 vR hR h hM
set_option maxRecDepth 10000 in
theorem E_B_X8_copy_7_71 (vR : Int32) (hR : AH) (x2 : Int32) (x3 : Int32) (x4 : Int32) (x5 : Int32) (h : AH) (hM : B_X8_copy_7 x2 x3 x4 x5 71 h = some (vR, hR)) : Ev none mr_X8_copy (7, [(0, .ref 0), (2, .int x2), (3, .int x3), (4, .int x4), (5, .int x5), (6, .ref 71)], [], h) (some (.int vR)) hR := by
  unfold B_X8_copy_7 at hM
  refine Ev.steps (B := (9, [(0, .ref 0), (2, .int x2), (3, .int x3), (4, .int x4), (5, .int x5), (6, .ref 71)], [.int x3, .ref 0], h)) 2 rfl ?_
  by_cases c1 : x3 = 0
  · rw [if_pos c1] at hM
    refine Ev.call (q := (mr_X8_sheetAt, [.ref 0, .int x3], [])) rfl (E_X8_sheetAt_67 x3 h c1) ?_
    refine Ev.steps (B := (14, [(7, .ref 67), (0, .ref 0), (2, .int x2), (3, .int x3), (4, .int x4), (5, .int x5), (6, .ref 71)], [], h)) 1 rfl ?_
    refine Ev.lv (lv := [(0, .ref 0), (2, .int x2), (4, .int x4), (5, .int x5), (6, .ref 71), (7, .ref 67)]) ⟨rfl, rfl, rfl, rfl, rfl, rfl, trivial⟩ rfl rfl ?_
    exact E_B_X8_copy_14_71_67 vR hR x2 x4 x5 h hM
  · rw [if_neg c1] at hM
    by_cases c2 : x3 = 1
    · rw [if_pos c2] at hM
      refine Ev.call (q := (mr_X8_sheetAt, [.ref 0, .int x3], [])) rfl (E_X8_sheetAt_69 x3 h c2) ?_
      refine Ev.steps (B := (14, [(7, .ref 69), (0, .ref 0), (2, .int x2), (3, .int x3), (4, .int x4), (5, .int x5), (6, .ref 71)], [], h)) 1 rfl ?_
      refine Ev.lv (lv := [(0, .ref 0), (2, .int x2), (4, .int x4), (5, .int x5), (6, .ref 71), (7, .ref 69)]) ⟨rfl, rfl, rfl, rfl, rfl, rfl, trivial⟩ rfl rfl ?_
      exact E_B_X8_copy_14_71_69 vR hR x2 x4 x5 h hM
    · rw [if_neg c2] at hM
      by_cases c3 : x3 = 2
      · rw [if_pos c3] at hM
        refine Ev.call (q := (mr_X8_sheetAt, [.ref 0, .int x3], [])) rfl (E_X8_sheetAt_71 x3 h c3) ?_
        refine Ev.steps (B := (14, [(7, .ref 71), (0, .ref 0), (2, .int x2), (3, .int x3), (4, .int x4), (5, .int x5), (6, .ref 71)], [], h)) 1 rfl ?_
        refine Ev.lv (lv := [(0, .ref 0), (2, .int x2), (4, .int x4), (5, .int x5), (6, .ref 71), (7, .ref 71)]) ⟨rfl, rfl, rfl, rfl, rfl, rfl, trivial⟩ rfl rfl ?_
        exact E_B_X8_copy_14_71_71 vR hR x2 x4 x5 h hM
      · rw [if_neg c3] at hM
        by_cases c4 : x3 = 3
        · rw [if_pos c4] at hM
          refine Ev.call (q := (mr_X8_sheetAt, [.ref 0, .int x3], [])) rfl (E_X8_sheetAt_73 x3 h c4) ?_
          refine Ev.steps (B := (14, [(7, .ref 73), (0, .ref 0), (2, .int x2), (3, .int x3), (4, .int x4), (5, .int x5), (6, .ref 71)], [], h)) 1 rfl ?_
          refine Ev.lv (lv := [(0, .ref 0), (2, .int x2), (4, .int x4), (5, .int x5), (6, .ref 71), (7, .ref 73)]) ⟨rfl, rfl, rfl, rfl, rfl, rfl, trivial⟩ rfl rfl ?_
          exact E_B_X8_copy_14_71_73 vR hR x2 x4 x5 h hM
        · rw [if_neg c4] at hM
          refine Ev.call (q := (mr_X8_sheetAt, [.ref 0, .int x3], [])) rfl (E_X8_sheetAt_d x3 h c1 c2 c3 c4) ?_
          refine Ev.steps (B := (26, [(7, .null), (0, .ref 0), (2, .int x2), (3, .int x3), (4, .int x4), (5, .int x5), (6, .ref 71)], [.int (-2)], h)) 6 rfl ?_
          obtain ⟨rfl, rfl⟩ := am_sp hM
          exact Ev.ret rfl
set_option maxRecDepth 10000 in
theorem E_B_X8_copy_14_73_67 (vR : Int32) (hR : AH) (x2 : Int32) (x4 : Int32) (x5 : Int32) (h : AH) (hM : B_X8_copy_14 x2 x4 x5 73 67 h = some (vR, hR)) : Ev none mr_X8_copy (14, [(0, .ref 0), (2, .int x2), (4, .int x4), (5, .int x5), (6, .ref 73), (7, .ref 67)], [], h) (some (.int vR)) hR := by
  unfold B_X8_copy_14 at hM
  refine Ev.steps (B := (32, [(0, .ref 0), (2, .int x2), (4, .int x4), (5, .int x5), (6, .ref 73), (7, .ref 67)], [.int (h.1 73 1)], h)) 6 rfl ?_
  refine Ev.br (b := decide (¬ (h.1 73 1) = 0)) rfl (fun c1 => ?_) (fun c1 => ?_)
  · have c1 := of_decide_eq_true c1
    rw [if_neg c1] at hM
    refine Ev.lv (lv := [(0, .ref 0)]) ⟨rfl, trivial⟩ rfl rfl ?_
    exact E_B_X8_copy_43 vR hR h hM
  · have c1 := Decidable.of_not_not (of_decide_eq_false c1)
    rw [if_pos c1] at hM
    refine Ev.steps (B := (40, [(0, .ref 0), (2, .int x2), (4, .int x4), (5, .int x5), (6, .ref 73), (7, .ref 67)], [.int (h.1 67 1)], h)) 2 rfl ?_
    refine Ev.br (b := decide ((h.1 67 1) = 0)) rfl (fun c2 => ?_) (fun c2 => ?_)
    · have c2 := of_decide_eq_true c2
      rw [if_pos c2] at hM
      refine Ev.steps (B := (59, [(0, .ref 0), (2, .int x2), (4, .int x4), (5, .int x5), (6, .ref 73), (7, .ref 67)], [.int (h.1 67 2), .int (h.1 73 2)], h)) 4 rfl ?_
      refine Ev.br (b := decide ((h.1 73 2) = (h.1 67 2))) rfl (fun c3 => ?_) (fun c3 => ?_)
      · have c3 := of_decide_eq_true c3
        rw [if_pos c3] at hM
        refine Ev.steps (B := (73, [(0, .ref 0), (2, .int x2), (4, .int x4), (5, .int x5), (6, .ref 73), (7, .ref 67)], [.int x5, .int x2, .ref 73], h)) 3 rfl ?_
        refine Ev.call (q := (mr_X5_hasSome, [.ref 73, .int x2, .int x5], [])) rfl (E_X5_hasSome_73 x2 x5 h) ?_
        refine Ev.br (b := decide ((M_X5_hasSome 73 x2 x5 h) = 0)) rfl (fun c4 => ?_) (fun c4 => ?_)
        · have c4 := of_decide_eq_true c4
          rw [if_pos c4] at hM
          refine Ev.lv (lv := [(0, .ref 0)]) ⟨rfl, trivial⟩ rfl rfl ?_
          exact E_B_X8_copy_91 vR hR h hM
        · have c4 := of_decide_eq_false c4
          rw [if_neg c4] at hM
          refine Ev.steps (B := (85, [(0, .ref 0), (2, .int x2), (4, .int x4), (5, .int x5), (6, .ref 73), (7, .ref 67)], [.int x5, .int x4, .ref 67], h)) 3 rfl ?_
          refine Ev.call (q := (mr_X5_hasSome, [.ref 67, .int x4, .int x5], [])) rfl (E_X5_hasSome_67 x4 x5 h) ?_
          refine Ev.br (b := decide (¬ (M_X5_hasSome 67 x4 x5 h) = 0)) rfl (fun c5 => ?_) (fun c5 => ?_)
          · have c5 := of_decide_eq_true c5
            rw [if_neg c5] at hM
            refine Ev.steps (B := (112, [(0, .ref 0), (2, .int x2), (4, .int x4), (5, .int x5), (6, .ref 73), (7, .ref 67)], [.int x5, .int x4, .ref (67 + 1), .int x2, .ref (73 + 1)], h)) 7 rfl ?_
            obtain ⟨g6, hM⟩ := am_gS hM
            refine Ev.g (B := (115, [(0, .ref 0), (2, .int x2), (4, .int x4), (5, .int x5), (6, .ref 73), (7, .ref 67)], [], (am_sa h (67 + 1) (va_cpy (h.2.1 (73 + 1)) (h.2.1 (67 + 1)) (Int32.toNatClampNeg x2) (Int32.toNatClampNeg x4) (Int32.toNatClampNeg x5))))) g6 rfl ?_
            refine Ev.steps (B := (116, [(0, .ref 0), (2, .int x2), (4, .int x4), (5, .int x5), (6, .ref 73), (7, .ref 67)], [.int 1], (am_sa h (67 + 1) (va_cpy (h.2.1 (73 + 1)) (h.2.1 (67 + 1)) (Int32.toNatClampNeg x2) (Int32.toNatClampNeg x4) (Int32.toNatClampNeg x5))))) 1 rfl ?_
            obtain ⟨rfl, rfl⟩ := am_sp hM
            exact Ev.ret rfl
          · have c5 := Decidable.of_not_not (of_decide_eq_false c5)
            rw [if_pos c5] at hM
            refine Ev.lv (lv := [(0, .ref 0)]) ⟨rfl, trivial⟩ rfl rfl ?_
            exact E_B_X8_copy_91 vR hR h hM
      · have c3 := of_decide_eq_false c3
        rw [if_neg c3] at hM
        refine Ev.steps (B := (64, [(0, .ref 0), (2, .int x2), (4, .int x4), (5, .int x5), (6, .ref 73), (7, .ref 67)], [.int 4, .ref 0], h)) 2 rfl ?_
        obtain ⟨v2, h1, e7, hM⟩ := am_bS hM
        refine Ev.call (q := (mr_X8_found, [.ref 0, .int 4], [])) rfl (E_X8_found_0 4 h v2 h1 e7) ?_
        obtain ⟨rfl, rfl⟩ := am_sp hM
        exact Ev.ret rfl
    · have c2 := of_decide_eq_false c2
      rw [if_neg c2] at hM
      refine Ev.lv (lv := [(0, .ref 0)]) ⟨rfl, trivial⟩ rfl rfl ?_
      exact E_B_X8_copy_43 vR hR h hM
set_option maxRecDepth 10000 in
theorem E_B_X8_copy_14_73_69 (vR : Int32) (hR : AH) (x2 : Int32) (x4 : Int32) (x5 : Int32) (h : AH) (hM : B_X8_copy_14 x2 x4 x5 73 69 h = some (vR, hR)) : Ev none mr_X8_copy (14, [(0, .ref 0), (2, .int x2), (4, .int x4), (5, .int x5), (6, .ref 73), (7, .ref 69)], [], h) (some (.int vR)) hR := by
  unfold B_X8_copy_14 at hM
  refine Ev.steps (B := (32, [(0, .ref 0), (2, .int x2), (4, .int x4), (5, .int x5), (6, .ref 73), (7, .ref 69)], [.int (h.1 73 1)], h)) 6 rfl ?_
  refine Ev.br (b := decide (¬ (h.1 73 1) = 0)) rfl (fun c1 => ?_) (fun c1 => ?_)
  · have c1 := of_decide_eq_true c1
    rw [if_neg c1] at hM
    refine Ev.lv (lv := [(0, .ref 0)]) ⟨rfl, trivial⟩ rfl rfl ?_
    exact E_B_X8_copy_43 vR hR h hM
  · have c1 := Decidable.of_not_not (of_decide_eq_false c1)
    rw [if_pos c1] at hM
    refine Ev.steps (B := (40, [(0, .ref 0), (2, .int x2), (4, .int x4), (5, .int x5), (6, .ref 73), (7, .ref 69)], [.int (h.1 69 1)], h)) 2 rfl ?_
    refine Ev.br (b := decide ((h.1 69 1) = 0)) rfl (fun c2 => ?_) (fun c2 => ?_)
    · have c2 := of_decide_eq_true c2
      rw [if_pos c2] at hM
      refine Ev.steps (B := (59, [(0, .ref 0), (2, .int x2), (4, .int x4), (5, .int x5), (6, .ref 73), (7, .ref 69)], [.int (h.1 69 2), .int (h.1 73 2)], h)) 4 rfl ?_
      refine Ev.br (b := decide ((h.1 73 2) = (h.1 69 2))) rfl (fun c3 => ?_) (fun c3 => ?_)
      · have c3 := of_decide_eq_true c3
        rw [if_pos c3] at hM
        refine Ev.steps (B := (73, [(0, .ref 0), (2, .int x2), (4, .int x4), (5, .int x5), (6, .ref 73), (7, .ref 69)], [.int x5, .int x2, .ref 73], h)) 3 rfl ?_
        refine Ev.call (q := (mr_X5_hasSome, [.ref 73, .int x2, .int x5], [])) rfl (E_X5_hasSome_73 x2 x5 h) ?_
        refine Ev.br (b := decide ((M_X5_hasSome 73 x2 x5 h) = 0)) rfl (fun c4 => ?_) (fun c4 => ?_)
        · have c4 := of_decide_eq_true c4
          rw [if_pos c4] at hM
          refine Ev.lv (lv := [(0, .ref 0)]) ⟨rfl, trivial⟩ rfl rfl ?_
          exact E_B_X8_copy_91 vR hR h hM
        · have c4 := of_decide_eq_false c4
          rw [if_neg c4] at hM
          refine Ev.steps (B := (85, [(0, .ref 0), (2, .int x2), (4, .int x4), (5, .int x5), (6, .ref 73), (7, .ref 69)], [.int x5, .int x4, .ref 69], h)) 3 rfl ?_
          refine Ev.call (q := (mr_X5_hasSome, [.ref 69, .int x4, .int x5], [])) rfl (E_X5_hasSome_69 x4 x5 h) ?_
          refine Ev.br (b := decide (¬ (M_X5_hasSome 69 x4 x5 h) = 0)) rfl (fun c5 => ?_) (fun c5 => ?_)
          · have c5 := of_decide_eq_true c5
            rw [if_neg c5] at hM
            refine Ev.steps (B := (112, [(0, .ref 0), (2, .int x2), (4, .int x4), (5, .int x5), (6, .ref 73), (7, .ref 69)], [.int x5, .int x4, .ref (69 + 1), .int x2, .ref (73 + 1)], h)) 7 rfl ?_
            obtain ⟨g6, hM⟩ := am_gS hM
            refine Ev.g (B := (115, [(0, .ref 0), (2, .int x2), (4, .int x4), (5, .int x5), (6, .ref 73), (7, .ref 69)], [], (am_sa h (69 + 1) (va_cpy (h.2.1 (73 + 1)) (h.2.1 (69 + 1)) (Int32.toNatClampNeg x2) (Int32.toNatClampNeg x4) (Int32.toNatClampNeg x5))))) g6 rfl ?_
            refine Ev.steps (B := (116, [(0, .ref 0), (2, .int x2), (4, .int x4), (5, .int x5), (6, .ref 73), (7, .ref 69)], [.int 1], (am_sa h (69 + 1) (va_cpy (h.2.1 (73 + 1)) (h.2.1 (69 + 1)) (Int32.toNatClampNeg x2) (Int32.toNatClampNeg x4) (Int32.toNatClampNeg x5))))) 1 rfl ?_
            obtain ⟨rfl, rfl⟩ := am_sp hM
            exact Ev.ret rfl
          · have c5 := Decidable.of_not_not (of_decide_eq_false c5)
            rw [if_pos c5] at hM
            refine Ev.lv (lv := [(0, .ref 0)]) ⟨rfl, trivial⟩ rfl rfl ?_
            exact E_B_X8_copy_91 vR hR h hM
      · have c3 := of_decide_eq_false c3
        rw [if_neg c3] at hM
        refine Ev.steps (B := (64, [(0, .ref 0), (2, .int x2), (4, .int x4), (5, .int x5), (6, .ref 73), (7, .ref 69)], [.int 4, .ref 0], h)) 2 rfl ?_
        obtain ⟨v2, h1, e7, hM⟩ := am_bS hM
        refine Ev.call (q := (mr_X8_found, [.ref 0, .int 4], [])) rfl (E_X8_found_0 4 h v2 h1 e7) ?_
        obtain ⟨rfl, rfl⟩ := am_sp hM
        exact Ev.ret rfl
    · have c2 := of_decide_eq_false c2
      rw [if_neg c2] at hM
      refine Ev.lv (lv := [(0, .ref 0)]) ⟨rfl, trivial⟩ rfl rfl ?_
      exact E_B_X8_copy_43 vR hR h hM
set_option maxRecDepth 10000 in
theorem E_B_X8_copy_14_73_71 (vR : Int32) (hR : AH) (x2 : Int32) (x4 : Int32) (x5 : Int32) (h : AH) (hM : B_X8_copy_14 x2 x4 x5 73 71 h = some (vR, hR)) : Ev none mr_X8_copy (14, [(0, .ref 0), (2, .int x2), (4, .int x4), (5, .int x5), (6, .ref 73), (7, .ref 71)], [], h) (some (.int vR)) hR := by
  unfold B_X8_copy_14 at hM
  refine Ev.steps (B := (32, [(0, .ref 0), (2, .int x2), (4, .int x4), (5, .int x5), (6, .ref 73), (7, .ref 71)], [.int (h.1 73 1)], h)) 6 rfl ?_
  refine Ev.br (b := decide (¬ (h.1 73 1) = 0)) rfl (fun c1 => ?_) (fun c1 => ?_)
  · have c1 := of_decide_eq_true c1
    rw [if_neg c1] at hM
    refine Ev.lv (lv := [(0, .ref 0)]) ⟨rfl, trivial⟩ rfl rfl ?_
    exact E_B_X8_copy_43 vR hR h hM
  · have c1 := Decidable.of_not_not (of_decide_eq_false c1)
    rw [if_pos c1] at hM
    refine Ev.steps (B := (40, [(0, .ref 0), (2, .int x2), (4, .int x4), (5, .int x5), (6, .ref 73), (7, .ref 71)], [.int (h.1 71 1)], h)) 2 rfl ?_
    refine Ev.br (b := decide ((h.1 71 1) = 0)) rfl (fun c2 => ?_) (fun c2 => ?_)
    · have c2 := of_decide_eq_true c2
      rw [if_pos c2] at hM
      refine Ev.steps (B := (59, [(0, .ref 0), (2, .int x2), (4, .int x4), (5, .int x5), (6, .ref 73), (7, .ref 71)], [.int (h.1 71 2), .int (h.1 73 2)], h)) 4 rfl ?_
      refine Ev.br (b := decide ((h.1 73 2) = (h.1 71 2))) rfl (fun c3 => ?_) (fun c3 => ?_)
      · have c3 := of_decide_eq_true c3
        rw [if_pos c3] at hM
        refine Ev.steps (B := (73, [(0, .ref 0), (2, .int x2), (4, .int x4), (5, .int x5), (6, .ref 73), (7, .ref 71)], [.int x5, .int x2, .ref 73], h)) 3 rfl ?_
        refine Ev.call (q := (mr_X5_hasSome, [.ref 73, .int x2, .int x5], [])) rfl (E_X5_hasSome_73 x2 x5 h) ?_
        refine Ev.br (b := decide ((M_X5_hasSome 73 x2 x5 h) = 0)) rfl (fun c4 => ?_) (fun c4 => ?_)
        · have c4 := of_decide_eq_true c4
          rw [if_pos c4] at hM
          refine Ev.lv (lv := [(0, .ref 0)]) ⟨rfl, trivial⟩ rfl rfl ?_
          exact E_B_X8_copy_91 vR hR h hM
        · have c4 := of_decide_eq_false c4
          rw [if_neg c4] at hM
          refine Ev.steps (B := (85, [(0, .ref 0), (2, .int x2), (4, .int x4), (5, .int x5), (6, .ref 73), (7, .ref 71)], [.int x5, .int x4, .ref 71], h)) 3 rfl ?_
          refine Ev.call (q := (mr_X5_hasSome, [.ref 71, .int x4, .int x5], [])) rfl (E_X5_hasSome_71 x4 x5 h) ?_
          refine Ev.br (b := decide (¬ (M_X5_hasSome 71 x4 x5 h) = 0)) rfl (fun c5 => ?_) (fun c5 => ?_)
          · have c5 := of_decide_eq_true c5
            rw [if_neg c5] at hM
            refine Ev.steps (B := (112, [(0, .ref 0), (2, .int x2), (4, .int x4), (5, .int x5), (6, .ref 73), (7, .ref 71)], [.int x5, .int x4, .ref (71 + 1), .int x2, .ref (73 + 1)], h)) 7 rfl ?_
            obtain ⟨g6, hM⟩ := am_gS hM
            refine Ev.g (B := (115, [(0, .ref 0), (2, .int x2), (4, .int x4), (5, .int x5), (6, .ref 73), (7, .ref 71)], [], (am_sa h (71 + 1) (va_cpy (h.2.1 (73 + 1)) (h.2.1 (71 + 1)) (Int32.toNatClampNeg x2) (Int32.toNatClampNeg x4) (Int32.toNatClampNeg x5))))) g6 rfl ?_
            refine Ev.steps (B := (116, [(0, .ref 0), (2, .int x2), (4, .int x4), (5, .int x5), (6, .ref 73), (7, .ref 71)], [.int 1], (am_sa h (71 + 1) (va_cpy (h.2.1 (73 + 1)) (h.2.1 (71 + 1)) (Int32.toNatClampNeg x2) (Int32.toNatClampNeg x4) (Int32.toNatClampNeg x5))))) 1 rfl ?_
            obtain ⟨rfl, rfl⟩ := am_sp hM
            exact Ev.ret rfl
          · have c5 := Decidable.of_not_not (of_decide_eq_false c5)
            rw [if_pos c5] at hM
            refine Ev.lv (lv := [(0, .ref 0)]) ⟨rfl, trivial⟩ rfl rfl ?_
            exact E_B_X8_copy_91 vR hR h hM
      · have c3 := of_decide_eq_false c3
        rw [if_neg c3] at hM
        refine Ev.steps (B := (64, [(0, .ref 0), (2, .int x2), (4, .int x4), (5, .int x5), (6, .ref 73), (7, .ref 71)], [.int 4, .ref 0], h)) 2 rfl ?_
        obtain ⟨v2, h1, e7, hM⟩ := am_bS hM
        refine Ev.call (q := (mr_X8_found, [.ref 0, .int 4], [])) rfl (E_X8_found_0 4 h v2 h1 e7) ?_
        obtain ⟨rfl, rfl⟩ := am_sp hM
        exact Ev.ret rfl
    · have c2 := of_decide_eq_false c2
      rw [if_neg c2] at hM
      refine Ev.lv (lv := [(0, .ref 0)]) ⟨rfl, trivial⟩ rfl rfl ?_
      exact E_B_X8_copy_43 vR hR h hM
set_option maxRecDepth 10000 in
theorem E_B_X8_copy_14_73_73 (vR : Int32) (hR : AH) (x2 : Int32) (x4 : Int32) (x5 : Int32) (h : AH) (hM : B_X8_copy_14 x2 x4 x5 73 73 h = some (vR, hR)) : Ev none mr_X8_copy (14, [(0, .ref 0), (2, .int x2), (4, .int x4), (5, .int x5), (6, .ref 73), (7, .ref 73)], [], h) (some (.int vR)) hR := by
  unfold B_X8_copy_14 at hM
  refine Ev.steps (B := (32, [(0, .ref 0), (2, .int x2), (4, .int x4), (5, .int x5), (6, .ref 73), (7, .ref 73)], [.int (h.1 73 1)], h)) 6 rfl ?_
  refine Ev.br (b := decide (¬ (h.1 73 1) = 0)) rfl (fun c1 => ?_) (fun c1 => ?_)
  · have c1 := of_decide_eq_true c1
    rw [if_neg c1] at hM
    refine Ev.lv (lv := [(0, .ref 0)]) ⟨rfl, trivial⟩ rfl rfl ?_
    exact E_B_X8_copy_43 vR hR h hM
  · have c1 := Decidable.of_not_not (of_decide_eq_false c1)
    rw [if_pos c1] at hM
    refine Ev.steps (B := (40, [(0, .ref 0), (2, .int x2), (4, .int x4), (5, .int x5), (6, .ref 73), (7, .ref 73)], [.int (h.1 73 1)], h)) 2 rfl ?_
    refine Ev.br (b := decide ((h.1 73 1) = 0)) rfl (fun c2 => ?_) (fun c2 => ?_)
    · have c2 := of_decide_eq_true c2
      rw [if_pos c2] at hM
      refine Ev.steps (B := (59, [(0, .ref 0), (2, .int x2), (4, .int x4), (5, .int x5), (6, .ref 73), (7, .ref 73)], [.int (h.1 73 2), .int (h.1 73 2)], h)) 4 rfl ?_
      refine Ev.br (b := decide ((h.1 73 2) = (h.1 73 2))) rfl (fun c3 => ?_) (fun c3 => ?_)
      · have c3 := of_decide_eq_true c3
        rw [if_pos c3] at hM
        refine Ev.steps (B := (73, [(0, .ref 0), (2, .int x2), (4, .int x4), (5, .int x5), (6, .ref 73), (7, .ref 73)], [.int x5, .int x2, .ref 73], h)) 3 rfl ?_
        refine Ev.call (q := (mr_X5_hasSome, [.ref 73, .int x2, .int x5], [])) rfl (E_X5_hasSome_73 x2 x5 h) ?_
        refine Ev.br (b := decide ((M_X5_hasSome 73 x2 x5 h) = 0)) rfl (fun c4 => ?_) (fun c4 => ?_)
        · have c4 := of_decide_eq_true c4
          rw [if_pos c4] at hM
          refine Ev.lv (lv := [(0, .ref 0)]) ⟨rfl, trivial⟩ rfl rfl ?_
          exact E_B_X8_copy_91 vR hR h hM
        · have c4 := of_decide_eq_false c4
          rw [if_neg c4] at hM
          refine Ev.steps (B := (85, [(0, .ref 0), (2, .int x2), (4, .int x4), (5, .int x5), (6, .ref 73), (7, .ref 73)], [.int x5, .int x4, .ref 73], h)) 3 rfl ?_
          refine Ev.call (q := (mr_X5_hasSome, [.ref 73, .int x4, .int x5], [])) rfl (E_X5_hasSome_73 x4 x5 h) ?_
          refine Ev.br (b := decide (¬ (M_X5_hasSome 73 x4 x5 h) = 0)) rfl (fun c5 => ?_) (fun c5 => ?_)
          · have c5 := of_decide_eq_true c5
            rw [if_neg c5] at hM
            refine Ev.steps (B := (112, [(0, .ref 0), (2, .int x2), (4, .int x4), (5, .int x5), (6, .ref 73), (7, .ref 73)], [.int x5, .int x4, .ref (73 + 1), .int x2, .ref (73 + 1)], h)) 7 rfl ?_
            obtain ⟨g6, hM⟩ := am_gS hM
            refine Ev.g (B := (115, [(0, .ref 0), (2, .int x2), (4, .int x4), (5, .int x5), (6, .ref 73), (7, .ref 73)], [], (am_sa h (73 + 1) (va_cpy (h.2.1 (73 + 1)) (h.2.1 (73 + 1)) (Int32.toNatClampNeg x2) (Int32.toNatClampNeg x4) (Int32.toNatClampNeg x5))))) g6 rfl ?_
            refine Ev.steps (B := (116, [(0, .ref 0), (2, .int x2), (4, .int x4), (5, .int x5), (6, .ref 73), (7, .ref 73)], [.int 1], (am_sa h (73 + 1) (va_cpy (h.2.1 (73 + 1)) (h.2.1 (73 + 1)) (Int32.toNatClampNeg x2) (Int32.toNatClampNeg x4) (Int32.toNatClampNeg x5))))) 1 rfl ?_
            obtain ⟨rfl, rfl⟩ := am_sp hM
            exact Ev.ret rfl
          · have c5 := Decidable.of_not_not (of_decide_eq_false c5)
            rw [if_pos c5] at hM
            refine Ev.lv (lv := [(0, .ref 0)]) ⟨rfl, trivial⟩ rfl rfl ?_
            exact E_B_X8_copy_91 vR hR h hM
      · have c3 := of_decide_eq_false c3
        rw [if_neg c3] at hM
        refine Ev.steps (B := (64, [(0, .ref 0), (2, .int x2), (4, .int x4), (5, .int x5), (6, .ref 73), (7, .ref 73)], [.int 4, .ref 0], h)) 2 rfl ?_
        obtain ⟨v2, h1, e7, hM⟩ := am_bS hM
        refine Ev.call (q := (mr_X8_found, [.ref 0, .int 4], [])) rfl (E_X8_found_0 4 h v2 h1 e7) ?_
        obtain ⟨rfl, rfl⟩ := am_sp hM
        exact Ev.ret rfl
    · have c2 := of_decide_eq_false c2
      rw [if_neg c2] at hM
      refine Ev.lv (lv := [(0, .ref 0)]) ⟨rfl, trivial⟩ rfl rfl ?_
      exact E_B_X8_copy_43 vR hR h hM
set_option maxRecDepth 10000 in
theorem E_B_X8_copy_7_73 (vR : Int32) (hR : AH) (x2 : Int32) (x3 : Int32) (x4 : Int32) (x5 : Int32) (h : AH) (hM : B_X8_copy_7 x2 x3 x4 x5 73 h = some (vR, hR)) : Ev none mr_X8_copy (7, [(0, .ref 0), (2, .int x2), (3, .int x3), (4, .int x4), (5, .int x5), (6, .ref 73)], [], h) (some (.int vR)) hR := by
  unfold B_X8_copy_7 at hM
  refine Ev.steps (B := (9, [(0, .ref 0), (2, .int x2), (3, .int x3), (4, .int x4), (5, .int x5), (6, .ref 73)], [.int x3, .ref 0], h)) 2 rfl ?_
  by_cases c1 : x3 = 0
  · rw [if_pos c1] at hM
    refine Ev.call (q := (mr_X8_sheetAt, [.ref 0, .int x3], [])) rfl (E_X8_sheetAt_67 x3 h c1) ?_
    refine Ev.steps (B := (14, [(7, .ref 67), (0, .ref 0), (2, .int x2), (3, .int x3), (4, .int x4), (5, .int x5), (6, .ref 73)], [], h)) 1 rfl ?_
    refine Ev.lv (lv := [(0, .ref 0), (2, .int x2), (4, .int x4), (5, .int x5), (6, .ref 73), (7, .ref 67)]) ⟨rfl, rfl, rfl, rfl, rfl, rfl, trivial⟩ rfl rfl ?_
    exact E_B_X8_copy_14_73_67 vR hR x2 x4 x5 h hM
  · rw [if_neg c1] at hM
    by_cases c2 : x3 = 1
    · rw [if_pos c2] at hM
      refine Ev.call (q := (mr_X8_sheetAt, [.ref 0, .int x3], [])) rfl (E_X8_sheetAt_69 x3 h c2) ?_
      refine Ev.steps (B := (14, [(7, .ref 69), (0, .ref 0), (2, .int x2), (3, .int x3), (4, .int x4), (5, .int x5), (6, .ref 73)], [], h)) 1 rfl ?_
      refine Ev.lv (lv := [(0, .ref 0), (2, .int x2), (4, .int x4), (5, .int x5), (6, .ref 73), (7, .ref 69)]) ⟨rfl, rfl, rfl, rfl, rfl, rfl, trivial⟩ rfl rfl ?_
      exact E_B_X8_copy_14_73_69 vR hR x2 x4 x5 h hM
    · rw [if_neg c2] at hM
      by_cases c3 : x3 = 2
      · rw [if_pos c3] at hM
        refine Ev.call (q := (mr_X8_sheetAt, [.ref 0, .int x3], [])) rfl (E_X8_sheetAt_71 x3 h c3) ?_
        refine Ev.steps (B := (14, [(7, .ref 71), (0, .ref 0), (2, .int x2), (3, .int x3), (4, .int x4), (5, .int x5), (6, .ref 73)], [], h)) 1 rfl ?_
        refine Ev.lv (lv := [(0, .ref 0), (2, .int x2), (4, .int x4), (5, .int x5), (6, .ref 73), (7, .ref 71)]) ⟨rfl, rfl, rfl, rfl, rfl, rfl, trivial⟩ rfl rfl ?_
        exact E_B_X8_copy_14_73_71 vR hR x2 x4 x5 h hM
      · rw [if_neg c3] at hM
        by_cases c4 : x3 = 3
        · rw [if_pos c4] at hM
          refine Ev.call (q := (mr_X8_sheetAt, [.ref 0, .int x3], [])) rfl (E_X8_sheetAt_73 x3 h c4) ?_
          refine Ev.steps (B := (14, [(7, .ref 73), (0, .ref 0), (2, .int x2), (3, .int x3), (4, .int x4), (5, .int x5), (6, .ref 73)], [], h)) 1 rfl ?_
          refine Ev.lv (lv := [(0, .ref 0), (2, .int x2), (4, .int x4), (5, .int x5), (6, .ref 73), (7, .ref 73)]) ⟨rfl, rfl, rfl, rfl, rfl, rfl, trivial⟩ rfl rfl ?_
          exact E_B_X8_copy_14_73_73 vR hR x2 x4 x5 h hM
        · rw [if_neg c4] at hM
          refine Ev.call (q := (mr_X8_sheetAt, [.ref 0, .int x3], [])) rfl (E_X8_sheetAt_d x3 h c1 c2 c3 c4) ?_
          refine Ev.steps (B := (26, [(7, .null), (0, .ref 0), (2, .int x2), (3, .int x3), (4, .int x4), (5, .int x5), (6, .ref 73)], [.int (-2)], h)) 6 rfl ?_
          obtain ⟨rfl, rfl⟩ := am_sp hM
          exact Ev.ret rfl
