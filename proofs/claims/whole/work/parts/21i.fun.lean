def M_X9_chance (n : Nat) (a1 : Int32) (a2 : Int32) (a3 : Int32) (h : AH) : Option (Int64 × AH) :=
  if (M_X9_in a1 0 16) = 0 then
    some ((M_X9_no (-2)), h)
  else
    am_b (M_X9_isGuest n a2 h) fun v2 h1 =>
    if v2 = 0 then
      some ((M_X9_no (-2)), h1)
    else
      if (M_X9_isTwo a3) = 0 then
        some ((M_X9_no (-2)), h1)
      else
        am_b (M_X9_chanceOf n a1 a2 a3 h1) fun v4 h3 =>
        some (v4, h3)
set_option maxRecDepth 10000 in
theorem E_X9_chance_75 (n : Nat) (a1 : Int32) (a2 : Int32) (a3 : Int32) (h : AH) (vR : Int64) (hR : AH) (hM : M_X9_chance n a1 a2 a3 h = some (vR, hR)) : Ev none mr_X9_chance (0, [(0, .ref 75), (1, .int a1), (2, .int a2), (3, .int a3)], [], h) (some (.long vR)) hR := by
  unfold M_X9_chance at hM
  refine Ev.steps (B := (4, [(0, .ref 75), (1, .int a1), (2, .int a2), (3, .int a3)], [.int 16, .int 0, .int a1], h)) 3 rfl ?_
  refine Ev.call (q := (mr_X9_in, [.int a1, .int 0, .int 16], [])) rfl (E_X9_in a1 0 16 h) ?_
  refine Ev.br (b := decide ((M_X9_in a1 0 16) = 0)) rfl (fun c1 => ?_) (fun c1 => ?_)
  · have c1 := of_decide_eq_true c1
    rw [if_pos c1] at hM
    refine Ev.steps (B := (37, [(0, .ref 75), (1, .int a1), (2, .int a2), (3, .int a3)], [.int (-2)], h)) 1 rfl ?_
    refine Ev.call (q := (mr_X9_no, [.int (-2)], [])) rfl (E_X9_no (-2) h) ?_
    obtain ⟨rfl, rfl⟩ := am_sp hM
    exact Ev.ret rfl
  · have c1 := of_decide_eq_false c1
    rw [if_neg c1] at hM
    refine Ev.steps (B := (12, [(0, .ref 75), (1, .int a1), (2, .int a2), (3, .int a3)], [.int a2, .ref 75], h)) 2 rfl ?_
    obtain ⟨v2, h1, e2, hM⟩ := am_bS hM
    refine Ev.call (q := (mr_X9_isGuest, [.ref 75, .int a2], [])) rfl (E_X9_isGuest_75 n a2 h v2 h1 e2) ?_
    refine Ev.br (b := decide (v2 = 0)) rfl (fun c3 => ?_) (fun c3 => ?_)
    · have c3 := of_decide_eq_true c3
      rw [if_pos c3] at hM
      refine Ev.steps (B := (37, [(0, .ref 75), (1, .int a1), (2, .int a2), (3, .int a3)], [.int (-2)], h1)) 1 rfl ?_
      refine Ev.call (q := (mr_X9_no, [.int (-2)], [])) rfl (E_X9_no (-2) h1) ?_
      obtain ⟨rfl, rfl⟩ := am_sp hM
      exact Ev.ret rfl
    · have c3 := of_decide_eq_false c3
      rw [if_neg c3] at hM
      refine Ev.steps (B := (19, [(0, .ref 75), (1, .int a1), (2, .int a2), (3, .int a3)], [.int a3], h1)) 1 rfl ?_
      refine Ev.call (q := (mr_X9_isTwo, [.int a3], [])) rfl (E_X9_isTwo a3 h1) ?_
      refine Ev.br (b := decide ((M_X9_isTwo a3) = 0)) rfl (fun c4 => ?_) (fun c4 => ?_)
      · have c4 := of_decide_eq_true c4
        rw [if_pos c4] at hM
        refine Ev.steps (B := (37, [(0, .ref 75), (1, .int a1), (2, .int a2), (3, .int a3)], [.int (-2)], h1)) 1 rfl ?_
        refine Ev.call (q := (mr_X9_no, [.int (-2)], [])) rfl (E_X9_no (-2) h1) ?_
        obtain ⟨rfl, rfl⟩ := am_sp hM
        exact Ev.ret rfl
      · have c4 := of_decide_eq_false c4
        rw [if_neg c4] at hM
        refine Ev.steps (B := (29, [(0, .ref 75), (1, .int a1), (2, .int a2), (3, .int a3)], [.int a3, .int a2, .int a1, .ref 75], h1)) 4 rfl ?_
        obtain ⟨v4, h3, e5, hM⟩ := am_bS hM
        refine Ev.call (q := (mr_X9_chanceOf, [.ref 75, .int a1, .int a2, .int a3], [])) rfl (E_X9_chanceOf_75 n a1 a2 a3 h1 v4 h3 e5) ?_
        refine Ev.steps (B := (40, [(0, .ref 75), (1, .int a1), (2, .int a2), (3, .int a3)], [.long v4], h3)) 1 rfl ?_
        obtain ⟨rfl, rfl⟩ := am_sp hM
        exact Ev.ret rfl
def M_X7_nextSeed (a1 : Int32) : Int32 :=
  ((1103515245 * a1) + 12345)
set_option maxRecDepth 10000 in
theorem E_X7_nextSeed (a1 : Int32) (h : AH) : Ev none mr_X7_nextSeed (0, [(0, .int a1)], [], h) (some (.int (M_X7_nextSeed a1))) h := by
  unfold M_X7_nextSeed
  refine Ev.steps (B := (8, [(0, .int a1)], [.int ((1103515245 * a1) + 12345)], h)) 5 rfl ?_
  exact Ev.ret rfl
set_option maxRecDepth 10000 in
theorem E_X1_add_44 (a1 : Int32) (a2 : Int32) (a3 : Int32) (h : AH) (hR : AH) (hM : M_X1_add 44 a1 a2 a3 h = some hR) : Ev none mr_X1_add (0, [(0, .ref 44), (1, .int a1), (2, .int a2), (3, .int a3)], [], h) none hR := by
  unfold M_X1_add at hM
  refine Ev.steps (B := (4, [(0, .ref 44), (1, .int a1), (2, .int a2), (3, .int a3)], [.int (h.1 44 3)], h)) 2 rfl ?_
  refine Ev.br (b := decide ((h.1 44 3) < 0)) rfl (fun c1 => ?_) (fun c1 => ?_)
  · have c1 := of_decide_eq_true c1
    rw [if_pos c1] at hM
    obtain rfl := am_s1 hM
    exact Ev.ret rfl
  · have c1 := of_decide_eq_false c1
    rw [if_neg c1] at hM
    refine Ev.steps (B := (13, [(0, .ref 44), (1, .int a1), (2, .int a2), (3, .int a3)], [.int 8, .int (h.1 44 3)], h)) 3 rfl ?_
    refine Ev.br (b := decide ((h.1 44 3) < 8)) rfl (fun c2 => ?_) (fun c2 => ?_)
    · have c2 := of_decide_eq_true c2
      rw [if_pos c2] at hM
      refine Ev.steps (B := (26, [(0, .ref 44), (1, .int a1), (2, .int a2), (3, .int a3)], [.int a1, .int (h.1 44 3), .ref (44 + 1)], h)) 5 rfl ?_
      obtain ⟨g3, hM⟩ := am_gS hM
      refine Ev.g (B := (27, [(0, .ref 44), (1, .int a1), (2, .int a2), (3, .int a3)], [], (am_sa h (44 + 1) (upd (h.2.1 (44 + 1)) (Int32.toNatClampNeg (h.1 44 3)) a1)))) g3 rfl ?_
      refine Ev.steps (B := (36, [(0, .ref 44), (1, .int a1), (2, .int a2), (3, .int a3)], [.int a2, .int (h.1 44 3), .ref (44 + 2)], (am_sa h (44 + 1) (upd (h.2.1 (44 + 1)) (Int32.toNatClampNeg (h.1 44 3)) a1)))) 5 rfl ?_
      obtain ⟨g4, hM⟩ := am_gS hM
      refine Ev.g (B := (37, [(0, .ref 44), (1, .int a1), (2, .int a2), (3, .int a3)], [], (am_sa (am_sa h (44 + 1) (upd (h.2.1 (44 + 1)) (Int32.toNatClampNeg (h.1 44 3)) a1)) (44 + 2) (upd (h.2.1 (44 + 2)) (Int32.toNatClampNeg (h.1 44 3)) a2)))) g4 rfl ?_
      refine Ev.steps (B := (46, [(0, .ref 44), (1, .int a1), (2, .int a2), (3, .int a3)], [.int a3, .int (h.1 44 3), .ref (44 + 3)], (am_sa (am_sa h (44 + 1) (upd (h.2.1 (44 + 1)) (Int32.toNatClampNeg (h.1 44 3)) a1)) (44 + 2) (upd (h.2.1 (44 + 2)) (Int32.toNatClampNeg (h.1 44 3)) a2)))) 5 rfl ?_
      obtain ⟨g5, hM⟩ := am_gS hM
      refine Ev.g (B := (47, [(0, .ref 44), (1, .int a1), (2, .int a2), (3, .int a3)], [], (am_sa (am_sa (am_sa h (44 + 1) (upd (h.2.1 (44 + 1)) (Int32.toNatClampNeg (h.1 44 3)) a1)) (44 + 2) (upd (h.2.1 (44 + 2)) (Int32.toNatClampNeg (h.1 44 3)) a2)) (44 + 3) (upd (h.2.1 (44 + 3)) (Int32.toNatClampNeg (h.1 44 3)) a3)))) g5 rfl ?_
      refine Ev.steps (B := (57, [(0, .ref 44), (1, .int a1), (2, .int a2), (3, .int a3)], [], (am_sf (am_sa (am_sa (am_sa h (44 + 1) (upd (h.2.1 (44 + 1)) (Int32.toNatClampNeg (h.1 44 3)) a1)) (44 + 2) (upd (h.2.1 (44 + 2)) (Int32.toNatClampNeg (h.1 44 3)) a2)) (44 + 3) (upd (h.2.1 (44 + 3)) (Int32.toNatClampNeg (h.1 44 3)) a3)) 44 3 ((h.1 44 3) + 1)))) 6 rfl ?_
      obtain rfl := am_s1 hM
      exact Ev.ret rfl
    · have c2 := of_decide_eq_false c2
      rw [if_neg c2] at hM
      obtain rfl := am_s1 hM
      exact Ev.ret rfl
def B_X7_outcomeByLots_100 (n : Nat) (h : AH) : Option (Int64 × AH) :=
  am_v (M_X2_pass n 52 39 h) fun h1 =>
  some ((M_X7_pack 52 h1), h1)
set_option maxRecDepth 10000 in
theorem E_B_X7_outcomeByLots_100 (n : Nat) (vR : Int64) (hR : AH) (h : AH) (hM : B_X7_outcomeByLots_100 n h = some (vR, hR)) : Ev none mr_X7_outcomeByLots (100, [(0, .ref 37)], [], h) (some (.long vR)) hR := by
  unfold B_X7_outcomeByLots_100 at hM
  refine Ev.steps (B := (108, [(0, .ref 37)], [.ref 39, .ref 52], h)) 4 rfl ?_
  obtain ⟨h1, e1, hM⟩ := am_vS hM
  refine Ev.call (q := (mr_X2_pass, [.ref 52, .ref 39], [])) rfl (E_X2_pass_52_39 n h h1 e1) ?_
  refine Ev.steps (B := (115, [(0, .ref 37)], [.ref 52], h1)) 2 rfl ?_
  refine Ev.call (q := (mr_X7_pack, [.ref 52], [])) rfl (E_X7_pack_52 h1) ?_
  obtain ⟨rfl, rfl⟩ := am_sp hM
  exact Ev.ret rfl
def L_X7_outcomeByLots_27 (n : Nat) : Nat → Int32 → Int32 → Int32 → AH → Option (Int64 × AH)
  | 0, _, _, _, _ => none
  | m + 1, x2, x3, x4, h =>
    if x2 ≤ x4 then
      B_X7_outcomeByLots_100 n h
    else
      if 8 ≤ x4 then
        B_X7_outcomeByLots_100 n h
      else
        am_v (M_X1_add 44 ((Int32.toUInt32 (M_X7_nextSeed x3) >>> (Int32.toUInt32 16 &&& Int32.toUInt32 31)).toInt32 - (Int32.toUInt32 (M_X7_nextSeed x3) >>> (Int32.toUInt32 16 &&& Int32.toUInt32 31)).toInt32 / 24 * 24) ((Int32.toUInt32 (M_X7_nextSeed (M_X7_nextSeed x3)) >>> (Int32.toUInt32 16 &&& Int32.toUInt32 31)).toInt32 - (Int32.toUInt32 (M_X7_nextSeed (M_X7_nextSeed x3)) >>> (Int32.toUInt32 16 &&& Int32.toUInt32 31)).toInt32 / 2 * 2) (((Int32.toUInt32 (M_X7_nextSeed (M_X7_nextSeed (M_X7_nextSeed x3))) >>> (Int32.toUInt32 16 &&& Int32.toUInt32 31)).toInt32 - (Int32.toUInt32 (M_X7_nextSeed (M_X7_nextSeed (M_X7_nextSeed x3))) >>> (Int32.toUInt32 16 &&& Int32.toUInt32 31)).toInt32 / 4 * 4) + 1) h) fun h1 =>
        L_X7_outcomeByLots_27 n m x2 (M_X7_nextSeed (M_X7_nextSeed (M_X7_nextSeed x3))) (x4 + 1) h1
set_option maxRecDepth 10000 in
theorem E_L_X7_outcomeByLots_27 (n : Nat) (vR : Int64) (hR : AH) : ∀ (m : Nat) (x2 : Int32) (x3 : Int32) (x4 : Int32) (h : AH), L_X7_outcomeByLots_27 n m x2 x3 x4 h = some (vR, hR) → Ev none mr_X7_outcomeByLots (27, [(0, .ref 37), (2, .int x2), (3, .int x3), (4, .int x4)], [], h) (some (.long vR)) hR := by
  intro m
  induction m with
  | zero =>
    intro x2 x3 x4 h hM
    exact (am_no hM).elim
  | succ m ih =>
    intro x2 x3 x4 h hM
    rw [L_X7_outcomeByLots_27] at hM
    refine Ev.steps (B := (30, [(0, .ref 37), (2, .int x2), (3, .int x3), (4, .int x4)], [.int x2, .int x4], h)) 2 rfl ?_
    refine Ev.br (b := decide (x2 ≤ x4)) rfl (fun c1 => ?_) (fun c1 => ?_)
    · have c1 := of_decide_eq_true c1
      rw [if_pos c1] at hM
      refine Ev.lv (lv := [(0, .ref 37)]) ⟨rfl, trivial⟩ rfl rfl ?_
      exact E_B_X7_outcomeByLots_100 n vR hR h hM
    · have c1 := of_decide_eq_false c1
      rw [if_neg c1] at hM
      refine Ev.steps (B := (37, [(0, .ref 37), (2, .int x2), (3, .int x3), (4, .int x4)], [.int 8, .int x4], h)) 2 rfl ?_
      refine Ev.br (b := decide (8 ≤ x4)) rfl (fun c2 => ?_) (fun c2 => ?_)
      · have c2 := of_decide_eq_true c2
        rw [if_pos c2] at hM
        refine Ev.lv (lv := [(0, .ref 37)]) ⟨rfl, trivial⟩ rfl rfl ?_
        exact E_B_X7_outcomeByLots_100 n vR hR h hM
      · have c2 := of_decide_eq_false c2
        rw [if_neg c2] at hM
        refine Ev.steps (B := (41, [(0, .ref 37), (2, .int x2), (3, .int x3), (4, .int x4)], [.int x3], h)) 1 rfl ?_
        refine Ev.call (q := (mr_X7_nextSeed, [.int x3], [])) rfl (E_X7_nextSeed x3 h) ?_
        refine Ev.steps (B := (55, [(5, .int ((Int32.toUInt32 (M_X7_nextSeed x3) >>> (Int32.toUInt32 16 &&& Int32.toUInt32 31)).toInt32 - (Int32.toUInt32 (M_X7_nextSeed x3) >>> (Int32.toUInt32 16 &&& Int32.toUInt32 31)).toInt32 / 24 * 24)), (3, .int (M_X7_nextSeed x3)), (0, .ref 37), (2, .int x2), (4, .int x4)], [.int (M_X7_nextSeed x3)], h)) 8 rfl ?_
        refine Ev.call (q := (mr_X7_nextSeed, [.int (M_X7_nextSeed x3)], [])) rfl (E_X7_nextSeed (M_X7_nextSeed x3) h) ?_
        refine Ev.steps (B := (68, [(6, .int ((Int32.toUInt32 (M_X7_nextSeed (M_X7_nextSeed x3)) >>> (Int32.toUInt32 16 &&& Int32.toUInt32 31)).toInt32 - (Int32.toUInt32 (M_X7_nextSeed (M_X7_nextSeed x3)) >>> (Int32.toUInt32 16 &&& Int32.toUInt32 31)).toInt32 / 2 * 2)), (3, .int (M_X7_nextSeed (M_X7_nextSeed x3))), (5, .int ((Int32.toUInt32 (M_X7_nextSeed x3) >>> (Int32.toUInt32 16 &&& Int32.toUInt32 31)).toInt32 - (Int32.toUInt32 (M_X7_nextSeed x3) >>> (Int32.toUInt32 16 &&& Int32.toUInt32 31)).toInt32 / 24 * 24)), (0, .ref 37), (2, .int x2), (4, .int x4)], [.int (M_X7_nextSeed (M_X7_nextSeed x3))], h)) 8 rfl ?_
        refine Ev.call (q := (mr_X7_nextSeed, [.int (M_X7_nextSeed (M_X7_nextSeed x3))], [])) rfl (E_X7_nextSeed (M_X7_nextSeed (M_X7_nextSeed x3)) h) ?_
        refine Ev.steps (B := (91, [(3, .int (M_X7_nextSeed (M_X7_nextSeed (M_X7_nextSeed x3)))), (6, .int ((Int32.toUInt32 (M_X7_nextSeed (M_X7_nextSeed x3)) >>> (Int32.toUInt32 16 &&& Int32.toUInt32 31)).toInt32 - (Int32.toUInt32 (M_X7_nextSeed (M_X7_nextSeed x3)) >>> (Int32.toUInt32 16 &&& Int32.toUInt32 31)).toInt32 / 2 * 2)), (5, .int ((Int32.toUInt32 (M_X7_nextSeed x3) >>> (Int32.toUInt32 16 &&& Int32.toUInt32 31)).toInt32 - (Int32.toUInt32 (M_X7_nextSeed x3) >>> (Int32.toUInt32 16 &&& Int32.toUInt32 31)).toInt32 / 24 * 24)), (0, .ref 37), (2, .int x2), (4, .int x4)], [.int (((Int32.toUInt32 (M_X7_nextSeed (M_X7_nextSeed (M_X7_nextSeed x3))) >>> (Int32.toUInt32 16 &&& Int32.toUInt32 31)).toInt32 - (Int32.toUInt32 (M_X7_nextSeed (M_X7_nextSeed (M_X7_nextSeed x3))) >>> (Int32.toUInt32 16 &&& Int32.toUInt32 31)).toInt32 / 4 * 4) + 1), .int ((Int32.toUInt32 (M_X7_nextSeed (M_X7_nextSeed x3)) >>> (Int32.toUInt32 16 &&& Int32.toUInt32 31)).toInt32 - (Int32.toUInt32 (M_X7_nextSeed (M_X7_nextSeed x3)) >>> (Int32.toUInt32 16 &&& Int32.toUInt32 31)).toInt32 / 2 * 2), .int ((Int32.toUInt32 (M_X7_nextSeed x3) >>> (Int32.toUInt32 16 &&& Int32.toUInt32 31)).toInt32 - (Int32.toUInt32 (M_X7_nextSeed x3) >>> (Int32.toUInt32 16 &&& Int32.toUInt32 31)).toInt32 / 24 * 24), .ref 44], h)) 13 rfl ?_
        obtain ⟨h1, e3, hM⟩ := am_vS hM
        refine Ev.call (q := (mr_X1_add, [.ref 44, .int ((Int32.toUInt32 (M_X7_nextSeed x3) >>> (Int32.toUInt32 16 &&& Int32.toUInt32 31)).toInt32 - (Int32.toUInt32 (M_X7_nextSeed x3) >>> (Int32.toUInt32 16 &&& Int32.toUInt32 31)).toInt32 / 24 * 24), .int ((Int32.toUInt32 (M_X7_nextSeed (M_X7_nextSeed x3)) >>> (Int32.toUInt32 16 &&& Int32.toUInt32 31)).toInt32 - (Int32.toUInt32 (M_X7_nextSeed (M_X7_nextSeed x3)) >>> (Int32.toUInt32 16 &&& Int32.toUInt32 31)).toInt32 / 2 * 2), .int (((Int32.toUInt32 (M_X7_nextSeed (M_X7_nextSeed (M_X7_nextSeed x3))) >>> (Int32.toUInt32 16 &&& Int32.toUInt32 31)).toInt32 - (Int32.toUInt32 (M_X7_nextSeed (M_X7_nextSeed (M_X7_nextSeed x3))) >>> (Int32.toUInt32 16 &&& Int32.toUInt32 31)).toInt32 / 4 * 4) + 1)], [])) rfl (E_X1_add_44 ((Int32.toUInt32 (M_X7_nextSeed x3) >>> (Int32.toUInt32 16 &&& Int32.toUInt32 31)).toInt32 - (Int32.toUInt32 (M_X7_nextSeed x3) >>> (Int32.toUInt32 16 &&& Int32.toUInt32 31)).toInt32 / 24 * 24) ((Int32.toUInt32 (M_X7_nextSeed (M_X7_nextSeed x3)) >>> (Int32.toUInt32 16 &&& Int32.toUInt32 31)).toInt32 - (Int32.toUInt32 (M_X7_nextSeed (M_X7_nextSeed x3)) >>> (Int32.toUInt32 16 &&& Int32.toUInt32 31)).toInt32 / 2 * 2) (((Int32.toUInt32 (M_X7_nextSeed (M_X7_nextSeed (M_X7_nextSeed x3))) >>> (Int32.toUInt32 16 &&& Int32.toUInt32 31)).toInt32 - (Int32.toUInt32 (M_X7_nextSeed (M_X7_nextSeed (M_X7_nextSeed x3))) >>> (Int32.toUInt32 16 &&& Int32.toUInt32 31)).toInt32 / 4 * 4) + 1) h h1 e3) ?_
        refine Ev.steps (B := (27, [(4, .int (x4 + 1)), (3, .int (M_X7_nextSeed (M_X7_nextSeed (M_X7_nextSeed x3)))), (6, .int ((Int32.toUInt32 (M_X7_nextSeed (M_X7_nextSeed x3)) >>> (Int32.toUInt32 16 &&& Int32.toUInt32 31)).toInt32 - (Int32.toUInt32 (M_X7_nextSeed (M_X7_nextSeed x3)) >>> (Int32.toUInt32 16 &&& Int32.toUInt32 31)).toInt32 / 2 * 2)), (5, .int ((Int32.toUInt32 (M_X7_nextSeed x3) >>> (Int32.toUInt32 16 &&& Int32.toUInt32 31)).toInt32 - (Int32.toUInt32 (M_X7_nextSeed x3) >>> (Int32.toUInt32 16 &&& Int32.toUInt32 31)).toInt32 / 24 * 24)), (0, .ref 37), (2, .int x2)], [], h1)) 2 rfl ?_
        refine Ev.lv (lv := [(0, .ref 37), (2, .int x2), (3, .int (M_X7_nextSeed (M_X7_nextSeed (M_X7_nextSeed x3)))), (4, .int (x4 + 1))]) ⟨rfl, rfl, rfl, rfl, trivial⟩ rfl rfl ?_
        exact ih x2 (M_X7_nextSeed (M_X7_nextSeed (M_X7_nextSeed x3))) (x4 + 1) h1 hM
def M_X7_outcomeByLots (n : Nat) (a1 : Int32) (a2 : Int32) (h : AH) : Option (Int64 × AH) :=
  am_v (M_X4_becomeLike 39 21 h) fun h1 =>
  L_X7_outcomeByLots_27 n n a2 a1 0 (am_sf h1 44 3 0)
set_option maxRecDepth 10000 in
theorem E_X7_outcomeByLots_37 (n : Nat) (a1 : Int32) (a2 : Int32) (h : AH) (vR : Int64) (hR : AH) (hM : M_X7_outcomeByLots n a1 a2 h = some (vR, hR)) : Ev none mr_X7_outcomeByLots (0, [(0, .ref 37), (1, .int a1), (2, .int a2)], [], h) (some (.long vR)) hR := by
  unfold M_X7_outcomeByLots at hM
  refine Ev.steps (B := (8, [(0, .ref 37), (1, .int a1), (2, .int a2)], [.ref 21, .ref 39], h)) 4 rfl ?_
  obtain ⟨h1, e1, hM⟩ := am_vS hM
  refine Ev.call (q := (mr_X4_becomeLike, [.ref 39, .ref 21], [])) rfl (E_X4_becomeLike_39_21 h h1 e1) ?_
  refine Ev.steps (B := (27, [(4, .int 0), (3, .int a1), (0, .ref 37), (1, .int a1), (2, .int a2)], [], (am_sf h1 44 3 0))) 9 rfl ?_
  refine Ev.lv (lv := [(0, .ref 37), (2, .int a2), (3, .int a1), (4, .int 0)]) ⟨rfl, rfl, rfl, rfl, trivial⟩ rfl rfl ?_
  exact E_L_X7_outcomeByLots_27 n vR hR n a2 a1 0 (am_sf h1 44 3 0) hM
def M_X8_evenings (n : Nat) (a1 : Int32) (a2 : Int32) (a3 : Int32) (h : AH) : Option (Int32 × AH) :=
  if (M_X8_within a2 8) = 0 then
    some ((-2), h)
  else
    if (M_X8_within a3 1) = 0 then
      some ((-2), h)
    else
      am_b (M_X7_outcomeByLots n a1 a2 h) fun v2 h1 =>
      if a3 = 0 then
        some ((M_X7_glassesIn v2), h1)
      else
        some ((M_J13_bitCount (M_X7_goneIn v2)), h1)
set_option maxRecDepth 10000 in
theorem E_X8_evenings_0 (n : Nat) (a1 : Int32) (a2 : Int32) (a3 : Int32) (h : AH) (vR : Int32) (hR : AH) (hM : M_X8_evenings n a1 a2 a3 h = some (vR, hR)) : Ev none mr_X8_evenings (0, [(0, .ref 0), (1, .int a1), (2, .int a2), (3, .int a3)], [], h) (some (.int vR)) hR := by
  unfold M_X8_evenings at hM
  refine Ev.steps (B := (3, [(0, .ref 0), (1, .int a1), (2, .int a2), (3, .int a3)], [.int 8, .int a2], h)) 2 rfl ?_
  refine Ev.call (q := (mr_X8_within, [.int a2, .int 8], [])) rfl (E_X8_within a2 8 h) ?_
  refine Ev.br (b := decide ((M_X8_within a2 8) = 0)) rfl (fun c1 => ?_) (fun c1 => ?_)
  · have c1 := of_decide_eq_true c1
    rw [if_pos c1] at hM
    refine Ev.steps (B := (19, [(0, .ref 0), (1, .int a1), (2, .int a2), (3, .int a3)], [.int (-2)], h)) 1 rfl ?_
    obtain ⟨rfl, rfl⟩ := am_sp hM
    exact Ev.ret rfl
  · have c1 := of_decide_eq_false c1
    rw [if_neg c1] at hM
    refine Ev.steps (B := (11, [(0, .ref 0), (1, .int a1), (2, .int a2), (3, .int a3)], [.int 1, .int a3], h)) 2 rfl ?_
    refine Ev.call (q := (mr_X8_within, [.int a3, .int 1], [])) rfl (E_X8_within a3 1 h) ?_
    refine Ev.br (b := decide (¬ (M_X8_within a3 1) = 0)) rfl (fun c2 => ?_) (fun c2 => ?_)
    · have c2 := of_decide_eq_true c2
      rw [if_neg c2] at hM
      refine Ev.steps (B := (26, [(0, .ref 0), (1, .int a1), (2, .int a2), (3, .int a3)], [.int a2, .int a1, .ref 37], h)) 4 rfl ?_
      obtain ⟨v2, h1, e3, hM⟩ := am_bS hM
      refine Ev.call (q := (mr_X7_outcomeByLots, [.ref 37, .int a1, .int a2], [])) rfl (E_X7_outcomeByLots_37 n a1 a2 h v2 h1 e3) ?_
      refine Ev.steps (B := (32, [(4, .long v2), (0, .ref 0), (1, .int a1), (2, .int a2), (3, .int a3)], [.int a3], h1)) 2 rfl ?_
      refine Ev.br (b := decide (¬ a3 = 0)) rfl (fun c4 => ?_) (fun c4 => ?_)
      · have c4 := of_decide_eq_true c4
        rw [if_neg c4] at hM
        refine Ev.steps (B := (45, [(4, .long v2), (0, .ref 0), (1, .int a1), (2, .int a2), (3, .int a3)], [.long v2], h1)) 1 rfl ?_
        refine Ev.call (q := (mr_X7_goneIn, [.long v2], [])) rfl (E_X7_goneIn v2 h1) ?_
        refine Ev.call (q := (mr_J13_bitCount, [.int (M_X7_goneIn v2)], [])) rfl (E_J13_bitCount (M_X7_goneIn v2) h1) ?_
        obtain ⟨rfl, rfl⟩ := am_sp hM
        exact Ev.ret rfl
      · have c4 := Decidable.of_not_not (of_decide_eq_false c4)
        rw [if_pos c4] at hM
        refine Ev.steps (B := (37, [(4, .long v2), (0, .ref 0), (1, .int a1), (2, .int a2), (3, .int a3)], [.long v2], h1)) 1 rfl ?_
        refine Ev.call (q := (mr_X7_glassesIn, [.long v2], [])) rfl (E_X7_glassesIn v2 h1) ?_
        refine Ev.steps (B := (51, [(4, .long v2), (0, .ref 0), (1, .int a1), (2, .int a2), (3, .int a3)], [.int (M_X7_glassesIn v2)], h1)) 1 rfl ?_
        obtain ⟨rfl, rfl⟩ := am_sp hM
        exact Ev.ret rfl
    · have c2 := Decidable.of_not_not (of_decide_eq_false c2)
      rw [if_pos c2] at hM
      refine Ev.steps (B := (19, [(0, .ref 0), (1, .int a1), (2, .int a2), (3, .int a3)], [.int (-2)], h)) 1 rfl ?_
      obtain ⟨rfl, rfl⟩ := am_sp hM
      exact Ev.ret rfl
def L_X9_eveningsOf_15 (n : Nat) : Nat → Int32 → Int32 → Int32 → Int32 → AH → Option (Int32 × AH)
  | 0, _, _, _, _, _ => none
  | m + 1, x2, x3, x4, x5, h =>
    if x2 ≤ x5 then
      am_v (M_X9_runs n h) fun h1 =>
      if x3 = 0 then
        am_o (M_X9_drunkNow n h1) fun v3 =>
        some (v3, h1)
      else
        am_o (M_X9_manyOf n 4 h1) fun v2 =>
        some (v2, h1)
    else
      bif (am_in x5 8) then
        bif (am_in x5 8) then
          bif (am_in x5 8) then
            L_X9_eveningsOf_15 n m x2 x3 ((1103515245 * ((1103515245 * ((1103515245 * x4) + 12345)) + 12345)) + 12345) (x5 + 1) (am_sa (am_sa (am_sa h 87 (upd (h.2.1 87) (Int32.toNatClampNeg x5) ((Int32.toUInt32 ((1103515245 * x4) + 12345) >>> (Int32.toUInt32 16 &&& Int32.toUInt32 31)).toInt32 - (Int32.toUInt32 ((1103515245 * x4) + 12345) >>> (Int32.toUInt32 16 &&& Int32.toUInt32 31)).toInt32 / 24 * 24))) 88 (upd (h.2.1 88) (Int32.toNatClampNeg x5) ((Int32.toUInt32 ((1103515245 * ((1103515245 * x4) + 12345)) + 12345) >>> (Int32.toUInt32 16 &&& Int32.toUInt32 31)).toInt32 - (Int32.toUInt32 ((1103515245 * ((1103515245 * x4) + 12345)) + 12345) >>> (Int32.toUInt32 16 &&& Int32.toUInt32 31)).toInt32 / 2 * 2))) 89 (upd (h.2.1 89) (Int32.toNatClampNeg x5) (((Int32.toUInt32 ((1103515245 * ((1103515245 * ((1103515245 * x4) + 12345)) + 12345)) + 12345) >>> (Int32.toUInt32 16 &&& Int32.toUInt32 31)).toInt32 - (Int32.toUInt32 ((1103515245 * ((1103515245 * ((1103515245 * x4) + 12345)) + 12345)) + 12345) >>> (Int32.toUInt32 16 &&& Int32.toUInt32 31)).toInt32 / 4 * 4) + 1)))
          else none
        else none
      else none
set_option maxRecDepth 10000 in
theorem E_L_X9_eveningsOf_15 (n : Nat) (vR : Int32) (hR : AH) : ∀ (m : Nat) (x2 : Int32) (x3 : Int32) (x4 : Int32) (x5 : Int32) (h : AH), L_X9_eveningsOf_15 n m x2 x3 x4 x5 h = some (vR, hR) → Ev none mr_X9_eveningsOf (15, [(0, .ref 75), (2, .int x2), (3, .int x3), (4, .int x4), (5, .int x5)], [], h) (some (.int vR)) hR := by
  intro m
  induction m with
  | zero =>
    intro x2 x3 x4 x5 h hM
    exact (am_no hM).elim
  | succ m ih =>
    intro x2 x3 x4 x5 h hM
    rw [L_X9_eveningsOf_15] at hM
    refine Ev.steps (B := (18, [(0, .ref 75), (2, .int x2), (3, .int x3), (4, .int x4), (5, .int x5)], [.int x2, .int x5], h)) 2 rfl ?_
    refine Ev.br (b := decide (x2 ≤ x5)) rfl (fun c1 => ?_) (fun c1 => ?_)
    · have c1 := of_decide_eq_true c1
      rw [if_pos c1] at hM
      refine Ev.steps (B := (109, [(0, .ref 75), (2, .int x2), (3, .int x3), (4, .int x4), (5, .int x5)], [.ref 75], h)) 1 rfl ?_
      obtain ⟨h1, e2, hM⟩ := am_vS hM
      refine Ev.call (q := (mr_X9_runs, [.ref 75], [])) rfl (E_X9_runs_75 n h h1 e2) ?_
      refine Ev.steps (B := (113, [(0, .ref 75), (2, .int x2), (3, .int x3), (4, .int x4), (5, .int x5)], [.int x3], h1)) 1 rfl ?_
      refine Ev.br (b := decide (¬ x3 = 0)) rfl (fun c3 => ?_) (fun c3 => ?_)
      · have c3 := of_decide_eq_true c3
        rw [if_neg c3] at hM
        refine Ev.steps (B := (125, [(0, .ref 75), (2, .int x2), (3, .int x3), (4, .int x4), (5, .int x5)], [.int 4, .ref 75], h1)) 2 rfl ?_
        obtain ⟨v2, e4, hM⟩ := am_oS hM
        refine Ev.call (q := (mr_X9_manyOf, [.ref 75, .int 4], [])) rfl (E_X9_manyOf_75 n 4 h1 v2 e4) ?_
        obtain ⟨rfl, rfl⟩ := am_sp hM
        exact Ev.ret rfl
      · have c3 := Decidable.of_not_not (of_decide_eq_false c3)
        rw [if_pos c3] at hM
        refine Ev.steps (B := (117, [(0, .ref 75), (2, .int x2), (3, .int x3), (4, .int x4), (5, .int x5)], [.ref 75], h1)) 1 rfl ?_
        obtain ⟨v3, e5, hM⟩ := am_oS hM
        refine Ev.call (q := (mr_X9_drunkNow, [.ref 75], [])) rfl (E_X9_drunkNow_75 n h1 v3 e5) ?_
        refine Ev.steps (B := (128, [(0, .ref 75), (2, .int x2), (3, .int x3), (4, .int x4), (5, .int x5)], [.int v3], h1)) 1 rfl ?_
        obtain ⟨rfl, rfl⟩ := am_sp hM
        exact Ev.ret rfl
    · have c1 := of_decide_eq_false c1
      rw [if_neg c1] at hM
      refine Ev.steps (B := (47, [(4, .int ((1103515245 * x4) + 12345)), (0, .ref 75), (2, .int x2), (3, .int x3), (5, .int x5)], [.int ((Int32.toUInt32 ((1103515245 * x4) + 12345) >>> (Int32.toUInt32 16 &&& Int32.toUInt32 31)).toInt32 - (Int32.toUInt32 ((1103515245 * x4) + 12345) >>> (Int32.toUInt32 16 &&& Int32.toUInt32 31)).toInt32 / 24 * 24), .int x5, .ref 87], h)) 14 rfl ?_
      obtain ⟨g6, hM⟩ := am_gS hM
      refine Ev.g (B := (48, [(4, .int ((1103515245 * x4) + 12345)), (0, .ref 75), (2, .int x2), (3, .int x3), (5, .int x5)], [], (am_sa h 87 (upd (h.2.1 87) (Int32.toNatClampNeg x5) ((Int32.toUInt32 ((1103515245 * x4) + 12345) >>> (Int32.toUInt32 16 &&& Int32.toUInt32 31)).toInt32 - (Int32.toUInt32 ((1103515245 * x4) + 12345) >>> (Int32.toUInt32 16 &&& Int32.toUInt32 31)).toInt32 / 24 * 24))))) g6 rfl ?_
      refine Ev.steps (B := (73, [(4, .int ((1103515245 * ((1103515245 * x4) + 12345)) + 12345)), (0, .ref 75), (2, .int x2), (3, .int x3), (5, .int x5)], [.int ((Int32.toUInt32 ((1103515245 * ((1103515245 * x4) + 12345)) + 12345) >>> (Int32.toUInt32 16 &&& Int32.toUInt32 31)).toInt32 - (Int32.toUInt32 ((1103515245 * ((1103515245 * x4) + 12345)) + 12345) >>> (Int32.toUInt32 16 &&& Int32.toUInt32 31)).toInt32 / 2 * 2), .int x5, .ref 88], (am_sa h 87 (upd (h.2.1 87) (Int32.toNatClampNeg x5) ((Int32.toUInt32 ((1103515245 * x4) + 12345) >>> (Int32.toUInt32 16 &&& Int32.toUInt32 31)).toInt32 - (Int32.toUInt32 ((1103515245 * x4) + 12345) >>> (Int32.toUInt32 16 &&& Int32.toUInt32 31)).toInt32 / 24 * 24))))) 14 rfl ?_
      obtain ⟨g7, hM⟩ := am_gS hM
      refine Ev.g (B := (74, [(4, .int ((1103515245 * ((1103515245 * x4) + 12345)) + 12345)), (0, .ref 75), (2, .int x2), (3, .int x3), (5, .int x5)], [], (am_sa (am_sa h 87 (upd (h.2.1 87) (Int32.toNatClampNeg x5) ((Int32.toUInt32 ((1103515245 * x4) + 12345) >>> (Int32.toUInt32 16 &&& Int32.toUInt32 31)).toInt32 - (Int32.toUInt32 ((1103515245 * x4) + 12345) >>> (Int32.toUInt32 16 &&& Int32.toUInt32 31)).toInt32 / 24 * 24))) 88 (upd (h.2.1 88) (Int32.toNatClampNeg x5) ((Int32.toUInt32 ((1103515245 * ((1103515245 * x4) + 12345)) + 12345) >>> (Int32.toUInt32 16 &&& Int32.toUInt32 31)).toInt32 - (Int32.toUInt32 ((1103515245 * ((1103515245 * x4) + 12345)) + 12345) >>> (Int32.toUInt32 16 &&& Int32.toUInt32 31)).toInt32 / 2 * 2))))) g7 rfl ?_
      refine Ev.steps (B := (101, [(4, .int ((1103515245 * ((1103515245 * ((1103515245 * x4) + 12345)) + 12345)) + 12345)), (0, .ref 75), (2, .int x2), (3, .int x3), (5, .int x5)], [.int (((Int32.toUInt32 ((1103515245 * ((1103515245 * ((1103515245 * x4) + 12345)) + 12345)) + 12345) >>> (Int32.toUInt32 16 &&& Int32.toUInt32 31)).toInt32 - (Int32.toUInt32 ((1103515245 * ((1103515245 * ((1103515245 * x4) + 12345)) + 12345)) + 12345) >>> (Int32.toUInt32 16 &&& Int32.toUInt32 31)).toInt32 / 4 * 4) + 1), .int x5, .ref 89], (am_sa (am_sa h 87 (upd (h.2.1 87) (Int32.toNatClampNeg x5) ((Int32.toUInt32 ((1103515245 * x4) + 12345) >>> (Int32.toUInt32 16 &&& Int32.toUInt32 31)).toInt32 - (Int32.toUInt32 ((1103515245 * x4) + 12345) >>> (Int32.toUInt32 16 &&& Int32.toUInt32 31)).toInt32 / 24 * 24))) 88 (upd (h.2.1 88) (Int32.toNatClampNeg x5) ((Int32.toUInt32 ((1103515245 * ((1103515245 * x4) + 12345)) + 12345) >>> (Int32.toUInt32 16 &&& Int32.toUInt32 31)).toInt32 - (Int32.toUInt32 ((1103515245 * ((1103515245 * x4) + 12345)) + 12345) >>> (Int32.toUInt32 16 &&& Int32.toUInt32 31)).toInt32 / 2 * 2))))) 16 rfl ?_
      obtain ⟨g8, hM⟩ := am_gS hM
      refine Ev.g (B := (102, [(4, .int ((1103515245 * ((1103515245 * ((1103515245 * x4) + 12345)) + 12345)) + 12345)), (0, .ref 75), (2, .int x2), (3, .int x3), (5, .int x5)], [], (am_sa (am_sa (am_sa h 87 (upd (h.2.1 87) (Int32.toNatClampNeg x5) ((Int32.toUInt32 ((1103515245 * x4) + 12345) >>> (Int32.toUInt32 16 &&& Int32.toUInt32 31)).toInt32 - (Int32.toUInt32 ((1103515245 * x4) + 12345) >>> (Int32.toUInt32 16 &&& Int32.toUInt32 31)).toInt32 / 24 * 24))) 88 (upd (h.2.1 88) (Int32.toNatClampNeg x5) ((Int32.toUInt32 ((1103515245 * ((1103515245 * x4) + 12345)) + 12345) >>> (Int32.toUInt32 16 &&& Int32.toUInt32 31)).toInt32 - (Int32.toUInt32 ((1103515245 * ((1103515245 * x4) + 12345)) + 12345) >>> (Int32.toUInt32 16 &&& Int32.toUInt32 31)).toInt32 / 2 * 2))) 89 (upd (h.2.1 89) (Int32.toNatClampNeg x5) (((Int32.toUInt32 ((1103515245 * ((1103515245 * ((1103515245 * x4) + 12345)) + 12345)) + 12345) >>> (Int32.toUInt32 16 &&& Int32.toUInt32 31)).toInt32 - (Int32.toUInt32 ((1103515245 * ((1103515245 * ((1103515245 * x4) + 12345)) + 12345)) + 12345) >>> (Int32.toUInt32 16 &&& Int32.toUInt32 31)).toInt32 / 4 * 4) + 1))))) g8 rfl ?_
      refine Ev.steps (B := (15, [(5, .int (x5 + 1)), (4, .int ((1103515245 * ((1103515245 * ((1103515245 * x4) + 12345)) + 12345)) + 12345)), (0, .ref 75), (2, .int x2), (3, .int x3)], [], (am_sa (am_sa (am_sa h 87 (upd (h.2.1 87) (Int32.toNatClampNeg x5) ((Int32.toUInt32 ((1103515245 * x4) + 12345) >>> (Int32.toUInt32 16 &&& Int32.toUInt32 31)).toInt32 - (Int32.toUInt32 ((1103515245 * x4) + 12345) >>> (Int32.toUInt32 16 &&& Int32.toUInt32 31)).toInt32 / 24 * 24))) 88 (upd (h.2.1 88) (Int32.toNatClampNeg x5) ((Int32.toUInt32 ((1103515245 * ((1103515245 * x4) + 12345)) + 12345) >>> (Int32.toUInt32 16 &&& Int32.toUInt32 31)).toInt32 - (Int32.toUInt32 ((1103515245 * ((1103515245 * x4) + 12345)) + 12345) >>> (Int32.toUInt32 16 &&& Int32.toUInt32 31)).toInt32 / 2 * 2))) 89 (upd (h.2.1 89) (Int32.toNatClampNeg x5) (((Int32.toUInt32 ((1103515245 * ((1103515245 * ((1103515245 * x4) + 12345)) + 12345)) + 12345) >>> (Int32.toUInt32 16 &&& Int32.toUInt32 31)).toInt32 - (Int32.toUInt32 ((1103515245 * ((1103515245 * ((1103515245 * x4) + 12345)) + 12345)) + 12345) >>> (Int32.toUInt32 16 &&& Int32.toUInt32 31)).toInt32 / 4 * 4) + 1))))) 2 rfl ?_
      refine Ev.lv (lv := [(0, .ref 75), (2, .int x2), (3, .int x3), (4, .int ((1103515245 * ((1103515245 * ((1103515245 * x4) + 12345)) + 12345)) + 12345)), (5, .int (x5 + 1))]) ⟨rfl, rfl, rfl, rfl, rfl, trivial⟩ rfl rfl ?_
      exact ih x2 x3 ((1103515245 * ((1103515245 * ((1103515245 * x4) + 12345)) + 12345)) + 12345) (x5 + 1) (am_sa (am_sa (am_sa h 87 (upd (h.2.1 87) (Int32.toNatClampNeg x5) ((Int32.toUInt32 ((1103515245 * x4) + 12345) >>> (Int32.toUInt32 16 &&& Int32.toUInt32 31)).toInt32 - (Int32.toUInt32 ((1103515245 * x4) + 12345) >>> (Int32.toUInt32 16 &&& Int32.toUInt32 31)).toInt32 / 24 * 24))) 88 (upd (h.2.1 88) (Int32.toNatClampNeg x5) ((Int32.toUInt32 ((1103515245 * ((1103515245 * x4) + 12345)) + 12345) >>> (Int32.toUInt32 16 &&& Int32.toUInt32 31)).toInt32 - (Int32.toUInt32 ((1103515245 * ((1103515245 * x4) + 12345)) + 12345) >>> (Int32.toUInt32 16 &&& Int32.toUInt32 31)).toInt32 / 2 * 2))) 89 (upd (h.2.1 89) (Int32.toNatClampNeg x5) (((Int32.toUInt32 ((1103515245 * ((1103515245 * ((1103515245 * x4) + 12345)) + 12345)) + 12345) >>> (Int32.toUInt32 16 &&& Int32.toUInt32 31)).toInt32 - (Int32.toUInt32 ((1103515245 * ((1103515245 * ((1103515245 * x4) + 12345)) + 12345)) + 12345) >>> (Int32.toUInt32 16 &&& Int32.toUInt32 31)).toInt32 / 4 * 4) + 1))) hM
def M_X9_eveningsOf (n : Nat) (a1 : Int32) (a2 : Int32) (a3 : Int32) (h : AH) : Option (Int32 × AH) :=
  am_v (M_X9_asTold n h) fun h1 =>
  L_X9_eveningsOf_15 n n a2 a3 a1 0 (am_sf h1 75 16 a2)
set_option maxRecDepth 10000 in
theorem E_X9_eveningsOf_75 (n : Nat) (a1 : Int32) (a2 : Int32) (a3 : Int32) (h : AH) (vR : Int32) (hR : AH) (hM : M_X9_eveningsOf n a1 a2 a3 h = some (vR, hR)) : Ev none mr_X9_eveningsOf (0, [(0, .ref 75), (1, .int a1), (2, .int a2), (3, .int a3)], [], h) (some (.int vR)) hR := by
  unfold M_X9_eveningsOf at hM
  refine Ev.steps (B := (1, [(0, .ref 75), (1, .int a1), (2, .int a2), (3, .int a3)], [.ref 75], h)) 1 rfl ?_
  obtain ⟨h1, e1, hM⟩ := am_vS hM
  refine Ev.call (q := (mr_X9_asTold, [.ref 75], [])) rfl (E_X9_asTold_75 n h h1 e1) ?_
  refine Ev.steps (B := (15, [(5, .int 0), (4, .int a1), (0, .ref 75), (1, .int a1), (2, .int a2), (3, .int a3)], [], (am_sf h1 75 16 a2))) 7 rfl ?_
  refine Ev.lv (lv := [(0, .ref 75), (2, .int a2), (3, .int a3), (4, .int a1), (5, .int 0)]) ⟨rfl, rfl, rfl, rfl, rfl, trivial⟩ rfl rfl ?_
  exact E_L_X9_eveningsOf_15 n vR hR n a2 a3 a1 0 (am_sf h1 75 16 a2) hM
def M_X9_evenings (n : Nat) (a1 : Int32) (a2 : Int32) (a3 : Int32) (h : AH) : Option (Int32 × AH) :=
  if (M_X9_in a2 0 8) = 0 then
    some ((-2), h)
  else
    if (M_X9_isTwo a3) = 0 then
      some ((-2), h)
    else
      am_b (M_X9_eveningsOf n a1 a2 a3 h) fun v2 h1 =>
      some (v2, h1)
set_option maxRecDepth 10000 in
theorem E_X9_evenings_75 (n : Nat) (a1 : Int32) (a2 : Int32) (a3 : Int32) (h : AH) (vR : Int32) (hR : AH) (hM : M_X9_evenings n a1 a2 a3 h = some (vR, hR)) : Ev none mr_X9_evenings (0, [(0, .ref 75), (1, .int a1), (2, .int a2), (3, .int a3)], [], h) (some (.int vR)) hR := by
  unfold M_X9_evenings at hM
  refine Ev.steps (B := (4, [(0, .ref 75), (1, .int a1), (2, .int a2), (3, .int a3)], [.int 8, .int 0, .int a2], h)) 3 rfl ?_
  refine Ev.call (q := (mr_X9_in, [.int a2, .int 0, .int 8], [])) rfl (E_X9_in a2 0 8 h) ?_
  refine Ev.br (b := decide ((M_X9_in a2 0 8) = 0)) rfl (fun c1 => ?_) (fun c1 => ?_)
  · have c1 := of_decide_eq_true c1
    rw [if_pos c1] at hM
    refine Ev.steps (B := (29, [(0, .ref 75), (1, .int a1), (2, .int a2), (3, .int a3)], [.int (-2)], h)) 1 rfl ?_
    obtain ⟨rfl, rfl⟩ := am_sp hM
    exact Ev.ret rfl
  · have c1 := of_decide_eq_false c1
    rw [if_neg c1] at hM
    refine Ev.steps (B := (11, [(0, .ref 75), (1, .int a1), (2, .int a2), (3, .int a3)], [.int a3], h)) 1 rfl ?_
    refine Ev.call (q := (mr_X9_isTwo, [.int a3], [])) rfl (E_X9_isTwo a3 h) ?_
    refine Ev.br (b := decide ((M_X9_isTwo a3) = 0)) rfl (fun c2 => ?_) (fun c2 => ?_)
    · have c2 := of_decide_eq_true c2
      rw [if_pos c2] at hM
      refine Ev.steps (B := (29, [(0, .ref 75), (1, .int a1), (2, .int a2), (3, .int a3)], [.int (-2)], h)) 1 rfl ?_
      obtain ⟨rfl, rfl⟩ := am_sp hM
      exact Ev.ret rfl
    · have c2 := of_decide_eq_false c2
      rw [if_neg c2] at hM
      refine Ev.steps (B := (21, [(0, .ref 75), (1, .int a1), (2, .int a2), (3, .int a3)], [.int a3, .int a2, .int a1, .ref 75], h)) 4 rfl ?_
      obtain ⟨v2, h1, e3, hM⟩ := am_bS hM
      refine Ev.call (q := (mr_X9_eveningsOf, [.ref 75, .int a1, .int a2, .int a3], [])) rfl (E_X9_eveningsOf_75 n a1 a2 a3 h v2 h1 e3) ?_
      refine Ev.steps (B := (29, [(0, .ref 75), (1, .int a1), (2, .int a2), (3, .int a3)], [.int v2], h1)) 1 rfl ?_
      obtain ⟨rfl, rfl⟩ := am_sp hM
      exact Ev.ret rfl
set_option maxRecDepth 10000 in
theorem E_L_J14_fill_I_5_68 (n : Nat) (hR : AH) : ∀ (m : Nat) (x1 : Int32) (x2 : Int32) (x3 : Int32) (h : AH), L_J14_fill_I_5 n 68 m x1 x2 x3 h = some hR → Ev none mr_J14_fill_I (5, [(0, .ref 68), (1, .int x1), (2, .int x2), (3, .int x3)], [], h) none hR := by
  intro m
  induction m with
  | zero =>
    intro x1 x2 x3 h hM
    exact (am_no hM).elim
  | succ m ih =>
    intro x1 x2 x3 h hM
    rw [L_J14_fill_I_5] at hM
    refine Ev.steps (B := (7, [(0, .ref 68), (1, .int x1), (2, .int x2), (3, .int x3)], [.int x3, .int x2], h)) 2 rfl ?_
    refine Ev.br (b := decide (x3 ≤ x2)) rfl (fun c1 => ?_) (fun c1 => ?_)
    · have c1 := of_decide_eq_true c1
      rw [if_pos c1] at hM
      obtain rfl := am_s1 hM
      exact Ev.ret rfl
    · have c1 := of_decide_eq_false c1
      rw [if_neg c1] at hM
      refine Ev.steps (B := (13, [(0, .ref 68), (1, .int x1), (2, .int x2), (3, .int x3)], [.int x1, .int x2, .ref 68], h)) 3 rfl ?_
      obtain ⟨g2, hM⟩ := am_gS hM
      refine Ev.g (B := (14, [(0, .ref 68), (1, .int x1), (2, .int x2), (3, .int x3)], [], (am_sa h 68 (upd (h.2.1 68) (Int32.toNatClampNeg x2) x1)))) g2 rfl ?_
      refine Ev.steps (B := (5, [(2, .int (x2 + 1)), (0, .ref 68), (1, .int x1), (3, .int x3)], [], (am_sa h 68 (upd (h.2.1 68) (Int32.toNatClampNeg x2) x1)))) 2 rfl ?_
      refine Ev.lv (lv := [(0, .ref 68), (1, .int x1), (2, .int (x2 + 1)), (3, .int x3)]) ⟨rfl, rfl, rfl, rfl, trivial⟩ rfl rfl ?_
      exact ih x1 (x2 + 1) x3 (am_sa h 68 (upd (h.2.1 68) (Int32.toNatClampNeg x2) x1)) hM
set_option maxRecDepth 10000 in
theorem E_J14_fill_I_68 (n : Nat) (a2 : Int32) (h : AH) (hR : AH) (hM : M_J14_fill_I n 68 a2 h = some hR) : Ev none mr_J14_fill_I (0, [(0, .ref 68), (1, .int a2)], [], h) none hR := by
  unfold M_J14_fill_I at hM
  refine Ev.steps (B := (5, [(3, .int (Int32.ofNat (am_lna 68))), (2, .int 0), (0, .ref 68), (1, .int a2)], [], h)) 5 rfl ?_
  refine Ev.lv (lv := [(0, .ref 68), (1, .int a2), (2, .int 0), (3, .int (Int32.ofNat (am_lna 68)))]) ⟨rfl, rfl, rfl, rfl, trivial⟩ rfl rfl ?_
  exact E_L_J14_fill_I_5_68 n hR n a2 0 (Int32.ofNat (am_lna 68)) h hM
def M_X5_renew (n : Nat) (r0 : Nat) (a1 : Int32) (a2 : Int32) (h : AH) : Option AH :=
  am_v (M_J14_fill_I n (r0 + 1) 0 (am_sf (am_sf (am_sf h r0 1 0) r0 2 a1) r0 3 a2)) fun h1 =>
  some h1
set_option maxRecDepth 10000 in
theorem E_X5_renew_67 (n : Nat) (a1 : Int32) (a2 : Int32) (h : AH) (hR : AH) (hM : M_X5_renew n 67 a1 a2 h = some hR) : Ev none mr_X5_renew (0, [(0, .ref 67), (1, .int a1), (2, .int a2)], [], h) none hR := by
  unfold M_X5_renew at hM
  refine Ev.steps (B := (20, [(0, .ref 67), (1, .int a1), (2, .int a2)], [.int 0, .ref (67 + 1)], (am_sf (am_sf (am_sf h 67 1 0) 67 2 a1) 67 3 a2))) 12 rfl ?_
  obtain ⟨h1, e1, hM⟩ := am_vS hM
  refine Ev.call (q := (mr_J14_fill_I, [.ref (67 + 1), .int 0], [])) rfl (E_J14_fill_I_68 n 0 (am_sf (am_sf (am_sf h 67 1 0) 67 2 a1) 67 3 a2) h1 e1) ?_
  obtain rfl := am_s1 hM
  exact Ev.ret rfl
def B_X8_sheet_7 (n : Nat) (x2 : Int32) (x3 : Int32) (q4 : Nat) (h : AH) : Option (Int32 × AH) :=
  if (M_X8_within x2 2) = 0 then
    some ((-2), h)
  else
    if x3 ≤ 60 then
      if 0 ≤ x3 then
        am_v (M_X5_renew n q4 x2 x3 h) fun h1 =>
        some (x3, h1)
      else
        am_b (M_X8_found 5 h) fun v3 h2 =>
        some (v3, h2)
    else
      some ((-2), h)
set_option maxRecDepth 10000 in
theorem E_B_X8_sheet_7_67 (n : Nat) (vR : Int32) (hR : AH) (x2 : Int32) (x3 : Int32) (h : AH) (hM : B_X8_sheet_7 n x2 x3 67 h = some (vR, hR)) : Ev none mr_X8_sheet (7, [(0, .ref 0), (2, .int x2), (3, .int x3), (4, .ref 67)], [], h) (some (.int vR)) hR := by
  unfold B_X8_sheet_7 at hM
  refine Ev.steps (B := (14, [(0, .ref 0), (2, .int x2), (3, .int x3), (4, .ref 67)], [.int 2, .int x2], h)) 4 rfl ?_
  refine Ev.call (q := (mr_X8_within, [.int x2, .int 2], [])) rfl (E_X8_within x2 2 h) ?_
  refine Ev.br (b := decide ((M_X8_within x2 2) = 0)) rfl (fun c1 => ?_) (fun c1 => ?_)
  · have c1 := of_decide_eq_true c1
    rw [if_pos c1] at hM
    refine Ev.steps (B := (28, [(0, .ref 0), (2, .int x2), (3, .int x3), (4, .ref 67)], [.int (-2)], h)) 1 rfl ?_
    obtain ⟨rfl, rfl⟩ := am_sp hM
    exact Ev.ret rfl
  · have c1 := of_decide_eq_false c1
    rw [if_neg c1] at hM
    refine Ev.steps (B := (23, [(0, .ref 0), (2, .int x2), (3, .int x3), (4, .ref 67)], [.int 60, .int x3], h)) 2 rfl ?_
    refine Ev.br (b := decide (x3 ≤ 60)) rfl (fun c2 => ?_) (fun c2 => ?_)
    · have c2 := of_decide_eq_true c2
      rw [if_pos c2] at hM
      refine Ev.steps (B := (30, [(0, .ref 0), (2, .int x2), (3, .int x3), (4, .ref 67)], [.int x3], h)) 1 rfl ?_
      refine Ev.br (b := decide (0 ≤ x3)) rfl (fun c3 => ?_) (fun c3 => ?_)
      · have c3 := of_decide_eq_true c3
        rw [if_pos c3] at hM
        refine Ev.steps (B := (43, [(0, .ref 0), (2, .int x2), (3, .int x3), (4, .ref 67)], [.int x3, .int x2, .ref 67], h)) 3 rfl ?_
        obtain ⟨h1, e4, hM⟩ := am_vS hM
        refine Ev.call (q := (mr_X5_renew, [.ref 67, .int x2, .int x3], [])) rfl (E_X5_renew_67 n x2 x3 h h1 e4) ?_
        refine Ev.steps (B := (47, [(0, .ref 0), (2, .int x2), (3, .int x3), (4, .ref 67)], [.int x3], h1)) 1 rfl ?_
        obtain ⟨rfl, rfl⟩ := am_sp hM
        exact Ev.ret rfl
      · have c3 := of_decide_eq_false c3
        rw [if_neg c3] at hM
        refine Ev.steps (B := (35, [(0, .ref 0), (2, .int x2), (3, .int x3), (4, .ref 67)], [.int 5, .ref 0], h)) 2 rfl ?_
        obtain ⟨v3, h2, e5, hM⟩ := am_bS hM
        refine Ev.call (q := (mr_X8_found, [.ref 0, .int 5], [])) rfl (E_X8_found_0 5 h v3 h2 e5) ?_
        obtain ⟨rfl, rfl⟩ := am_sp hM
        exact Ev.ret rfl
    · have c2 := of_decide_eq_false c2
      rw [if_neg c2] at hM
      refine Ev.steps (B := (28, [(0, .ref 0), (2, .int x2), (3, .int x3), (4, .ref 67)], [.int (-2)], h)) 1 rfl ?_
      obtain ⟨rfl, rfl⟩ := am_sp hM
      exact Ev.ret rfl
set_option maxRecDepth 10000 in
theorem E_L_J14_fill_I_5_70 (n : Nat) (hR : AH) : ∀ (m : Nat) (x1 : Int32) (x2 : Int32) (x3 : Int32) (h : AH), L_J14_fill_I_5 n 70 m x1 x2 x3 h = some hR → Ev none mr_J14_fill_I (5, [(0, .ref 70), (1, .int x1), (2, .int x2), (3, .int x3)], [], h) none hR := by
  intro m
  induction m with
  | zero =>
    intro x1 x2 x3 h hM
    exact (am_no hM).elim
  | succ m ih =>
    intro x1 x2 x3 h hM
    rw [L_J14_fill_I_5] at hM
    refine Ev.steps (B := (7, [(0, .ref 70), (1, .int x1), (2, .int x2), (3, .int x3)], [.int x3, .int x2], h)) 2 rfl ?_
    refine Ev.br (b := decide (x3 ≤ x2)) rfl (fun c1 => ?_) (fun c1 => ?_)
    · have c1 := of_decide_eq_true c1
      rw [if_pos c1] at hM
      obtain rfl := am_s1 hM
      exact Ev.ret rfl
    · have c1 := of_decide_eq_false c1
      rw [if_neg c1] at hM
      refine Ev.steps (B := (13, [(0, .ref 70), (1, .int x1), (2, .int x2), (3, .int x3)], [.int x1, .int x2, .ref 70], h)) 3 rfl ?_
      obtain ⟨g2, hM⟩ := am_gS hM
      refine Ev.g (B := (14, [(0, .ref 70), (1, .int x1), (2, .int x2), (3, .int x3)], [], (am_sa h 70 (upd (h.2.1 70) (Int32.toNatClampNeg x2) x1)))) g2 rfl ?_
      refine Ev.steps (B := (5, [(2, .int (x2 + 1)), (0, .ref 70), (1, .int x1), (3, .int x3)], [], (am_sa h 70 (upd (h.2.1 70) (Int32.toNatClampNeg x2) x1)))) 2 rfl ?_
      refine Ev.lv (lv := [(0, .ref 70), (1, .int x1), (2, .int (x2 + 1)), (3, .int x3)]) ⟨rfl, rfl, rfl, rfl, trivial⟩ rfl rfl ?_
      exact ih x1 (x2 + 1) x3 (am_sa h 70 (upd (h.2.1 70) (Int32.toNatClampNeg x2) x1)) hM
set_option maxRecDepth 10000 in
theorem E_J14_fill_I_70 (n : Nat) (a2 : Int32) (h : AH) (hR : AH) (hM : M_J14_fill_I n 70 a2 h = some hR) : Ev none mr_J14_fill_I (0, [(0, .ref 70), (1, .int a2)], [], h) none hR := by
  unfold M_J14_fill_I at hM
  refine Ev.steps (B := (5, [(3, .int (Int32.ofNat (am_lna 70))), (2, .int 0), (0, .ref 70), (1, .int a2)], [], h)) 5 rfl ?_
  refine Ev.lv (lv := [(0, .ref 70), (1, .int a2), (2, .int 0), (3, .int (Int32.ofNat (am_lna 70)))]) ⟨rfl, rfl, rfl, rfl, trivial⟩ rfl rfl ?_
  exact E_L_J14_fill_I_5_70 n hR n a2 0 (Int32.ofNat (am_lna 70)) h hM
set_option maxRecDepth 10000 in
theorem E_X5_renew_69 (n : Nat) (a1 : Int32) (a2 : Int32) (h : AH) (hR : AH) (hM : M_X5_renew n 69 a1 a2 h = some hR) : Ev none mr_X5_renew (0, [(0, .ref 69), (1, .int a1), (2, .int a2)], [], h) none hR := by
  unfold M_X5_renew at hM
  refine Ev.steps (B := (20, [(0, .ref 69), (1, .int a1), (2, .int a2)], [.int 0, .ref (69 + 1)], (am_sf (am_sf (am_sf h 69 1 0) 69 2 a1) 69 3 a2))) 12 rfl ?_
  obtain ⟨h1, e1, hM⟩ := am_vS hM
  refine Ev.call (q := (mr_J14_fill_I, [.ref (69 + 1), .int 0], [])) rfl (E_J14_fill_I_70 n 0 (am_sf (am_sf (am_sf h 69 1 0) 69 2 a1) 69 3 a2) h1 e1) ?_
  obtain rfl := am_s1 hM
  exact Ev.ret rfl
set_option maxRecDepth 10000 in
theorem E_B_X8_sheet_7_69 (n : Nat) (vR : Int32) (hR : AH) (x2 : Int32) (x3 : Int32) (h : AH) (hM : B_X8_sheet_7 n x2 x3 69 h = some (vR, hR)) : Ev none mr_X8_sheet (7, [(0, .ref 0), (2, .int x2), (3, .int x3), (4, .ref 69)], [], h) (some (.int vR)) hR := by
  unfold B_X8_sheet_7 at hM
  refine Ev.steps (B := (14, [(0, .ref 0), (2, .int x2), (3, .int x3), (4, .ref 69)], [.int 2, .int x2], h)) 4 rfl ?_
  refine Ev.call (q := (mr_X8_within, [.int x2, .int 2], [])) rfl (E_X8_within x2 2 h) ?_
  refine Ev.br (b := decide ((M_X8_within x2 2) = 0)) rfl (fun c1 => ?_) (fun c1 => ?_)
  · have c1 := of_decide_eq_true c1
    rw [if_pos c1] at hM
    refine Ev.steps (B := (28, [(0, .ref 0), (2, .int x2), (3, .int x3), (4, .ref 69)], [.int (-2)], h)) 1 rfl ?_
    obtain ⟨rfl, rfl⟩ := am_sp hM
    exact Ev.ret rfl
  · have c1 := of_decide_eq_false c1
    rw [if_neg c1] at hM
    refine Ev.steps (B := (23, [(0, .ref 0), (2, .int x2), (3, .int x3), (4, .ref 69)], [.int 60, .int x3], h)) 2 rfl ?_
    refine Ev.br (b := decide (x3 ≤ 60)) rfl (fun c2 => ?_) (fun c2 => ?_)
    · have c2 := of_decide_eq_true c2
      rw [if_pos c2] at hM
      refine Ev.steps (B := (30, [(0, .ref 0), (2, .int x2), (3, .int x3), (4, .ref 69)], [.int x3], h)) 1 rfl ?_
      refine Ev.br (b := decide (0 ≤ x3)) rfl (fun c3 => ?_) (fun c3 => ?_)
      · have c3 := of_decide_eq_true c3
        rw [if_pos c3] at hM
        refine Ev.steps (B := (43, [(0, .ref 0), (2, .int x2), (3, .int x3), (4, .ref 69)], [.int x3, .int x2, .ref 69], h)) 3 rfl ?_
        obtain ⟨h1, e4, hM⟩ := am_vS hM
        refine Ev.call (q := (mr_X5_renew, [.ref 69, .int x2, .int x3], [])) rfl (E_X5_renew_69 n x2 x3 h h1 e4) ?_
        refine Ev.steps (B := (47, [(0, .ref 0), (2, .int x2), (3, .int x3), (4, .ref 69)], [.int x3], h1)) 1 rfl ?_
        obtain ⟨rfl, rfl⟩ := am_sp hM
        exact Ev.ret rfl
      · have c3 := of_decide_eq_false c3
        rw [if_neg c3] at hM
        refine Ev.steps (B := (35, [(0, .ref 0), (2, .int x2), (3, .int x3), (4, .ref 69)], [.int 5, .ref 0], h)) 2 rfl ?_
        obtain ⟨v3, h2, e5, hM⟩ := am_bS hM
        refine Ev.call (q := (mr_X8_found, [.ref 0, .int 5], [])) rfl (E_X8_found_0 5 h v3 h2 e5) ?_
        obtain ⟨rfl, rfl⟩ := am_sp hM
        exact Ev.ret rfl
    · have c2 := of_decide_eq_false c2
      rw [if_neg c2] at hM
      refine Ev.steps (B := (28, [(0, .ref 0), (2, .int x2), (3, .int x3), (4, .ref 69)], [.int (-2)], h)) 1 rfl ?_
      obtain ⟨rfl, rfl⟩ := am_sp hM
      exact Ev.ret rfl
set_option maxRecDepth 10000 in
theorem E_L_J14_fill_I_5_72 (n : Nat) (hR : AH) : ∀ (m : Nat) (x1 : Int32) (x2 : Int32) (x3 : Int32) (h : AH), L_J14_fill_I_5 n 72 m x1 x2 x3 h = some hR → Ev none mr_J14_fill_I (5, [(0, .ref 72), (1, .int x1), (2, .int x2), (3, .int x3)], [], h) none hR := by
  intro m
  induction m with
  | zero =>
    intro x1 x2 x3 h hM
    exact (am_no hM).elim
  | succ m ih =>
    intro x1 x2 x3 h hM
    rw [L_J14_fill_I_5] at hM
    refine Ev.steps (B := (7, [(0, .ref 72), (1, .int x1), (2, .int x2), (3, .int x3)], [.int x3, .int x2], h)) 2 rfl ?_
    refine Ev.br (b := decide (x3 ≤ x2)) rfl (fun c1 => ?_) (fun c1 => ?_)
    · have c1 := of_decide_eq_true c1
      rw [if_pos c1] at hM
      obtain rfl := am_s1 hM
      exact Ev.ret rfl
    · have c1 := of_decide_eq_false c1
      rw [if_neg c1] at hM
      refine Ev.steps (B := (13, [(0, .ref 72), (1, .int x1), (2, .int x2), (3, .int x3)], [.int x1, .int x2, .ref 72], h)) 3 rfl ?_
      obtain ⟨g2, hM⟩ := am_gS hM
      refine Ev.g (B := (14, [(0, .ref 72), (1, .int x1), (2, .int x2), (3, .int x3)], [], (am_sa h 72 (upd (h.2.1 72) (Int32.toNatClampNeg x2) x1)))) g2 rfl ?_
      refine Ev.steps (B := (5, [(2, .int (x2 + 1)), (0, .ref 72), (1, .int x1), (3, .int x3)], [], (am_sa h 72 (upd (h.2.1 72) (Int32.toNatClampNeg x2) x1)))) 2 rfl ?_
      refine Ev.lv (lv := [(0, .ref 72), (1, .int x1), (2, .int (x2 + 1)), (3, .int x3)]) ⟨rfl, rfl, rfl, rfl, trivial⟩ rfl rfl ?_
      exact ih x1 (x2 + 1) x3 (am_sa h 72 (upd (h.2.1 72) (Int32.toNatClampNeg x2) x1)) hM
set_option maxRecDepth 10000 in
theorem E_J14_fill_I_72 (n : Nat) (a2 : Int32) (h : AH) (hR : AH) (hM : M_J14_fill_I n 72 a2 h = some hR) : Ev none mr_J14_fill_I (0, [(0, .ref 72), (1, .int a2)], [], h) none hR := by
  unfold M_J14_fill_I at hM
  refine Ev.steps (B := (5, [(3, .int (Int32.ofNat (am_lna 72))), (2, .int 0), (0, .ref 72), (1, .int a2)], [], h)) 5 rfl ?_
  refine Ev.lv (lv := [(0, .ref 72), (1, .int a2), (2, .int 0), (3, .int (Int32.ofNat (am_lna 72)))]) ⟨rfl, rfl, rfl, rfl, trivial⟩ rfl rfl ?_
  exact E_L_J14_fill_I_5_72 n hR n a2 0 (Int32.ofNat (am_lna 72)) h hM
set_option maxRecDepth 10000 in
theorem E_X5_renew_71 (n : Nat) (a1 : Int32) (a2 : Int32) (h : AH) (hR : AH) (hM : M_X5_renew n 71 a1 a2 h = some hR) : Ev none mr_X5_renew (0, [(0, .ref 71), (1, .int a1), (2, .int a2)], [], h) none hR := by
  unfold M_X5_renew at hM
  refine Ev.steps (B := (20, [(0, .ref 71), (1, .int a1), (2, .int a2)], [.int 0, .ref (71 + 1)], (am_sf (am_sf (am_sf h 71 1 0) 71 2 a1) 71 3 a2))) 12 rfl ?_
  obtain ⟨h1, e1, hM⟩ := am_vS hM
  refine Ev.call (q := (mr_J14_fill_I, [.ref (71 + 1), .int 0], [])) rfl (E_J14_fill_I_72 n 0 (am_sf (am_sf (am_sf h 71 1 0) 71 2 a1) 71 3 a2) h1 e1) ?_
  obtain rfl := am_s1 hM
  exact Ev.ret rfl
set_option maxRecDepth 10000 in
theorem E_B_X8_sheet_7_71 (n : Nat) (vR : Int32) (hR : AH) (x2 : Int32) (x3 : Int32) (h : AH) (hM : B_X8_sheet_7 n x2 x3 71 h = some (vR, hR)) : Ev none mr_X8_sheet (7, [(0, .ref 0), (2, .int x2), (3, .int x3), (4, .ref 71)], [], h) (some (.int vR)) hR := by
  unfold B_X8_sheet_7 at hM
  refine Ev.steps (B := (14, [(0, .ref 0), (2, .int x2), (3, .int x3), (4, .ref 71)], [.int 2, .int x2], h)) 4 rfl ?_
  refine Ev.call (q := (mr_X8_within, [.int x2, .int 2], [])) rfl (E_X8_within x2 2 h) ?_
  refine Ev.br (b := decide ((M_X8_within x2 2) = 0)) rfl (fun c1 => ?_) (fun c1 => ?_)
  · have c1 := of_decide_eq_true c1
    rw [if_pos c1] at hM
    refine Ev.steps (B := (28, [(0, .ref 0), (2, .int x2), (3, .int x3), (4, .ref 71)], [.int (-2)], h)) 1 rfl ?_
    obtain ⟨rfl, rfl⟩ := am_sp hM
    exact Ev.ret rfl
  · have c1 := of_decide_eq_false c1
    rw [if_neg c1] at hM
    refine Ev.steps (B := (23, [(0, .ref 0), (2, .int x2), (3, .int x3), (4, .ref 71)], [.int 60, .int x3], h)) 2 rfl ?_
    refine Ev.br (b := decide (x3 ≤ 60)) rfl (fun c2 => ?_) (fun c2 => ?_)
    · have c2 := of_decide_eq_true c2
      rw [if_pos c2] at hM
      refine Ev.steps (B := (30, [(0, .ref 0), (2, .int x2), (3, .int x3), (4, .ref 71)], [.int x3], h)) 1 rfl ?_
      refine Ev.br (b := decide (0 ≤ x3)) rfl (fun c3 => ?_) (fun c3 => ?_)
      · have c3 := of_decide_eq_true c3
        rw [if_pos c3] at hM
        refine Ev.steps (B := (43, [(0, .ref 0), (2, .int x2), (3, .int x3), (4, .ref 71)], [.int x3, .int x2, .ref 71], h)) 3 rfl ?_
        obtain ⟨h1, e4, hM⟩ := am_vS hM
        refine Ev.call (q := (mr_X5_renew, [.ref 71, .int x2, .int x3], [])) rfl (E_X5_renew_71 n x2 x3 h h1 e4) ?_
        refine Ev.steps (B := (47, [(0, .ref 0), (2, .int x2), (3, .int x3), (4, .ref 71)], [.int x3], h1)) 1 rfl ?_
        obtain ⟨rfl, rfl⟩ := am_sp hM
        exact Ev.ret rfl
      · have c3 := of_decide_eq_false c3
        rw [if_neg c3] at hM
        refine Ev.steps (B := (35, [(0, .ref 0), (2, .int x2), (3, .int x3), (4, .ref 71)], [.int 5, .ref 0], h)) 2 rfl ?_
        obtain ⟨v3, h2, e5, hM⟩ := am_bS hM
        refine Ev.call (q := (mr_X8_found, [.ref 0, .int 5], [])) rfl (E_X8_found_0 5 h v3 h2 e5) ?_
        obtain ⟨rfl, rfl⟩ := am_sp hM
        exact Ev.ret rfl
    · have c2 := of_decide_eq_false c2
      rw [if_neg c2] at hM
      refine Ev.steps (B := (28, [(0, .ref 0), (2, .int x2), (3, .int x3), (4, .ref 71)], [.int (-2)], h)) 1 rfl ?_
      obtain ⟨rfl, rfl⟩ := am_sp hM
      exact Ev.ret rfl
set_option maxRecDepth 10000 in
theorem E_L_J14_fill_I_5_74 (n : Nat) (hR : AH) : ∀ (m : Nat) (x1 : Int32) (x2 : Int32) (x3 : Int32) (h : AH), L_J14_fill_I_5 n 74 m x1 x2 x3 h = some hR → Ev none mr_J14_fill_I (5, [(0, .ref 74), (1, .int x1), (2, .int x2), (3, .int x3)], [], h) none hR := by
  intro m
  induction m with
  | zero =>
    intro x1 x2 x3 h hM
    exact (am_no hM).elim
  | succ m ih =>
    intro x1 x2 x3 h hM
    rw [L_J14_fill_I_5] at hM
    refine Ev.steps (B := (7, [(0, .ref 74), (1, .int x1), (2, .int x2), (3, .int x3)], [.int x3, .int x2], h)) 2 rfl ?_
    refine Ev.br (b := decide (x3 ≤ x2)) rfl (fun c1 => ?_) (fun c1 => ?_)
    · have c1 := of_decide_eq_true c1
      rw [if_pos c1] at hM
      obtain rfl := am_s1 hM
      exact Ev.ret rfl
    · have c1 := of_decide_eq_false c1
      rw [if_neg c1] at hM
      refine Ev.steps (B := (13, [(0, .ref 74), (1, .int x1), (2, .int x2), (3, .int x3)], [.int x1, .int x2, .ref 74], h)) 3 rfl ?_
      obtain ⟨g2, hM⟩ := am_gS hM
      refine Ev.g (B := (14, [(0, .ref 74), (1, .int x1), (2, .int x2), (3, .int x3)], [], (am_sa h 74 (upd (h.2.1 74) (Int32.toNatClampNeg x2) x1)))) g2 rfl ?_
      refine Ev.steps (B := (5, [(2, .int (x2 + 1)), (0, .ref 74), (1, .int x1), (3, .int x3)], [], (am_sa h 74 (upd (h.2.1 74) (Int32.toNatClampNeg x2) x1)))) 2 rfl ?_
      refine Ev.lv (lv := [(0, .ref 74), (1, .int x1), (2, .int (x2 + 1)), (3, .int x3)]) ⟨rfl, rfl, rfl, rfl, trivial⟩ rfl rfl ?_
      exact ih x1 (x2 + 1) x3 (am_sa h 74 (upd (h.2.1 74) (Int32.toNatClampNeg x2) x1)) hM
set_option maxRecDepth 10000 in
theorem E_J14_fill_I_74 (n : Nat) (a2 : Int32) (h : AH) (hR : AH) (hM : M_J14_fill_I n 74 a2 h = some hR) : Ev none mr_J14_fill_I (0, [(0, .ref 74), (1, .int a2)], [], h) none hR := by
  unfold M_J14_fill_I at hM
  refine Ev.steps (B := (5, [(3, .int (Int32.ofNat (am_lna 74))), (2, .int 0), (0, .ref 74), (1, .int a2)], [], h)) 5 rfl ?_
  refine Ev.lv (lv := [(0, .ref 74), (1, .int a2), (2, .int 0), (3, .int (Int32.ofNat (am_lna 74)))]) ⟨rfl, rfl, rfl, rfl, trivial⟩ rfl rfl ?_
  exact E_L_J14_fill_I_5_74 n hR n a2 0 (Int32.ofNat (am_lna 74)) h hM
set_option maxRecDepth 10000 in
theorem E_X5_renew_73 (n : Nat) (a1 : Int32) (a2 : Int32) (h : AH) (hR : AH) (hM : M_X5_renew n 73 a1 a2 h = some hR) : Ev none mr_X5_renew (0, [(0, .ref 73), (1, .int a1), (2, .int a2)], [], h) none hR := by
  unfold M_X5_renew at hM
  refine Ev.steps (B := (20, [(0, .ref 73), (1, .int a1), (2, .int a2)], [.int 0, .ref (73 + 1)], (am_sf (am_sf (am_sf h 73 1 0) 73 2 a1) 73 3 a2))) 12 rfl ?_
  obtain ⟨h1, e1, hM⟩ := am_vS hM
  refine Ev.call (q := (mr_J14_fill_I, [.ref (73 + 1), .int 0], [])) rfl (E_J14_fill_I_74 n 0 (am_sf (am_sf (am_sf h 73 1 0) 73 2 a1) 73 3 a2) h1 e1) ?_
  obtain rfl := am_s1 hM
  exact Ev.ret rfl
set_option maxRecDepth 10000 in
theorem E_B_X8_sheet_7_73 (n : Nat) (vR : Int32) (hR : AH) (x2 : Int32) (x3 : Int32) (h : AH) (hM : B_X8_sheet_7 n x2 x3 73 h = some (vR, hR)) : Ev none mr_X8_sheet (7, [(0, .ref 0), (2, .int x2), (3, .int x3), (4, .ref 73)], [], h) (some (.int vR)) hR := by
  unfold B_X8_sheet_7 at hM
  refine Ev.steps (B := (14, [(0, .ref 0), (2, .int x2), (3, .int x3), (4, .ref 73)], [.int 2, .int x2], h)) 4 rfl ?_
  refine Ev.call (q := (mr_X8_within, [.int x2, .int 2], [])) rfl (E_X8_within x2 2 h) ?_
  refine Ev.br (b := decide ((M_X8_within x2 2) = 0)) rfl (fun c1 => ?_) (fun c1 => ?_)
  · have c1 := of_decide_eq_true c1
    rw [if_pos c1] at hM
    refine Ev.steps (B := (28, [(0, .ref 0), (2, .int x2), (3, .int x3), (4, .ref 73)], [.int (-2)], h)) 1 rfl ?_
    obtain ⟨rfl, rfl⟩ := am_sp hM
    exact Ev.ret rfl
  · have c1 := of_decide_eq_false c1
    rw [if_neg c1] at hM
    refine Ev.steps (B := (23, [(0, .ref 0), (2, .int x2), (3, .int x3), (4, .ref 73)], [.int 60, .int x3], h)) 2 rfl ?_
    refine Ev.br (b := decide (x3 ≤ 60)) rfl (fun c2 => ?_) (fun c2 => ?_)
    · have c2 := of_decide_eq_true c2
      rw [if_pos c2] at hM
      refine Ev.steps (B := (30, [(0, .ref 0), (2, .int x2), (3, .int x3), (4, .ref 73)], [.int x3], h)) 1 rfl ?_
      refine Ev.br (b := decide (0 ≤ x3)) rfl (fun c3 => ?_) (fun c3 => ?_)
      · have c3 := of_decide_eq_true c3
        rw [if_pos c3] at hM
        refine Ev.steps (B := (43, [(0, .ref 0), (2, .int x2), (3, .int x3), (4, .ref 73)], [.int x3, .int x2, .ref 73], h)) 3 rfl ?_
        obtain ⟨h1, e4, hM⟩ := am_vS hM
        refine Ev.call (q := (mr_X5_renew, [.ref 73, .int x2, .int x3], [])) rfl (E_X5_renew_73 n x2 x3 h h1 e4) ?_
        refine Ev.steps (B := (47, [(0, .ref 0), (2, .int x2), (3, .int x3), (4, .ref 73)], [.int x3], h1)) 1 rfl ?_
        obtain ⟨rfl, rfl⟩ := am_sp hM
        exact Ev.ret rfl
      · have c3 := of_decide_eq_false c3
        rw [if_neg c3] at hM
        refine Ev.steps (B := (35, [(0, .ref 0), (2, .int x2), (3, .int x3), (4, .ref 73)], [.int 5, .ref 0], h)) 2 rfl ?_
        obtain ⟨v3, h2, e5, hM⟩ := am_bS hM
        refine Ev.call (q := (mr_X8_found, [.ref 0, .int 5], [])) rfl (E_X8_found_0 5 h v3 h2 e5) ?_
        obtain ⟨rfl, rfl⟩ := am_sp hM
        exact Ev.ret rfl
    · have c2 := of_decide_eq_false c2
      rw [if_neg c2] at hM
      refine Ev.steps (B := (28, [(0, .ref 0), (2, .int x2), (3, .int x3), (4, .ref 73)], [.int (-2)], h)) 1 rfl ?_
      obtain ⟨rfl, rfl⟩ := am_sp hM
      exact Ev.ret rfl
def M_X8_sheet (n : Nat) (a1 : Int32) (a2 : Int32) (a3 : Int32) (h : AH) : Option (Int32 × AH) :=
  if a1 = 0 then
    B_X8_sheet_7 n a2 a3 67 h
  else
  if a1 = 1 then
    B_X8_sheet_7 n a2 a3 69 h
  else
  if a1 = 2 then
    B_X8_sheet_7 n a2 a3 71 h
  else
  if a1 = 3 then
    B_X8_sheet_7 n a2 a3 73 h
  else
    some ((-2), h)
set_option maxRecDepth 10000 in
theorem E_X8_sheet_0 (n : Nat) (a1 : Int32) (a2 : Int32) (a3 : Int32) (h : AH) (vR : Int32) (hR : AH) (hM : M_X8_sheet n a1 a2 a3 h = some (vR, hR)) : Ev none mr_X8_sheet (0, [(0, .ref 0), (1, .int a1), (2, .int a2), (3, .int a3)], [], h) (some (.int vR)) hR := by
  unfold M_X8_sheet at hM
  refine Ev.steps (B := (2, [(0, .ref 0), (1, .int a1), (2, .int a2), (3, .int a3)], [.int a1, .ref 0], h)) 2 rfl ?_
  by_cases c1 : a1 = 0
  · rw [if_pos c1] at hM
    refine Ev.call (q := (mr_X8_sheetAt, [.ref 0, .int a1], [])) rfl (E_X8_sheetAt_67 a1 h c1) ?_
    refine Ev.steps (B := (7, [(4, .ref 67), (0, .ref 0), (1, .int a1), (2, .int a2), (3, .int a3)], [], h)) 1 rfl ?_
    refine Ev.lv (lv := [(0, .ref 0), (2, .int a2), (3, .int a3), (4, .ref 67)]) ⟨rfl, rfl, rfl, rfl, trivial⟩ rfl rfl ?_
    exact E_B_X8_sheet_7_67 n vR hR a2 a3 h hM
  · rw [if_neg c1] at hM
    by_cases c2 : a1 = 1
    · rw [if_pos c2] at hM
      refine Ev.call (q := (mr_X8_sheetAt, [.ref 0, .int a1], [])) rfl (E_X8_sheetAt_69 a1 h c2) ?_
      refine Ev.steps (B := (7, [(4, .ref 69), (0, .ref 0), (1, .int a1), (2, .int a2), (3, .int a3)], [], h)) 1 rfl ?_
      refine Ev.lv (lv := [(0, .ref 0), (2, .int a2), (3, .int a3), (4, .ref 69)]) ⟨rfl, rfl, rfl, rfl, trivial⟩ rfl rfl ?_
      exact E_B_X8_sheet_7_69 n vR hR a2 a3 h hM
    · rw [if_neg c2] at hM
      by_cases c3 : a1 = 2
      · rw [if_pos c3] at hM
        refine Ev.call (q := (mr_X8_sheetAt, [.ref 0, .int a1], [])) rfl (E_X8_sheetAt_71 a1 h c3) ?_
        refine Ev.steps (B := (7, [(4, .ref 71), (0, .ref 0), (1, .int a1), (2, .int a2), (3, .int a3)], [], h)) 1 rfl ?_
        refine Ev.lv (lv := [(0, .ref 0), (2, .int a2), (3, .int a3), (4, .ref 71)]) ⟨rfl, rfl, rfl, rfl, trivial⟩ rfl rfl ?_
        exact E_B_X8_sheet_7_71 n vR hR a2 a3 h hM
      · rw [if_neg c3] at hM
        by_cases c4 : a1 = 3
        · rw [if_pos c4] at hM
          refine Ev.call (q := (mr_X8_sheetAt, [.ref 0, .int a1], [])) rfl (E_X8_sheetAt_73 a1 h c4) ?_
          refine Ev.steps (B := (7, [(4, .ref 73), (0, .ref 0), (1, .int a1), (2, .int a2), (3, .int a3)], [], h)) 1 rfl ?_
          refine Ev.lv (lv := [(0, .ref 0), (2, .int a2), (3, .int a3), (4, .ref 73)]) ⟨rfl, rfl, rfl, rfl, trivial⟩ rfl rfl ?_
          exact E_B_X8_sheet_7_73 n vR hR a2 a3 h hM
        · rw [if_neg c4] at hM
          refine Ev.call (q := (mr_X8_sheetAt, [.ref 0, .int a1], [])) rfl (E_X8_sheetAt_d a1 h c1 c2 c3 c4) ?_
          refine Ev.steps (B := (28, [(4, .null), (0, .ref 0), (1, .int a1), (2, .int a2), (3, .int a3)], [.int (-2)], h)) 4 rfl ?_
          obtain ⟨rfl, rfl⟩ := am_sp hM
          exact Ev.ret rfl
def L_X9_sheet_59 (n : Nat) : Nat → Int32 → Int32 → Int32 → AH → Option (Int32 × AH)
  | 0, _, _, _, _ => none
  | m + 1, x1, x3, x4, h =>
    if 60 ≤ x4 then
      some (x3, h)
    else
      bif (am_in ((60 * x1) + x4) 240) then
        L_X9_sheet_59 n m x1 x3 (x4 + 1) (am_sa h 107 (upd (h.2.1 107) (Int32.toNatClampNeg ((60 * x1) + x4)) 0))
      else none
set_option maxRecDepth 10000 in
theorem E_L_X9_sheet_59 (n : Nat) (vR : Int32) (hR : AH) : ∀ (m : Nat) (x1 : Int32) (x3 : Int32) (x4 : Int32) (h : AH), L_X9_sheet_59 n m x1 x3 x4 h = some (vR, hR) → Ev none mr_X9_sheet (59, [(0, .ref 75), (1, .int x1), (3, .int x3), (4, .int x4)], [], h) (some (.int vR)) hR := by
  intro m
  induction m with
  | zero =>
    intro x1 x3 x4 h hM
    exact (am_no hM).elim
  | succ m ih =>
    intro x1 x3 x4 h hM
    rw [L_X9_sheet_59] at hM
    refine Ev.steps (B := (63, [(0, .ref 75), (1, .int x1), (3, .int x3), (4, .int x4)], [.int 60, .int x4], h)) 2 rfl ?_
    refine Ev.br (b := decide (60 ≤ x4)) rfl (fun c1 => ?_) (fun c1 => ?_)
    · have c1 := of_decide_eq_true c1
      rw [if_pos c1] at hM
      refine Ev.steps (B := (86, [(0, .ref 75), (1, .int x1), (3, .int x3), (4, .int x4)], [.int x3], h)) 1 rfl ?_
      obtain ⟨rfl, rfl⟩ := am_sp hM
      exact Ev.ret rfl
    · have c1 := of_decide_eq_false c1
      rw [if_neg c1] at hM
      refine Ev.steps (B := (78, [(0, .ref 75), (1, .int x1), (3, .int x3), (4, .int x4)], [.int 0, .int ((60 * x1) + x4), .ref 107], h)) 8 rfl ?_
      obtain ⟨g2, hM⟩ := am_gS hM
      refine Ev.g (B := (79, [(0, .ref 75), (1, .int x1), (3, .int x3), (4, .int x4)], [], (am_sa h 107 (upd (h.2.1 107) (Int32.toNatClampNeg ((60 * x1) + x4)) 0)))) g2 rfl ?_
      refine Ev.steps (B := (59, [(4, .int (x4 + 1)), (0, .ref 75), (1, .int x1), (3, .int x3)], [], (am_sa h 107 (upd (h.2.1 107) (Int32.toNatClampNeg ((60 * x1) + x4)) 0)))) 2 rfl ?_
      refine Ev.lv (lv := [(0, .ref 75), (1, .int x1), (3, .int x3), (4, .int (x4 + 1))]) ⟨rfl, rfl, rfl, rfl, trivial⟩ rfl rfl ?_
      exact ih x1 x3 (x4 + 1) (am_sa h 107 (upd (h.2.1 107) (Int32.toNatClampNeg ((60 * x1) + x4)) 0)) hM
def M_X9_sheet (n : Nat) (a1 : Int32) (a2 : Int32) (a3 : Int32) (h : AH) : Option (Int32 × AH) :=
  if (M_X9_isSheet a1) = 0 then
    some ((-2), h)
  else
    if (M_X9_in a2 0 2) = 0 then
      some ((-2), h)
    else
      if a3 ≤ 60 then
        if 0 ≤ a3 then
          bif (am_in a1 4) then
            bif (am_in a1 4) then
              bif (am_in a1 4) then
                L_X9_sheet_59 n n a1 a3 0 (am_sa (am_sa (am_sa h 104 (upd (h.2.1 104) (Int32.toNatClampNeg a1) (vp_nar .boolean 1))) 105 (upd (h.2.1 105) (Int32.toNatClampNeg a1) a2)) 106 (upd (h.2.1 106) (Int32.toNatClampNeg a1) a3))
              else none
            else none
          else none
        else
          am_b (M_X9_meets 5 h) fun v2 h1 =>
          some (v2, h1)
      else
        some ((-2), h)
set_option maxRecDepth 10000 in
theorem E_X9_sheet_75 (n : Nat) (a1 : Int32) (a2 : Int32) (a3 : Int32) (h : AH) (vR : Int32) (hR : AH) (hM : M_X9_sheet n a1 a2 a3 h = some (vR, hR)) : Ev none mr_X9_sheet (0, [(0, .ref 75), (1, .int a1), (2, .int a2), (3, .int a3)], [], h) (some (.int vR)) hR := by
  unfold M_X9_sheet at hM
  refine Ev.steps (B := (1, [(0, .ref 75), (1, .int a1), (2, .int a2), (3, .int a3)], [.int a1], h)) 1 rfl ?_
  refine Ev.call (q := (mr_X9_isSheet, [.int a1], [])) rfl (E_X9_isSheet a1 h) ?_
  refine Ev.br (b := decide ((M_X9_isSheet a1) = 0)) rfl (fun c1 => ?_) (fun c1 => ?_)
  · have c1 := of_decide_eq_true c1
    rw [if_pos c1] at hM
    refine Ev.steps (B := (24, [(0, .ref 75), (1, .int a1), (2, .int a2), (3, .int a3)], [.int (-2)], h)) 1 rfl ?_
    obtain ⟨rfl, rfl⟩ := am_sp hM
    exact Ev.ret rfl
  · have c1 := of_decide_eq_false c1
    rw [if_neg c1] at hM
    refine Ev.steps (B := (10, [(0, .ref 75), (1, .int a1), (2, .int a2), (3, .int a3)], [.int 2, .int 0, .int a2], h)) 3 rfl ?_
    refine Ev.call (q := (mr_X9_in, [.int a2, .int 0, .int 2], [])) rfl (E_X9_in a2 0 2 h) ?_
    refine Ev.br (b := decide ((M_X9_in a2 0 2) = 0)) rfl (fun c2 => ?_) (fun c2 => ?_)
    · have c2 := of_decide_eq_true c2
      rw [if_pos c2] at hM
      refine Ev.steps (B := (24, [(0, .ref 75), (1, .int a1), (2, .int a2), (3, .int a3)], [.int (-2)], h)) 1 rfl ?_
      obtain ⟨rfl, rfl⟩ := am_sp hM
      exact Ev.ret rfl
    · have c2 := of_decide_eq_false c2
      rw [if_neg c2] at hM
      refine Ev.steps (B := (19, [(0, .ref 75), (1, .int a1), (2, .int a2), (3, .int a3)], [.int 60, .int a3], h)) 2 rfl ?_
      refine Ev.br (b := decide (a3 ≤ 60)) rfl (fun c3 => ?_) (fun c3 => ?_)
      · have c3 := of_decide_eq_true c3
        rw [if_pos c3] at hM
        refine Ev.steps (B := (26, [(0, .ref 75), (1, .int a1), (2, .int a2), (3, .int a3)], [.int a3], h)) 1 rfl ?_
        refine Ev.br (b := decide (0 ≤ a3)) rfl (fun c4 => ?_) (fun c4 => ?_)
        · have c4 := of_decide_eq_true c4
          rw [if_pos c4] at hM
          refine Ev.steps (B := (41, [(0, .ref 75), (1, .int a1), (2, .int a2), (3, .int a3)], [.int 1, .int a1, .ref 104], h)) 4 rfl ?_
          obtain ⟨g5, hM⟩ := am_gS hM
          refine Ev.g (B := (42, [(0, .ref 75), (1, .int a1), (2, .int a2), (3, .int a3)], [], (am_sa h 104 (upd (h.2.1 104) (Int32.toNatClampNeg a1) (vp_nar .boolean 1))))) g5 rfl ?_
          refine Ev.steps (B := (48, [(0, .ref 75), (1, .int a1), (2, .int a2), (3, .int a3)], [.int a2, .int a1, .ref 105], (am_sa h 104 (upd (h.2.1 104) (Int32.toNatClampNeg a1) (vp_nar .boolean 1))))) 4 rfl ?_
          obtain ⟨g6, hM⟩ := am_gS hM
          refine Ev.g (B := (49, [(0, .ref 75), (1, .int a1), (2, .int a2), (3, .int a3)], [], (am_sa (am_sa h 104 (upd (h.2.1 104) (Int32.toNatClampNeg a1) (vp_nar .boolean 1))) 105 (upd (h.2.1 105) (Int32.toNatClampNeg a1) a2)))) g6 rfl ?_
          refine Ev.steps (B := (55, [(0, .ref 75), (1, .int a1), (2, .int a2), (3, .int a3)], [.int a3, .int a1, .ref 106], (am_sa (am_sa h 104 (upd (h.2.1 104) (Int32.toNatClampNeg a1) (vp_nar .boolean 1))) 105 (upd (h.2.1 105) (Int32.toNatClampNeg a1) a2)))) 4 rfl ?_
          obtain ⟨g7, hM⟩ := am_gS hM
          refine Ev.g (B := (56, [(0, .ref 75), (1, .int a1), (2, .int a2), (3, .int a3)], [], (am_sa (am_sa (am_sa h 104 (upd (h.2.1 104) (Int32.toNatClampNeg a1) (vp_nar .boolean 1))) 105 (upd (h.2.1 105) (Int32.toNatClampNeg a1) a2)) 106 (upd (h.2.1 106) (Int32.toNatClampNeg a1) a3)))) g7 rfl ?_
          refine Ev.steps (B := (59, [(4, .int 0), (0, .ref 75), (1, .int a1), (2, .int a2), (3, .int a3)], [], (am_sa (am_sa (am_sa h 104 (upd (h.2.1 104) (Int32.toNatClampNeg a1) (vp_nar .boolean 1))) 105 (upd (h.2.1 105) (Int32.toNatClampNeg a1) a2)) 106 (upd (h.2.1 106) (Int32.toNatClampNeg a1) a3)))) 2 rfl ?_
          refine Ev.lv (lv := [(0, .ref 75), (1, .int a1), (3, .int a3), (4, .int 0)]) ⟨rfl, rfl, rfl, rfl, trivial⟩ rfl rfl ?_
          exact E_L_X9_sheet_59 n vR hR n a1 a3 0 (am_sa (am_sa (am_sa h 104 (upd (h.2.1 104) (Int32.toNatClampNeg a1) (vp_nar .boolean 1))) 105 (upd (h.2.1 105) (Int32.toNatClampNeg a1) a2)) 106 (upd (h.2.1 106) (Int32.toNatClampNeg a1) a3)) hM
        · have c4 := of_decide_eq_false c4
          rw [if_neg c4] at hM
          refine Ev.steps (B := (31, [(0, .ref 75), (1, .int a1), (2, .int a2), (3, .int a3)], [.int 5, .ref 75], h)) 2 rfl ?_
          obtain ⟨v2, h1, e8, hM⟩ := am_bS hM
          refine Ev.call (q := (mr_X9_meets, [.ref 75, .int 5], [])) rfl (E_X9_meets_75 5 h v2 h1 e8) ?_
          obtain ⟨rfl, rfl⟩ := am_sp hM
          exact Ev.ret rfl
      · have c3 := of_decide_eq_false c3
        rw [if_neg c3] at hM
        refine Ev.steps (B := (24, [(0, .ref 75), (1, .int a1), (2, .int a2), (3, .int a3)], [.int (-2)], h)) 1 rfl ?_
        obtain ⟨rfl, rfl⟩ := am_sp hM
        exact Ev.ret rfl
def B_X8_lose_6 (q2 : Nat) (h : AH) : Option (Int32 × AH) :=
  if (h.1 q2 1) = 0 then
    some ((h.1 q2 3), (am_sf h q2 1 1))
  else
    am_b (M_X8_found 1 h) fun v2 h1 =>
    some (v2, h1)
set_option maxRecDepth 10000 in
theorem E_B_X8_lose_6_67 (vR : Int32) (hR : AH) (h : AH) (hM : B_X8_lose_6 67 h = some (vR, hR)) : Ev none mr_X8_lose (6, [(0, .ref 0), (2, .ref 67)], [], h) (some (.int vR)) hR := by
  unfold B_X8_lose_6 at hM
  refine Ev.steps (B := (17, [(0, .ref 0), (2, .ref 67)], [.int (h.1 67 1)], h)) 4 rfl ?_
  refine Ev.br (b := decide ((h.1 67 1) = 0)) rfl (fun c1 => ?_) (fun c1 => ?_)
  · have c1 := of_decide_eq_true c1
    rw [if_pos c1] at hM
    refine Ev.steps (B := (35, [(0, .ref 0), (2, .ref 67)], [.int (h.1 67 3)], (am_sf h 67 1 1))) 5 rfl ?_
    obtain ⟨rfl, rfl⟩ := am_sp hM
    exact Ev.ret rfl
  · have c1 := of_decide_eq_false c1
    rw [if_neg c1] at hM
    refine Ev.steps (B := (22, [(0, .ref 0), (2, .ref 67)], [.int 1, .ref 0], h)) 2 rfl ?_
    obtain ⟨v2, h1, e2, hM⟩ := am_bS hM
    refine Ev.call (q := (mr_X8_found, [.ref 0, .int 1], [])) rfl (E_X8_found_0 1 h v2 h1 e2) ?_
    obtain ⟨rfl, rfl⟩ := am_sp hM
    exact Ev.ret rfl
set_option maxRecDepth 10000 in
theorem E_B_X8_lose_6_69 (vR : Int32) (hR : AH) (h : AH) (hM : B_X8_lose_6 69 h = some (vR, hR)) : Ev none mr_X8_lose (6, [(0, .ref 0), (2, .ref 69)], [], h) (some (.int vR)) hR := by
  unfold B_X8_lose_6 at hM
  refine Ev.steps (B := (17, [(0, .ref 0), (2, .ref 69)], [.int (h.1 69 1)], h)) 4 rfl ?_
  refine Ev.br (b := decide ((h.1 69 1) = 0)) rfl (fun c1 => ?_) (fun c1 => ?_)
  · have c1 := of_decide_eq_true c1
    rw [if_pos c1] at hM
    refine Ev.steps (B := (35, [(0, .ref 0), (2, .ref 69)], [.int (h.1 69 3)], (am_sf h 69 1 1))) 5 rfl ?_
    obtain ⟨rfl, rfl⟩ := am_sp hM
    exact Ev.ret rfl
  · have c1 := of_decide_eq_false c1
    rw [if_neg c1] at hM
    refine Ev.steps (B := (22, [(0, .ref 0), (2, .ref 69)], [.int 1, .ref 0], h)) 2 rfl ?_
    obtain ⟨v2, h1, e2, hM⟩ := am_bS hM
    refine Ev.call (q := (mr_X8_found, [.ref 0, .int 1], [])) rfl (E_X8_found_0 1 h v2 h1 e2) ?_
    obtain ⟨rfl, rfl⟩ := am_sp hM
    exact Ev.ret rfl
set_option maxRecDepth 10000 in
theorem E_B_X8_lose_6_71 (vR : Int32) (hR : AH) (h : AH) (hM : B_X8_lose_6 71 h = some (vR, hR)) : Ev none mr_X8_lose (6, [(0, .ref 0), (2, .ref 71)], [], h) (some (.int vR)) hR := by
  unfold B_X8_lose_6 at hM
  refine Ev.steps (B := (17, [(0, .ref 0), (2, .ref 71)], [.int (h.1 71 1)], h)) 4 rfl ?_
  refine Ev.br (b := decide ((h.1 71 1) = 0)) rfl (fun c1 => ?_) (fun c1 => ?_)
  · have c1 := of_decide_eq_true c1
    rw [if_pos c1] at hM
    refine Ev.steps (B := (35, [(0, .ref 0), (2, .ref 71)], [.int (h.1 71 3)], (am_sf h 71 1 1))) 5 rfl ?_
    obtain ⟨rfl, rfl⟩ := am_sp hM
    exact Ev.ret rfl
  · have c1 := of_decide_eq_false c1
    rw [if_neg c1] at hM
    refine Ev.steps (B := (22, [(0, .ref 0), (2, .ref 71)], [.int 1, .ref 0], h)) 2 rfl ?_
    obtain ⟨v2, h1, e2, hM⟩ := am_bS hM
    refine Ev.call (q := (mr_X8_found, [.ref 0, .int 1], [])) rfl (E_X8_found_0 1 h v2 h1 e2) ?_
    obtain ⟨rfl, rfl⟩ := am_sp hM
    exact Ev.ret rfl
set_option maxRecDepth 10000 in
theorem E_B_X8_lose_6_73 (vR : Int32) (hR : AH) (h : AH) (hM : B_X8_lose_6 73 h = some (vR, hR)) : Ev none mr_X8_lose (6, [(0, .ref 0), (2, .ref 73)], [], h) (some (.int vR)) hR := by
  unfold B_X8_lose_6 at hM
  refine Ev.steps (B := (17, [(0, .ref 0), (2, .ref 73)], [.int (h.1 73 1)], h)) 4 rfl ?_
  refine Ev.br (b := decide ((h.1 73 1) = 0)) rfl (fun c1 => ?_) (fun c1 => ?_)
  · have c1 := of_decide_eq_true c1
    rw [if_pos c1] at hM
    refine Ev.steps (B := (35, [(0, .ref 0), (2, .ref 73)], [.int (h.1 73 3)], (am_sf h 73 1 1))) 5 rfl ?_
    obtain ⟨rfl, rfl⟩ := am_sp hM
    exact Ev.ret rfl
  · have c1 := of_decide_eq_false c1
    rw [if_neg c1] at hM
    refine Ev.steps (B := (22, [(0, .ref 0), (2, .ref 73)], [.int 1, .ref 0], h)) 2 rfl ?_
    obtain ⟨v2, h1, e2, hM⟩ := am_bS hM
    refine Ev.call (q := (mr_X8_found, [.ref 0, .int 1], [])) rfl (E_X8_found_0 1 h v2 h1 e2) ?_
    obtain ⟨rfl, rfl⟩ := am_sp hM
    exact Ev.ret rfl
def M_X8_lose (a1 : Int32) (h : AH) : Option (Int32 × AH) :=
  if a1 = 0 then
    B_X8_lose_6 67 h
  else
  if a1 = 1 then
    B_X8_lose_6 69 h
  else
  if a1 = 2 then
    B_X8_lose_6 71 h
  else
  if a1 = 3 then
    B_X8_lose_6 73 h
  else
    some ((-2), h)
set_option maxRecDepth 10000 in
theorem E_X8_lose_0 (a1 : Int32) (h : AH) (vR : Int32) (hR : AH) (hM : M_X8_lose a1 h = some (vR, hR)) : Ev none mr_X8_lose (0, [(0, .ref 0), (1, .int a1)], [], h) (some (.int vR)) hR := by
  unfold M_X8_lose at hM
  refine Ev.steps (B := (2, [(0, .ref 0), (1, .int a1)], [.int a1, .ref 0], h)) 2 rfl ?_
  by_cases c1 : a1 = 0
  · rw [if_pos c1] at hM
    refine Ev.call (q := (mr_X8_sheetAt, [.ref 0, .int a1], [])) rfl (E_X8_sheetAt_67 a1 h c1) ?_
    refine Ev.steps (B := (6, [(2, .ref 67), (0, .ref 0), (1, .int a1)], [], h)) 1 rfl ?_
    refine Ev.lv (lv := [(0, .ref 0), (2, .ref 67)]) ⟨rfl, rfl, trivial⟩ rfl rfl ?_
    exact E_B_X8_lose_6_67 vR hR h hM
  · rw [if_neg c1] at hM
    by_cases c2 : a1 = 1
    · rw [if_pos c2] at hM
      refine Ev.call (q := (mr_X8_sheetAt, [.ref 0, .int a1], [])) rfl (E_X8_sheetAt_69 a1 h c2) ?_
      refine Ev.steps (B := (6, [(2, .ref 69), (0, .ref 0), (1, .int a1)], [], h)) 1 rfl ?_
      refine Ev.lv (lv := [(0, .ref 0), (2, .ref 69)]) ⟨rfl, rfl, trivial⟩ rfl rfl ?_
      exact E_B_X8_lose_6_69 vR hR h hM
    · rw [if_neg c2] at hM
      by_cases c3 : a1 = 2
      · rw [if_pos c3] at hM
        refine Ev.call (q := (mr_X8_sheetAt, [.ref 0, .int a1], [])) rfl (E_X8_sheetAt_71 a1 h c3) ?_
        refine Ev.steps (B := (6, [(2, .ref 71), (0, .ref 0), (1, .int a1)], [], h)) 1 rfl ?_
        refine Ev.lv (lv := [(0, .ref 0), (2, .ref 71)]) ⟨rfl, rfl, trivial⟩ rfl rfl ?_
        exact E_B_X8_lose_6_71 vR hR h hM
      · rw [if_neg c3] at hM
        by_cases c4 : a1 = 3
        · rw [if_pos c4] at hM
          refine Ev.call (q := (mr_X8_sheetAt, [.ref 0, .int a1], [])) rfl (E_X8_sheetAt_73 a1 h c4) ?_
          refine Ev.steps (B := (6, [(2, .ref 73), (0, .ref 0), (1, .int a1)], [], h)) 1 rfl ?_
          refine Ev.lv (lv := [(0, .ref 0), (2, .ref 73)]) ⟨rfl, rfl, trivial⟩ rfl rfl ?_
          exact E_B_X8_lose_6_73 vR hR h hM
        · rw [if_neg c4] at hM
          refine Ev.call (q := (mr_X8_sheetAt, [.ref 0, .int a1], [])) rfl (E_X8_sheetAt_d a1 h c1 c2 c3 c4) ?_
          refine Ev.steps (B := (12, [(2, .null), (0, .ref 0), (1, .int a1)], [.int (-2)], h)) 4 rfl ?_
          obtain ⟨rfl, rfl⟩ := am_sp hM
          exact Ev.ret rfl
def M_X9_lose (a1 : Int32) (h : AH) : Option (Int32 × AH) :=
  if (M_X9_isSheet a1) = 0 then
    some ((-2), h)
  else
    bif (am_in a1 4) then
      if ((h.2.1 104) (Int32.toNatClampNeg a1)) = 0 then
        am_b (M_X9_meets 1 h) fun v2 h1 =>
        some (v2, h1)
      else
        bif (am_in a1 4) then
          bif (am_in a1 4) then
            some (((h.2.1 106) (Int32.toNatClampNeg a1)), (am_sa h 104 (upd (h.2.1 104) (Int32.toNatClampNeg a1) (vp_nar .boolean 0))))
          else none
        else none
    else none
set_option maxRecDepth 10000 in
theorem E_X9_lose_75 (a1 : Int32) (h : AH) (vR : Int32) (hR : AH) (hM : M_X9_lose a1 h = some (vR, hR)) : Ev none mr_X9_lose (0, [(0, .ref 75), (1, .int a1)], [], h) (some (.int vR)) hR := by
  unfold M_X9_lose at hM
  refine Ev.steps (B := (1, [(0, .ref 75), (1, .int a1)], [.int a1], h)) 1 rfl ?_
  refine Ev.call (q := (mr_X9_isSheet, [.int a1], [])) rfl (E_X9_isSheet a1 h) ?_
  refine Ev.br (b := decide (¬ (M_X9_isSheet a1) = 0)) rfl (fun c1 => ?_) (fun c1 => ?_)
  · have c1 := of_decide_eq_true c1
    rw [if_neg c1] at hM
    refine Ev.steps (B := (15, [(0, .ref 75), (1, .int a1)], [.int a1, .ref 104], h)) 3 rfl ?_
    obtain ⟨g2, hM⟩ := am_gS hM
    refine Ev.g (B := (16, [(0, .ref 75), (1, .int a1)], [.int ((h.2.1 104) (Int32.toNatClampNeg a1))], h)) g2 rfl ?_
    refine Ev.br (b := decide (¬ ((h.2.1 104) (Int32.toNatClampNeg a1)) = 0)) rfl (fun c3 => ?_) (fun c3 => ?_)
    · have c3 := of_decide_eq_true c3
      rw [if_neg c3] at hM
      refine Ev.steps (B := (31, [(0, .ref 75), (1, .int a1)], [.int 0, .int a1, .ref 104], h)) 4 rfl ?_
      obtain ⟨g4, hM⟩ := am_gS hM
      refine Ev.g (B := (32, [(0, .ref 75), (1, .int a1)], [], (am_sa h 104 (upd (h.2.1 104) (Int32.toNatClampNeg a1) (vp_nar .boolean 0))))) g4 rfl ?_
      refine Ev.steps (B := (37, [(0, .ref 75), (1, .int a1)], [.int a1, .ref 106], (am_sa h 104 (upd (h.2.1 104) (Int32.toNatClampNeg a1) (vp_nar .boolean 0))))) 3 rfl ?_
      obtain ⟨g5, hM⟩ := am_gS hM
      refine Ev.g (B := (38, [(0, .ref 75), (1, .int a1)], [.int ((h.2.1 106) (Int32.toNatClampNeg a1))], (am_sa h 104 (upd (h.2.1 104) (Int32.toNatClampNeg a1) (vp_nar .boolean 0))))) g5 rfl ?_
      obtain ⟨rfl, rfl⟩ := am_sp hM
      exact Ev.ret rfl
    · have c3 := Decidable.of_not_not (of_decide_eq_false c3)
      rw [if_pos c3] at hM
      refine Ev.steps (B := (21, [(0, .ref 75), (1, .int a1)], [.int 1, .ref 75], h)) 2 rfl ?_
      obtain ⟨v2, h1, e6, hM⟩ := am_bS hM
      refine Ev.call (q := (mr_X9_meets, [.ref 75, .int 1], [])) rfl (E_X9_meets_75 1 h v2 h1 e6) ?_
      obtain ⟨rfl, rfl⟩ := am_sp hM
      exact Ev.ret rfl
  · have c1 := Decidable.of_not_not (of_decide_eq_false c1)
    rw [if_pos c1] at hM
    refine Ev.steps (B := (9, [(0, .ref 75), (1, .int a1)], [.int (-2)], h)) 1 rfl ?_
    obtain ⟨rfl, rfl⟩ := am_sp hM
    exact Ev.ret rfl
def M_X5_faultOf (r0 : Nat) (a1 : Int32) (a2 : Int32) (h : AH) : Int32 :=
  if (h.1 r0 1) = 0 then
    if a1 = (h.1 r0 2) then
      if (M_X5_has r0 a2 h) = 0 then
        2
      else
        0
    else
      3
  else
    1
set_option maxRecDepth 10000 in
theorem E_X5_faultOf_67 (a1 : Int32) (a2 : Int32) (h : AH) : Ev none mr_X5_faultOf (0, [(0, .ref 67), (1, .int a1), (2, .int a2)], [], h) (some (.int (M_X5_faultOf 67 a1 a2 h))) h := by
  unfold M_X5_faultOf
  refine Ev.steps (B := (4, [(0, .ref 67), (1, .int a1), (2, .int a2)], [.int (h.1 67 1)], h)) 2 rfl ?_
  refine Ev.br (b := decide ((h.1 67 1) = 0)) rfl (fun c1 => ?_) (fun c1 => ?_)
  · have c1 := of_decide_eq_true c1
    rw [if_pos c1]
    refine Ev.steps (B := (14, [(0, .ref 67), (1, .int a1), (2, .int a2)], [.int (h.1 67 2), .int a1], h)) 3 rfl ?_
    refine Ev.br (b := decide (a1 = (h.1 67 2))) rfl (fun c2 => ?_) (fun c2 => ?_)
    · have c2 := of_decide_eq_true c2
      rw [if_pos c2]
      refine Ev.steps (B := (21, [(0, .ref 67), (1, .int a1), (2, .int a2)], [.int a2, .ref 67], h)) 2 rfl ?_
      refine Ev.call (q := (mr_X5_has, [.ref 67, .int a2], [])) rfl (E_X5_has_67 a2 h) ?_
      refine Ev.br (b := decide ((M_X5_has 67 a2 h) = 0)) rfl (fun c3 => ?_) (fun c3 => ?_)
      · have c3 := of_decide_eq_true c3
        rw [if_pos c3]
        refine Ev.steps (B := (32, [(0, .ref 67), (1, .int a1), (2, .int a2)], [.int 2], h)) 1 rfl ?_
        exact Ev.ret rfl
      · have c3 := of_decide_eq_false c3
        rw [if_neg c3]
        refine Ev.steps (B := (32, [(0, .ref 67), (1, .int a1), (2, .int a2)], [.int 0], h)) 2 rfl ?_
        exact Ev.ret rfl
    · have c2 := of_decide_eq_false c2
      rw [if_neg c2]
      refine Ev.steps (B := (18, [(0, .ref 67), (1, .int a1), (2, .int a2)], [.int 3], h)) 1 rfl ?_
      exact Ev.ret rfl
  · have c1 := of_decide_eq_false c1
    rw [if_neg c1]
    refine Ev.steps (B := (8, [(0, .ref 67), (1, .int a1), (2, .int a2)], [.int 1], h)) 1 rfl ?_
    exact Ev.ret rfl
def M_X5_store (r0 : Nat) (a1 : Int32) (a2 : Int32) (h : AH) : Option AH :=
  if (M_X5_has r0 a1 h) = 0 then
    some h
  else
    if (h.1 r0 2) = 0 then
      bif (am_in a1 60) then
        some (am_sa h (r0 + 1) (upd (h.2.1 (r0 + 1)) (Int32.toNatClampNeg a1) ((Int32.toInt8 a2).toInt32)))
      else none
    else
    if (h.1 r0 2) = 1 then
      bif (am_in a1 60) then
        some (am_sa h (r0 + 1) (upd (h.2.1 (r0 + 1)) (Int32.toNatClampNeg a1) ((Int32.toInt16 a2).toInt32)))
      else none
    else
      bif (am_in a1 60) then
        some (am_sa h (r0 + 1) (upd (h.2.1 (r0 + 1)) (Int32.toNatClampNeg a1) a2))
      else none
set_option maxRecDepth 10000 in
theorem E_X5_store_67 (a1 : Int32) (a2 : Int32) (h : AH) (hR : AH) (hM : M_X5_store 67 a1 a2 h = some hR) : Ev none mr_X5_store (0, [(0, .ref 67), (1, .int a1), (2, .int a2)], [], h) none hR := by
  unfold M_X5_store at hM
  refine Ev.steps (B := (2, [(0, .ref 67), (1, .int a1), (2, .int a2)], [.int a1, .ref 67], h)) 2 rfl ?_
  refine Ev.call (q := (mr_X5_has, [.ref 67, .int a1], [])) rfl (E_X5_has_67 a1 h) ?_
  refine Ev.br (b := decide (¬ (M_X5_has 67 a1 h) = 0)) rfl (fun c1 => ?_) (fun c1 => ?_)
  · have c1 := of_decide_eq_true c1
    rw [if_neg c1] at hM
    refine Ev.steps (B := (13, [(0, .ref 67), (1, .int a1), (2, .int a2)], [.int (h.1 67 2)], h)) 2 rfl ?_
    refine Ev.step (B := (am_sel (h.1 67 2) [(0, 40), (1, 51)] 62, [(0, .ref 67), (1, .int a1), (2, .int a2)], [], h)) rfl ?_
    refine Ev.sw (fun c2 => ?_) (fun c2 => ?_)
    · rw [if_pos c2] at hM
      refine Ev.steps (B := (47, [(0, .ref 67), (1, .int a1), (2, .int a2)], [.int ((Int32.toInt8 a2).toInt32), .int a1, .ref (67 + 1)], h)) 5 rfl ?_
      obtain ⟨g3, hM⟩ := am_gS hM
      refine Ev.g (B := (48, [(0, .ref 67), (1, .int a1), (2, .int a2)], [], (am_sa h (67 + 1) (upd (h.2.1 (67 + 1)) (Int32.toNatClampNeg a1) ((Int32.toInt8 a2).toInt32))))) g3 rfl ?_
      refine Ev.steps (B := (69, [(0, .ref 67), (1, .int a1), (2, .int a2)], [], (am_sa h (67 + 1) (upd (h.2.1 (67 + 1)) (Int32.toNatClampNeg a1) ((Int32.toInt8 a2).toInt32))))) 1 rfl ?_
      obtain rfl := am_s1 hM
      exact Ev.ret rfl
    · rw [if_neg c2] at hM
      refine Ev.sw (fun c4 => ?_) (fun c4 => ?_)
      · rw [if_pos c4] at hM
        refine Ev.steps (B := (58, [(0, .ref 67), (1, .int a1), (2, .int a2)], [.int ((Int32.toInt16 a2).toInt32), .int a1, .ref (67 + 1)], h)) 5 rfl ?_
        obtain ⟨g5, hM⟩ := am_gS hM
        refine Ev.g (B := (59, [(0, .ref 67), (1, .int a1), (2, .int a2)], [], (am_sa h (67 + 1) (upd (h.2.1 (67 + 1)) (Int32.toNatClampNeg a1) ((Int32.toInt16 a2).toInt32))))) g5 rfl ?_
        refine Ev.steps (B := (69, [(0, .ref 67), (1, .int a1), (2, .int a2)], [], (am_sa h (67 + 1) (upd (h.2.1 (67 + 1)) (Int32.toNatClampNeg a1) ((Int32.toInt16 a2).toInt32))))) 1 rfl ?_
        obtain rfl := am_s1 hM
        exact Ev.ret rfl
      · rw [if_neg c4] at hM
        refine Ev.steps (B := (68, [(0, .ref 67), (1, .int a1), (2, .int a2)], [.int a2, .int a1, .ref (67 + 1)], h)) 4 rfl ?_
        obtain ⟨g6, hM⟩ := am_gS hM
        refine Ev.g (B := (69, [(0, .ref 67), (1, .int a1), (2, .int a2)], [], (am_sa h (67 + 1) (upd (h.2.1 (67 + 1)) (Int32.toNatClampNeg a1) a2)))) g6 rfl ?_
        obtain rfl := am_s1 hM
        exact Ev.ret rfl
  · have c1 := Decidable.of_not_not (of_decide_eq_false c1)
    rw [if_pos c1] at hM
    obtain rfl := am_s1 hM
    exact Ev.ret rfl
def B_X8_put_7 (x2 : Int32) (x3 : Int32) (x4 : Int32) (q5 : Nat) (h : AH) : Option (Int32 × AH) :=
  if (M_X8_within x2 2) = 0 then
    some ((-2), h)
  else
    if (M_X5_faultOf q5 x2 x3 h) = 0 then
      am_v (M_X5_store q5 x3 x4 h) fun h1 =>
      some (1, h1)
    else
      am_b (M_X8_found (M_X5_faultOf q5 x2 x3 h) h) fun v3 h2 =>
      some (v3, h2)
set_option maxRecDepth 10000 in
theorem E_B_X8_put_7_67 (vR : Int32) (hR : AH) (x2 : Int32) (x3 : Int32) (x4 : Int32) (h : AH) (hM : B_X8_put_7 x2 x3 x4 67 h = some (vR, hR)) : Ev none mr_X8_put (7, [(0, .ref 0), (2, .int x2), (3, .int x3), (4, .int x4), (5, .ref 67)], [], h) (some (.int vR)) hR := by
  unfold B_X8_put_7 at hM
  refine Ev.steps (B := (14, [(0, .ref 0), (2, .int x2), (3, .int x3), (4, .int x4), (5, .ref 67)], [.int 2, .int x2], h)) 4 rfl ?_
  refine Ev.call (q := (mr_X8_within, [.int x2, .int 2], [])) rfl (E_X8_within x2 2 h) ?_
  refine Ev.br (b := decide (¬ (M_X8_within x2 2) = 0)) rfl (fun c1 => ?_) (fun c1 => ?_)
  · have c1 := of_decide_eq_true c1
    rw [if_neg c1] at hM
    refine Ev.steps (B := (27, [(0, .ref 0), (2, .int x2), (3, .int x3), (4, .int x4), (5, .ref 67)], [.int x3, .int x2, .ref 67], h)) 3 rfl ?_
    refine Ev.call (q := (mr_X5_faultOf, [.ref 67, .int x2, .int x3], [])) rfl (E_X5_faultOf_67 x2 x3 h) ?_
    refine Ev.steps (B := (34, [(6, .int (M_X5_faultOf 67 x2 x3 h)), (0, .ref 0), (2, .int x2), (3, .int x3), (4, .int x4), (5, .ref 67)], [.int (M_X5_faultOf 67 x2 x3 h)], h)) 2 rfl ?_
    refine Ev.br (b := decide ((M_X5_faultOf 67 x2 x3 h) = 0)) rfl (fun c2 => ?_) (fun c2 => ?_)
    · have c2 := of_decide_eq_true c2
      rw [if_pos c2] at hM
      refine Ev.steps (B := (49, [(6, .int (M_X5_faultOf 67 x2 x3 h)), (0, .ref 0), (2, .int x2), (3, .int x3), (4, .int x4), (5, .ref 67)], [.int x4, .int x3, .ref 67], h)) 3 rfl ?_
      obtain ⟨h1, e3, hM⟩ := am_vS hM
      refine Ev.call (q := (mr_X5_store, [.ref 67, .int x3, .int x4], [])) rfl (E_X5_store_67 x3 x4 h h1 e3) ?_
      refine Ev.steps (B := (53, [(6, .int (M_X5_faultOf 67 x2 x3 h)), (0, .ref 0), (2, .int x2), (3, .int x3), (4, .int x4), (5, .ref 67)], [.int 1], h1)) 1 rfl ?_
      obtain ⟨rfl, rfl⟩ := am_sp hM
      exact Ev.ret rfl
    · have c2 := of_decide_eq_false c2
      rw [if_neg c2] at hM
      refine Ev.steps (B := (40, [(6, .int (M_X5_faultOf 67 x2 x3 h)), (0, .ref 0), (2, .int x2), (3, .int x3), (4, .int x4), (5, .ref 67)], [.int (M_X5_faultOf 67 x2 x3 h), .ref 0], h)) 2 rfl ?_
      obtain ⟨v3, h2, e4, hM⟩ := am_bS hM
      refine Ev.call (q := (mr_X8_found, [.ref 0, .int (M_X5_faultOf 67 x2 x3 h)], [])) rfl (E_X8_found_0 (M_X5_faultOf 67 x2 x3 h) h v3 h2 e4) ?_
      obtain ⟨rfl, rfl⟩ := am_sp hM
      exact Ev.ret rfl
  · have c1 := Decidable.of_not_not (of_decide_eq_false c1)
    rw [if_pos c1] at hM
    refine Ev.steps (B := (22, [(0, .ref 0), (2, .int x2), (3, .int x3), (4, .int x4), (5, .ref 67)], [.int (-2)], h)) 1 rfl ?_
    obtain ⟨rfl, rfl⟩ := am_sp hM
    exact Ev.ret rfl
set_option maxRecDepth 10000 in
theorem E_X5_faultOf_69 (a1 : Int32) (a2 : Int32) (h : AH) : Ev none mr_X5_faultOf (0, [(0, .ref 69), (1, .int a1), (2, .int a2)], [], h) (some (.int (M_X5_faultOf 69 a1 a2 h))) h := by
  unfold M_X5_faultOf
  refine Ev.steps (B := (4, [(0, .ref 69), (1, .int a1), (2, .int a2)], [.int (h.1 69 1)], h)) 2 rfl ?_
  refine Ev.br (b := decide ((h.1 69 1) = 0)) rfl (fun c1 => ?_) (fun c1 => ?_)
  · have c1 := of_decide_eq_true c1
    rw [if_pos c1]
    refine Ev.steps (B := (14, [(0, .ref 69), (1, .int a1), (2, .int a2)], [.int (h.1 69 2), .int a1], h)) 3 rfl ?_
    refine Ev.br (b := decide (a1 = (h.1 69 2))) rfl (fun c2 => ?_) (fun c2 => ?_)
    · have c2 := of_decide_eq_true c2
      rw [if_pos c2]
      refine Ev.steps (B := (21, [(0, .ref 69), (1, .int a1), (2, .int a2)], [.int a2, .ref 69], h)) 2 rfl ?_
      refine Ev.call (q := (mr_X5_has, [.ref 69, .int a2], [])) rfl (E_X5_has_69 a2 h) ?_
      refine Ev.br (b := decide ((M_X5_has 69 a2 h) = 0)) rfl (fun c3 => ?_) (fun c3 => ?_)
      · have c3 := of_decide_eq_true c3
        rw [if_pos c3]
        refine Ev.steps (B := (32, [(0, .ref 69), (1, .int a1), (2, .int a2)], [.int 2], h)) 1 rfl ?_
        exact Ev.ret rfl
      · have c3 := of_decide_eq_false c3
        rw [if_neg c3]
        refine Ev.steps (B := (32, [(0, .ref 69), (1, .int a1), (2, .int a2)], [.int 0], h)) 2 rfl ?_
        exact Ev.ret rfl
    · have c2 := of_decide_eq_false c2
      rw [if_neg c2]
      refine Ev.steps (B := (18, [(0, .ref 69), (1, .int a1), (2, .int a2)], [.int 3], h)) 1 rfl ?_
      exact Ev.ret rfl
  · have c1 := of_decide_eq_false c1
    rw [if_neg c1]
    refine Ev.steps (B := (8, [(0, .ref 69), (1, .int a1), (2, .int a2)], [.int 1], h)) 1 rfl ?_
    exact Ev.ret rfl
set_option maxRecDepth 10000 in
theorem E_X5_store_69 (a1 : Int32) (a2 : Int32) (h : AH) (hR : AH) (hM : M_X5_store 69 a1 a2 h = some hR) : Ev none mr_X5_store (0, [(0, .ref 69), (1, .int a1), (2, .int a2)], [], h) none hR := by
  unfold M_X5_store at hM
  refine Ev.steps (B := (2, [(0, .ref 69), (1, .int a1), (2, .int a2)], [.int a1, .ref 69], h)) 2 rfl ?_
  refine Ev.call (q := (mr_X5_has, [.ref 69, .int a1], [])) rfl (E_X5_has_69 a1 h) ?_
  refine Ev.br (b := decide (¬ (M_X5_has 69 a1 h) = 0)) rfl (fun c1 => ?_) (fun c1 => ?_)
  · have c1 := of_decide_eq_true c1
    rw [if_neg c1] at hM
    refine Ev.steps (B := (13, [(0, .ref 69), (1, .int a1), (2, .int a2)], [.int (h.1 69 2)], h)) 2 rfl ?_
    refine Ev.step (B := (am_sel (h.1 69 2) [(0, 40), (1, 51)] 62, [(0, .ref 69), (1, .int a1), (2, .int a2)], [], h)) rfl ?_
    refine Ev.sw (fun c2 => ?_) (fun c2 => ?_)
    · rw [if_pos c2] at hM
      refine Ev.steps (B := (47, [(0, .ref 69), (1, .int a1), (2, .int a2)], [.int ((Int32.toInt8 a2).toInt32), .int a1, .ref (69 + 1)], h)) 5 rfl ?_
      obtain ⟨g3, hM⟩ := am_gS hM
      refine Ev.g (B := (48, [(0, .ref 69), (1, .int a1), (2, .int a2)], [], (am_sa h (69 + 1) (upd (h.2.1 (69 + 1)) (Int32.toNatClampNeg a1) ((Int32.toInt8 a2).toInt32))))) g3 rfl ?_
      refine Ev.steps (B := (69, [(0, .ref 69), (1, .int a1), (2, .int a2)], [], (am_sa h (69 + 1) (upd (h.2.1 (69 + 1)) (Int32.toNatClampNeg a1) ((Int32.toInt8 a2).toInt32))))) 1 rfl ?_
      obtain rfl := am_s1 hM
      exact Ev.ret rfl
    · rw [if_neg c2] at hM
      refine Ev.sw (fun c4 => ?_) (fun c4 => ?_)
      · rw [if_pos c4] at hM
        refine Ev.steps (B := (58, [(0, .ref 69), (1, .int a1), (2, .int a2)], [.int ((Int32.toInt16 a2).toInt32), .int a1, .ref (69 + 1)], h)) 5 rfl ?_
        obtain ⟨g5, hM⟩ := am_gS hM
        refine Ev.g (B := (59, [(0, .ref 69), (1, .int a1), (2, .int a2)], [], (am_sa h (69 + 1) (upd (h.2.1 (69 + 1)) (Int32.toNatClampNeg a1) ((Int32.toInt16 a2).toInt32))))) g5 rfl ?_
        refine Ev.steps (B := (69, [(0, .ref 69), (1, .int a1), (2, .int a2)], [], (am_sa h (69 + 1) (upd (h.2.1 (69 + 1)) (Int32.toNatClampNeg a1) ((Int32.toInt16 a2).toInt32))))) 1 rfl ?_
        obtain rfl := am_s1 hM
        exact Ev.ret rfl
      · rw [if_neg c4] at hM
        refine Ev.steps (B := (68, [(0, .ref 69), (1, .int a1), (2, .int a2)], [.int a2, .int a1, .ref (69 + 1)], h)) 4 rfl ?_
        obtain ⟨g6, hM⟩ := am_gS hM
        refine Ev.g (B := (69, [(0, .ref 69), (1, .int a1), (2, .int a2)], [], (am_sa h (69 + 1) (upd (h.2.1 (69 + 1)) (Int32.toNatClampNeg a1) a2)))) g6 rfl ?_
        obtain rfl := am_s1 hM
        exact Ev.ret rfl
  · have c1 := Decidable.of_not_not (of_decide_eq_false c1)
    rw [if_pos c1] at hM
    obtain rfl := am_s1 hM
    exact Ev.ret rfl
set_option maxRecDepth 10000 in
theorem E_B_X8_put_7_69 (vR : Int32) (hR : AH) (x2 : Int32) (x3 : Int32) (x4 : Int32) (h : AH) (hM : B_X8_put_7 x2 x3 x4 69 h = some (vR, hR)) : Ev none mr_X8_put (7, [(0, .ref 0), (2, .int x2), (3, .int x3), (4, .int x4), (5, .ref 69)], [], h) (some (.int vR)) hR := by
  unfold B_X8_put_7 at hM
  refine Ev.steps (B := (14, [(0, .ref 0), (2, .int x2), (3, .int x3), (4, .int x4), (5, .ref 69)], [.int 2, .int x2], h)) 4 rfl ?_
  refine Ev.call (q := (mr_X8_within, [.int x2, .int 2], [])) rfl (E_X8_within x2 2 h) ?_
  refine Ev.br (b := decide (¬ (M_X8_within x2 2) = 0)) rfl (fun c1 => ?_) (fun c1 => ?_)
  · have c1 := of_decide_eq_true c1
    rw [if_neg c1] at hM
    refine Ev.steps (B := (27, [(0, .ref 0), (2, .int x2), (3, .int x3), (4, .int x4), (5, .ref 69)], [.int x3, .int x2, .ref 69], h)) 3 rfl ?_
    refine Ev.call (q := (mr_X5_faultOf, [.ref 69, .int x2, .int x3], [])) rfl (E_X5_faultOf_69 x2 x3 h) ?_
    refine Ev.steps (B := (34, [(6, .int (M_X5_faultOf 69 x2 x3 h)), (0, .ref 0), (2, .int x2), (3, .int x3), (4, .int x4), (5, .ref 69)], [.int (M_X5_faultOf 69 x2 x3 h)], h)) 2 rfl ?_
    refine Ev.br (b := decide ((M_X5_faultOf 69 x2 x3 h) = 0)) rfl (fun c2 => ?_) (fun c2 => ?_)
    · have c2 := of_decide_eq_true c2
      rw [if_pos c2] at hM
      refine Ev.steps (B := (49, [(6, .int (M_X5_faultOf 69 x2 x3 h)), (0, .ref 0), (2, .int x2), (3, .int x3), (4, .int x4), (5, .ref 69)], [.int x4, .int x3, .ref 69], h)) 3 rfl ?_
      obtain ⟨h1, e3, hM⟩ := am_vS hM
      refine Ev.call (q := (mr_X5_store, [.ref 69, .int x3, .int x4], [])) rfl (E_X5_store_69 x3 x4 h h1 e3) ?_
      refine Ev.steps (B := (53, [(6, .int (M_X5_faultOf 69 x2 x3 h)), (0, .ref 0), (2, .int x2), (3, .int x3), (4, .int x4), (5, .ref 69)], [.int 1], h1)) 1 rfl ?_
      obtain ⟨rfl, rfl⟩ := am_sp hM
      exact Ev.ret rfl
    · have c2 := of_decide_eq_false c2
      rw [if_neg c2] at hM
      refine Ev.steps (B := (40, [(6, .int (M_X5_faultOf 69 x2 x3 h)), (0, .ref 0), (2, .int x2), (3, .int x3), (4, .int x4), (5, .ref 69)], [.int (M_X5_faultOf 69 x2 x3 h), .ref 0], h)) 2 rfl ?_
      obtain ⟨v3, h2, e4, hM⟩ := am_bS hM
      refine Ev.call (q := (mr_X8_found, [.ref 0, .int (M_X5_faultOf 69 x2 x3 h)], [])) rfl (E_X8_found_0 (M_X5_faultOf 69 x2 x3 h) h v3 h2 e4) ?_
      obtain ⟨rfl, rfl⟩ := am_sp hM
      exact Ev.ret rfl
  · have c1 := Decidable.of_not_not (of_decide_eq_false c1)
    rw [if_pos c1] at hM
    refine Ev.steps (B := (22, [(0, .ref 0), (2, .int x2), (3, .int x3), (4, .int x4), (5, .ref 69)], [.int (-2)], h)) 1 rfl ?_
    obtain ⟨rfl, rfl⟩ := am_sp hM
    exact Ev.ret rfl
set_option maxRecDepth 10000 in
theorem E_X5_faultOf_71 (a1 : Int32) (a2 : Int32) (h : AH) : Ev none mr_X5_faultOf (0, [(0, .ref 71), (1, .int a1), (2, .int a2)], [], h) (some (.int (M_X5_faultOf 71 a1 a2 h))) h := by
  unfold M_X5_faultOf
  refine Ev.steps (B := (4, [(0, .ref 71), (1, .int a1), (2, .int a2)], [.int (h.1 71 1)], h)) 2 rfl ?_
  refine Ev.br (b := decide ((h.1 71 1) = 0)) rfl (fun c1 => ?_) (fun c1 => ?_)
  · have c1 := of_decide_eq_true c1
    rw [if_pos c1]
    refine Ev.steps (B := (14, [(0, .ref 71), (1, .int a1), (2, .int a2)], [.int (h.1 71 2), .int a1], h)) 3 rfl ?_
    refine Ev.br (b := decide (a1 = (h.1 71 2))) rfl (fun c2 => ?_) (fun c2 => ?_)
    · have c2 := of_decide_eq_true c2
      rw [if_pos c2]
      refine Ev.steps (B := (21, [(0, .ref 71), (1, .int a1), (2, .int a2)], [.int a2, .ref 71], h)) 2 rfl ?_
      refine Ev.call (q := (mr_X5_has, [.ref 71, .int a2], [])) rfl (E_X5_has_71 a2 h) ?_
      refine Ev.br (b := decide ((M_X5_has 71 a2 h) = 0)) rfl (fun c3 => ?_) (fun c3 => ?_)
      · have c3 := of_decide_eq_true c3
        rw [if_pos c3]
        refine Ev.steps (B := (32, [(0, .ref 71), (1, .int a1), (2, .int a2)], [.int 2], h)) 1 rfl ?_
        exact Ev.ret rfl
      · have c3 := of_decide_eq_false c3
        rw [if_neg c3]
        refine Ev.steps (B := (32, [(0, .ref 71), (1, .int a1), (2, .int a2)], [.int 0], h)) 2 rfl ?_
        exact Ev.ret rfl
    · have c2 := of_decide_eq_false c2
      rw [if_neg c2]
      refine Ev.steps (B := (18, [(0, .ref 71), (1, .int a1), (2, .int a2)], [.int 3], h)) 1 rfl ?_
      exact Ev.ret rfl
  · have c1 := of_decide_eq_false c1
    rw [if_neg c1]
    refine Ev.steps (B := (8, [(0, .ref 71), (1, .int a1), (2, .int a2)], [.int 1], h)) 1 rfl ?_
    exact Ev.ret rfl
set_option maxRecDepth 10000 in
theorem E_X5_store_71 (a1 : Int32) (a2 : Int32) (h : AH) (hR : AH) (hM : M_X5_store 71 a1 a2 h = some hR) : Ev none mr_X5_store (0, [(0, .ref 71), (1, .int a1), (2, .int a2)], [], h) none hR := by
  unfold M_X5_store at hM
  refine Ev.steps (B := (2, [(0, .ref 71), (1, .int a1), (2, .int a2)], [.int a1, .ref 71], h)) 2 rfl ?_
  refine Ev.call (q := (mr_X5_has, [.ref 71, .int a1], [])) rfl (E_X5_has_71 a1 h) ?_
  refine Ev.br (b := decide (¬ (M_X5_has 71 a1 h) = 0)) rfl (fun c1 => ?_) (fun c1 => ?_)
  · have c1 := of_decide_eq_true c1
    rw [if_neg c1] at hM
    refine Ev.steps (B := (13, [(0, .ref 71), (1, .int a1), (2, .int a2)], [.int (h.1 71 2)], h)) 2 rfl ?_
    refine Ev.step (B := (am_sel (h.1 71 2) [(0, 40), (1, 51)] 62, [(0, .ref 71), (1, .int a1), (2, .int a2)], [], h)) rfl ?_
    refine Ev.sw (fun c2 => ?_) (fun c2 => ?_)
    · rw [if_pos c2] at hM
      refine Ev.steps (B := (47, [(0, .ref 71), (1, .int a1), (2, .int a2)], [.int ((Int32.toInt8 a2).toInt32), .int a1, .ref (71 + 1)], h)) 5 rfl ?_
      obtain ⟨g3, hM⟩ := am_gS hM
      refine Ev.g (B := (48, [(0, .ref 71), (1, .int a1), (2, .int a2)], [], (am_sa h (71 + 1) (upd (h.2.1 (71 + 1)) (Int32.toNatClampNeg a1) ((Int32.toInt8 a2).toInt32))))) g3 rfl ?_
      refine Ev.steps (B := (69, [(0, .ref 71), (1, .int a1), (2, .int a2)], [], (am_sa h (71 + 1) (upd (h.2.1 (71 + 1)) (Int32.toNatClampNeg a1) ((Int32.toInt8 a2).toInt32))))) 1 rfl ?_
      obtain rfl := am_s1 hM
      exact Ev.ret rfl
    · rw [if_neg c2] at hM
      refine Ev.sw (fun c4 => ?_) (fun c4 => ?_)
      · rw [if_pos c4] at hM
        refine Ev.steps (B := (58, [(0, .ref 71), (1, .int a1), (2, .int a2)], [.int ((Int32.toInt16 a2).toInt32), .int a1, .ref (71 + 1)], h)) 5 rfl ?_
        obtain ⟨g5, hM⟩ := am_gS hM
        refine Ev.g (B := (59, [(0, .ref 71), (1, .int a1), (2, .int a2)], [], (am_sa h (71 + 1) (upd (h.2.1 (71 + 1)) (Int32.toNatClampNeg a1) ((Int32.toInt16 a2).toInt32))))) g5 rfl ?_
        refine Ev.steps (B := (69, [(0, .ref 71), (1, .int a1), (2, .int a2)], [], (am_sa h (71 + 1) (upd (h.2.1 (71 + 1)) (Int32.toNatClampNeg a1) ((Int32.toInt16 a2).toInt32))))) 1 rfl ?_
        obtain rfl := am_s1 hM
        exact Ev.ret rfl
      · rw [if_neg c4] at hM
        refine Ev.steps (B := (68, [(0, .ref 71), (1, .int a1), (2, .int a2)], [.int a2, .int a1, .ref (71 + 1)], h)) 4 rfl ?_
        obtain ⟨g6, hM⟩ := am_gS hM
        refine Ev.g (B := (69, [(0, .ref 71), (1, .int a1), (2, .int a2)], [], (am_sa h (71 + 1) (upd (h.2.1 (71 + 1)) (Int32.toNatClampNeg a1) a2)))) g6 rfl ?_
        obtain rfl := am_s1 hM
        exact Ev.ret rfl
  · have c1 := Decidable.of_not_not (of_decide_eq_false c1)
    rw [if_pos c1] at hM
    obtain rfl := am_s1 hM
    exact Ev.ret rfl
set_option maxRecDepth 10000 in
theorem E_B_X8_put_7_71 (vR : Int32) (hR : AH) (x2 : Int32) (x3 : Int32) (x4 : Int32) (h : AH) (hM : B_X8_put_7 x2 x3 x4 71 h = some (vR, hR)) : Ev none mr_X8_put (7, [(0, .ref 0), (2, .int x2), (3, .int x3), (4, .int x4), (5, .ref 71)], [], h) (some (.int vR)) hR := by
  unfold B_X8_put_7 at hM
  refine Ev.steps (B := (14, [(0, .ref 0), (2, .int x2), (3, .int x3), (4, .int x4), (5, .ref 71)], [.int 2, .int x2], h)) 4 rfl ?_
  refine Ev.call (q := (mr_X8_within, [.int x2, .int 2], [])) rfl (E_X8_within x2 2 h) ?_
  refine Ev.br (b := decide (¬ (M_X8_within x2 2) = 0)) rfl (fun c1 => ?_) (fun c1 => ?_)
  · have c1 := of_decide_eq_true c1
    rw [if_neg c1] at hM
    refine Ev.steps (B := (27, [(0, .ref 0), (2, .int x2), (3, .int x3), (4, .int x4), (5, .ref 71)], [.int x3, .int x2, .ref 71], h)) 3 rfl ?_
    refine Ev.call (q := (mr_X5_faultOf, [.ref 71, .int x2, .int x3], [])) rfl (E_X5_faultOf_71 x2 x3 h) ?_
    refine Ev.steps (B := (34, [(6, .int (M_X5_faultOf 71 x2 x3 h)), (0, .ref 0), (2, .int x2), (3, .int x3), (4, .int x4), (5, .ref 71)], [.int (M_X5_faultOf 71 x2 x3 h)], h)) 2 rfl ?_
    refine Ev.br (b := decide ((M_X5_faultOf 71 x2 x3 h) = 0)) rfl (fun c2 => ?_) (fun c2 => ?_)
    · have c2 := of_decide_eq_true c2
      rw [if_pos c2] at hM
      refine Ev.steps (B := (49, [(6, .int (M_X5_faultOf 71 x2 x3 h)), (0, .ref 0), (2, .int x2), (3, .int x3), (4, .int x4), (5, .ref 71)], [.int x4, .int x3, .ref 71], h)) 3 rfl ?_
      obtain ⟨h1, e3, hM⟩ := am_vS hM
      refine Ev.call (q := (mr_X5_store, [.ref 71, .int x3, .int x4], [])) rfl (E_X5_store_71 x3 x4 h h1 e3) ?_
      refine Ev.steps (B := (53, [(6, .int (M_X5_faultOf 71 x2 x3 h)), (0, .ref 0), (2, .int x2), (3, .int x3), (4, .int x4), (5, .ref 71)], [.int 1], h1)) 1 rfl ?_
      obtain ⟨rfl, rfl⟩ := am_sp hM
      exact Ev.ret rfl
    · have c2 := of_decide_eq_false c2
      rw [if_neg c2] at hM
      refine Ev.steps (B := (40, [(6, .int (M_X5_faultOf 71 x2 x3 h)), (0, .ref 0), (2, .int x2), (3, .int x3), (4, .int x4), (5, .ref 71)], [.int (M_X5_faultOf 71 x2 x3 h), .ref 0], h)) 2 rfl ?_
      obtain ⟨v3, h2, e4, hM⟩ := am_bS hM
      refine Ev.call (q := (mr_X8_found, [.ref 0, .int (M_X5_faultOf 71 x2 x3 h)], [])) rfl (E_X8_found_0 (M_X5_faultOf 71 x2 x3 h) h v3 h2 e4) ?_
      obtain ⟨rfl, rfl⟩ := am_sp hM
      exact Ev.ret rfl
  · have c1 := Decidable.of_not_not (of_decide_eq_false c1)
    rw [if_pos c1] at hM
    refine Ev.steps (B := (22, [(0, .ref 0), (2, .int x2), (3, .int x3), (4, .int x4), (5, .ref 71)], [.int (-2)], h)) 1 rfl ?_
    obtain ⟨rfl, rfl⟩ := am_sp hM
    exact Ev.ret rfl
set_option maxRecDepth 10000 in
theorem E_X5_faultOf_73 (a1 : Int32) (a2 : Int32) (h : AH) : Ev none mr_X5_faultOf (0, [(0, .ref 73), (1, .int a1), (2, .int a2)], [], h) (some (.int (M_X5_faultOf 73 a1 a2 h))) h := by
  unfold M_X5_faultOf
  refine Ev.steps (B := (4, [(0, .ref 73), (1, .int a1), (2, .int a2)], [.int (h.1 73 1)], h)) 2 rfl ?_
  refine Ev.br (b := decide ((h.1 73 1) = 0)) rfl (fun c1 => ?_) (fun c1 => ?_)
  · have c1 := of_decide_eq_true c1
    rw [if_pos c1]
    refine Ev.steps (B := (14, [(0, .ref 73), (1, .int a1), (2, .int a2)], [.int (h.1 73 2), .int a1], h)) 3 rfl ?_
    refine Ev.br (b := decide (a1 = (h.1 73 2))) rfl (fun c2 => ?_) (fun c2 => ?_)
    · have c2 := of_decide_eq_true c2
      rw [if_pos c2]
      refine Ev.steps (B := (21, [(0, .ref 73), (1, .int a1), (2, .int a2)], [.int a2, .ref 73], h)) 2 rfl ?_
      refine Ev.call (q := (mr_X5_has, [.ref 73, .int a2], [])) rfl (E_X5_has_73 a2 h) ?_
      refine Ev.br (b := decide ((M_X5_has 73 a2 h) = 0)) rfl (fun c3 => ?_) (fun c3 => ?_)
      · have c3 := of_decide_eq_true c3
        rw [if_pos c3]
        refine Ev.steps (B := (32, [(0, .ref 73), (1, .int a1), (2, .int a2)], [.int 2], h)) 1 rfl ?_
        exact Ev.ret rfl
      · have c3 := of_decide_eq_false c3
        rw [if_neg c3]
        refine Ev.steps (B := (32, [(0, .ref 73), (1, .int a1), (2, .int a2)], [.int 0], h)) 2 rfl ?_
        exact Ev.ret rfl
    · have c2 := of_decide_eq_false c2
      rw [if_neg c2]
      refine Ev.steps (B := (18, [(0, .ref 73), (1, .int a1), (2, .int a2)], [.int 3], h)) 1 rfl ?_
      exact Ev.ret rfl
  · have c1 := of_decide_eq_false c1
    rw [if_neg c1]
    refine Ev.steps (B := (8, [(0, .ref 73), (1, .int a1), (2, .int a2)], [.int 1], h)) 1 rfl ?_
    exact Ev.ret rfl
set_option maxRecDepth 10000 in
theorem E_X5_store_73 (a1 : Int32) (a2 : Int32) (h : AH) (hR : AH) (hM : M_X5_store 73 a1 a2 h = some hR) : Ev none mr_X5_store (0, [(0, .ref 73), (1, .int a1), (2, .int a2)], [], h) none hR := by
  unfold M_X5_store at hM
  refine Ev.steps (B := (2, [(0, .ref 73), (1, .int a1), (2, .int a2)], [.int a1, .ref 73], h)) 2 rfl ?_
  refine Ev.call (q := (mr_X5_has, [.ref 73, .int a1], [])) rfl (E_X5_has_73 a1 h) ?_
  refine Ev.br (b := decide (¬ (M_X5_has 73 a1 h) = 0)) rfl (fun c1 => ?_) (fun c1 => ?_)
  · have c1 := of_decide_eq_true c1
    rw [if_neg c1] at hM
    refine Ev.steps (B := (13, [(0, .ref 73), (1, .int a1), (2, .int a2)], [.int (h.1 73 2)], h)) 2 rfl ?_
    refine Ev.step (B := (am_sel (h.1 73 2) [(0, 40), (1, 51)] 62, [(0, .ref 73), (1, .int a1), (2, .int a2)], [], h)) rfl ?_
    refine Ev.sw (fun c2 => ?_) (fun c2 => ?_)
    · rw [if_pos c2] at hM
      refine Ev.steps (B := (47, [(0, .ref 73), (1, .int a1), (2, .int a2)], [.int ((Int32.toInt8 a2).toInt32), .int a1, .ref (73 + 1)], h)) 5 rfl ?_
      obtain ⟨g3, hM⟩ := am_gS hM
      refine Ev.g (B := (48, [(0, .ref 73), (1, .int a1), (2, .int a2)], [], (am_sa h (73 + 1) (upd (h.2.1 (73 + 1)) (Int32.toNatClampNeg a1) ((Int32.toInt8 a2).toInt32))))) g3 rfl ?_
      refine Ev.steps (B := (69, [(0, .ref 73), (1, .int a1), (2, .int a2)], [], (am_sa h (73 + 1) (upd (h.2.1 (73 + 1)) (Int32.toNatClampNeg a1) ((Int32.toInt8 a2).toInt32))))) 1 rfl ?_
      obtain rfl := am_s1 hM
      exact Ev.ret rfl
    · rw [if_neg c2] at hM
      refine Ev.sw (fun c4 => ?_) (fun c4 => ?_)
      · rw [if_pos c4] at hM
        refine Ev.steps (B := (58, [(0, .ref 73), (1, .int a1), (2, .int a2)], [.int ((Int32.toInt16 a2).toInt32), .int a1, .ref (73 + 1)], h)) 5 rfl ?_
        obtain ⟨g5, hM⟩ := am_gS hM
        refine Ev.g (B := (59, [(0, .ref 73), (1, .int a1), (2, .int a2)], [], (am_sa h (73 + 1) (upd (h.2.1 (73 + 1)) (Int32.toNatClampNeg a1) ((Int32.toInt16 a2).toInt32))))) g5 rfl ?_
        refine Ev.steps (B := (69, [(0, .ref 73), (1, .int a1), (2, .int a2)], [], (am_sa h (73 + 1) (upd (h.2.1 (73 + 1)) (Int32.toNatClampNeg a1) ((Int32.toInt16 a2).toInt32))))) 1 rfl ?_
        obtain rfl := am_s1 hM
        exact Ev.ret rfl
      · rw [if_neg c4] at hM
        refine Ev.steps (B := (68, [(0, .ref 73), (1, .int a1), (2, .int a2)], [.int a2, .int a1, .ref (73 + 1)], h)) 4 rfl ?_
        obtain ⟨g6, hM⟩ := am_gS hM
        refine Ev.g (B := (69, [(0, .ref 73), (1, .int a1), (2, .int a2)], [], (am_sa h (73 + 1) (upd (h.2.1 (73 + 1)) (Int32.toNatClampNeg a1) a2)))) g6 rfl ?_
        obtain rfl := am_s1 hM
        exact Ev.ret rfl
  · have c1 := Decidable.of_not_not (of_decide_eq_false c1)
    rw [if_pos c1] at hM
    obtain rfl := am_s1 hM
    exact Ev.ret rfl
set_option maxRecDepth 10000 in
theorem E_B_X8_put_7_73 (vR : Int32) (hR : AH) (x2 : Int32) (x3 : Int32) (x4 : Int32) (h : AH) (hM : B_X8_put_7 x2 x3 x4 73 h = some (vR, hR)) : Ev none mr_X8_put (7, [(0, .ref 0), (2, .int x2), (3, .int x3), (4, .int x4), (5, .ref 73)], [], h) (some (.int vR)) hR := by
  unfold B_X8_put_7 at hM
  refine Ev.steps (B := (14, [(0, .ref 0), (2, .int x2), (3, .int x3), (4, .int x4), (5, .ref 73)], [.int 2, .int x2], h)) 4 rfl ?_
  refine Ev.call (q := (mr_X8_within, [.int x2, .int 2], [])) rfl (E_X8_within x2 2 h) ?_
  refine Ev.br (b := decide (¬ (M_X8_within x2 2) = 0)) rfl (fun c1 => ?_) (fun c1 => ?_)
  · have c1 := of_decide_eq_true c1
    rw [if_neg c1] at hM
    refine Ev.steps (B := (27, [(0, .ref 0), (2, .int x2), (3, .int x3), (4, .int x4), (5, .ref 73)], [.int x3, .int x2, .ref 73], h)) 3 rfl ?_
    refine Ev.call (q := (mr_X5_faultOf, [.ref 73, .int x2, .int x3], [])) rfl (E_X5_faultOf_73 x2 x3 h) ?_
    refine Ev.steps (B := (34, [(6, .int (M_X5_faultOf 73 x2 x3 h)), (0, .ref 0), (2, .int x2), (3, .int x3), (4, .int x4), (5, .ref 73)], [.int (M_X5_faultOf 73 x2 x3 h)], h)) 2 rfl ?_
    refine Ev.br (b := decide ((M_X5_faultOf 73 x2 x3 h) = 0)) rfl (fun c2 => ?_) (fun c2 => ?_)
    · have c2 := of_decide_eq_true c2
      rw [if_pos c2] at hM
      refine Ev.steps (B := (49, [(6, .int (M_X5_faultOf 73 x2 x3 h)), (0, .ref 0), (2, .int x2), (3, .int x3), (4, .int x4), (5, .ref 73)], [.int x4, .int x3, .ref 73], h)) 3 rfl ?_
      obtain ⟨h1, e3, hM⟩ := am_vS hM
      refine Ev.call (q := (mr_X5_store, [.ref 73, .int x3, .int x4], [])) rfl (E_X5_store_73 x3 x4 h h1 e3) ?_
      refine Ev.steps (B := (53, [(6, .int (M_X5_faultOf 73 x2 x3 h)), (0, .ref 0), (2, .int x2), (3, .int x3), (4, .int x4), (5, .ref 73)], [.int 1], h1)) 1 rfl ?_
      obtain ⟨rfl, rfl⟩ := am_sp hM
      exact Ev.ret rfl
    · have c2 := of_decide_eq_false c2
      rw [if_neg c2] at hM
      refine Ev.steps (B := (40, [(6, .int (M_X5_faultOf 73 x2 x3 h)), (0, .ref 0), (2, .int x2), (3, .int x3), (4, .int x4), (5, .ref 73)], [.int (M_X5_faultOf 73 x2 x3 h), .ref 0], h)) 2 rfl ?_
      obtain ⟨v3, h2, e4, hM⟩ := am_bS hM
      refine Ev.call (q := (mr_X8_found, [.ref 0, .int (M_X5_faultOf 73 x2 x3 h)], [])) rfl (E_X8_found_0 (M_X5_faultOf 73 x2 x3 h) h v3 h2 e4) ?_
      obtain ⟨rfl, rfl⟩ := am_sp hM
      exact Ev.ret rfl
  · have c1 := Decidable.of_not_not (of_decide_eq_false c1)
    rw [if_pos c1] at hM
    refine Ev.steps (B := (22, [(0, .ref 0), (2, .int x2), (3, .int x3), (4, .int x4), (5, .ref 73)], [.int (-2)], h)) 1 rfl ?_
    obtain ⟨rfl, rfl⟩ := am_sp hM
    exact Ev.ret rfl
