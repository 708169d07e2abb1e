def B_X9_goesBy_258 (n : Nat) (x1 : Int32) (x4 : Int32) (x5 : Int32) (y0 : Int32) (y1 : Int32) (h : AH) : Option AH :=
  bif (am_in y1 144) then
    bif (am_in (x5 + 5) 144) then
      bif (am_in x1 24) then
        L_X9_goesBy_283 n n x1 0 (am_sa (am_sa (am_sa h 96 (upd (h.2.1 96) (Int32.toNatClampNeg y1) y0)) 96 (upd (upd (h.2.1 96) (Int32.toNatClampNeg y1) y0) (Int32.toNatClampNeg (x5 + 5)) x4)) 97 (upd (h.2.1 97) (Int32.toNatClampNeg x1) (h.1 75 29)))
      else none
    else none
  else none
set_option maxRecDepth 10000 in
theorem E_B_X9_goesBy_258 (n : Nat) (hR : AH) (x1 : Int32) (x4 : Int32) (x5 : Int32) (y0 : Int32) (y1 : Int32) (h : AH) (hM : B_X9_goesBy_258 n x1 x4 x5 y0 y1 h = some hR) : Ev none mr_X9_goesBy (258, [(0, .ref 75), (1, .int x1), (4, .int x4), (5, .int x5)], [.int y0, .int y1, .ref 96], h) none hR := by
  unfold B_X9_goesBy_258 at hM
  obtain ⟨g1, hM⟩ := am_gS hM
  refine Ev.g (B := (259, [(0, .ref 75), (1, .int x1), (4, .int x4), (5, .int x5)], [], (am_sa h 96 (upd (h.2.1 96) (Int32.toNatClampNeg y1) y0)))) g1 rfl ?_
  refine Ev.steps (B := (269, [(0, .ref 75), (1, .int x1), (4, .int x4), (5, .int x5)], [.int x4, .int (x5 + 5), .ref 96], (am_sa h 96 (upd (h.2.1 96) (Int32.toNatClampNeg y1) y0)))) 6 rfl ?_
  obtain ⟨g2, hM⟩ := am_gS hM
  refine Ev.g (B := (270, [(0, .ref 75), (1, .int x1), (4, .int x4), (5, .int x5)], [], (am_sa (am_sa h 96 (upd (h.2.1 96) (Int32.toNatClampNeg y1) y0)) 96 (upd (upd (h.2.1 96) (Int32.toNatClampNeg y1) y0) (Int32.toNatClampNeg (x5 + 5)) x4)))) g2 rfl ?_
  refine Ev.steps (B := (279, [(0, .ref 75), (1, .int x1), (4, .int x4), (5, .int x5)], [.int (h.1 75 29), .int x1, .ref 97], (am_sa (am_sa h 96 (upd (h.2.1 96) (Int32.toNatClampNeg y1) y0)) 96 (upd (upd (h.2.1 96) (Int32.toNatClampNeg y1) y0) (Int32.toNatClampNeg (x5 + 5)) x4)))) 5 rfl ?_
  obtain ⟨g3, hM⟩ := am_gS hM
  refine Ev.g (B := (280, [(0, .ref 75), (1, .int x1), (4, .int x4), (5, .int x5)], [], (am_sa (am_sa (am_sa h 96 (upd (h.2.1 96) (Int32.toNatClampNeg y1) y0)) 96 (upd (upd (h.2.1 96) (Int32.toNatClampNeg y1) y0) (Int32.toNatClampNeg (x5 + 5)) x4)) 97 (upd (h.2.1 97) (Int32.toNatClampNeg x1) (h.1 75 29))))) g3 rfl ?_
  refine Ev.steps (B := (283, [(6, .int 0), (0, .ref 75), (1, .int x1), (4, .int x4), (5, .int x5)], [], (am_sa (am_sa (am_sa h 96 (upd (h.2.1 96) (Int32.toNatClampNeg y1) y0)) 96 (upd (upd (h.2.1 96) (Int32.toNatClampNeg y1) y0) (Int32.toNatClampNeg (x5 + 5)) x4)) 97 (upd (h.2.1 97) (Int32.toNatClampNeg x1) (h.1 75 29))))) 2 rfl ?_
  refine Ev.lv (lv := [(0, .ref 75), (1, .int x1), (6, .int 0)]) ⟨rfl, rfl, rfl, trivial⟩ rfl rfl ?_
  exact E_L_X9_goesBy_283 n hR n x1 0 (am_sa (am_sa (am_sa h 96 (upd (h.2.1 96) (Int32.toNatClampNeg y1) y0)) 96 (upd (upd (h.2.1 96) (Int32.toNatClampNeg y1) y0) (Int32.toNatClampNeg (x5 + 5)) x4)) 97 (upd (h.2.1 97) (Int32.toNatClampNeg x1) (h.1 75 29))) hM
def B_X9_goesBy_181 (n : Nat) (x1 : Int32) (x2 : Int32) (x3 : Int32) (y0 : Int32) (h : AH) : Option AH :=
  am_v (M_X9_goAway n x1 h) fun h1 =>
  bif (am_in (6 * x1) 144) then
    bif (am_in ((6 * x1) + 1) 144) then
      bif (am_in ((6 * x1) + 2) 144) then
        bif (am_in ((6 * x1) + 3) 144) then
          if x3 = 0 then
            B_X9_goesBy_258 n x1 y0 (6 * x1) 0 ((6 * x1) + 4) (am_sa (am_sa (am_sa (am_sa h1 96 (upd (h1.2.1 96) (Int32.toNatClampNeg (6 * x1)) (h1.1 75 22))) 96 (upd (upd (h1.2.1 96) (Int32.toNatClampNeg (6 * x1)) (h1.1 75 22)) (Int32.toNatClampNeg ((6 * x1) + 1)) (h1.1 75 23))) 96 (upd (upd (upd (h1.2.1 96) (Int32.toNatClampNeg (6 * x1)) (h1.1 75 22)) (Int32.toNatClampNeg ((6 * x1) + 1)) (h1.1 75 23)) (Int32.toNatClampNeg ((6 * x1) + 2)) (h1.1 75 24))) 96 (upd (upd (upd (upd (h1.2.1 96) (Int32.toNatClampNeg (6 * x1)) (h1.1 75 22)) (Int32.toNatClampNeg ((6 * x1) + 1)) (h1.1 75 23)) (Int32.toNatClampNeg ((6 * x1) + 2)) (h1.1 75 24)) (Int32.toNatClampNeg ((6 * x1) + 3)) x2))
          else
            B_X9_goesBy_258 n x1 y0 (6 * x1) 1 ((6 * x1) + 4) (am_sa (am_sa (am_sa (am_sa h1 96 (upd (h1.2.1 96) (Int32.toNatClampNeg (6 * x1)) (h1.1 75 22))) 96 (upd (upd (h1.2.1 96) (Int32.toNatClampNeg (6 * x1)) (h1.1 75 22)) (Int32.toNatClampNeg ((6 * x1) + 1)) (h1.1 75 23))) 96 (upd (upd (upd (h1.2.1 96) (Int32.toNatClampNeg (6 * x1)) (h1.1 75 22)) (Int32.toNatClampNeg ((6 * x1) + 1)) (h1.1 75 23)) (Int32.toNatClampNeg ((6 * x1) + 2)) (h1.1 75 24))) 96 (upd (upd (upd (upd (h1.2.1 96) (Int32.toNatClampNeg (6 * x1)) (h1.1 75 22)) (Int32.toNatClampNeg ((6 * x1) + 1)) (h1.1 75 23)) (Int32.toNatClampNeg ((6 * x1) + 2)) (h1.1 75 24)) (Int32.toNatClampNeg ((6 * x1) + 3)) x2))
        else none
      else none
    else none
  else none
set_option maxRecDepth 10000 in
theorem E_B_X9_goesBy_181 (n : Nat) (hR : AH) (x1 : Int32) (x2 : Int32) (x3 : Int32) (y0 : Int32) (h : AH) (hM : B_X9_goesBy_181 n x1 x2 x3 y0 h = some hR) : Ev none mr_X9_goesBy (181, [(0, .ref 75), (1, .int x1), (2, .int x2), (3, .int x3)], [.int y0], h) none hR := by
  unfold B_X9_goesBy_181 at hM
  refine Ev.steps (B := (185, [(4, .int y0), (0, .ref 75), (1, .int x1), (2, .int x2), (3, .int x3)], [.int x1, .ref 75], h)) 3 rfl ?_
  obtain ⟨h1, e1, hM⟩ := am_vS hM
  refine Ev.call (q := (mr_X9_goAway, [.ref 75, .int x1], [])) rfl (E_X9_goAway_75 n x1 h h1 e1) ?_
  refine Ev.steps (B := (204, [(5, .int (6 * x1)), (4, .int y0), (0, .ref 75), (1, .int x1), (2, .int x2), (3, .int x3)], [.int (h1.1 75 22), .int (6 * x1), .ref 96], h1)) 9 rfl ?_
  obtain ⟨g2, hM⟩ := am_gS hM
  refine Ev.g (B := (205, [(5, .int (6 * x1)), (4, .int y0), (0, .ref 75), (1, .int x1), (2, .int x2), (3, .int x3)], [], (am_sa h1 96 (upd (h1.2.1 96) (Int32.toNatClampNeg (6 * x1)) (h1.1 75 22))))) g2 rfl ?_
  refine Ev.steps (B := (217, [(5, .int (6 * x1)), (4, .int y0), (0, .ref 75), (1, .int x1), (2, .int x2), (3, .int x3)], [.int (h1.1 75 23), .int ((6 * x1) + 1), .ref 96], (am_sa h1 96 (upd (h1.2.1 96) (Int32.toNatClampNeg (6 * x1)) (h1.1 75 22))))) 7 rfl ?_
  obtain ⟨g3, hM⟩ := am_gS hM
  refine Ev.g (B := (218, [(5, .int (6 * x1)), (4, .int y0), (0, .ref 75), (1, .int x1), (2, .int x2), (3, .int x3)], [], (am_sa (am_sa h1 96 (upd (h1.2.1 96) (Int32.toNatClampNeg (6 * x1)) (h1.1 75 22))) 96 (upd (upd (h1.2.1 96) (Int32.toNatClampNeg (6 * x1)) (h1.1 75 22)) (Int32.toNatClampNeg ((6 * x1) + 1)) (h1.1 75 23))))) g3 rfl ?_
  refine Ev.steps (B := (230, [(5, .int (6 * x1)), (4, .int y0), (0, .ref 75), (1, .int x1), (2, .int x2), (3, .int x3)], [.int (h1.1 75 24), .int ((6 * x1) + 2), .ref 96], (am_sa (am_sa h1 96 (upd (h1.2.1 96) (Int32.toNatClampNeg (6 * x1)) (h1.1 75 22))) 96 (upd (upd (h1.2.1 96) (Int32.toNatClampNeg (6 * x1)) (h1.1 75 22)) (Int32.toNatClampNeg ((6 * x1) + 1)) (h1.1 75 23))))) 7 rfl ?_
  obtain ⟨g4, hM⟩ := am_gS hM
  refine Ev.g (B := (231, [(5, .int (6 * x1)), (4, .int y0), (0, .ref 75), (1, .int x1), (2, .int x2), (3, .int x3)], [], (am_sa (am_sa (am_sa h1 96 (upd (h1.2.1 96) (Int32.toNatClampNeg (6 * x1)) (h1.1 75 22))) 96 (upd (upd (h1.2.1 96) (Int32.toNatClampNeg (6 * x1)) (h1.1 75 22)) (Int32.toNatClampNeg ((6 * x1) + 1)) (h1.1 75 23))) 96 (upd (upd (upd (h1.2.1 96) (Int32.toNatClampNeg (6 * x1)) (h1.1 75 22)) (Int32.toNatClampNeg ((6 * x1) + 1)) (h1.1 75 23)) (Int32.toNatClampNeg ((6 * x1) + 2)) (h1.1 75 24))))) g4 rfl ?_
  refine Ev.steps (B := (240, [(5, .int (6 * x1)), (4, .int y0), (0, .ref 75), (1, .int x1), (2, .int x2), (3, .int x3)], [.int x2, .int ((6 * x1) + 3), .ref 96], (am_sa (am_sa (am_sa h1 96 (upd (h1.2.1 96) (Int32.toNatClampNeg (6 * x1)) (h1.1 75 22))) 96 (upd (upd (h1.2.1 96) (Int32.toNatClampNeg (6 * x1)) (h1.1 75 22)) (Int32.toNatClampNeg ((6 * x1) + 1)) (h1.1 75 23))) 96 (upd (upd (upd (h1.2.1 96) (Int32.toNatClampNeg (6 * x1)) (h1.1 75 22)) (Int32.toNatClampNeg ((6 * x1) + 1)) (h1.1 75 23)) (Int32.toNatClampNeg ((6 * x1) + 2)) (h1.1 75 24))))) 6 rfl ?_
  obtain ⟨g5, hM⟩ := am_gS hM
  refine Ev.g (B := (241, [(5, .int (6 * x1)), (4, .int y0), (0, .ref 75), (1, .int x1), (2, .int x2), (3, .int x3)], [], (am_sa (am_sa (am_sa (am_sa h1 96 (upd (h1.2.1 96) (Int32.toNatClampNeg (6 * x1)) (h1.1 75 22))) 96 (upd (upd (h1.2.1 96) (Int32.toNatClampNeg (6 * x1)) (h1.1 75 22)) (Int32.toNatClampNeg ((6 * x1) + 1)) (h1.1 75 23))) 96 (upd (upd (upd (h1.2.1 96) (Int32.toNatClampNeg (6 * x1)) (h1.1 75 22)) (Int32.toNatClampNeg ((6 * x1) + 1)) (h1.1 75 23)) (Int32.toNatClampNeg ((6 * x1) + 2)) (h1.1 75 24))) 96 (upd (upd (upd (upd (h1.2.1 96) (Int32.toNatClampNeg (6 * x1)) (h1.1 75 22)) (Int32.toNatClampNeg ((6 * x1) + 1)) (h1.1 75 23)) (Int32.toNatClampNeg ((6 * x1) + 2)) (h1.1 75 24)) (Int32.toNatClampNeg ((6 * x1) + 3)) x2)))) g5 rfl ?_
  refine Ev.steps (B := (250, [(5, .int (6 * x1)), (4, .int y0), (0, .ref 75), (1, .int x1), (2, .int x2), (3, .int x3)], [.int x3, .int ((6 * x1) + 4), .ref 96], (am_sa (am_sa (am_sa (am_sa h1 96 (upd (h1.2.1 96) (Int32.toNatClampNeg (6 * x1)) (h1.1 75 22))) 96 (upd (upd (h1.2.1 96) (Int32.toNatClampNeg (6 * x1)) (h1.1 75 22)) (Int32.toNatClampNeg ((6 * x1) + 1)) (h1.1 75 23))) 96 (upd (upd (upd (h1.2.1 96) (Int32.toNatClampNeg (6 * x1)) (h1.1 75 22)) (Int32.toNatClampNeg ((6 * x1) + 1)) (h1.1 75 23)) (Int32.toNatClampNeg ((6 * x1) + 2)) (h1.1 75 24))) 96 (upd (upd (upd (upd (h1.2.1 96) (Int32.toNatClampNeg (6 * x1)) (h1.1 75 22)) (Int32.toNatClampNeg ((6 * x1) + 1)) (h1.1 75 23)) (Int32.toNatClampNeg ((6 * x1) + 2)) (h1.1 75 24)) (Int32.toNatClampNeg ((6 * x1) + 3)) x2)))) 6 rfl ?_
  refine Ev.br (b := decide (x3 = 0)) rfl (fun c6 => ?_) (fun c6 => ?_)
  · have c6 := of_decide_eq_true c6
    rw [if_pos c6] at hM
    refine Ev.steps (B := (258, [(5, .int (6 * x1)), (4, .int y0), (0, .ref 75), (1, .int x1), (2, .int x2), (3, .int x3)], [.int 0, .int ((6 * x1) + 4), .ref 96], (am_sa (am_sa (am_sa (am_sa h1 96 (upd (h1.2.1 96) (Int32.toNatClampNeg (6 * x1)) (h1.1 75 22))) 96 (upd (upd (h1.2.1 96) (Int32.toNatClampNeg (6 * x1)) (h1.1 75 22)) (Int32.toNatClampNeg ((6 * x1) + 1)) (h1.1 75 23))) 96 (upd (upd (upd (h1.2.1 96) (Int32.toNatClampNeg (6 * x1)) (h1.1 75 22)) (Int32.toNatClampNeg ((6 * x1) + 1)) (h1.1 75 23)) (Int32.toNatClampNeg ((6 * x1) + 2)) (h1.1 75 24))) 96 (upd (upd (upd (upd (h1.2.1 96) (Int32.toNatClampNeg (6 * x1)) (h1.1 75 22)) (Int32.toNatClampNeg ((6 * x1) + 1)) (h1.1 75 23)) (Int32.toNatClampNeg ((6 * x1) + 2)) (h1.1 75 24)) (Int32.toNatClampNeg ((6 * x1) + 3)) x2)))) 1 rfl ?_
    refine Ev.lv (lv := [(0, .ref 75), (1, .int x1), (4, .int y0), (5, .int (6 * x1))]) ⟨rfl, rfl, rfl, rfl, trivial⟩ rfl rfl ?_
    exact E_B_X9_goesBy_258 n hR x1 y0 (6 * x1) 0 ((6 * x1) + 4) (am_sa (am_sa (am_sa (am_sa h1 96 (upd (h1.2.1 96) (Int32.toNatClampNeg (6 * x1)) (h1.1 75 22))) 96 (upd (upd (h1.2.1 96) (Int32.toNatClampNeg (6 * x1)) (h1.1 75 22)) (Int32.toNatClampNeg ((6 * x1) + 1)) (h1.1 75 23))) 96 (upd (upd (upd (h1.2.1 96) (Int32.toNatClampNeg (6 * x1)) (h1.1 75 22)) (Int32.toNatClampNeg ((6 * x1) + 1)) (h1.1 75 23)) (Int32.toNatClampNeg ((6 * x1) + 2)) (h1.1 75 24))) 96 (upd (upd (upd (upd (h1.2.1 96) (Int32.toNatClampNeg (6 * x1)) (h1.1 75 22)) (Int32.toNatClampNeg ((6 * x1) + 1)) (h1.1 75 23)) (Int32.toNatClampNeg ((6 * x1) + 2)) (h1.1 75 24)) (Int32.toNatClampNeg ((6 * x1) + 3)) x2)) hM
  · have c6 := of_decide_eq_false c6
    rw [if_neg c6] at hM
    refine Ev.steps (B := (258, [(5, .int (6 * x1)), (4, .int y0), (0, .ref 75), (1, .int x1), (2, .int x2), (3, .int x3)], [.int 1, .int ((6 * x1) + 4), .ref 96], (am_sa (am_sa (am_sa (am_sa h1 96 (upd (h1.2.1 96) (Int32.toNatClampNeg (6 * x1)) (h1.1 75 22))) 96 (upd (upd (h1.2.1 96) (Int32.toNatClampNeg (6 * x1)) (h1.1 75 22)) (Int32.toNatClampNeg ((6 * x1) + 1)) (h1.1 75 23))) 96 (upd (upd (upd (h1.2.1 96) (Int32.toNatClampNeg (6 * x1)) (h1.1 75 22)) (Int32.toNatClampNeg ((6 * x1) + 1)) (h1.1 75 23)) (Int32.toNatClampNeg ((6 * x1) + 2)) (h1.1 75 24))) 96 (upd (upd (upd (upd (h1.2.1 96) (Int32.toNatClampNeg (6 * x1)) (h1.1 75 22)) (Int32.toNatClampNeg ((6 * x1) + 1)) (h1.1 75 23)) (Int32.toNatClampNeg ((6 * x1) + 2)) (h1.1 75 24)) (Int32.toNatClampNeg ((6 * x1) + 3)) x2)))) 2 rfl ?_
    refine Ev.lv (lv := [(0, .ref 75), (1, .int x1), (4, .int y0), (5, .int (6 * x1))]) ⟨rfl, rfl, rfl, rfl, trivial⟩ rfl rfl ?_
    exact E_B_X9_goesBy_258 n hR x1 y0 (6 * x1) 1 ((6 * x1) + 4) (am_sa (am_sa (am_sa (am_sa h1 96 (upd (h1.2.1 96) (Int32.toNatClampNeg (6 * x1)) (h1.1 75 22))) 96 (upd (upd (h1.2.1 96) (Int32.toNatClampNeg (6 * x1)) (h1.1 75 22)) (Int32.toNatClampNeg ((6 * x1) + 1)) (h1.1 75 23))) 96 (upd (upd (upd (h1.2.1 96) (Int32.toNatClampNeg (6 * x1)) (h1.1 75 22)) (Int32.toNatClampNeg ((6 * x1) + 1)) (h1.1 75 23)) (Int32.toNatClampNeg ((6 * x1) + 2)) (h1.1 75 24))) 96 (upd (upd (upd (upd (h1.2.1 96) (Int32.toNatClampNeg (6 * x1)) (h1.1 75 22)) (Int32.toNatClampNeg ((6 * x1) + 1)) (h1.1 75 23)) (Int32.toNatClampNeg ((6 * x1) + 2)) (h1.1 75 24)) (Int32.toNatClampNeg ((6 * x1) + 3)) x2)) hM
def B_X9_goesBy_160 (n : Nat) (x1 : Int32) (x2 : Int32) (x3 : Int32) (y0 : Int32) (h : AH) : Option AH :=
  am_v (M_X9_comes n x1 (am_sf h 75 28 y0)) fun h1 =>
  if x3 = 0 then
    B_X9_goesBy_181 n x1 x2 x3 (-1) h1
  else
    am_b (M_X9_serves n x1 h1) fun v3 h2 =>
    B_X9_goesBy_181 n x1 x2 x3 v3 h2
set_option maxRecDepth 10000 in
theorem E_B_X9_goesBy_160 (n : Nat) (hR : AH) (x1 : Int32) (x2 : Int32) (x3 : Int32) (y0 : Int32) (h : AH) (hM : B_X9_goesBy_160 n x1 x2 x3 y0 h = some hR) : Ev none mr_X9_goesBy (160, [(0, .ref 75), (1, .int x1), (2, .int x2), (3, .int x3)], [.int y0, .ref 75], h) none hR := by
  unfold B_X9_goesBy_160 at hM
  refine Ev.steps (B := (165, [(0, .ref 75), (1, .int x1), (2, .int x2), (3, .int x3)], [.int x1, .ref 75], (am_sf h 75 28 y0))) 3 rfl ?_
  obtain ⟨h1, e1, hM⟩ := am_vS hM
  refine Ev.call (q := (mr_X9_comes, [.ref 75, .int x1], [])) rfl (E_X9_comes_75 n x1 (am_sf h 75 28 y0) h1 e1) ?_
  refine Ev.steps (B := (169, [(0, .ref 75), (1, .int x1), (2, .int x2), (3, .int x3)], [.int x3], h1)) 1 rfl ?_
  refine Ev.br (b := decide (x3 = 0)) rfl (fun c2 => ?_) (fun c2 => ?_)
  · have c2 := of_decide_eq_true c2
    rw [if_pos c2] at hM
    refine Ev.steps (B := (181, [(0, .ref 75), (1, .int x1), (2, .int x2), (3, .int x3)], [.int (-1)], h1)) 1 rfl ?_
    exact E_B_X9_goesBy_181 n hR x1 x2 x3 (-1) h1 hM
  · have c2 := of_decide_eq_false c2
    rw [if_neg c2] at hM
    refine Ev.steps (B := (174, [(0, .ref 75), (1, .int x1), (2, .int x2), (3, .int x3)], [.int x1, .ref 75], h1)) 2 rfl ?_
    obtain ⟨v3, h2, e3, hM⟩ := am_bS hM
    refine Ev.call (q := (mr_X9_serves, [.ref 75, .int x1], [])) rfl (E_X9_serves_75 n x1 h1 v3 h2 e3) ?_
    refine Ev.steps (B := (181, [(0, .ref 75), (1, .int x1), (2, .int x2), (3, .int x3)], [.int v3], h2)) 1 rfl ?_
    exact E_B_X9_goesBy_181 n hR x1 x2 x3 v3 h2 hM
def B_X9_goesBy_156 (n : Nat) (x1 : Int32) (x2 : Int32) (x3 : Int32) (h : AH) : Option AH :=
  B_X9_goesBy_160 n x1 x2 x3 (h.1 75 28) h
set_option maxRecDepth 10000 in
theorem E_B_X9_goesBy_156 (n : Nat) (hR : AH) (x1 : Int32) (x2 : Int32) (x3 : Int32) (h : AH) (hM : B_X9_goesBy_156 n x1 x2 x3 h = some hR) : Ev none mr_X9_goesBy (156, [(0, .ref 75), (1, .int x1), (2, .int x2), (3, .int x3)], [.ref 75], h) none hR := by
  unfold B_X9_goesBy_156 at hM
  refine Ev.steps (B := (160, [(0, .ref 75), (1, .int x1), (2, .int x2), (3, .int x3)], [.int (h.1 75 28), .ref 75], h)) 2 rfl ?_
  exact E_B_X9_goesBy_160 n hR x1 x2 x3 (h.1 75 28) h hM
def B_X9_goesBy_135 (n : Nat) (x1 : Int32) (x2 : Int32) (x3 : Int32) (y0 : Int32) (y1 : Int32) (h : AH) : Option AH :=
  if x3 = 0 then
    B_X9_goesBy_156 n x1 x2 x3 (am_sf h 75 27 (y1 + y0))
  else
    if (h.1 75 28) = (-1) then
      B_X9_goesBy_160 n x1 x2 x3 x1 (am_sf h 75 27 (y1 + y0))
    else
      B_X9_goesBy_156 n x1 x2 x3 (am_sf h 75 27 (y1 + y0))
set_option maxRecDepth 10000 in
theorem E_B_X9_goesBy_135 (n : Nat) (hR : AH) (x1 : Int32) (x2 : Int32) (x3 : Int32) (y0 : Int32) (y1 : Int32) (h : AH) (hM : B_X9_goesBy_135 n x1 x2 x3 y0 y1 h = some hR) : Ev none mr_X9_goesBy (135, [(0, .ref 75), (1, .int x1), (2, .int x2), (3, .int x3)], [.int y0, .int y1, .ref 75], h) none hR := by
  unfold B_X9_goesBy_135 at hM
  refine Ev.steps (B := (141, [(0, .ref 75), (1, .int x1), (2, .int x2), (3, .int x3)], [.int x3, .ref 75], (am_sf h 75 27 (y1 + y0)))) 4 rfl ?_
  refine Ev.br (b := decide (x3 = 0)) rfl (fun c1 => ?_) (fun c1 => ?_)
  · have c1 := of_decide_eq_true c1
    rw [if_pos c1] at hM
    exact E_B_X9_goesBy_156 n hR x1 x2 x3 (am_sf h 75 27 (y1 + y0)) hM
  · have c1 := of_decide_eq_false c1
    rw [if_neg c1] at hM
    refine Ev.steps (B := (149, [(0, .ref 75), (1, .int x1), (2, .int x2), (3, .int x3)], [.int (-1), .int (h.1 75 28), .ref 75], (am_sf h 75 27 (y1 + y0)))) 3 rfl ?_
    refine Ev.br (b := decide (¬ (h.1 75 28) = (-1))) rfl (fun c2 => ?_) (fun c2 => ?_)
    · have c2 := of_decide_eq_true c2
      rw [if_neg c2] at hM
      exact E_B_X9_goesBy_156 n hR x1 x2 x3 (am_sf h 75 27 (y1 + y0)) hM
    · have c2 := Decidable.of_not_not (of_decide_eq_false c2)
      rw [if_pos c2] at hM
      refine Ev.steps (B := (160, [(0, .ref 75), (1, .int x1), (2, .int x2), (3, .int x3)], [.int x1, .ref 75], (am_sf h 75 27 (y1 + y0)))) 2 rfl ?_
      exact E_B_X9_goesBy_160 n hR x1 x2 x3 x1 (am_sf h 75 27 (y1 + y0)) hM
def B_X9_goesBy_120 (n : Nat) (x1 : Int32) (x2 : Int32) (y0 : Int32) (h : AH) : Option AH :=
  if y0 = 0 then
    B_X9_goesBy_135 n x1 x2 y0 0 (h.1 75 27) h
  else
    B_X9_goesBy_135 n x1 x2 y0 1 (h.1 75 27) h
set_option maxRecDepth 10000 in
theorem E_B_X9_goesBy_120 (n : Nat) (hR : AH) (x1 : Int32) (x2 : Int32) (y0 : Int32) (h : AH) (hM : B_X9_goesBy_120 n x1 x2 y0 h = some hR) : Ev none mr_X9_goesBy (120, [(0, .ref 75), (1, .int x1), (2, .int x2)], [.int y0], h) none hR := by
  unfold B_X9_goesBy_120 at hM
  refine Ev.steps (B := (127, [(3, .int y0), (0, .ref 75), (1, .int x1), (2, .int x2)], [.int y0, .int (h.1 75 27), .ref 75], h)) 5 rfl ?_
  refine Ev.br (b := decide (y0 = 0)) rfl (fun c1 => ?_) (fun c1 => ?_)
  · have c1 := of_decide_eq_true c1
    rw [if_pos c1] at hM
    refine Ev.steps (B := (135, [(3, .int y0), (0, .ref 75), (1, .int x1), (2, .int x2)], [.int 0, .int (h.1 75 27), .ref 75], h)) 1 rfl ?_
    refine Ev.lv (lv := [(0, .ref 75), (1, .int x1), (2, .int x2), (3, .int y0)]) ⟨rfl, rfl, rfl, rfl, trivial⟩ rfl rfl ?_
    exact E_B_X9_goesBy_135 n hR x1 x2 y0 0 (h.1 75 27) h hM
  · have c1 := of_decide_eq_false c1
    rw [if_neg c1] at hM
    refine Ev.steps (B := (135, [(3, .int y0), (0, .ref 75), (1, .int x1), (2, .int x2)], [.int 1, .int (h.1 75 27), .ref 75], h)) 2 rfl ?_
    refine Ev.lv (lv := [(0, .ref 75), (1, .int x1), (2, .int x2), (3, .int y0)]) ⟨rfl, rfl, rfl, rfl, trivial⟩ rfl rfl ?_
    exact E_B_X9_goesBy_135 n hR x1 x2 y0 1 (h.1 75 27) h hM
def B_X9_goesBy_119 (n : Nat) (x1 : Int32) (x2 : Int32) (h : AH) : Option AH :=
  B_X9_goesBy_120 n x1 x2 0 h
set_option maxRecDepth 10000 in
theorem E_B_X9_goesBy_119 (n : Nat) (hR : AH) (x1 : Int32) (x2 : Int32) (h : AH) (hM : B_X9_goesBy_119 n x1 x2 h = some hR) : Ev none mr_X9_goesBy (119, [(0, .ref 75), (1, .int x1), (2, .int x2)], [], h) none hR := by
  unfold B_X9_goesBy_119 at hM
  refine Ev.steps (B := (120, [(0, .ref 75), (1, .int x1), (2, .int x2)], [.int 0], h)) 1 rfl ?_
  exact E_B_X9_goesBy_120 n hR x1 x2 0 h hM
def B_X9_goesBy_99 (n : Nat) (x1 : Int32) (x2 : Int32) (h : AH) : Option AH :=
  if (h.1 75 22) < 80 then
    B_X9_goesBy_119 n x1 x2 h
  else
    if (h.1 75 23) ≤ 0 then
      B_X9_goesBy_119 n x1 x2 h
    else
      B_X9_goesBy_120 n x1 x2 1 h
set_option maxRecDepth 10000 in
theorem E_B_X9_goesBy_99 (n : Nat) (hR : AH) (x1 : Int32) (x2 : Int32) (h : AH) (hM : B_X9_goesBy_99 n x1 x2 h = some hR) : Ev none mr_X9_goesBy (99, [(0, .ref 75), (1, .int x1), (2, .int x2)], [], h) none hR := by
  unfold B_X9_goesBy_99 at hM
  refine Ev.steps (B := (105, [(0, .ref 75), (1, .int x1), (2, .int x2)], [.int 80, .int (h.1 75 22)], h)) 3 rfl ?_
  refine Ev.br (b := decide ((h.1 75 22) < 80)) rfl (fun c1 => ?_) (fun c1 => ?_)
  · have c1 := of_decide_eq_true c1
    rw [if_pos c1] at hM
    exact E_B_X9_goesBy_119 n hR x1 x2 h hM
  · have c1 := of_decide_eq_false c1
    rw [if_neg c1] at hM
    refine Ev.steps (B := (112, [(0, .ref 75), (1, .int x1), (2, .int x2)], [.int (h.1 75 23)], h)) 2 rfl ?_
    refine Ev.br (b := decide ((h.1 75 23) ≤ 0)) rfl (fun c2 => ?_) (fun c2 => ?_)
    · have c2 := of_decide_eq_true c2
      rw [if_pos c2] at hM
      exact E_B_X9_goesBy_119 n hR x1 x2 h hM
    · have c2 := of_decide_eq_false c2
      rw [if_neg c2] at hM
      refine Ev.steps (B := (120, [(0, .ref 75), (1, .int x1), (2, .int x2)], [.int 1], h)) 2 rfl ?_
      exact E_B_X9_goesBy_120 n hR x1 x2 1 h hM
def B_X9_goesBy_60 (n : Nat) (x1 : Int32) (x2 : Int32) (y0 : Int32) (h : AH) : Option AH :=
  if y0 = 100 then
    if (h.1 75 23) ≤ 0 then
      B_X9_goesBy_99 n x1 x2 (am_sf h 75 22 y0)
    else
      B_X9_goesBy_99 n x1 x2 (am_sf (am_sf (am_sf h 75 22 y0) 75 23 ((h.1 75 23) - 1)) 75 26 ((h.1 75 26) + 1))
  else
    B_X9_goesBy_99 n x1 x2 (am_sf h 75 22 y0)
set_option maxRecDepth 10000 in
theorem E_B_X9_goesBy_60 (n : Nat) (hR : AH) (x1 : Int32) (x2 : Int32) (y0 : Int32) (h : AH) (hM : B_X9_goesBy_60 n x1 x2 y0 h = some hR) : Ev none mr_X9_goesBy (60, [(0, .ref 75), (1, .int x1), (2, .int x2)], [.int y0, .ref 75], h) none hR := by
  unfold B_X9_goesBy_60 at hM
  refine Ev.steps (B := (69, [(0, .ref 75), (1, .int x1), (2, .int x2)], [.int 100, .int y0], (am_sf h 75 22 y0))) 4 rfl ?_
  refine Ev.br (b := decide (¬ y0 = 100)) rfl (fun c1 => ?_) (fun c1 => ?_)
  · have c1 := of_decide_eq_true c1
    rw [if_neg c1] at hM
    exact E_B_X9_goesBy_99 n hR x1 x2 (am_sf h 75 22 y0) hM
  · have c1 := Decidable.of_not_not (of_decide_eq_false c1)
    rw [if_pos c1] at hM
    refine Ev.steps (B := (76, [(0, .ref 75), (1, .int x1), (2, .int x2)], [.int (h.1 75 23)], (am_sf h 75 22 y0))) 2 rfl ?_
    refine Ev.br (b := decide ((h.1 75 23) ≤ 0)) rfl (fun c2 => ?_) (fun c2 => ?_)
    · have c2 := of_decide_eq_true c2
      rw [if_pos c2] at hM
      exact E_B_X9_goesBy_99 n hR x1 x2 (am_sf h 75 22 y0) hM
    · have c2 := of_decide_eq_false c2
      rw [if_neg c2] at hM
      refine Ev.steps (B := (99, [(0, .ref 75), (1, .int x1), (2, .int x2)], [], (am_sf (am_sf (am_sf h 75 22 y0) 75 23 ((h.1 75 23) - 1)) 75 26 ((h.1 75 26) + 1)))) 12 rfl ?_
      exact E_B_X9_goesBy_99 n hR x1 x2 (am_sf (am_sf (am_sf h 75 22 y0) 75 23 ((h.1 75 23) - 1)) 75 26 ((h.1 75 26) + 1)) hM
def M_X9_goesBy (n : Nat) (a1 : Int32) (h : AH) : Option AH :=
  am_v (M_X9_befalls n a1 h) fun h1 =>
  am_o (M_X9_fireAt n a1 h1) fun v2 =>
  if 0 ≤ ((h1.1 75 22) + ((v2 - 2) - ((h1.1 75 23) / 5))) then
    if ((h1.1 75 22) + ((v2 - 2) - ((h1.1 75 23) / 5))) ≤ 100 then
      B_X9_goesBy_60 n a1 v2 ((h1.1 75 22) + ((v2 - 2) - ((h1.1 75 23) / 5))) (am_sf h1 75 22 ((h1.1 75 22) + ((v2 - 2) - ((h1.1 75 23) / 5))))
    else
      B_X9_goesBy_60 n a1 v2 100 (am_sf h1 75 22 ((h1.1 75 22) + ((v2 - 2) - ((h1.1 75 23) / 5))))
  else
    B_X9_goesBy_60 n a1 v2 0 (am_sf h1 75 22 ((h1.1 75 22) + ((v2 - 2) - ((h1.1 75 23) / 5))))
set_option maxRecDepth 10000 in
theorem E_X9_goesBy_75 (n : Nat) (a1 : Int32) (h : AH) (hR : AH) (hM : M_X9_goesBy n a1 h = some hR) : Ev none mr_X9_goesBy (0, [(0, .ref 75), (1, .int a1)], [], h) none hR := by
  unfold M_X9_goesBy at hM
  refine Ev.steps (B := (2, [(0, .ref 75), (1, .int a1)], [.int a1, .ref 75], h)) 2 rfl ?_
  obtain ⟨h1, e1, hM⟩ := am_vS hM
  refine Ev.call (q := (mr_X9_befalls, [.ref 75, .int a1], [])) rfl (E_X9_befalls_75 n a1 h h1 e1) ?_
  refine Ev.steps (B := (7, [(0, .ref 75), (1, .int a1)], [.int a1, .ref 75], h1)) 2 rfl ?_
  obtain ⟨v2, e2, hM⟩ := am_oS hM
  refine Ev.call (q := (mr_X9_fireAt, [.ref 75, .int a1], [])) rfl (E_X9_fireAt_75 n a1 h1 v2 e2) ?_
  refine Ev.steps (B := (35, [(2, .int v2), (0, .ref 75), (1, .int a1)], [.int ((h1.1 75 22) + ((v2 - 2) - ((h1.1 75 23) / 5))), .ref 75], (am_sf h1 75 22 ((h1.1 75 22) + ((v2 - 2) - ((h1.1 75 23) / 5)))))) 17 rfl ?_
  refine Ev.br (b := decide (0 ≤ ((h1.1 75 22) + ((v2 - 2) - ((h1.1 75 23) / 5))))) rfl (fun c3 => ?_) (fun c3 => ?_)
  · have c3 := of_decide_eq_true c3
    rw [if_pos c3] at hM
    refine Ev.steps (B := (48, [(2, .int v2), (0, .ref 75), (1, .int a1)], [.int 100, .int ((h1.1 75 22) + ((v2 - 2) - ((h1.1 75 23) / 5))), .ref 75], (am_sf h1 75 22 ((h1.1 75 22) + ((v2 - 2) - ((h1.1 75 23) / 5)))))) 3 rfl ?_
    refine Ev.br (b := decide (((h1.1 75 22) + ((v2 - 2) - ((h1.1 75 23) / 5))) ≤ 100)) rfl (fun c4 => ?_) (fun c4 => ?_)
    · have c4 := of_decide_eq_true c4
      rw [if_pos c4] at hM
      refine Ev.steps (B := (60, [(2, .int v2), (0, .ref 75), (1, .int a1)], [.int ((h1.1 75 22) + ((v2 - 2) - ((h1.1 75 23) / 5))), .ref 75], (am_sf h1 75 22 ((h1.1 75 22) + ((v2 - 2) - ((h1.1 75 23) / 5)))))) 2 rfl ?_
      refine Ev.lv (lv := [(0, .ref 75), (1, .int a1), (2, .int v2)]) ⟨rfl, rfl, rfl, trivial⟩ rfl rfl ?_
      exact E_B_X9_goesBy_60 n hR a1 v2 ((h1.1 75 22) + ((v2 - 2) - ((h1.1 75 23) / 5))) (am_sf h1 75 22 ((h1.1 75 22) + ((v2 - 2) - ((h1.1 75 23) / 5)))) hM
    · have c4 := of_decide_eq_false c4
      rw [if_neg c4] at hM
      refine Ev.steps (B := (60, [(2, .int v2), (0, .ref 75), (1, .int a1)], [.int 100, .ref 75], (am_sf h1 75 22 ((h1.1 75 22) + ((v2 - 2) - ((h1.1 75 23) / 5)))))) 2 rfl ?_
      refine Ev.lv (lv := [(0, .ref 75), (1, .int a1), (2, .int v2)]) ⟨rfl, rfl, rfl, trivial⟩ rfl rfl ?_
      exact E_B_X9_goesBy_60 n hR a1 v2 100 (am_sf h1 75 22 ((h1.1 75 22) + ((v2 - 2) - ((h1.1 75 23) / 5)))) hM
  · have c3 := of_decide_eq_false c3
    rw [if_neg c3] at hM
    refine Ev.steps (B := (60, [(2, .int v2), (0, .ref 75), (1, .int a1)], [.int 0, .ref 75], (am_sf h1 75 22 ((h1.1 75 22) + ((v2 - 2) - ((h1.1 75 23) / 5)))))) 2 rfl ?_
    refine Ev.lv (lv := [(0, .ref 75), (1, .int a1), (2, .int v2)]) ⟨rfl, rfl, rfl, trivial⟩ rfl rfl ?_
    exact E_B_X9_goesBy_60 n hR a1 v2 0 (am_sf h1 75 22 ((h1.1 75 22) + ((v2 - 2) - ((h1.1 75 23) / 5)))) hM
def L_X9_runs_92 (n : Nat) : Nat → Int32 → AH → Option AH
  | 0, _, _ => none
  | m + 1, x1, h =>
    if 24 ≤ x1 then
      some h
    else
      am_v (M_X9_goesBy n x1 h) fun h1 =>
      L_X9_runs_92 n m (x1 + 1) h1
set_option maxRecDepth 10000 in
theorem E_L_X9_runs_92 (n : Nat) (hR : AH) : ∀ (m : Nat) (x1 : Int32) (h : AH), L_X9_runs_92 n m x1 h = some hR → Ev none mr_X9_runs (92, [(0, .ref 75), (1, .int x1)], [], h) none hR := by
  intro m
  induction m with
  | zero =>
    intro x1 h hM
    exact (am_no hM).elim
  | succ m ih =>
    intro x1 h hM
    rw [L_X9_runs_92] at hM
    refine Ev.steps (B := (95, [(0, .ref 75), (1, .int x1)], [.int 24, .int x1], h)) 2 rfl ?_
    refine Ev.br (b := decide (24 ≤ x1)) rfl (fun c1 => ?_) (fun c1 => ?_)
    · have c1 := of_decide_eq_true c1
      rw [if_pos c1] at hM
      obtain rfl := am_s1 hM
      exact Ev.ret rfl
    · have c1 := of_decide_eq_false c1
      rw [if_neg c1] at hM
      refine Ev.steps (B := (100, [(0, .ref 75), (1, .int x1)], [.int x1, .ref 75], h)) 2 rfl ?_
      obtain ⟨h1, e2, hM⟩ := am_vS hM
      refine Ev.call (q := (mr_X9_goesBy, [.ref 75, .int x1], [])) rfl (E_X9_goesBy_75 n x1 h h1 e2) ?_
      refine Ev.steps (B := (92, [(1, .int (x1 + 1)), (0, .ref 75)], [], h1)) 2 rfl ?_
      refine Ev.lv (lv := [(0, .ref 75), (1, .int (x1 + 1))]) ⟨rfl, rfl, trivial⟩ rfl rfl ?_
      exact ih (x1 + 1) h1 hM
def L_X9_runs_43 (n : Nat) : Nat → Int32 → AH → Option AH
  | 0, _, _ => none
  | m + 1, x1, h =>
    if 8 ≤ x1 then
      L_X9_runs_92 n n 0 h
    else
      bif (am_in x1 8) then
        bif (am_in x1 8) then
          bif (am_in x1 8) then
            bif (am_in x1 8) then
              bif (am_in x1 8) then
                L_X9_runs_43 n m (x1 + 1) (am_sa (am_sa (am_sa (am_sa (am_sa h 91 (upd (h.2.1 91) (Int32.toNatClampNeg x1) 0)) 92 (upd (h.2.1 92) (Int32.toNatClampNeg x1) 0)) 93 (upd (h.2.1 93) (Int32.toNatClampNeg x1) (-1))) 94 (upd (h.2.1 94) (Int32.toNatClampNeg x1) 0)) 95 (upd (h.2.1 95) (Int32.toNatClampNeg x1) 0))
              else none
            else none
          else none
        else none
      else none
set_option maxRecDepth 10000 in
theorem E_L_X9_runs_43 (n : Nat) (hR : AH) : ∀ (m : Nat) (x1 : Int32) (h : AH), L_X9_runs_43 n m x1 h = some hR → Ev none mr_X9_runs (43, [(0, .ref 75), (1, .int x1)], [], h) none hR := by
  intro m
  induction m with
  | zero =>
    intro x1 h hM
    exact (am_no hM).elim
  | succ m ih =>
    intro x1 h hM
    rw [L_X9_runs_43] at hM
    refine Ev.steps (B := (46, [(0, .ref 75), (1, .int x1)], [.int 8, .int x1], h)) 2 rfl ?_
    refine Ev.br (b := decide (8 ≤ x1)) rfl (fun c1 => ?_) (fun c1 => ?_)
    · have c1 := of_decide_eq_true c1
      rw [if_pos c1] at hM
      refine Ev.steps (B := (92, [(1, .int 0), (0, .ref 75)], [], h)) 2 rfl ?_
      refine Ev.lv (lv := [(0, .ref 75), (1, .int 0)]) ⟨rfl, rfl, trivial⟩ rfl rfl ?_
      exact E_L_X9_runs_92 n hR n 0 h hM
    · have c1 := of_decide_eq_false c1
      rw [if_neg c1] at hM
      refine Ev.steps (B := (55, [(0, .ref 75), (1, .int x1)], [.int 0, .int x1, .ref 91], h)) 4 rfl ?_
      obtain ⟨g2, hM⟩ := am_gS hM
      refine Ev.g (B := (56, [(0, .ref 75), (1, .int x1)], [], (am_sa h 91 (upd (h.2.1 91) (Int32.toNatClampNeg x1) 0)))) g2 rfl ?_
      refine Ev.steps (B := (62, [(0, .ref 75), (1, .int x1)], [.int 0, .int x1, .ref 92], (am_sa h 91 (upd (h.2.1 91) (Int32.toNatClampNeg x1) 0)))) 4 rfl ?_
      obtain ⟨g3, hM⟩ := am_gS hM
      refine Ev.g (B := (63, [(0, .ref 75), (1, .int x1)], [], (am_sa (am_sa h 91 (upd (h.2.1 91) (Int32.toNatClampNeg x1) 0)) 92 (upd (h.2.1 92) (Int32.toNatClampNeg x1) 0)))) g3 rfl ?_
      refine Ev.steps (B := (69, [(0, .ref 75), (1, .int x1)], [.int (-1), .int x1, .ref 93], (am_sa (am_sa h 91 (upd (h.2.1 91) (Int32.toNatClampNeg x1) 0)) 92 (upd (h.2.1 92) (Int32.toNatClampNeg x1) 0)))) 4 rfl ?_
      obtain ⟨g4, hM⟩ := am_gS hM
      refine Ev.g (B := (70, [(0, .ref 75), (1, .int x1)], [], (am_sa (am_sa (am_sa h 91 (upd (h.2.1 91) (Int32.toNatClampNeg x1) 0)) 92 (upd (h.2.1 92) (Int32.toNatClampNeg x1) 0)) 93 (upd (h.2.1 93) (Int32.toNatClampNeg x1) (-1))))) g4 rfl ?_
      refine Ev.steps (B := (76, [(0, .ref 75), (1, .int x1)], [.int 0, .int x1, .ref 94], (am_sa (am_sa (am_sa h 91 (upd (h.2.1 91) (Int32.toNatClampNeg x1) 0)) 92 (upd (h.2.1 92) (Int32.toNatClampNeg x1) 0)) 93 (upd (h.2.1 93) (Int32.toNatClampNeg x1) (-1))))) 4 rfl ?_
      obtain ⟨g5, hM⟩ := am_gS hM
      refine Ev.g (B := (77, [(0, .ref 75), (1, .int x1)], [], (am_sa (am_sa (am_sa (am_sa h 91 (upd (h.2.1 91) (Int32.toNatClampNeg x1) 0)) 92 (upd (h.2.1 92) (Int32.toNatClampNeg x1) 0)) 93 (upd (h.2.1 93) (Int32.toNatClampNeg x1) (-1))) 94 (upd (h.2.1 94) (Int32.toNatClampNeg x1) 0)))) g5 rfl ?_
      refine Ev.steps (B := (83, [(0, .ref 75), (1, .int x1)], [.int 0, .int x1, .ref 95], (am_sa (am_sa (am_sa (am_sa h 91 (upd (h.2.1 91) (Int32.toNatClampNeg x1) 0)) 92 (upd (h.2.1 92) (Int32.toNatClampNeg x1) 0)) 93 (upd (h.2.1 93) (Int32.toNatClampNeg x1) (-1))) 94 (upd (h.2.1 94) (Int32.toNatClampNeg x1) 0)))) 4 rfl ?_
      obtain ⟨g6, hM⟩ := am_gS hM
      refine Ev.g (B := (84, [(0, .ref 75), (1, .int x1)], [], (am_sa (am_sa (am_sa (am_sa (am_sa h 91 (upd (h.2.1 91) (Int32.toNatClampNeg x1) 0)) 92 (upd (h.2.1 92) (Int32.toNatClampNeg x1) 0)) 93 (upd (h.2.1 93) (Int32.toNatClampNeg x1) (-1))) 94 (upd (h.2.1 94) (Int32.toNatClampNeg x1) 0)) 95 (upd (h.2.1 95) (Int32.toNatClampNeg x1) 0)))) g6 rfl ?_
      refine Ev.steps (B := (43, [(1, .int (x1 + 1)), (0, .ref 75)], [], (am_sa (am_sa (am_sa (am_sa (am_sa h 91 (upd (h.2.1 91) (Int32.toNatClampNeg x1) 0)) 92 (upd (h.2.1 92) (Int32.toNatClampNeg x1) 0)) 93 (upd (h.2.1 93) (Int32.toNatClampNeg x1) (-1))) 94 (upd (h.2.1 94) (Int32.toNatClampNeg x1) 0)) 95 (upd (h.2.1 95) (Int32.toNatClampNeg x1) 0)))) 2 rfl ?_
      refine Ev.lv (lv := [(0, .ref 75), (1, .int (x1 + 1))]) ⟨rfl, rfl, trivial⟩ rfl rfl ?_
      exact ih (x1 + 1) (am_sa (am_sa (am_sa (am_sa (am_sa h 91 (upd (h.2.1 91) (Int32.toNatClampNeg x1) 0)) 92 (upd (h.2.1 92) (Int32.toNatClampNeg x1) 0)) 93 (upd (h.2.1 93) (Int32.toNatClampNeg x1) (-1))) 94 (upd (h.2.1 94) (Int32.toNatClampNeg x1) 0)) 95 (upd (h.2.1 95) (Int32.toNatClampNeg x1) 0)) hM
def M_X9_runs (n : Nat) (h : AH) : Option AH :=
  L_X9_runs_43 n n 0 (am_sf (am_sf (am_sf (am_sf (am_sf (am_sf (am_sf h 75 22 0) 75 23 (h.1 75 20)) 75 24 (h.1 75 11)) 75 26 0) 75 27 0) 75 28 (-1)) 75 29 0)
set_option maxRecDepth 10000 in
theorem E_X9_runs_75 (n : Nat) (h : AH) (hR : AH) (hM : M_X9_runs n h = some hR) : Ev none mr_X9_runs (0, [(0, .ref 75)], [], h) none hR := by
  unfold M_X9_runs at hM
  refine Ev.steps (B := (43, [(1, .int 0), (0, .ref 75)], [], (am_sf (am_sf (am_sf (am_sf (am_sf (am_sf (am_sf h 75 22 0) 75 23 (h.1 75 20)) 75 24 (h.1 75 11)) 75 26 0) 75 27 0) 75 28 (-1)) 75 29 0))) 25 rfl ?_
  refine Ev.lv (lv := [(0, .ref 75), (1, .int 0)]) ⟨rfl, rfl, trivial⟩ rfl rfl ?_
  exact E_L_X9_runs_43 n hR n 0 (am_sf (am_sf (am_sf (am_sf (am_sf (am_sf (am_sf h 75 22 0) 75 23 (h.1 75 20)) 75 24 (h.1 75 11)) 75 26 0) 75 27 0) 75 28 (-1)) 75 29 0) hM
def M_X9_runsTold (n : Nat) (h : AH) : Option AH :=
  am_v (M_X9_asTold n h) fun h1 =>
  am_v (M_X9_runs n h1) fun h2 =>
  some h2
set_option maxRecDepth 10000 in
theorem E_X9_runsTold_75 (n : Nat) (h : AH) (hR : AH) (hM : M_X9_runsTold n h = some hR) : Ev none mr_X9_runsTold (0, [(0, .ref 75)], [], h) none hR := by
  unfold M_X9_runsTold at hM
  refine Ev.steps (B := (1, [(0, .ref 75)], [.ref 75], h)) 1 rfl ?_
  obtain ⟨h1, e1, hM⟩ := am_vS hM
  refine Ev.call (q := (mr_X9_asTold, [.ref 75], [])) rfl (E_X9_asTold_75 n h h1 e1) ?_
  refine Ev.steps (B := (5, [(0, .ref 75)], [.ref 75], h1)) 1 rfl ?_
  obtain ⟨h2, e2, hM⟩ := am_vS hM
  refine Ev.call (q := (mr_X9_runs, [.ref 75], [])) rfl (E_X9_runs_75 n h1 h2 e2) ?_
  obtain rfl := am_s1 hM
  exact Ev.ret rfl
def M_X9_atOf (n : Nat) (a1 : Int32) (a2 : Int32) (h : AH) : Option (Int32 × AH) :=
  am_v (M_X9_runsTold n h) fun h1 =>
  bif (am_in ((6 * a1) + a2) 144) then
    some (((h1.2.1 96) (Int32.toNatClampNeg ((6 * a1) + a2))), h1)
  else none
set_option maxRecDepth 10000 in
theorem E_X9_atOf_75 (n : Nat) (a1 : Int32) (a2 : Int32) (h : AH) (vR : Int32) (hR : AH) (hM : M_X9_atOf n a1 a2 h = some (vR, hR)) : Ev none mr_X9_atOf (0, [(0, .ref 75), (1, .int a1), (2, .int a2)], [], h) (some (.int vR)) hR := by
  unfold M_X9_atOf at hM
  refine Ev.steps (B := (1, [(0, .ref 75), (1, .int a1), (2, .int a2)], [.ref 75], h)) 1 rfl ?_
  obtain ⟨h1, e1, hM⟩ := am_vS hM
  refine Ev.call (q := (mr_X9_runsTold, [.ref 75], [])) rfl (E_X9_runsTold_75 n h h1 e1) ?_
  refine Ev.steps (B := (14, [(0, .ref 75), (1, .int a1), (2, .int a2)], [.int ((6 * a1) + a2), .ref 96], h1)) 7 rfl ?_
  obtain ⟨g2, hM⟩ := am_gS hM
  refine Ev.g (B := (15, [(0, .ref 75), (1, .int a1), (2, .int a2)], [.int ((h1.2.1 96) (Int32.toNatClampNeg ((6 * a1) + a2)))], h1)) g2 rfl ?_
  obtain ⟨rfl, rfl⟩ := am_sp hM
  exact Ev.ret rfl
def M_X9_at (n : Nat) (a1 : Int32) (a2 : Int32) (h : AH) : Option (Int32 × AH) :=
  if (M_X9_isMinute a1) = 0 then
    some ((-2), h)
  else
    if (M_X9_in a2 0 5) = 0 then
      some ((-2), h)
    else
      am_b (M_X9_atOf n a1 a2 h) fun v2 h1 =>
      some (v2, h1)
set_option maxRecDepth 10000 in
theorem E_X9_at_75 (n : Nat) (a1 : Int32) (a2 : Int32) (h : AH) (vR : Int32) (hR : AH) (hM : M_X9_at n a1 a2 h = some (vR, hR)) : Ev none mr_X9_at (0, [(0, .ref 75), (1, .int a1), (2, .int a2)], [], h) (some (.int vR)) hR := by
  unfold M_X9_at at hM
  refine Ev.steps (B := (1, [(0, .ref 75), (1, .int a1), (2, .int a2)], [.int a1], h)) 1 rfl ?_
  refine Ev.call (q := (mr_X9_isMinute, [.int a1], [])) rfl (E_X9_isMinute a1 h) ?_
  refine Ev.br (b := decide ((M_X9_isMinute a1) = 0)) rfl (fun c1 => ?_) (fun c1 => ?_)
  · have c1 := of_decide_eq_true c1
    rw [if_pos c1] at hM
    refine Ev.steps (B := (27, [(0, .ref 75), (1, .int a1), (2, .int a2)], [.int (-2)], h)) 1 rfl ?_
    obtain ⟨rfl, rfl⟩ := am_sp hM
    exact Ev.ret rfl
  · have c1 := of_decide_eq_false c1
    rw [if_neg c1] at hM
    refine Ev.steps (B := (10, [(0, .ref 75), (1, .int a1), (2, .int a2)], [.int 5, .int 0, .int a2], h)) 3 rfl ?_
    refine Ev.call (q := (mr_X9_in, [.int a2, .int 0, .int 5], [])) rfl (E_X9_in a2 0 5 h) ?_
    refine Ev.br (b := decide ((M_X9_in a2 0 5) = 0)) rfl (fun c2 => ?_) (fun c2 => ?_)
    · have c2 := of_decide_eq_true c2
      rw [if_pos c2] at hM
      refine Ev.steps (B := (27, [(0, .ref 75), (1, .int a1), (2, .int a2)], [.int (-2)], h)) 1 rfl ?_
      obtain ⟨rfl, rfl⟩ := am_sp hM
      exact Ev.ret rfl
    · have c2 := of_decide_eq_false c2
      rw [if_neg c2] at hM
      refine Ev.steps (B := (19, [(0, .ref 75), (1, .int a1), (2, .int a2)], [.int a2, .int a1, .ref 75], h)) 3 rfl ?_
      obtain ⟨v2, h1, e3, hM⟩ := am_bS hM
      refine Ev.call (q := (mr_X9_atOf, [.ref 75, .int a1, .int a2], [])) rfl (E_X9_atOf_75 n a1 a2 h v2 h1 e3) ?_
      refine Ev.steps (B := (27, [(0, .ref 75), (1, .int a1), (2, .int a2)], [.int v2], h1)) 1 rfl ?_
      obtain ⟨rfl, rfl⟩ := am_sp hM
      exact Ev.ret rfl
def M_X2_glassesOf (r0 : Nat) (a1 : Int32) (a2 : Int32) (h : AH) : Option Int32 :=
  if (M_X8_within a1 23) = 0 then
    some 0
  else
    if (M_X8_within a2 7) = 0 then
      some 0
    else
      bif (am_in ((a1 * 8) + a2) 192) then
        some ((h.2.1 (r0 + 8)) (Int32.toNatClampNeg ((a1 * 8) + a2)))
      else none
set_option maxRecDepth 10000 in
theorem E_X2_glassesOf_22 (a1 : Int32) (a2 : Int32) (h : AH) (vR : Int32) (hM : M_X2_glassesOf 22 a1 a2 h = some vR) : Ev none mr_X2_glassesOf (0, [(0, .ref 22), (1, .int a1), (2, .int a2)], [], h) (some (.int vR)) h := by
  unfold M_X2_glassesOf at hM
  refine Ev.steps (B := (3, [(0, .ref 22), (1, .int a1), (2, .int a2)], [.int 23, .int a1], h)) 2 rfl ?_
  refine Ev.call (q := (mr_X8_within, [.int a1, .int 23], [])) rfl (E_X8_within a1 23 h) ?_
  refine Ev.br (b := decide ((M_X8_within a1 23) = 0)) rfl (fun c1 => ?_) (fun c1 => ?_)
  · have c1 := of_decide_eq_true c1
    rw [if_pos c1] at hM
    refine Ev.steps (B := (33, [(0, .ref 22), (1, .int a1), (2, .int a2)], [.int 0], h)) 1 rfl ?_
    obtain rfl := am_s1 hM
    exact Ev.ret rfl
  · have c1 := of_decide_eq_false c1
    rw [if_neg c1] at hM
    refine Ev.steps (B := (12, [(0, .ref 22), (1, .int a1), (2, .int a2)], [.int 7, .int a2], h)) 2 rfl ?_
    refine Ev.call (q := (mr_X8_within, [.int a2, .int 7], [])) rfl (E_X8_within a2 7 h) ?_
    refine Ev.br (b := decide ((M_X8_within a2 7) = 0)) rfl (fun c2 => ?_) (fun c2 => ?_)
    · have c2 := of_decide_eq_true c2
      rw [if_pos c2] at hM
      refine Ev.steps (B := (33, [(0, .ref 22), (1, .int a1), (2, .int a2)], [.int 0], h)) 1 rfl ?_
      obtain rfl := am_s1 hM
      exact Ev.ret rfl
    · have c2 := of_decide_eq_false c2
      rw [if_neg c2] at hM
      refine Ev.steps (B := (28, [(0, .ref 22), (1, .int a1), (2, .int a2)], [.int ((a1 * 8) + a2), .ref (22 + 8)], h)) 7 rfl ?_
      obtain ⟨g3, hM⟩ := am_gS hM
      refine Ev.g (B := (29, [(0, .ref 22), (1, .int a1), (2, .int a2)], [.int ((h.2.1 (22 + 8)) (Int32.toNatClampNeg ((a1 * 8) + a2)))], h)) g3 rfl ?_
      refine Ev.steps (B := (33, [(0, .ref 22), (1, .int a1), (2, .int a2)], [.int ((h.2.1 (22 + 8)) (Int32.toNatClampNeg ((a1 * 8) + a2)))], h)) 1 rfl ?_
      obtain rfl := am_s1 hM
      exact Ev.ret rfl
def M_X2_stateOf (r0 : Nat) (a1 : Int32) (a2 : Int32) (h : AH) : Option Int32 :=
  if (M_X8_within a1 23) = 0 then
    some 0
  else
    if (M_X8_within a2 7) = 0 then
      some 0
    else
      bif (am_in ((a1 * 8) + a2) 192) then
        some ((h.2.1 (r0 + 7)) (Int32.toNatClampNeg ((a1 * 8) + a2)))
      else none
set_option maxRecDepth 10000 in
theorem E_X2_stateOf_22 (a1 : Int32) (a2 : Int32) (h : AH) (vR : Int32) (hM : M_X2_stateOf 22 a1 a2 h = some vR) : Ev none mr_X2_stateOf (0, [(0, .ref 22), (1, .int a1), (2, .int a2)], [], h) (some (.int vR)) h := by
  unfold M_X2_stateOf at hM
  refine Ev.steps (B := (3, [(0, .ref 22), (1, .int a1), (2, .int a2)], [.int 23, .int a1], h)) 2 rfl ?_
  refine Ev.call (q := (mr_X8_within, [.int a1, .int 23], [])) rfl (E_X8_within a1 23 h) ?_
  refine Ev.br (b := decide ((M_X8_within a1 23) = 0)) rfl (fun c1 => ?_) (fun c1 => ?_)
  · have c1 := of_decide_eq_true c1
    rw [if_pos c1] at hM
    refine Ev.steps (B := (33, [(0, .ref 22), (1, .int a1), (2, .int a2)], [.int 0], h)) 1 rfl ?_
    obtain rfl := am_s1 hM
    exact Ev.ret rfl
  · have c1 := of_decide_eq_false c1
    rw [if_neg c1] at hM
    refine Ev.steps (B := (12, [(0, .ref 22), (1, .int a1), (2, .int a2)], [.int 7, .int a2], h)) 2 rfl ?_
    refine Ev.call (q := (mr_X8_within, [.int a2, .int 7], [])) rfl (E_X8_within a2 7 h) ?_
    refine Ev.br (b := decide ((M_X8_within a2 7) = 0)) rfl (fun c2 => ?_) (fun c2 => ?_)
    · have c2 := of_decide_eq_true c2
      rw [if_pos c2] at hM
      refine Ev.steps (B := (33, [(0, .ref 22), (1, .int a1), (2, .int a2)], [.int 0], h)) 1 rfl ?_
      obtain rfl := am_s1 hM
      exact Ev.ret rfl
    · have c2 := of_decide_eq_false c2
      rw [if_neg c2] at hM
      refine Ev.steps (B := (28, [(0, .ref 22), (1, .int a1), (2, .int a2)], [.int ((a1 * 8) + a2), .ref (22 + 7)], h)) 7 rfl ?_
      obtain ⟨g3, hM⟩ := am_gS hM
      refine Ev.g (B := (29, [(0, .ref 22), (1, .int a1), (2, .int a2)], [.int ((h.2.1 (22 + 7)) (Int32.toNatClampNeg ((a1 * 8) + a2)))], h)) g3 rfl ?_
      refine Ev.steps (B := (33, [(0, .ref 22), (1, .int a1), (2, .int a2)], [.int ((h.2.1 (22 + 7)) (Int32.toNatClampNeg ((a1 * 8) + a2)))], h)) 1 rfl ?_
      obtain rfl := am_s1 hM
      exact Ev.ret rfl
def M_X8_is (n : Nat) (a1 : Int32) (a2 : Int32) (a3 : Int32) (h : AH) : Option (Int32 × AH) :=
  if (M_X8_within a1 23) = 0 then
    some ((-2), h)
  else
    if (M_X1_has 8 a2 h) = 0 then
      some ((-2), h)
    else
      if (M_X8_within a3 1) = 0 then
        some ((-2), h)
      else
        am_v (M_X8_toldEvening n h) fun h1 =>
        if a3 = 0 then
          am_o (M_X2_stateOf 22 a1 a2 h1) fun v3 =>
          some (v3, h1)
        else
          am_o (M_X2_glassesOf 22 a1 a2 h1) fun v2 =>
          some (v2, h1)
set_option maxRecDepth 10000 in
theorem E_X8_is_0 (n : Nat) (a1 : Int32) (a2 : Int32) (a3 : Int32) (h : AH) (vR : Int32) (hR : AH) (hM : M_X8_is n a1 a2 a3 h = some (vR, hR)) : Ev none mr_X8_is (0, [(0, .ref 0), (1, .int a1), (2, .int a2), (3, .int a3)], [], h) (some (.int vR)) hR := by
  unfold M_X8_is at hM
  refine Ev.steps (B := (3, [(0, .ref 0), (1, .int a1), (2, .int a2), (3, .int a3)], [.int 23, .int a1], h)) 2 rfl ?_
  refine Ev.call (q := (mr_X8_within, [.int a1, .int 23], [])) rfl (E_X8_within a1 23 h) ?_
  refine Ev.br (b := decide ((M_X8_within a1 23) = 0)) rfl (fun c1 => ?_) (fun c1 => ?_)
  · have c1 := of_decide_eq_true c1
    rw [if_pos c1] at hM
    refine Ev.steps (B := (33, [(0, .ref 0), (1, .int a1), (2, .int a2), (3, .int a3)], [.int (-2)], h)) 1 rfl ?_
    obtain ⟨rfl, rfl⟩ := am_sp hM
    exact Ev.ret rfl
  · have c1 := of_decide_eq_false c1
    rw [if_neg c1] at hM
    refine Ev.steps (B := (17, [(0, .ref 0), (1, .int a1), (2, .int a2), (3, .int a3)], [.int a2, .ref 8], h)) 4 rfl ?_
    refine Ev.call (q := (mr_X1_has, [.ref 8, .int a2], [])) rfl (E_X1_has_8 a2 h) ?_
    refine Ev.br (b := decide ((M_X1_has 8 a2 h) = 0)) rfl (fun c2 => ?_) (fun c2 => ?_)
    · have c2 := of_decide_eq_true c2
      rw [if_pos c2] at hM
      refine Ev.steps (B := (33, [(0, .ref 0), (1, .int a1), (2, .int a2), (3, .int a3)], [.int (-2)], h)) 1 rfl ?_
      obtain ⟨rfl, rfl⟩ := am_sp hM
      exact Ev.ret rfl
    · have c2 := of_decide_eq_false c2
      rw [if_neg c2] at hM
      refine Ev.steps (B := (25, [(0, .ref 0), (1, .int a1), (2, .int a2), (3, .int a3)], [.int 1, .int a3], h)) 2 rfl ?_
      refine Ev.call (q := (mr_X8_within, [.int a3, .int 1], [])) rfl (E_X8_within a3 1 h) ?_
      refine Ev.br (b := decide (¬ (M_X8_within a3 1) = 0)) rfl (fun c3 => ?_) (fun c3 => ?_)
      · have c3 := of_decide_eq_true c3
        rw [if_neg c3] at hM
        refine Ev.steps (B := (35, [(0, .ref 0), (1, .int a1), (2, .int a2), (3, .int a3)], [.ref 0], h)) 1 rfl ?_
        obtain ⟨h1, e4, hM⟩ := am_vS hM
        refine Ev.call (q := (mr_X8_toldEvening, [.ref 0], [])) rfl (E_X8_toldEvening_0 n h h1 e4) ?_
        refine Ev.steps (B := (41, [(4, .ref 22), (0, .ref 0), (1, .int a1), (2, .int a2), (3, .int a3)], [.int a3], h1)) 2 rfl ?_
        refine Ev.br (b := decide (¬ a3 = 0)) rfl (fun c5 => ?_) (fun c5 => ?_)
        · have c5 := of_decide_eq_true c5
          rw [if_neg c5] at hM
          refine Ev.steps (B := (58, [(4, .ref 22), (0, .ref 0), (1, .int a1), (2, .int a2), (3, .int a3)], [.int a2, .int a1, .ref 22], h1)) 3 rfl ?_
          obtain ⟨v2, e6, hM⟩ := am_oS hM
          refine Ev.call (q := (mr_X2_glassesOf, [.ref 22, .int a1, .int a2], [])) rfl (E_X2_glassesOf_22 a1 a2 h1 v2 e6) ?_
          obtain ⟨rfl, rfl⟩ := am_sp hM
          exact Ev.ret rfl
        · have c5 := Decidable.of_not_not (of_decide_eq_false c5)
          rw [if_pos c5] at hM
          refine Ev.steps (B := (48, [(4, .ref 22), (0, .ref 0), (1, .int a1), (2, .int a2), (3, .int a3)], [.int a2, .int a1, .ref 22], h1)) 3 rfl ?_
          obtain ⟨v3, e7, hM⟩ := am_oS hM
          refine Ev.call (q := (mr_X2_stateOf, [.ref 22, .int a1, .int a2], [])) rfl (E_X2_stateOf_22 a1 a2 h1 v3 e7) ?_
          refine Ev.steps (B := (61, [(4, .ref 22), (0, .ref 0), (1, .int a1), (2, .int a2), (3, .int a3)], [.int v3], h1)) 1 rfl ?_
          obtain ⟨rfl, rfl⟩ := am_sp hM
          exact Ev.ret rfl
      · have c3 := Decidable.of_not_not (of_decide_eq_false c3)
        rw [if_pos c3] at hM
        refine Ev.steps (B := (33, [(0, .ref 0), (1, .int a1), (2, .int a2), (3, .int a3)], [.int (-2)], h)) 1 rfl ?_
        obtain ⟨rfl, rfl⟩ := am_sp hM
        exact Ev.ret rfl
def M_X9_isOf (n : Nat) (a1 : Int32) (a2 : Int32) (a3 : Int32) (h : AH) : Option (Int32 × AH) :=
  am_v (M_X9_runsTold n h) fun h1 =>
  if a3 = 0 then
    bif (am_in ((8 * a1) + a2) 192) then
      some (((h1.2.1 98) (Int32.toNatClampNeg ((8 * a1) + a2))), h1)
    else none
  else
    bif (am_in ((8 * a1) + a2) 192) then
      some (((h1.2.1 99) (Int32.toNatClampNeg ((8 * a1) + a2))), h1)
    else none
set_option maxRecDepth 10000 in
theorem E_X9_isOf_75 (n : Nat) (a1 : Int32) (a2 : Int32) (a3 : Int32) (h : AH) (vR : Int32) (hR : AH) (hM : M_X9_isOf n a1 a2 a3 h = some (vR, hR)) : Ev none mr_X9_isOf (0, [(0, .ref 75), (1, .int a1), (2, .int a2), (3, .int a3)], [], h) (some (.int vR)) hR := by
  unfold M_X9_isOf at hM
  refine Ev.steps (B := (1, [(0, .ref 75), (1, .int a1), (2, .int a2), (3, .int a3)], [.ref 75], h)) 1 rfl ?_
  obtain ⟨h1, e1, hM⟩ := am_vS hM
  refine Ev.call (q := (mr_X9_runsTold, [.ref 75], [])) rfl (E_X9_runsTold_75 n h h1 e1) ?_
  refine Ev.steps (B := (5, [(0, .ref 75), (1, .int a1), (2, .int a2), (3, .int a3)], [.int a3], h1)) 1 rfl ?_
  refine Ev.br (b := decide (¬ a3 = 0)) rfl (fun c2 => ?_) (fun c2 => ?_)
  · have c2 := of_decide_eq_true c2
    rw [if_neg c2] at hM
    refine Ev.steps (B := (32, [(0, .ref 75), (1, .int a1), (2, .int a2), (3, .int a3)], [.int ((8 * a1) + a2), .ref 99], h1)) 7 rfl ?_
    obtain ⟨g3, hM⟩ := am_gS hM
    refine Ev.g (B := (33, [(0, .ref 75), (1, .int a1), (2, .int a2), (3, .int a3)], [.int ((h1.2.1 99) (Int32.toNatClampNeg ((8 * a1) + a2)))], h1)) g3 rfl ?_
    obtain ⟨rfl, rfl⟩ := am_sp hM
    exact Ev.ret rfl
  · have c2 := Decidable.of_not_not (of_decide_eq_false c2)
    rw [if_pos c2] at hM
    refine Ev.steps (B := (18, [(0, .ref 75), (1, .int a1), (2, .int a2), (3, .int a3)], [.int ((8 * a1) + a2), .ref 98], h1)) 7 rfl ?_
    obtain ⟨g4, hM⟩ := am_gS hM
    refine Ev.g (B := (19, [(0, .ref 75), (1, .int a1), (2, .int a2), (3, .int a3)], [.int ((h1.2.1 98) (Int32.toNatClampNeg ((8 * a1) + a2)))], h1)) g4 rfl ?_
    refine Ev.steps (B := (33, [(0, .ref 75), (1, .int a1), (2, .int a2), (3, .int a3)], [.int ((h1.2.1 98) (Int32.toNatClampNeg ((8 * a1) + a2)))], h1)) 1 rfl ?_
    obtain ⟨rfl, rfl⟩ := am_sp hM
    exact Ev.ret rfl
def M_X9_is (n : Nat) (a1 : Int32) (a2 : Int32) (a3 : Int32) (h : AH) : Option (Int32 × AH) :=
  if (M_X9_isMinute a1) = 0 then
    some ((-2), h)
  else
    am_b (M_X9_isGuest n a2 h) fun v2 h1 =>
    if v2 = 0 then
      some ((-2), h1)
    else
      if (M_X9_isTwo a3) = 0 then
        some ((-2), h1)
      else
        am_b (M_X9_isOf n a1 a2 a3 h1) fun v4 h3 =>
        some (v4, h3)
set_option maxRecDepth 10000 in
theorem E_X9_is_75 (n : Nat) (a1 : Int32) (a2 : Int32) (a3 : Int32) (h : AH) (vR : Int32) (hR : AH) (hM : M_X9_is n a1 a2 a3 h = some (vR, hR)) : Ev none mr_X9_is (0, [(0, .ref 75), (1, .int a1), (2, .int a2), (3, .int a3)], [], h) (some (.int vR)) hR := by
  unfold M_X9_is at hM
  refine Ev.steps (B := (1, [(0, .ref 75), (1, .int a1), (2, .int a2), (3, .int a3)], [.int a1], h)) 1 rfl ?_
  refine Ev.call (q := (mr_X9_isMinute, [.int a1], [])) rfl (E_X9_isMinute a1 h) ?_
  refine Ev.br (b := decide ((M_X9_isMinute a1) = 0)) rfl (fun c1 => ?_) (fun c1 => ?_)
  · have c1 := of_decide_eq_true c1
    rw [if_pos c1] at hM
    refine Ev.steps (B := (34, [(0, .ref 75), (1, .int a1), (2, .int a2), (3, .int a3)], [.int (-2)], h)) 1 rfl ?_
    obtain ⟨rfl, rfl⟩ := am_sp hM
    exact Ev.ret rfl
  · have c1 := of_decide_eq_false c1
    rw [if_neg c1] at hM
    refine Ev.steps (B := (9, [(0, .ref 75), (1, .int a1), (2, .int a2), (3, .int a3)], [.int a2, .ref 75], h)) 2 rfl ?_
    obtain ⟨v2, h1, e2, hM⟩ := am_bS hM
    refine Ev.call (q := (mr_X9_isGuest, [.ref 75, .int a2], [])) rfl (E_X9_isGuest_75 n a2 h v2 h1 e2) ?_
    refine Ev.br (b := decide (v2 = 0)) rfl (fun c3 => ?_) (fun c3 => ?_)
    · have c3 := of_decide_eq_true c3
      rw [if_pos c3] at hM
      refine Ev.steps (B := (34, [(0, .ref 75), (1, .int a1), (2, .int a2), (3, .int a3)], [.int (-2)], h1)) 1 rfl ?_
      obtain ⟨rfl, rfl⟩ := am_sp hM
      exact Ev.ret rfl
    · have c3 := of_decide_eq_false c3
      rw [if_neg c3] at hM
      refine Ev.steps (B := (16, [(0, .ref 75), (1, .int a1), (2, .int a2), (3, .int a3)], [.int a3], h1)) 1 rfl ?_
      refine Ev.call (q := (mr_X9_isTwo, [.int a3], [])) rfl (E_X9_isTwo a3 h1) ?_
      refine Ev.br (b := decide ((M_X9_isTwo a3) = 0)) rfl (fun c4 => ?_) (fun c4 => ?_)
      · have c4 := of_decide_eq_true c4
        rw [if_pos c4] at hM
        refine Ev.steps (B := (34, [(0, .ref 75), (1, .int a1), (2, .int a2), (3, .int a3)], [.int (-2)], h1)) 1 rfl ?_
        obtain ⟨rfl, rfl⟩ := am_sp hM
        exact Ev.ret rfl
      · have c4 := of_decide_eq_false c4
        rw [if_neg c4] at hM
        refine Ev.steps (B := (26, [(0, .ref 75), (1, .int a1), (2, .int a2), (3, .int a3)], [.int a3, .int a2, .int a1, .ref 75], h1)) 4 rfl ?_
        obtain ⟨v4, h3, e5, hM⟩ := am_bS hM
        refine Ev.call (q := (mr_X9_isOf, [.ref 75, .int a1, .int a2, .int a3], [])) rfl (E_X9_isOf_75 n a1 a2 a3 h1 v4 h3 e5) ?_
        refine Ev.steps (B := (34, [(0, .ref 75), (1, .int a1), (2, .int a2), (3, .int a3)], [.int v4], h3)) 1 rfl ?_
        obtain ⟨rfl, rfl⟩ := am_sp hM
        exact Ev.ret rfl
def M_X8_line (n : Nat) (a1 : Int32) (h : AH) : Option (Int32 × AH) :=
  if (M_X8_within a1 23) = 0 then
    some ((-2), h)
  else
    am_v (M_X8_toldEvening n h) fun h1 =>
    bif (am_in a1 24) then
      some (((h1.2.1 28) (Int32.toNatClampNeg a1)), h1)
    else none
set_option maxRecDepth 10000 in
theorem E_X8_line_0 (n : Nat) (a1 : Int32) (h : AH) (vR : Int32) (hR : AH) (hM : M_X8_line n a1 h = some (vR, hR)) : Ev none mr_X8_line (0, [(0, .ref 0), (1, .int a1)], [], h) (some (.int vR)) hR := by
  unfold M_X8_line at hM
  refine Ev.steps (B := (3, [(0, .ref 0), (1, .int a1)], [.int 23, .int a1], h)) 2 rfl ?_
  refine Ev.call (q := (mr_X8_within, [.int a1, .int 23], [])) rfl (E_X8_within a1 23 h) ?_
  refine Ev.br (b := decide ((M_X8_within a1 23) = 0)) rfl (fun c1 => ?_) (fun c1 => ?_)
  · have c1 := of_decide_eq_true c1
    rw [if_pos c1] at hM
    refine Ev.steps (B := (23, [(0, .ref 0), (1, .int a1)], [.int (-2)], h)) 1 rfl ?_
    obtain ⟨rfl, rfl⟩ := am_sp hM
    exact Ev.ret rfl
  · have c1 := of_decide_eq_false c1
    rw [if_neg c1] at hM
    refine Ev.steps (B := (10, [(0, .ref 0), (1, .int a1)], [.ref 0], h)) 1 rfl ?_
    obtain ⟨h1, e2, hM⟩ := am_vS hM
    refine Ev.call (q := (mr_X8_toldEvening, [.ref 0], [])) rfl (E_X8_toldEvening_0 n h h1 e2) ?_
    refine Ev.steps (B := (17, [(0, .ref 0), (1, .int a1)], [.int a1, .ref 28], h1)) 2 rfl ?_
    obtain ⟨g3, hM⟩ := am_gS hM
    refine Ev.g (B := (18, [(0, .ref 0), (1, .int a1)], [.int ((h1.2.1 28) (Int32.toNatClampNeg a1))], h1)) g3 rfl ?_
    refine Ev.steps (B := (23, [(0, .ref 0), (1, .int a1)], [.int ((h1.2.1 28) (Int32.toNatClampNeg a1))], h1)) 1 rfl ?_
    obtain ⟨rfl, rfl⟩ := am_sp hM
    exact Ev.ret rfl
def M_X9_lineOf (n : Nat) (a1 : Int32) (h : AH) : Option (Int32 × AH) :=
  am_v (M_X9_runsTold n h) fun h1 =>
  bif (am_in a1 24) then
    some (((h1.2.1 97) (Int32.toNatClampNeg a1)), h1)
  else none
set_option maxRecDepth 10000 in
theorem E_X9_lineOf_75 (n : Nat) (a1 : Int32) (h : AH) (vR : Int32) (hR : AH) (hM : M_X9_lineOf n a1 h = some (vR, hR)) : Ev none mr_X9_lineOf (0, [(0, .ref 75), (1, .int a1)], [], h) (some (.int vR)) hR := by
  unfold M_X9_lineOf at hM
  refine Ev.steps (B := (1, [(0, .ref 75), (1, .int a1)], [.ref 75], h)) 1 rfl ?_
  obtain ⟨h1, e1, hM⟩ := am_vS hM
  refine Ev.call (q := (mr_X9_runsTold, [.ref 75], [])) rfl (E_X9_runsTold_75 n h h1 e1) ?_
  refine Ev.steps (B := (9, [(0, .ref 75), (1, .int a1)], [.int a1, .ref 97], h1)) 3 rfl ?_
  obtain ⟨g2, hM⟩ := am_gS hM
  refine Ev.g (B := (10, [(0, .ref 75), (1, .int a1)], [.int ((h1.2.1 97) (Int32.toNatClampNeg a1))], h1)) g2 rfl ?_
  obtain ⟨rfl, rfl⟩ := am_sp hM
  exact Ev.ret rfl
def M_X9_line (n : Nat) (a1 : Int32) (h : AH) : Option (Int32 × AH) :=
  if (M_X9_isMinute a1) = 0 then
    some ((-2), h)
  else
    am_b (M_X9_lineOf n a1 h) fun v2 h1 =>
    some (v2, h1)
set_option maxRecDepth 10000 in
theorem E_X9_line_75 (n : Nat) (a1 : Int32) (h : AH) (vR : Int32) (hR : AH) (hM : M_X9_line n a1 h = some (vR, hR)) : Ev none mr_X9_line (0, [(0, .ref 75), (1, .int a1)], [], h) (some (.int vR)) hR := by
  unfold M_X9_line at hM
  refine Ev.steps (B := (1, [(0, .ref 75), (1, .int a1)], [.int a1], h)) 1 rfl ?_
  refine Ev.call (q := (mr_X9_isMinute, [.int a1], [])) rfl (E_X9_isMinute a1 h) ?_
  refine Ev.br (b := decide ((M_X9_isMinute a1) = 0)) rfl (fun c1 => ?_) (fun c1 => ?_)
  · have c1 := of_decide_eq_true c1
    rw [if_pos c1] at hM
    refine Ev.steps (B := (17, [(0, .ref 75), (1, .int a1)], [.int (-2)], h)) 1 rfl ?_
    obtain ⟨rfl, rfl⟩ := am_sp hM
    exact Ev.ret rfl
  · have c1 := of_decide_eq_false c1
    rw [if_neg c1] at hM
    refine Ev.steps (B := (9, [(0, .ref 75), (1, .int a1)], [.int a1, .ref 75], h)) 2 rfl ?_
    obtain ⟨v2, h1, e2, hM⟩ := am_bS hM
    refine Ev.call (q := (mr_X9_lineOf, [.ref 75, .int a1], [])) rfl (E_X9_lineOf_75 n a1 h v2 h1 e2) ?_
    refine Ev.steps (B := (17, [(0, .ref 75), (1, .int a1)], [.int v2], h1)) 1 rfl ?_
    obtain ⟨rfl, rfl⟩ := am_sp hM
    exact Ev.ret rfl
def M_J13_bitCount (a1 : Int32) : Int32 :=
  ((((((((a1 - ((Int32.toUInt32 a1 >>> (Int32.toUInt32 1 &&& Int32.toUInt32 31)).toInt32 &&& 1431655765)) &&& 858993459) + ((Int32.toUInt32 (a1 - ((Int32.toUInt32 a1 >>> (Int32.toUInt32 1 &&& Int32.toUInt32 31)).toInt32 &&& 1431655765)) >>> (Int32.toUInt32 2 &&& Int32.toUInt32 31)).toInt32 &&& 858993459)) + (Int32.toUInt32 (((a1 - ((Int32.toUInt32 a1 >>> (Int32.toUInt32 1 &&& Int32.toUInt32 31)).toInt32 &&& 1431655765)) &&& 858993459) + ((Int32.toUInt32 (a1 - ((Int32.toUInt32 a1 >>> (Int32.toUInt32 1 &&& Int32.toUInt32 31)).toInt32 &&& 1431655765)) >>> (Int32.toUInt32 2 &&& Int32.toUInt32 31)).toInt32 &&& 858993459)) >>> (Int32.toUInt32 4 &&& Int32.toUInt32 31)).toInt32) &&& 252645135) + (Int32.toUInt32 (((((a1 - ((Int32.toUInt32 a1 >>> (Int32.toUInt32 1 &&& Int32.toUInt32 31)).toInt32 &&& 1431655765)) &&& 858993459) + ((Int32.toUInt32 (a1 - ((Int32.toUInt32 a1 >>> (Int32.toUInt32 1 &&& Int32.toUInt32 31)).toInt32 &&& 1431655765)) >>> (Int32.toUInt32 2 &&& Int32.toUInt32 31)).toInt32 &&& 858993459)) + (Int32.toUInt32 (((a1 - ((Int32.toUInt32 a1 >>> (Int32.toUInt32 1 &&& Int32.toUInt32 31)).toInt32 &&& 1431655765)) &&& 858993459) + ((Int32.toUInt32 (a1 - ((Int32.toUInt32 a1 >>> (Int32.toUInt32 1 &&& Int32.toUInt32 31)).toInt32 &&& 1431655765)) >>> (Int32.toUInt32 2 &&& Int32.toUInt32 31)).toInt32 &&& 858993459)) >>> (Int32.toUInt32 4 &&& Int32.toUInt32 31)).toInt32) &&& 252645135) >>> (Int32.toUInt32 8 &&& Int32.toUInt32 31)).toInt32) + (Int32.toUInt32 ((((((a1 - ((Int32.toUInt32 a1 >>> (Int32.toUInt32 1 &&& Int32.toUInt32 31)).toInt32 &&& 1431655765)) &&& 858993459) + ((Int32.toUInt32 (a1 - ((Int32.toUInt32 a1 >>> (Int32.toUInt32 1 &&& Int32.toUInt32 31)).toInt32 &&& 1431655765)) >>> (Int32.toUInt32 2 &&& Int32.toUInt32 31)).toInt32 &&& 858993459)) + (Int32.toUInt32 (((a1 - ((Int32.toUInt32 a1 >>> (Int32.toUInt32 1 &&& Int32.toUInt32 31)).toInt32 &&& 1431655765)) &&& 858993459) + ((Int32.toUInt32 (a1 - ((Int32.toUInt32 a1 >>> (Int32.toUInt32 1 &&& Int32.toUInt32 31)).toInt32 &&& 1431655765)) >>> (Int32.toUInt32 2 &&& Int32.toUInt32 31)).toInt32 &&& 858993459)) >>> (Int32.toUInt32 4 &&& Int32.toUInt32 31)).toInt32) &&& 252645135) + (Int32.toUInt32 (((((a1 - ((Int32.toUInt32 a1 >>> (Int32.toUInt32 1 &&& Int32.toUInt32 31)).toInt32 &&& 1431655765)) &&& 858993459) + ((Int32.toUInt32 (a1 - ((Int32.toUInt32 a1 >>> (Int32.toUInt32 1 &&& Int32.toUInt32 31)).toInt32 &&& 1431655765)) >>> (Int32.toUInt32 2 &&& Int32.toUInt32 31)).toInt32 &&& 858993459)) + (Int32.toUInt32 (((a1 - ((Int32.toUInt32 a1 >>> (Int32.toUInt32 1 &&& Int32.toUInt32 31)).toInt32 &&& 1431655765)) &&& 858993459) + ((Int32.toUInt32 (a1 - ((Int32.toUInt32 a1 >>> (Int32.toUInt32 1 &&& Int32.toUInt32 31)).toInt32 &&& 1431655765)) >>> (Int32.toUInt32 2 &&& Int32.toUInt32 31)).toInt32 &&& 858993459)) >>> (Int32.toUInt32 4 &&& Int32.toUInt32 31)).toInt32) &&& 252645135) >>> (Int32.toUInt32 8 &&& Int32.toUInt32 31)).toInt32) >>> (Int32.toUInt32 16 &&& Int32.toUInt32 31)).toInt32) &&& 63)
set_option maxRecDepth 10000 in
theorem E_J13_bitCount (a1 : Int32) (h : AH) : Ev none mr_J13_bitCount (0, [(0, .int a1)], [], h) (some (.int (M_J13_bitCount a1))) h := by
  unfold M_J13_bitCount
  refine Ev.steps (B := (52, [(0, .int (((((((a1 - ((Int32.toUInt32 a1 >>> (Int32.toUInt32 1 &&& Int32.toUInt32 31)).toInt32 &&& 1431655765)) &&& 858993459) + ((Int32.toUInt32 (a1 - ((Int32.toUInt32 a1 >>> (Int32.toUInt32 1 &&& Int32.toUInt32 31)).toInt32 &&& 1431655765)) >>> (Int32.toUInt32 2 &&& Int32.toUInt32 31)).toInt32 &&& 858993459)) + (Int32.toUInt32 (((a1 - ((Int32.toUInt32 a1 >>> (Int32.toUInt32 1 &&& Int32.toUInt32 31)).toInt32 &&& 1431655765)) &&& 858993459) + ((Int32.toUInt32 (a1 - ((Int32.toUInt32 a1 >>> (Int32.toUInt32 1 &&& Int32.toUInt32 31)).toInt32 &&& 1431655765)) >>> (Int32.toUInt32 2 &&& Int32.toUInt32 31)).toInt32 &&& 858993459)) >>> (Int32.toUInt32 4 &&& Int32.toUInt32 31)).toInt32) &&& 252645135) + (Int32.toUInt32 (((((a1 - ((Int32.toUInt32 a1 >>> (Int32.toUInt32 1 &&& Int32.toUInt32 31)).toInt32 &&& 1431655765)) &&& 858993459) + ((Int32.toUInt32 (a1 - ((Int32.toUInt32 a1 >>> (Int32.toUInt32 1 &&& Int32.toUInt32 31)).toInt32 &&& 1431655765)) >>> (Int32.toUInt32 2 &&& Int32.toUInt32 31)).toInt32 &&& 858993459)) + (Int32.toUInt32 (((a1 - ((Int32.toUInt32 a1 >>> (Int32.toUInt32 1 &&& Int32.toUInt32 31)).toInt32 &&& 1431655765)) &&& 858993459) + ((Int32.toUInt32 (a1 - ((Int32.toUInt32 a1 >>> (Int32.toUInt32 1 &&& Int32.toUInt32 31)).toInt32 &&& 1431655765)) >>> (Int32.toUInt32 2 &&& Int32.toUInt32 31)).toInt32 &&& 858993459)) >>> (Int32.toUInt32 4 &&& Int32.toUInt32 31)).toInt32) &&& 252645135) >>> (Int32.toUInt32 8 &&& Int32.toUInt32 31)).toInt32) + (Int32.toUInt32 ((((((a1 - ((Int32.toUInt32 a1 >>> (Int32.toUInt32 1 &&& Int32.toUInt32 31)).toInt32 &&& 1431655765)) &&& 858993459) + ((Int32.toUInt32 (a1 - ((Int32.toUInt32 a1 >>> (Int32.toUInt32 1 &&& Int32.toUInt32 31)).toInt32 &&& 1431655765)) >>> (Int32.toUInt32 2 &&& Int32.toUInt32 31)).toInt32 &&& 858993459)) + (Int32.toUInt32 (((a1 - ((Int32.toUInt32 a1 >>> (Int32.toUInt32 1 &&& Int32.toUInt32 31)).toInt32 &&& 1431655765)) &&& 858993459) + ((Int32.toUInt32 (a1 - ((Int32.toUInt32 a1 >>> (Int32.toUInt32 1 &&& Int32.toUInt32 31)).toInt32 &&& 1431655765)) >>> (Int32.toUInt32 2 &&& Int32.toUInt32 31)).toInt32 &&& 858993459)) >>> (Int32.toUInt32 4 &&& Int32.toUInt32 31)).toInt32) &&& 252645135) + (Int32.toUInt32 (((((a1 - ((Int32.toUInt32 a1 >>> (Int32.toUInt32 1 &&& Int32.toUInt32 31)).toInt32 &&& 1431655765)) &&& 858993459) + ((Int32.toUInt32 (a1 - ((Int32.toUInt32 a1 >>> (Int32.toUInt32 1 &&& Int32.toUInt32 31)).toInt32 &&& 1431655765)) >>> (Int32.toUInt32 2 &&& Int32.toUInt32 31)).toInt32 &&& 858993459)) + (Int32.toUInt32 (((a1 - ((Int32.toUInt32 a1 >>> (Int32.toUInt32 1 &&& Int32.toUInt32 31)).toInt32 &&& 1431655765)) &&& 858993459) + ((Int32.toUInt32 (a1 - ((Int32.toUInt32 a1 >>> (Int32.toUInt32 1 &&& Int32.toUInt32 31)).toInt32 &&& 1431655765)) >>> (Int32.toUInt32 2 &&& Int32.toUInt32 31)).toInt32 &&& 858993459)) >>> (Int32.toUInt32 4 &&& Int32.toUInt32 31)).toInt32) &&& 252645135) >>> (Int32.toUInt32 8 &&& Int32.toUInt32 31)).toInt32) >>> (Int32.toUInt32 16 &&& Int32.toUInt32 31)).toInt32))], [.int ((((((((a1 - ((Int32.toUInt32 a1 >>> (Int32.toUInt32 1 &&& Int32.toUInt32 31)).toInt32 &&& 1431655765)) &&& 858993459) + ((Int32.toUInt32 (a1 - ((Int32.toUInt32 a1 >>> (Int32.toUInt32 1 &&& Int32.toUInt32 31)).toInt32 &&& 1431655765)) >>> (Int32.toUInt32 2 &&& Int32.toUInt32 31)).toInt32 &&& 858993459)) + (Int32.toUInt32 (((a1 - ((Int32.toUInt32 a1 >>> (Int32.toUInt32 1 &&& Int32.toUInt32 31)).toInt32 &&& 1431655765)) &&& 858993459) + ((Int32.toUInt32 (a1 - ((Int32.toUInt32 a1 >>> (Int32.toUInt32 1 &&& Int32.toUInt32 31)).toInt32 &&& 1431655765)) >>> (Int32.toUInt32 2 &&& Int32.toUInt32 31)).toInt32 &&& 858993459)) >>> (Int32.toUInt32 4 &&& Int32.toUInt32 31)).toInt32) &&& 252645135) + (Int32.toUInt32 (((((a1 - ((Int32.toUInt32 a1 >>> (Int32.toUInt32 1 &&& Int32.toUInt32 31)).toInt32 &&& 1431655765)) &&& 858993459) + ((Int32.toUInt32 (a1 - ((Int32.toUInt32 a1 >>> (Int32.toUInt32 1 &&& Int32.toUInt32 31)).toInt32 &&& 1431655765)) >>> (Int32.toUInt32 2 &&& Int32.toUInt32 31)).toInt32 &&& 858993459)) + (Int32.toUInt32 (((a1 - ((Int32.toUInt32 a1 >>> (Int32.toUInt32 1 &&& Int32.toUInt32 31)).toInt32 &&& 1431655765)) &&& 858993459) + ((Int32.toUInt32 (a1 - ((Int32.toUInt32 a1 >>> (Int32.toUInt32 1 &&& Int32.toUInt32 31)).toInt32 &&& 1431655765)) >>> (Int32.toUInt32 2 &&& Int32.toUInt32 31)).toInt32 &&& 858993459)) >>> (Int32.toUInt32 4 &&& Int32.toUInt32 31)).toInt32) &&& 252645135) >>> (Int32.toUInt32 8 &&& Int32.toUInt32 31)).toInt32) + (Int32.toUInt32 ((((((a1 - ((Int32.toUInt32 a1 >>> (Int32.toUInt32 1 &&& Int32.toUInt32 31)).toInt32 &&& 1431655765)) &&& 858993459) + ((Int32.toUInt32 (a1 - ((Int32.toUInt32 a1 >>> (Int32.toUInt32 1 &&& Int32.toUInt32 31)).toInt32 &&& 1431655765)) >>> (Int32.toUInt32 2 &&& Int32.toUInt32 31)).toInt32 &&& 858993459)) + (Int32.toUInt32 (((a1 - ((Int32.toUInt32 a1 >>> (Int32.toUInt32 1 &&& Int32.toUInt32 31)).toInt32 &&& 1431655765)) &&& 858993459) + ((Int32.toUInt32 (a1 - ((Int32.toUInt32 a1 >>> (Int32.toUInt32 1 &&& Int32.toUInt32 31)).toInt32 &&& 1431655765)) >>> (Int32.toUInt32 2 &&& Int32.toUInt32 31)).toInt32 &&& 858993459)) >>> (Int32.toUInt32 4 &&& Int32.toUInt32 31)).toInt32) &&& 252645135) + (Int32.toUInt32 (((((a1 - ((Int32.toUInt32 a1 >>> (Int32.toUInt32 1 &&& Int32.toUInt32 31)).toInt32 &&& 1431655765)) &&& 858993459) + ((Int32.toUInt32 (a1 - ((Int32.toUInt32 a1 >>> (Int32.toUInt32 1 &&& Int32.toUInt32 31)).toInt32 &&& 1431655765)) >>> (Int32.toUInt32 2 &&& Int32.toUInt32 31)).toInt32 &&& 858993459)) + (Int32.toUInt32 (((a1 - ((Int32.toUInt32 a1 >>> (Int32.toUInt32 1 &&& Int32.toUInt32 31)).toInt32 &&& 1431655765)) &&& 858993459) + ((Int32.toUInt32 (a1 - ((Int32.toUInt32 a1 >>> (Int32.toUInt32 1 &&& Int32.toUInt32 31)).toInt32 &&& 1431655765)) >>> (Int32.toUInt32 2 &&& Int32.toUInt32 31)).toInt32 &&& 858993459)) >>> (Int32.toUInt32 4 &&& Int32.toUInt32 31)).toInt32) &&& 252645135) >>> (Int32.toUInt32 8 &&& Int32.toUInt32 31)).toInt32) >>> (Int32.toUInt32 16 &&& Int32.toUInt32 31)).toInt32) &&& 63)], h)) 41 rfl ?_
  exact Ev.ret rfl
def M_X8_sum (n : Nat) (a1 : Int32) (h : AH) : Option (Int32 × AH) :=
  am_v (M_X8_toldEvening n h) fun h1 =>
  if a1 = 0 then
    some ((h1.1 32 6), h1)
  else
  if a1 = 1 then
    some ((M_J13_bitCount (h1.1 32 7)), h1)
  else
  if a1 = 2 then
    some ((M_J13_bitCount (h1.1 32 8)), h1)
  else
  if a1 = 3 then
    some ((h1.1 31 3), h1)
  else
  if a1 = 4 then
    some ((M_J13_bitCount (h1.1 22 10)), h1)
  else
    some ((-2), h1)
set_option maxRecDepth 10000 in
theorem E_X8_sum_0 (n : Nat) (a1 : Int32) (h : AH) (vR : Int32) (hR : AH) (hM : M_X8_sum n a1 h = some (vR, hR)) : Ev none mr_X8_sum (0, [(0, .ref 0), (1, .int a1)], [], h) (some (.int vR)) hR := by
  unfold M_X8_sum at hM
  refine Ev.steps (B := (1, [(0, .ref 0), (1, .int a1)], [.ref 0], h)) 1 rfl ?_
  obtain ⟨h1, e1, hM⟩ := am_vS hM
  refine Ev.call (q := (mr_X8_toldEvening, [.ref 0], [])) rfl (E_X8_toldEvening_0 n h h1 e1) ?_
  refine Ev.steps (B := (6, [(2, .ref 22), (0, .ref 0), (1, .int a1)], [.int a1], h1)) 2 rfl ?_
  refine Ev.step (B := (am_sel a1 [(0, 40), (1, 48), (2, 59), (3, 70), (4, 78)] 86, [(2, .ref 22), (0, .ref 0), (1, .int a1)], [], h1)) rfl ?_
  refine Ev.sw (fun c2 => ?_) (fun c2 => ?_)
  · rw [if_pos c2] at hM
    refine Ev.steps (B := (47, [(2, .ref 22), (0, .ref 0), (1, .int a1)], [.int (h1.1 32 6)], h1)) 3 rfl ?_
    obtain ⟨rfl, rfl⟩ := am_sp hM
    exact Ev.ret rfl
  · rw [if_neg c2] at hM
    refine Ev.sw (fun c3 => ?_) (fun c3 => ?_)
    · rw [if_pos c3] at hM
      refine Ev.steps (B := (55, [(2, .ref 22), (0, .ref 0), (1, .int a1)], [.int (h1.1 32 7)], h1)) 3 rfl ?_
      refine Ev.call (q := (mr_J13_bitCount, [.int (h1.1 32 7)], [])) rfl (E_J13_bitCount (h1.1 32 7) h1) ?_
      obtain ⟨rfl, rfl⟩ := am_sp hM
      exact Ev.ret rfl
    · rw [if_neg c3] at hM
      refine Ev.sw (fun c4 => ?_) (fun c4 => ?_)
      · rw [if_pos c4] at hM
        refine Ev.steps (B := (66, [(2, .ref 22), (0, .ref 0), (1, .int a1)], [.int (h1.1 32 8)], h1)) 3 rfl ?_
        refine Ev.call (q := (mr_J13_bitCount, [.int (h1.1 32 8)], [])) rfl (E_J13_bitCount (h1.1 32 8) h1) ?_
        obtain ⟨rfl, rfl⟩ := am_sp hM
        exact Ev.ret rfl
      · rw [if_neg c4] at hM
        refine Ev.sw (fun c5 => ?_) (fun c5 => ?_)
        · rw [if_pos c5] at hM
          refine Ev.steps (B := (77, [(2, .ref 22), (0, .ref 0), (1, .int a1)], [.int (h1.1 31 3)], h1)) 3 rfl ?_
          obtain ⟨rfl, rfl⟩ := am_sp hM
          exact Ev.ret rfl
        · rw [if_neg c5] at hM
          refine Ev.sw (fun c6 => ?_) (fun c6 => ?_)
          · rw [if_pos c6] at hM
            refine Ev.steps (B := (82, [(2, .ref 22), (0, .ref 0), (1, .int a1)], [.int (h1.1 22 10)], h1)) 2 rfl ?_
            refine Ev.call (q := (mr_J13_bitCount, [.int (h1.1 22 10)], [])) rfl (E_J13_bitCount (h1.1 22 10) h1) ?_
            obtain ⟨rfl, rfl⟩ := am_sp hM
            exact Ev.ret rfl
          · rw [if_neg c6] at hM
            refine Ev.steps (B := (88, [(2, .ref 22), (0, .ref 0), (1, .int a1)], [.int (-2)], h1)) 1 rfl ?_
            obtain ⟨rfl, rfl⟩ := am_sp hM
            exact Ev.ret rfl
def L_X9_drunkNow_4 (n : Nat) : Nat → Int32 → Int32 → AH → Option Int32
  | 0, _, _, _ => none
  | m + 1, x1, x2, h =>
    if (h.1 75 16) ≤ x2 then
      some x1
    else
      bif (am_in x2 8) then
        L_X9_drunkNow_4 n m (x1 + ((h.2.1 92) (Int32.toNatClampNeg x2))) (x2 + 1) h
      else none
set_option maxRecDepth 10000 in
theorem E_L_X9_drunkNow_4 (n : Nat) (h : AH) (vR : Int32) : ∀ (m : Nat) (x1 : Int32) (x2 : Int32), L_X9_drunkNow_4 n m x1 x2 h = some vR → Ev none mr_X9_drunkNow (4, [(0, .ref 75), (1, .int x1), (2, .int x2)], [], h) (some (.int vR)) h := by
  intro m
  induction m with
  | zero =>
    intro x1 x2 hM
    exact (am_no hM).elim
  | succ m ih =>
    intro x1 x2 hM
    rw [L_X9_drunkNow_4] at hM
    refine Ev.steps (B := (9, [(0, .ref 75), (1, .int x1), (2, .int x2)], [.int (h.1 75 16), .int x2], h)) 3 rfl ?_
    refine Ev.br (b := decide ((h.1 75 16) ≤ x2)) rfl (fun c1 => ?_) (fun c1 => ?_)
    · have c1 := of_decide_eq_true c1
      rw [if_pos c1] at hM
      refine Ev.steps (B := (28, [(0, .ref 75), (1, .int x1), (2, .int x2)], [.int x1], h)) 1 rfl ?_
      obtain rfl := am_s1 hM
      exact Ev.ret rfl
    · have c1 := of_decide_eq_false c1
      rw [if_neg c1] at hM
      refine Ev.steps (B := (18, [(0, .ref 75), (1, .int x1), (2, .int x2)], [.int x2, .ref 92, .int x1], h)) 4 rfl ?_
      obtain ⟨g2, hM⟩ := am_gS hM
      refine Ev.g (B := (19, [(0, .ref 75), (1, .int x1), (2, .int x2)], [.int ((h.2.1 92) (Int32.toNatClampNeg x2)), .int x1], h)) g2 rfl ?_
      refine Ev.steps (B := (4, [(2, .int (x2 + 1)), (1, .int (x1 + ((h.2.1 92) (Int32.toNatClampNeg x2)))), (0, .ref 75)], [], h)) 4 rfl ?_
      refine Ev.lv (lv := [(0, .ref 75), (1, .int (x1 + ((h.2.1 92) (Int32.toNatClampNeg x2)))), (2, .int (x2 + 1))]) ⟨rfl, rfl, rfl, trivial⟩ rfl rfl ?_
      exact ih (x1 + ((h.2.1 92) (Int32.toNatClampNeg x2))) (x2 + 1) hM
def M_X9_drunkNow (n : Nat) (h : AH) : Option Int32 :=
  L_X9_drunkNow_4 n n 0 0 h
set_option maxRecDepth 10000 in
theorem E_X9_drunkNow_75 (n : Nat) (h : AH) (vR : Int32) (hM : M_X9_drunkNow n h = some vR) : Ev none mr_X9_drunkNow (0, [(0, .ref 75)], [], h) (some (.int vR)) h := by
  unfold M_X9_drunkNow at hM
  refine Ev.steps (B := (4, [(2, .int 0), (1, .int 0), (0, .ref 75)], [], h)) 4 rfl ?_
  refine Ev.lv (lv := [(0, .ref 75), (1, .int 0), (2, .int 0)]) ⟨rfl, rfl, rfl, trivial⟩ rfl rfl ?_
  exact E_L_X9_drunkNow_4 n h vR n 0 0 hM
def B_X9_manyOf_28 (n : Nat) (k4 : Int32 → Int32 → Int32 → AH → Option Int32) (x1 : Int32) (x3 : Int32) (y0 : Int32) (y1 : Int32) (h : AH) : Option Int32 :=
  k4 x1 (y1 + y0) (x3 + 1) h
set_option maxRecDepth 10000 in
theorem E_B_X9_manyOf_28 (n : Nat) (k4 : Int32 → Int32 → Int32 → AH → Option Int32) (h : AH) (vR : Int32) (hk4 : ∀ (x1 : Int32) (x2 : Int32) (x3 : Int32), k4 x1 x2 x3 h = some vR → Ev none mr_X9_manyOf (4, [(0, .ref 75), (1, .int x1), (2, .int x2), (3, .int x3)], [], h) (some (.int vR)) h) (x1 : Int32) (x3 : Int32) (y0 : Int32) (y1 : Int32) (hM : B_X9_manyOf_28 n k4 x1 x3 y0 y1 h = some vR) : Ev none mr_X9_manyOf (28, [(0, .ref 75), (1, .int x1), (3, .int x3)], [.int y0, .int y1], h) (some (.int vR)) h := by
  unfold B_X9_manyOf_28 at hM
  refine Ev.steps (B := (4, [(3, .int (x3 + 1)), (2, .int (y1 + y0)), (0, .ref 75), (1, .int x1)], [], h)) 4 rfl ?_
  refine Ev.lv (lv := [(0, .ref 75), (1, .int x1), (2, .int (y1 + y0)), (3, .int (x3 + 1))]) ⟨rfl, rfl, rfl, rfl, trivial⟩ rfl rfl ?_
  exact hk4 x1 (y1 + y0) (x3 + 1) hM
def L_X9_manyOf_4 (n : Nat) : Nat → Int32 → Int32 → Int32 → AH → Option Int32
  | 0, _, _, _, _ => none
  | m + 1, x1, x2, x3, h =>
    if (h.1 75 16) ≤ x3 then
      some x2
    else
      bif (am_in x3 8) then
        if ((h.2.1 91) (Int32.toNatClampNeg x3)) = x1 then
          B_X9_manyOf_28 n (L_X9_manyOf_4 n m) x1 x3 1 x2 h
        else
          B_X9_manyOf_28 n (L_X9_manyOf_4 n m) x1 x3 0 x2 h
      else none
set_option maxRecDepth 10000 in
theorem E_L_X9_manyOf_4 (n : Nat) (h : AH) (vR : Int32) : ∀ (m : Nat) (x1 : Int32) (x2 : Int32) (x3 : Int32), L_X9_manyOf_4 n m x1 x2 x3 h = some vR → Ev none mr_X9_manyOf (4, [(0, .ref 75), (1, .int x1), (2, .int x2), (3, .int x3)], [], h) (some (.int vR)) h := by
  intro m
  induction m with
  | zero =>
    intro x1 x2 x3 hM
    exact (am_no hM).elim
  | succ m ih =>
    intro x1 x2 x3 hM
    rw [L_X9_manyOf_4] at hM
    refine Ev.steps (B := (9, [(0, .ref 75), (1, .int x1), (2, .int x2), (3, .int x3)], [.int (h.1 75 16), .int x3], h)) 3 rfl ?_
    refine Ev.br (b := decide ((h.1 75 16) ≤ x3)) rfl (fun c1 => ?_) (fun c1 => ?_)
    · have c1 := of_decide_eq_true c1
      rw [if_pos c1] at hM
      refine Ev.steps (B := (37, [(0, .ref 75), (1, .int x1), (2, .int x2), (3, .int x3)], [.int x2], h)) 1 rfl ?_
      obtain rfl := am_s1 hM
      exact Ev.ret rfl
    · have c1 := of_decide_eq_false c1
      rw [if_neg c1] at hM
      refine Ev.steps (B := (18, [(0, .ref 75), (1, .int x1), (2, .int x2), (3, .int x3)], [.int x3, .ref 91, .int x2], h)) 4 rfl ?_
      obtain ⟨g2, hM⟩ := am_gS hM
      refine Ev.g (B := (19, [(0, .ref 75), (1, .int x1), (2, .int x2), (3, .int x3)], [.int ((h.2.1 91) (Int32.toNatClampNeg x3)), .int x2], h)) g2 rfl ?_
      refine Ev.steps (B := (20, [(0, .ref 75), (1, .int x1), (2, .int x2), (3, .int x3)], [.int x1, .int ((h.2.1 91) (Int32.toNatClampNeg x3)), .int x2], h)) 1 rfl ?_
      refine Ev.br (b := decide (¬ ((h.2.1 91) (Int32.toNatClampNeg x3)) = x1)) rfl (fun c3 => ?_) (fun c3 => ?_)
      · have c3 := of_decide_eq_true c3
        rw [if_neg c3] at hM
        refine Ev.steps (B := (28, [(0, .ref 75), (1, .int x1), (2, .int x2), (3, .int x3)], [.int 0, .int x2], h)) 1 rfl ?_
        refine Ev.lv (lv := [(0, .ref 75), (1, .int x1), (3, .int x3)]) ⟨rfl, rfl, rfl, trivial⟩ rfl rfl ?_
        exact E_B_X9_manyOf_28 n (L_X9_manyOf_4 n m) h vR ih x1 x3 0 x2 hM
      · have c3 := Decidable.of_not_not (of_decide_eq_false c3)
        rw [if_pos c3] at hM
        refine Ev.steps (B := (28, [(0, .ref 75), (1, .int x1), (2, .int x2), (3, .int x3)], [.int 1, .int x2], h)) 2 rfl ?_
        refine Ev.lv (lv := [(0, .ref 75), (1, .int x1), (3, .int x3)]) ⟨rfl, rfl, rfl, trivial⟩ rfl rfl ?_
        exact E_B_X9_manyOf_28 n (L_X9_manyOf_4 n m) h vR ih x1 x3 1 x2 hM
def M_X9_manyOf (n : Nat) (a1 : Int32) (h : AH) : Option Int32 :=
  L_X9_manyOf_4 n n a1 0 0 h
set_option maxRecDepth 10000 in
theorem E_X9_manyOf_75 (n : Nat) (a1 : Int32) (h : AH) (vR : Int32) (hM : M_X9_manyOf n a1 h = some vR) : Ev none mr_X9_manyOf (0, [(0, .ref 75), (1, .int a1)], [], h) (some (.int vR)) h := by
  unfold M_X9_manyOf at hM
  refine Ev.steps (B := (4, [(3, .int 0), (2, .int 0), (0, .ref 75), (1, .int a1)], [], h)) 4 rfl ?_
  refine Ev.lv (lv := [(0, .ref 75), (1, .int a1), (2, .int 0), (3, .int 0)]) ⟨rfl, rfl, rfl, rfl, trivial⟩ rfl rfl ?_
  exact E_L_X9_manyOf_4 n h vR n a1 0 0 hM
def M_X9_sumOf (n : Nat) (a1 : Int32) (h : AH) : Option (Int32 × AH) :=
  am_v (M_X9_runsTold n h) fun h1 =>
  if a1 = 0 then
    am_o (M_X9_drunkNow n h1) fun v2 =>
    some (v2, h1)
  else
  if a1 = 1 then
    am_o (M_X9_manyOf n 3 h1) fun v3 =>
    some (v3, h1)
  else
  if a1 = 2 then
    am_o (M_X9_manyOf n 4 h1) fun v4 =>
    some (v4, h1)
  else
  if a1 = 3 then
    some ((h1.1 75 26), h1)
  else
    some ((h1.1 75 27), h1)
set_option maxRecDepth 10000 in
theorem E_X9_sumOf_75 (n : Nat) (a1 : Int32) (h : AH) (vR : Int32) (hR : AH) (hM : M_X9_sumOf n a1 h = some (vR, hR)) : Ev none mr_X9_sumOf (0, [(0, .ref 75), (1, .int a1)], [], h) (some (.int vR)) hR := by
  unfold M_X9_sumOf at hM
  refine Ev.steps (B := (1, [(0, .ref 75), (1, .int a1)], [.ref 75], h)) 1 rfl ?_
  obtain ⟨h1, e1, hM⟩ := am_vS hM
  refine Ev.call (q := (mr_X9_runsTold, [.ref 75], [])) rfl (E_X9_runsTold_75 n h h1 e1) ?_
  refine Ev.steps (B := (5, [(0, .ref 75), (1, .int a1)], [.int a1], h1)) 1 rfl ?_
  refine Ev.step (B := (am_sel a1 [(0, 36), (1, 41), (2, 47), (3, 53)] 58, [(0, .ref 75), (1, .int a1)], [], h1)) rfl ?_
  refine Ev.sw (fun c2 => ?_) (fun c2 => ?_)
  · rw [if_pos c2] at hM
    refine Ev.steps (B := (37, [(0, .ref 75), (1, .int a1)], [.ref 75], h1)) 1 rfl ?_
    obtain ⟨v2, e3, hM⟩ := am_oS hM
    refine Ev.call (q := (mr_X9_drunkNow, [.ref 75], [])) rfl (E_X9_drunkNow_75 n h1 v2 e3) ?_
    obtain ⟨rfl, rfl⟩ := am_sp hM
    exact Ev.ret rfl
  · rw [if_neg c2] at hM
    refine Ev.sw (fun c4 => ?_) (fun c4 => ?_)
    · rw [if_pos c4] at hM
      refine Ev.steps (B := (43, [(0, .ref 75), (1, .int a1)], [.int 3, .ref 75], h1)) 2 rfl ?_
      obtain ⟨v3, e5, hM⟩ := am_oS hM
      refine Ev.call (q := (mr_X9_manyOf, [.ref 75, .int 3], [])) rfl (E_X9_manyOf_75 n 3 h1 v3 e5) ?_
      obtain ⟨rfl, rfl⟩ := am_sp hM
      exact Ev.ret rfl
    · rw [if_neg c4] at hM
      refine Ev.sw (fun c6 => ?_) (fun c6 => ?_)
      · rw [if_pos c6] at hM
        refine Ev.steps (B := (49, [(0, .ref 75), (1, .int a1)], [.int 4, .ref 75], h1)) 2 rfl ?_
        obtain ⟨v4, e7, hM⟩ := am_oS hM
        refine Ev.call (q := (mr_X9_manyOf, [.ref 75, .int 4], [])) rfl (E_X9_manyOf_75 n 4 h1 v4 e7) ?_
        obtain ⟨rfl, rfl⟩ := am_sp hM
        exact Ev.ret rfl
      · rw [if_neg c6] at hM
        refine Ev.sw (fun c8 => ?_) (fun c8 => ?_)
        · rw [if_pos c8] at hM
          refine Ev.steps (B := (57, [(0, .ref 75), (1, .int a1)], [.int (h1.1 75 26)], h1)) 2 rfl ?_
          obtain ⟨rfl, rfl⟩ := am_sp hM
          exact Ev.ret rfl
        · rw [if_neg c8] at hM
          refine Ev.steps (B := (62, [(0, .ref 75), (1, .int a1)], [.int (h1.1 75 27)], h1)) 2 rfl ?_
          obtain ⟨rfl, rfl⟩ := am_sp hM
          exact Ev.ret rfl
def M_X9_sum (n : Nat) (a1 : Int32) (h : AH) : Option (Int32 × AH) :=
  if (M_X9_in a1 0 4) = 0 then
    some ((-2), h)
  else
    am_b (M_X9_sumOf n a1 h) fun v2 h1 =>
    some (v2, h1)
set_option maxRecDepth 10000 in
theorem E_X9_sum_75 (n : Nat) (a1 : Int32) (h : AH) (vR : Int32) (hR : AH) (hM : M_X9_sum n a1 h = some (vR, hR)) : Ev none mr_X9_sum (0, [(0, .ref 75), (1, .int a1)], [], h) (some (.int vR)) hR := by
  unfold M_X9_sum at hM
  refine Ev.steps (B := (3, [(0, .ref 75), (1, .int a1)], [.int 4, .int 0, .int a1], h)) 3 rfl ?_
  refine Ev.call (q := (mr_X9_in, [.int a1, .int 0, .int 4], [])) rfl (E_X9_in a1 0 4 h) ?_
  refine Ev.br (b := decide ((M_X9_in a1 0 4) = 0)) rfl (fun c1 => ?_) (fun c1 => ?_)
  · have c1 := of_decide_eq_true c1
    rw [if_pos c1] at hM
    refine Ev.steps (B := (19, [(0, .ref 75), (1, .int a1)], [.int (-2)], h)) 1 rfl ?_
    obtain ⟨rfl, rfl⟩ := am_sp hM
    exact Ev.ret rfl
  · have c1 := of_decide_eq_false c1
    rw [if_neg c1] at hM
    refine Ev.steps (B := (11, [(0, .ref 75), (1, .int a1)], [.int a1, .ref 75], h)) 2 rfl ?_
    obtain ⟨v2, h1, e2, hM⟩ := am_bS hM
    refine Ev.call (q := (mr_X9_sumOf, [.ref 75, .int a1], [])) rfl (E_X9_sumOf_75 n a1 h v2 h1 e2) ?_
    refine Ev.steps (B := (19, [(0, .ref 75), (1, .int a1)], [.int v2], h1)) 1 rfl ?_
    obtain ⟨rfl, rfl⟩ := am_sp hM
    exact Ev.ret rfl
def L_X8_first_7 (n : Nat) : Nat → Int32 → AH → Option (Int32 × AH)
  | 0, _, _ => none
  | m + 1, x2, h =>
    if 24 ≤ x2 then
      some ((-1), h)
    else
      if (((h.1 22 10) >>> (x2 &&& 31)) &&& 1) = 1 then
        some (x2, h)
      else
        L_X8_first_7 n m (x2 + 1) h
set_option maxRecDepth 10000 in
theorem E_L_X8_first_7 (n : Nat) (vR : Int32) (hR : AH) : ∀ (m : Nat) (x2 : Int32) (h : AH), L_X8_first_7 n m x2 h = some (vR, hR) → Ev none mr_X8_first (7, [(1, .ref 22), (2, .int x2)], [], h) (some (.int vR)) hR := by
  intro m
  induction m with
  | zero =>
    intro x2 h hM
    exact (am_no hM).elim
  | succ m ih =>
    intro x2 h hM
    rw [L_X8_first_7] at hM
    refine Ev.steps (B := (10, [(1, .ref 22), (2, .int x2)], [.int 24, .int x2], h)) 2 rfl ?_
    refine Ev.br (b := decide (24 ≤ x2)) rfl (fun c1 => ?_) (fun c1 => ?_)
    · have c1 := of_decide_eq_true c1
      rw [if_pos c1] at hM
      refine Ev.steps (B := (34, [(1, .ref 22), (2, .int x2)], [.int (-1)], h)) 1 rfl ?_
      obtain ⟨rfl, rfl⟩ := am_sp hM
      exact Ev.ret rfl
    · have c1 := of_decide_eq_false c1
      rw [if_neg c1] at hM
      refine Ev.steps (B := (22, [(1, .ref 22), (2, .int x2)], [.int 1, .int (((h.1 22 10) >>> (x2 &&& 31)) &&& 1)], h)) 7 rfl ?_
      refine Ev.br (b := decide (¬ (((h.1 22 10) >>> (x2 &&& 31)) &&& 1) = 1)) rfl (fun c2 => ?_) (fun c2 => ?_)
      · have c2 := of_decide_eq_true c2
        rw [if_neg c2] at hM
        refine Ev.steps (B := (7, [(2, .int (x2 + 1)), (1, .ref 22)], [], h)) 2 rfl ?_
        refine Ev.lv (lv := [(1, .ref 22), (2, .int (x2 + 1))]) ⟨rfl, rfl, trivial⟩ rfl rfl ?_
        exact ih (x2 + 1) h hM
      · have c2 := Decidable.of_not_not (of_decide_eq_false c2)
        rw [if_pos c2] at hM
        refine Ev.steps (B := (26, [(1, .ref 22), (2, .int x2)], [.int x2], h)) 1 rfl ?_
        obtain ⟨rfl, rfl⟩ := am_sp hM
        exact Ev.ret rfl
def M_X8_first (n : Nat) (h : AH) : Option (Int32 × AH) :=
  am_v (M_X8_toldEvening n h) fun h1 =>
  L_X8_first_7 n n 0 h1
set_option maxRecDepth 10000 in
theorem E_X8_first_0 (n : Nat) (h : AH) (vR : Int32) (hR : AH) (hM : M_X8_first n h = some (vR, hR)) : Ev none mr_X8_first (0, [(0, .ref 0)], [], h) (some (.int vR)) hR := by
  unfold M_X8_first at hM
  refine Ev.steps (B := (1, [(0, .ref 0)], [.ref 0], h)) 1 rfl ?_
  obtain ⟨h1, e1, hM⟩ := am_vS hM
  refine Ev.call (q := (mr_X8_toldEvening, [.ref 0], [])) rfl (E_X8_toldEvening_0 n h h1 e1) ?_
  refine Ev.steps (B := (7, [(2, .int 0), (1, .ref 22), (0, .ref 0)], [], h1)) 3 rfl ?_
  refine Ev.lv (lv := [(1, .ref 22), (2, .int 0)]) ⟨rfl, rfl, trivial⟩ rfl rfl ?_
  exact E_L_X8_first_7 n vR hR n 0 h1 hM
def M_X9_firstOf (n : Nat) (h : AH) : Option (Int32 × AH) :=
  am_v (M_X9_runsTold n h) fun h1 =>
  some ((h1.1 75 28), h1)
set_option maxRecDepth 10000 in
theorem E_X9_firstOf_75 (n : Nat) (h : AH) (vR : Int32) (hR : AH) (hM : M_X9_firstOf n h = some (vR, hR)) : Ev none mr_X9_firstOf (0, [(0, .ref 75)], [], h) (some (.int vR)) hR := by
  unfold M_X9_firstOf at hM
  refine Ev.steps (B := (1, [(0, .ref 75)], [.ref 75], h)) 1 rfl ?_
  obtain ⟨h1, e1, hM⟩ := am_vS hM
  refine Ev.call (q := (mr_X9_runsTold, [.ref 75], [])) rfl (E_X9_runsTold_75 n h h1 e1) ?_
  refine Ev.steps (B := (8, [(0, .ref 75)], [.int (h1.1 75 28)], h1)) 2 rfl ?_
  obtain ⟨rfl, rfl⟩ := am_sp hM
  exact Ev.ret rfl
def M_X9_first (n : Nat) (h : AH) : Option (Int32 × AH) :=
  am_b (M_X9_firstOf n h) fun v2 h1 =>
  some (v2, h1)
set_option maxRecDepth 10000 in
theorem E_X9_first_75 (n : Nat) (h : AH) (vR : Int32) (hR : AH) (hM : M_X9_first n h = some (vR, hR)) : Ev none mr_X9_first (0, [(0, .ref 75)], [], h) (some (.int vR)) hR := by
  unfold M_X9_first at hM
  refine Ev.steps (B := (1, [(0, .ref 75)], [.ref 75], h)) 1 rfl ?_
  obtain ⟨v2, h1, e1, hM⟩ := am_bS hM
  refine Ev.call (q := (mr_X9_firstOf, [.ref 75], [])) rfl (E_X9_firstOf_75 n h v2 h1 e1) ?_
  obtain ⟨rfl, rfl⟩ := am_sp hM
  exact Ev.ret rfl
def L_X8_hottest_21 (n : Nat) : Nat → Int32 → Int32 → Int32 → AH → Option (Int32 × AH)
  | 0, _, _, _, _ => none
  | m + 1, x1, x3, x4, h =>
    if 24 ≤ x4 then
      if x1 = 0 then
        some (x3, h)
      else
        bif (am_in x3 24) then
          some (((h.2.1 23) (Int32.toNatClampNeg x3)), h)
        else none
    else
      bif (am_in x4 24) then
        bif (am_in x3 24) then
          if ((h.2.1 23) (Int32.toNatClampNeg x4)) ≤ ((h.2.1 23) (Int32.toNatClampNeg x3)) then
            L_X8_hottest_21 n m x1 x3 (x4 + 1) h
          else
            L_X8_hottest_21 n m x1 x4 (x4 + 1) h
        else none
      else none
set_option maxRecDepth 10000 in
theorem E_L_X8_hottest_21 (n : Nat) (vR : Int32) (hR : AH) : ∀ (m : Nat) (x1 : Int32) (x3 : Int32) (x4 : Int32) (h : AH), L_X8_hottest_21 n m x1 x3 x4 h = some (vR, hR) → Ev none mr_X8_hottest (21, [(1, .int x1), (2, .ref 22), (3, .int x3), (4, .int x4)], [], h) (some (.int vR)) hR := by
  intro m
  induction m with
  | zero =>
    intro x1 x3 x4 h hM
    exact (am_no hM).elim
  | succ m ih =>
    intro x1 x3 x4 h hM
    rw [L_X8_hottest_21] at hM
    refine Ev.steps (B := (25, [(1, .int x1), (2, .ref 22), (3, .int x3), (4, .int x4)], [.int 24, .int x4], h)) 2 rfl ?_
    refine Ev.br (b := decide (24 ≤ x4)) rfl (fun c1 => ?_) (fun c1 => ?_)
    · have c1 := of_decide_eq_true c1
      rw [if_pos c1] at hM
      refine Ev.steps (B := (54, [(1, .int x1), (2, .ref 22), (3, .int x3), (4, .int x4)], [.int x1], h)) 1 rfl ?_
      refine Ev.br (b := decide (¬ x1 = 0)) rfl (fun c2 => ?_) (fun c2 => ?_)
      · have c2 := of_decide_eq_true c2
        rw [if_neg c2] at hM
        refine Ev.steps (B := (66, [(1, .int x1), (2, .ref 22), (3, .int x3), (4, .int x4)], [.int x3, .ref 23], h)) 3 rfl ?_
        obtain ⟨g3, hM⟩ := am_gS hM
        refine Ev.g (B := (67, [(1, .int x1), (2, .ref 22), (3, .int x3), (4, .int x4)], [.int ((h.2.1 23) (Int32.toNatClampNeg x3))], h)) g3 rfl ?_
        obtain ⟨rfl, rfl⟩ := am_sp hM
        exact Ev.ret rfl
      · have c2 := Decidable.of_not_not (of_decide_eq_false c2)
        rw [if_pos c2] at hM
        refine Ev.steps (B := (67, [(1, .int x1), (2, .ref 22), (3, .int x3), (4, .int x4)], [.int x3], h)) 2 rfl ?_
        obtain ⟨rfl, rfl⟩ := am_sp hM
        exact Ev.ret rfl
    · have c1 := of_decide_eq_false c1
      rw [if_neg c1] at hM
      refine Ev.steps (B := (34, [(1, .int x1), (2, .ref 22), (3, .int x3), (4, .int x4)], [.int x4, .ref 23], h)) 3 rfl ?_
      obtain ⟨g4, hM⟩ := am_gS hM
      refine Ev.g (B := (35, [(1, .int x1), (2, .ref 22), (3, .int x3), (4, .int x4)], [.int ((h.2.1 23) (Int32.toNatClampNeg x4))], h)) g4 rfl ?_
      refine Ev.steps (B := (40, [(1, .int x1), (2, .ref 22), (3, .int x3), (4, .int x4)], [.int x3, .ref 23, .int ((h.2.1 23) (Int32.toNatClampNeg x4))], h)) 3 rfl ?_
      obtain ⟨g5, hM⟩ := am_gS hM
      refine Ev.g (B := (41, [(1, .int x1), (2, .ref 22), (3, .int x3), (4, .int x4)], [.int ((h.2.1 23) (Int32.toNatClampNeg x3)), .int ((h.2.1 23) (Int32.toNatClampNeg x4))], h)) g5 rfl ?_
      refine Ev.br (b := decide (((h.2.1 23) (Int32.toNatClampNeg x4)) ≤ ((h.2.1 23) (Int32.toNatClampNeg x3)))) rfl (fun c6 => ?_) (fun c6 => ?_)
      · have c6 := of_decide_eq_true c6
        rw [if_pos c6] at hM
        refine Ev.steps (B := (21, [(4, .int (x4 + 1)), (1, .int x1), (2, .ref 22), (3, .int x3)], [], h)) 2 rfl ?_
        refine Ev.lv (lv := [(1, .int x1), (2, .ref 22), (3, .int x3), (4, .int (x4 + 1))]) ⟨rfl, rfl, rfl, rfl, trivial⟩ rfl rfl ?_
        exact ih x1 x3 (x4 + 1) h hM
      · have c6 := of_decide_eq_false c6
        rw [if_neg c6] at hM
        refine Ev.steps (B := (21, [(4, .int (x4 + 1)), (3, .int x4), (1, .int x1), (2, .ref 22)], [], h)) 4 rfl ?_
        refine Ev.lv (lv := [(1, .int x1), (2, .ref 22), (3, .int x4), (4, .int (x4 + 1))]) ⟨rfl, rfl, rfl, rfl, trivial⟩ rfl rfl ?_
        exact ih x1 x4 (x4 + 1) h hM
def M_X8_hottest (n : Nat) (a1 : Int32) (h : AH) : Option (Int32 × AH) :=
  if (M_X8_within a1 1) = 0 then
    some ((-2), h)
  else
    am_v (M_X8_toldEvening n h) fun h1 =>
    L_X8_hottest_21 n n a1 0 1 h1
set_option maxRecDepth 10000 in
theorem E_X8_hottest_0 (n : Nat) (a1 : Int32) (h : AH) (vR : Int32) (hR : AH) (hM : M_X8_hottest n a1 h = some (vR, hR)) : Ev none mr_X8_hottest (0, [(0, .ref 0), (1, .int a1)], [], h) (some (.int vR)) hR := by
  unfold M_X8_hottest at hM
  refine Ev.steps (B := (2, [(0, .ref 0), (1, .int a1)], [.int 1, .int a1], h)) 2 rfl ?_
  refine Ev.call (q := (mr_X8_within, [.int a1, .int 1], [])) rfl (E_X8_within a1 1 h) ?_
  refine Ev.br (b := decide (¬ (M_X8_within a1 1) = 0)) rfl (fun c1 => ?_) (fun c1 => ?_)
  · have c1 := of_decide_eq_true c1
    rw [if_neg c1] at hM
    refine Ev.steps (B := (12, [(0, .ref 0), (1, .int a1)], [.ref 0], h)) 1 rfl ?_
    obtain ⟨h1, e2, hM⟩ := am_vS hM
    refine Ev.call (q := (mr_X8_toldEvening, [.ref 0], [])) rfl (E_X8_toldEvening_0 n h h1 e2) ?_
    refine Ev.steps (B := (21, [(4, .int 1), (3, .int 0), (2, .ref 22), (0, .ref 0), (1, .int a1)], [], h1)) 5 rfl ?_
    refine Ev.lv (lv := [(1, .int a1), (2, .ref 22), (3, .int 0), (4, .int 1)]) ⟨rfl, rfl, rfl, rfl, trivial⟩ rfl rfl ?_
    exact E_L_X8_hottest_21 n vR hR n a1 0 1 h1 hM
  · have c1 := Decidable.of_not_not (of_decide_eq_false c1)
    rw [if_pos c1] at hM
    refine Ev.steps (B := (10, [(0, .ref 0), (1, .int a1)], [.int (-2)], h)) 1 rfl ?_
    obtain ⟨rfl, rfl⟩ := am_sp hM
    exact Ev.ret rfl
def L_X9_hottestOf_8 (n : Nat) : Nat → Int32 → Int32 → Int32 → AH → Option (Int32 × AH)
  | 0, _, _, _, _ => none
  | m + 1, x1, x2, x3, h =>
    if 24 ≤ x3 then
      if x1 = 0 then
        some (x2, h)
      else
        bif (am_in (6 * x2) 144) then
          some (((h.2.1 96) (Int32.toNatClampNeg (6 * x2))), h)
        else none
    else
      bif (am_in (6 * x3) 144) then
        bif (am_in (6 * x2) 144) then
          if ((h.2.1 96) (Int32.toNatClampNeg (6 * x3))) ≤ ((h.2.1 96) (Int32.toNatClampNeg (6 * x2))) then
            L_X9_hottestOf_8 n m x1 x2 (x3 + 1) h
          else
            L_X9_hottestOf_8 n m x1 x3 (x3 + 1) h
        else none
      else none
set_option maxRecDepth 10000 in
theorem E_L_X9_hottestOf_8 (n : Nat) (vR : Int32) (hR : AH) : ∀ (m : Nat) (x1 : Int32) (x2 : Int32) (x3 : Int32) (h : AH), L_X9_hottestOf_8 n m x1 x2 x3 h = some (vR, hR) → Ev none mr_X9_hottestOf (8, [(0, .ref 75), (1, .int x1), (2, .int x2), (3, .int x3)], [], h) (some (.int vR)) hR := by
  intro m
  induction m with
  | zero =>
    intro x1 x2 x3 h hM
    exact (am_no hM).elim
  | succ m ih =>
    intro x1 x2 x3 h hM
    rw [L_X9_hottestOf_8] at hM
    refine Ev.steps (B := (11, [(0, .ref 75), (1, .int x1), (2, .int x2), (3, .int x3)], [.int 24, .int x3], h)) 2 rfl ?_
    refine Ev.br (b := decide (24 ≤ x3)) rfl (fun c1 => ?_) (fun c1 => ?_)
    · have c1 := of_decide_eq_true c1
      rw [if_pos c1] at hM
      refine Ev.steps (B := (48, [(0, .ref 75), (1, .int x1), (2, .int x2), (3, .int x3)], [.int x1], h)) 1 rfl ?_
      refine Ev.br (b := decide (¬ x1 = 0)) rfl (fun c2 => ?_) (fun c2 => ?_)
      · have c2 := of_decide_eq_true c2
        rw [if_neg c2] at hM
        refine Ev.steps (B := (63, [(0, .ref 75), (1, .int x1), (2, .int x2), (3, .int x3)], [.int (6 * x2), .ref 96], h)) 5 rfl ?_
        obtain ⟨g3, hM⟩ := am_gS hM
        refine Ev.g (B := (64, [(0, .ref 75), (1, .int x1), (2, .int x2), (3, .int x3)], [.int ((h.2.1 96) (Int32.toNatClampNeg (6 * x2)))], h)) g3 rfl ?_
        obtain ⟨rfl, rfl⟩ := am_sp hM
        exact Ev.ret rfl
      · have c2 := Decidable.of_not_not (of_decide_eq_false c2)
        rw [if_pos c2] at hM
        refine Ev.steps (B := (64, [(0, .ref 75), (1, .int x1), (2, .int x2), (3, .int x3)], [.int x2], h)) 2 rfl ?_
        obtain ⟨rfl, rfl⟩ := am_sp hM
        exact Ev.ret rfl
    · have c1 := of_decide_eq_false c1
      rw [if_neg c1] at hM
      refine Ev.steps (B := (22, [(0, .ref 75), (1, .int x1), (2, .int x2), (3, .int x3)], [.int (6 * x3), .ref 96], h)) 5 rfl ?_
      obtain ⟨g4, hM⟩ := am_gS hM
      refine Ev.g (B := (23, [(0, .ref 75), (1, .int x1), (2, .int x2), (3, .int x3)], [.int ((h.2.1 96) (Int32.toNatClampNeg (6 * x3)))], h)) g4 rfl ?_
      refine Ev.steps (B := (31, [(0, .ref 75), (1, .int x1), (2, .int x2), (3, .int x3)], [.int (6 * x2), .ref 96, .int ((h.2.1 96) (Int32.toNatClampNeg (6 * x3)))], h)) 5 rfl ?_
      obtain ⟨g5, hM⟩ := am_gS hM
      refine Ev.g (B := (32, [(0, .ref 75), (1, .int x1), (2, .int x2), (3, .int x3)], [.int ((h.2.1 96) (Int32.toNatClampNeg (6 * x2))), .int ((h.2.1 96) (Int32.toNatClampNeg (6 * x3)))], h)) g5 rfl ?_
      refine Ev.br (b := decide (((h.2.1 96) (Int32.toNatClampNeg (6 * x3))) ≤ ((h.2.1 96) (Int32.toNatClampNeg (6 * x2))))) rfl (fun c6 => ?_) (fun c6 => ?_)
      · have c6 := of_decide_eq_true c6
        rw [if_pos c6] at hM
        refine Ev.steps (B := (8, [(3, .int (x3 + 1)), (2, .int x2), (0, .ref 75), (1, .int x1)], [], h)) 4 rfl ?_
        refine Ev.lv (lv := [(0, .ref 75), (1, .int x1), (2, .int x2), (3, .int (x3 + 1))]) ⟨rfl, rfl, rfl, rfl, trivial⟩ rfl rfl ?_
        exact ih x1 x2 (x3 + 1) h hM
      · have c6 := of_decide_eq_false c6
        rw [if_neg c6] at hM
        refine Ev.steps (B := (8, [(3, .int (x3 + 1)), (2, .int x3), (0, .ref 75), (1, .int x1)], [], h)) 5 rfl ?_
        refine Ev.lv (lv := [(0, .ref 75), (1, .int x1), (2, .int x3), (3, .int (x3 + 1))]) ⟨rfl, rfl, rfl, rfl, trivial⟩ rfl rfl ?_
        exact ih x1 x3 (x3 + 1) h hM
