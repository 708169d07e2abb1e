def B_X2_pass_120 (n : Nat) (k30 : Int32 → AH → Option AH) (r0 : Nat) (r1 : Nat) (x2 : Int32) (x3 : Int32) (y0 : Int32) (y1 : Int32) (h : AH) : Option AH :=
  bif (am_in y1 24) then
    am_v (M_X0_losePatience n (r0 + 10) x2 (am_sa h (r0 + 5) (upd (h.2.1 (r0 + 5)) (Int32.toNatClampNeg y1) y0))) fun h1 =>
    if x3 = 0 then
      B_X2_pass_145 n k30 r0 r1 x2 h1
    else
      B_X2_pass_145 n k30 r0 r1 x2 (am_sf h1 r0 10 ((h1.1 r0 10) ||| (1 <<< (x2 &&& 31))))
  else none
set_option maxRecDepth 10000 in
theorem E_B_X2_pass_120_22_21 (n : Nat) (k30 : Int32 → AH → Option AH) (hR : AH) (hk30 : ∀ (x2 : Int32) (h0 : AH), k30 x2 h0 = some hR → Ev none mr_X2_pass (30, [(0, .ref 22), (1, .ref 21), (2, .int x2)], [], h0) none hR) (x2 : Int32) (x3 : Int32) (y0 : Int32) (y1 : Int32) (h : AH) (hM : B_X2_pass_120 n k30 22 21 x2 x3 y0 y1 h = some hR) : Ev none mr_X2_pass (120, [(0, .ref 22), (1, .ref 21), (2, .int x2), (3, .int x3)], [.int y0, .int y1, .ref (22 + 5)], h) none hR := by
  unfold B_X2_pass_120 at hM
  obtain ⟨g1, hM⟩ := am_gS hM
  refine Ev.g (B := (121, [(0, .ref 22), (1, .ref 21), (2, .int x2), (3, .int x3)], [], (am_sa h (22 + 5) (upd (h.2.1 (22 + 5)) (Int32.toNatClampNeg y1) y0)))) g1 rfl ?_
  refine Ev.steps (B := (126, [(0, .ref 22), (1, .ref 21), (2, .int x2), (3, .int x3)], [.int x2, .ref (22 + 10)], (am_sa h (22 + 5) (upd (h.2.1 (22 + 5)) (Int32.toNatClampNeg y1) y0)))) 3 rfl ?_
  obtain ⟨h1, e2, hM⟩ := am_vS hM
  refine Ev.call (q := (mr_X0_losePatience, [.ref (22 + 10), .int x2], [])) rfl (E_X0_losePatience_32 n x2 (am_sa h (22 + 5) (upd (h.2.1 (22 + 5)) (Int32.toNatClampNeg y1) y0)) h1 e2) ?_
  refine Ev.steps (B := (130, [(0, .ref 22), (1, .ref 21), (2, .int x2), (3, .int x3)], [.int x3], h1)) 1 rfl ?_
  refine Ev.br (b := decide (x3 = 0)) rfl (fun c3 => ?_) (fun c3 => ?_)
  · have c3 := of_decide_eq_true c3
    rw [if_pos c3] at hM
    refine Ev.lv (lv := [(0, .ref 22), (1, .ref 21), (2, .int x2)]) ⟨rfl, rfl, rfl, trivial⟩ rfl rfl ?_
    exact E_B_X2_pass_145_22_21 n k30 hR hk30 x2 h1 hM
  · have c3 := of_decide_eq_false c3
    rw [if_neg c3] at hM
    refine Ev.steps (B := (145, [(0, .ref 22), (1, .ref 21), (2, .int x2), (3, .int x3)], [], (am_sf h1 22 10 ((h1.1 22 10) ||| (1 <<< (x2 &&& 31)))))) 8 rfl ?_
    refine Ev.lv (lv := [(0, .ref 22), (1, .ref 21), (2, .int x2)]) ⟨rfl, rfl, rfl, trivial⟩ rfl rfl ?_
    exact E_B_X2_pass_145_22_21 n k30 hR hk30 x2 (am_sf h1 22 10 ((h1.1 22 10) ||| (1 <<< (x2 &&& 31)))) hM
def B_X2_pass_58 (n : Nat) (k30 : Int32 → AH → Option AH) (r0 : Nat) (r1 : Nat) (x2 : Int32) (h : AH) : Option AH :=
  bif (am_in x2 24) then
    am_v (M_X3_warm (r0 + 9) ((h.2.1 (r0 + 4)) (Int32.toNatClampNeg x2)) h) fun h1 =>
    am_v (M_X0_lineUp n (r0 + 10) (pl_g r1) x2 h1) fun h2 =>
    if (M_X3_boils (r0 + 9) h1) = 0 then
      B_X2_pass_120 n k30 r0 r1 x2 (M_X3_boils (r0 + 9) h1) (-1) x2 h2
    else
      am_b (M_X0_serve n (r0 + 10) (pl_g r1) (r0 + 9) x2 h2) fun v4 h3 =>
      B_X2_pass_120 n k30 r0 r1 x2 (M_X3_boils (r0 + 9) h1) v4 x2 h3
  else none
set_option maxRecDepth 10000 in
theorem E_B_X2_pass_58_22_21 (n : Nat) (k30 : Int32 → AH → Option AH) (hR : AH) (hk30 : ∀ (x2 : Int32) (h0 : AH), k30 x2 h0 = some hR → Ev none mr_X2_pass (30, [(0, .ref 22), (1, .ref 21), (2, .int x2)], [], h0) none hR) (x2 : Int32) (h : AH) (hM : B_X2_pass_58 n k30 22 21 x2 h = some hR) : Ev none mr_X2_pass (58, [(0, .ref 22), (1, .ref 21), (2, .int x2)], [], h) none hR := by
  unfold B_X2_pass_58 at hM
  refine Ev.steps (B := (67, [(0, .ref 22), (1, .ref 21), (2, .int x2)], [.int x2, .ref (22 + 4), .ref (22 + 9)], h)) 5 rfl ?_
  obtain ⟨g1, hM⟩ := am_gS hM
  refine Ev.g (B := (68, [(0, .ref 22), (1, .ref 21), (2, .int x2)], [.int ((h.2.1 (22 + 4)) (Int32.toNatClampNeg x2)), .ref (22 + 9)], h)) g1 rfl ?_
  obtain ⟨h1, e2, hM⟩ := am_vS hM
  refine Ev.call (q := (mr_X3_warm, [.ref (22 + 9), .int ((h.2.1 (22 + 4)) (Int32.toNatClampNeg x2))], [])) rfl (E_X3_warm_31 ((h.2.1 (22 + 4)) (Int32.toNatClampNeg x2)) h h1 e2) ?_
  refine Ev.steps (B := (75, [(0, .ref 22), (1, .ref 21), (2, .int x2)], [.ref (22 + 9)], h1)) 2 rfl ?_
  refine Ev.call (q := (mr_X3_boils, [.ref (22 + 9)], [])) rfl (E_X3_boils_31 h1) ?_
  refine Ev.steps (B := (88, [(3, .int (M_X3_boils (22 + 9) h1)), (0, .ref 22), (1, .ref 21), (2, .int x2)], [.int x2, .ref (pl_g 21), .ref (22 + 10)], h1)) 6 rfl ?_
  obtain ⟨h2, e3, hM⟩ := am_vS hM
  refine Ev.call (q := (mr_X0_lineUp, [.ref (22 + 10), .ref (pl_g 21), .int x2], [])) rfl (E_X0_lineUp_32_8 n x2 h1 h2 e3) ?_
  refine Ev.steps (B := (97, [(3, .int (M_X3_boils (22 + 9) h1)), (0, .ref 22), (1, .ref 21), (2, .int x2)], [.int (M_X3_boils (22 + 9) h1), .int x2, .ref (22 + 5)], h2)) 4 rfl ?_
  refine Ev.br (b := decide ((M_X3_boils (22 + 9) h1) = 0)) rfl (fun c4 => ?_) (fun c4 => ?_)
  · have c4 := of_decide_eq_true c4
    rw [if_pos c4] at hM
    refine Ev.steps (B := (120, [(3, .int (M_X3_boils (22 + 9) h1)), (0, .ref 22), (1, .ref 21), (2, .int x2)], [.int (-1), .int x2, .ref (22 + 5)], h2)) 1 rfl ?_
    refine Ev.lv (lv := [(0, .ref 22), (1, .ref 21), (2, .int x2), (3, .int (M_X3_boils (22 + 9) h1))]) ⟨rfl, rfl, rfl, rfl, trivial⟩ rfl rfl ?_
    exact E_B_X2_pass_120_22_21 n k30 hR hk30 x2 (M_X3_boils (22 + 9) h1) (-1) x2 h2 hM
  · have c4 := of_decide_eq_false c4
    rw [if_neg c4] at hM
    refine Ev.steps (B := (113, [(3, .int (M_X3_boils (22 + 9) h1)), (0, .ref 22), (1, .ref 21), (2, .int x2)], [.int x2, .ref (22 + 9), .ref (pl_g 21), .ref (22 + 10), .int x2, .ref (22 + 5)], h2)) 7 rfl ?_
    obtain ⟨v4, h3, e5, hM⟩ := am_bS hM
    refine Ev.call (q := (mr_X0_serve, [.ref (22 + 10), .ref (pl_g 21), .ref (22 + 9), .int x2], [.int x2, .ref (22 + 5)])) rfl (E_X0_serve_32_8_31 n x2 h2 v4 h3 e5) ?_
    refine Ev.steps (B := (120, [(3, .int (M_X3_boils (22 + 9) h1)), (0, .ref 22), (1, .ref 21), (2, .int x2)], [.int v4, .int x2, .ref (22 + 5)], h3)) 1 rfl ?_
    refine Ev.lv (lv := [(0, .ref 22), (1, .ref 21), (2, .int x2), (3, .int (M_X3_boils (22 + 9) h1))]) ⟨rfl, rfl, rfl, rfl, trivial⟩ rfl rfl ?_
    exact E_B_X2_pass_120_22_21 n k30 hR hk30 x2 (M_X3_boils (22 + 9) h1) v4 x2 h3 hM
def L_X2_pass_30 (n : Nat) (r0 : Nat) (r1 : Nat) : Nat → Int32 → AH → Option AH
  | 0, _, _ => none
  | m + 1, x2, h =>
    if 24 ≤ x2 then
      some h
    else
      am_b (M_X3_meet n (r0 + 9) r1 x2 h) fun v2 h1 =>
      if v2 = 0 then
        B_X2_pass_58 n (L_X2_pass_30 n r0 r1 m) r0 r1 x2 h1
      else
        bif (am_in x2 24) then
          bif (am_in x2 24) then
            B_X2_pass_58 n (L_X2_pass_30 n r0 r1 m) r0 r1 x2 (am_sa h1 (r0 + 4) (upd (h1.2.1 (r0 + 4)) (Int32.toNatClampNeg x2) (((h1.2.1 (r0 + 4)) (Int32.toNatClampNeg x2)) * 2)))
          else none
        else none
set_option maxRecDepth 10000 in
theorem E_L_X2_pass_30_22_21 (n : Nat) (hR : AH) : ∀ (m : Nat) (x2 : Int32) (h : AH), L_X2_pass_30 n 22 21 m x2 h = some hR → Ev none mr_X2_pass (30, [(0, .ref 22), (1, .ref 21), (2, .int x2)], [], h) none hR := by
  intro m
  induction m with
  | zero =>
    intro x2 h hM
    exact (am_no hM).elim
  | succ m ih =>
    intro x2 h hM
    rw [L_X2_pass_30] at hM
    refine Ev.steps (B := (33, [(0, .ref 22), (1, .ref 21), (2, .int x2)], [.int 24, .int x2], h)) 2 rfl ?_
    refine Ev.br (b := decide (24 ≤ x2)) rfl (fun c1 => ?_) (fun c1 => ?_)
    · have c1 := of_decide_eq_true c1
      rw [if_pos c1] at hM
      obtain rfl := am_s1 hM
      exact Ev.ret rfl
    · have c1 := of_decide_eq_false c1
      rw [if_neg c1] at hM
      refine Ev.steps (B := (42, [(0, .ref 22), (1, .ref 21), (2, .int x2)], [.int x2, .ref 21, .ref (22 + 9)], h)) 4 rfl ?_
      obtain ⟨v2, h1, e2, hM⟩ := am_bS hM
      refine Ev.call (q := (mr_X3_meet, [.ref (22 + 9), .ref 21, .int x2], [])) rfl (E_X3_meet_31_21 n x2 h v2 h1 e2) ?_
      refine Ev.br (b := decide (v2 = 0)) rfl (fun c3 => ?_) (fun c3 => ?_)
      · have c3 := of_decide_eq_true c3
        rw [if_pos c3] at hM
        exact E_B_X2_pass_58_22_21 n (L_X2_pass_30 n 22 21 m) hR ih x2 h1 hM
      · have c3 := of_decide_eq_false c3
        rw [if_neg c3] at hM
        refine Ev.steps (B := (54, [(0, .ref 22), (1, .ref 21), (2, .int x2)], [.int x2, .ref (22 + 4), .int x2, .ref (22 + 4)], h1)) 4 rfl ?_
        obtain ⟨g4, hM⟩ := am_gS hM
        refine Ev.g (B := (55, [(0, .ref 22), (1, .ref 21), (2, .int x2)], [.int ((h1.2.1 (22 + 4)) (Int32.toNatClampNeg x2)), .int x2, .ref (22 + 4)], h1)) g4 rfl ?_
        refine Ev.steps (B := (57, [(0, .ref 22), (1, .ref 21), (2, .int x2)], [.int (((h1.2.1 (22 + 4)) (Int32.toNatClampNeg x2)) * 2), .int x2, .ref (22 + 4)], h1)) 2 rfl ?_
        obtain ⟨g5, hM⟩ := am_gS hM
        refine Ev.g (B := (58, [(0, .ref 22), (1, .ref 21), (2, .int x2)], [], (am_sa h1 (22 + 4) (upd (h1.2.1 (22 + 4)) (Int32.toNatClampNeg x2) (((h1.2.1 (22 + 4)) (Int32.toNatClampNeg x2)) * 2))))) g5 rfl ?_
        exact E_B_X2_pass_58_22_21 n (L_X2_pass_30 n 22 21 m) hR ih x2 (am_sa h1 (22 + 4) (upd (h1.2.1 (22 + 4)) (Int32.toNatClampNeg x2) (((h1.2.1 (22 + 4)) (Int32.toNatClampNeg x2)) * 2))) hM
def M_X2_pass (n : Nat) (r0 : Nat) (r1 : Nat) (h : AH) : Option AH :=
  am_v (M_X3_begin (r0 + 9) r1 h) fun h1 =>
  am_v (M_X0_begin n (r0 + 10) h1) fun h2 =>
  am_v (M_X2_light n r0 (pl_f r1) (am_sf h2 r0 10 0)) fun h3 =>
  L_X2_pass_30 n r0 r1 n 0 h3
set_option maxRecDepth 10000 in
theorem E_X2_pass_22_21 (n : Nat) (h : AH) (hR : AH) (hM : M_X2_pass n 22 21 h = some hR) : Ev none mr_X2_pass (0, [(0, .ref 22), (1, .ref 21)], [], h) none hR := by
  unfold M_X2_pass at hM
  refine Ev.steps (B := (5, [(0, .ref 22), (1, .ref 21)], [.ref 21, .ref (22 + 9)], h)) 3 rfl ?_
  obtain ⟨h1, e1, hM⟩ := am_vS hM
  refine Ev.call (q := (mr_X3_begin, [.ref (22 + 9), .ref 21], [])) rfl (E_X3_begin_31_21 h h1 e1) ?_
  refine Ev.steps (B := (12, [(0, .ref 22), (1, .ref 21)], [.ref (22 + 10)], h1)) 2 rfl ?_
  obtain ⟨h2, e2, hM⟩ := am_vS hM
  refine Ev.call (q := (mr_X0_begin, [.ref (22 + 10)], [])) rfl (E_X0_begin_32 n h1 h2 e2) ?_
  refine Ev.steps (B := (25, [(0, .ref 22), (1, .ref 21)], [.ref (pl_f 21), .ref 22], (am_sf h2 22 10 0))) 6 rfl ?_
  obtain ⟨h3, e3, hM⟩ := am_vS hM
  refine Ev.call (q := (mr_X2_light, [.ref 22, .ref (pl_f 21)], [])) rfl (E_X2_light_22_2 n (am_sf h2 22 10 0) h3 e3) ?_
  refine Ev.steps (B := (30, [(2, .int 0), (0, .ref 22), (1, .ref 21)], [], h3)) 2 rfl ?_
  refine Ev.lv (lv := [(0, .ref 22), (1, .ref 21), (2, .int 0)]) ⟨rfl, rfl, rfl, trivial⟩ rfl rfl ?_
  exact E_L_X2_pass_30_22_21 n hR n 0 h3 hM
def M_X8_toldEvening (n : Nat) (h : AH) : Option AH :=
  if (h.1 0 11) = 0 then
    am_v (M_X2_pass n 22 21 h) fun h1 =>
    some (am_sf h1 0 11 1)
  else
    some h
set_option maxRecDepth 10000 in
theorem E_X8_toldEvening_0 (n : Nat) (h : AH) (hR : AH) (hM : M_X8_toldEvening n h = some hR) : Ev none mr_X8_toldEvening (0, [(0, .ref 0)], [], h) (some (.ref 22)) hR := by
  unfold M_X8_toldEvening at hM
  refine Ev.steps (B := (4, [(0, .ref 0)], [.int (h.1 0 11)], h)) 2 rfl ?_
  refine Ev.br (b := decide (¬ (h.1 0 11) = 0)) rfl (fun c1 => ?_) (fun c1 => ?_)
  · have c1 := of_decide_eq_true c1
    rw [if_neg c1] at hM
    refine Ev.steps (B := (27, [(0, .ref 0)], [.ref 22], h)) 2 rfl ?_
    obtain rfl := am_s1 hM
    exact Ev.ret rfl
  · have c1 := Decidable.of_not_not (of_decide_eq_false c1)
    rw [if_pos c1] at hM
    refine Ev.steps (B := (15, [(0, .ref 0)], [.ref 21, .ref 22], h)) 4 rfl ?_
    obtain ⟨h1, e2, hM⟩ := am_vS hM
    refine Ev.call (q := (mr_X2_pass, [.ref 22, .ref 21], [])) rfl (E_X2_pass_22_21 n h h1 e2) ?_
    refine Ev.steps (B := (27, [(0, .ref 0)], [.ref 22], (am_sf h1 0 11 1))) 5 rfl ?_
    obtain rfl := am_s1 hM
    exact Ev.ret rfl
def M_X8_at (n : Nat) (a1 : Int32) (a2 : Int32) (h : AH) : Option (Int32 × AH) :=
  if (M_X8_within a1 23) = 0 then
    some ((-2), h)
  else
    am_v (M_X8_toldEvening n h) fun h1 =>
    if a2 = 0 then
      bif (am_in a1 24) then
        some (((h1.2.1 23) (Int32.toNatClampNeg a1)), h1)
      else none
    else
    if a2 = 1 then
      bif (am_in a1 24) then
        some (((h1.2.1 24) (Int32.toNatClampNeg a1)), h1)
      else none
    else
    if a2 = 2 then
      bif (am_in a1 24) then
        some (((h1.2.1 25) (Int32.toNatClampNeg a1)), h1)
      else none
    else
    if a2 = 3 then
      bif (am_in a1 24) then
        some (((h1.2.1 26) (Int32.toNatClampNeg a1)), h1)
      else none
    else
    if a2 = 4 then
      some ((((h1.1 22 10) >>> (a1 &&& 31)) &&& 1), h1)
    else
    if a2 = 5 then
      bif (am_in a1 24) then
        some (((h1.2.1 27) (Int32.toNatClampNeg a1)), h1)
      else none
    else
      some ((-2), h1)
set_option maxRecDepth 10000 in
theorem E_X8_at_0 (n : Nat) (a1 : Int32) (a2 : Int32) (h : AH) (vR : Int32) (hR : AH) (hM : M_X8_at n a1 a2 h = some (vR, hR)) : Ev none mr_X8_at (0, [(0, .ref 0), (1, .int a1), (2, .int a2)], [], h) (some (.int vR)) hR := by
  unfold M_X8_at at hM
  refine Ev.steps (B := (3, [(0, .ref 0), (1, .int a1), (2, .int a2)], [.int 23, .int a1], h)) 2 rfl ?_
  refine Ev.call (q := (mr_X8_within, [.int a1, .int 23], [])) rfl (E_X8_within a1 23 h) ?_
  refine Ev.br (b := decide (¬ (M_X8_within a1 23) = 0)) rfl (fun c1 => ?_) (fun c1 => ?_)
  · have c1 := of_decide_eq_true c1
    rw [if_neg c1] at hM
    refine Ev.steps (B := (13, [(0, .ref 0), (1, .int a1), (2, .int a2)], [.ref 0], h)) 1 rfl ?_
    obtain ⟨h1, e2, hM⟩ := am_vS hM
    refine Ev.call (q := (mr_X8_toldEvening, [.ref 0], [])) rfl (E_X8_toldEvening_0 n h h1 e2) ?_
    refine Ev.steps (B := (18, [(3, .ref 22), (0, .ref 0), (1, .int a1), (2, .int a2)], [.int a2], h1)) 2 rfl ?_
    refine Ev.step (B := (am_sel a2 [(0, 56), (1, 63), (2, 70), (3, 77), (4, 84), (5, 93)] 100, [(3, .ref 22), (0, .ref 0), (1, .int a1), (2, .int a2)], [], h1)) rfl ?_
    refine Ev.sw (fun c3 => ?_) (fun c3 => ?_)
    · rw [if_pos c3] at hM
      refine Ev.steps (B := (61, [(3, .ref 22), (0, .ref 0), (1, .int a1), (2, .int a2)], [.int a1, .ref 23], h1)) 3 rfl ?_
      obtain ⟨g4, hM⟩ := am_gS hM
      refine Ev.g (B := (62, [(3, .ref 22), (0, .ref 0), (1, .int a1), (2, .int a2)], [.int ((h1.2.1 23) (Int32.toNatClampNeg a1))], h1)) g4 rfl ?_
      obtain ⟨rfl, rfl⟩ := am_sp hM
      exact Ev.ret rfl
    · rw [if_neg c3] at hM
      refine Ev.sw (fun c5 => ?_) (fun c5 => ?_)
      · rw [if_pos c5] at hM
        refine Ev.steps (B := (68, [(3, .ref 22), (0, .ref 0), (1, .int a1), (2, .int a2)], [.int a1, .ref 24], h1)) 3 rfl ?_
        obtain ⟨g6, hM⟩ := am_gS hM
        refine Ev.g (B := (69, [(3, .ref 22), (0, .ref 0), (1, .int a1), (2, .int a2)], [.int ((h1.2.1 24) (Int32.toNatClampNeg a1))], h1)) g6 rfl ?_
        obtain ⟨rfl, rfl⟩ := am_sp hM
        exact Ev.ret rfl
      · rw [if_neg c5] at hM
        refine Ev.sw (fun c7 => ?_) (fun c7 => ?_)
        · rw [if_pos c7] at hM
          refine Ev.steps (B := (75, [(3, .ref 22), (0, .ref 0), (1, .int a1), (2, .int a2)], [.int a1, .ref 25], h1)) 3 rfl ?_
          obtain ⟨g8, hM⟩ := am_gS hM
          refine Ev.g (B := (76, [(3, .ref 22), (0, .ref 0), (1, .int a1), (2, .int a2)], [.int ((h1.2.1 25) (Int32.toNatClampNeg a1))], h1)) g8 rfl ?_
          obtain ⟨rfl, rfl⟩ := am_sp hM
          exact Ev.ret rfl
        · rw [if_neg c7] at hM
          refine Ev.sw (fun c9 => ?_) (fun c9 => ?_)
          · rw [if_pos c9] at hM
            refine Ev.steps (B := (82, [(3, .ref 22), (0, .ref 0), (1, .int a1), (2, .int a2)], [.int a1, .ref 26], h1)) 3 rfl ?_
            obtain ⟨g10, hM⟩ := am_gS hM
            refine Ev.g (B := (83, [(3, .ref 22), (0, .ref 0), (1, .int a1), (2, .int a2)], [.int ((h1.2.1 26) (Int32.toNatClampNeg a1))], h1)) g10 rfl ?_
            obtain ⟨rfl, rfl⟩ := am_sp hM
            exact Ev.ret rfl
          · rw [if_neg c9] at hM
            refine Ev.sw (fun c11 => ?_) (fun c11 => ?_)
            · rw [if_pos c11] at hM
              refine Ev.steps (B := (92, [(3, .ref 22), (0, .ref 0), (1, .int a1), (2, .int a2)], [.int (((h1.1 22 10) >>> (a1 &&& 31)) &&& 1)], h1)) 6 rfl ?_
              obtain ⟨rfl, rfl⟩ := am_sp hM
              exact Ev.ret rfl
            · rw [if_neg c11] at hM
              refine Ev.sw (fun c12 => ?_) (fun c12 => ?_)
              · rw [if_pos c12] at hM
                refine Ev.steps (B := (98, [(3, .ref 22), (0, .ref 0), (1, .int a1), (2, .int a2)], [.int a1, .ref 27], h1)) 3 rfl ?_
                obtain ⟨g13, hM⟩ := am_gS hM
                refine Ev.g (B := (99, [(3, .ref 22), (0, .ref 0), (1, .int a1), (2, .int a2)], [.int ((h1.2.1 27) (Int32.toNatClampNeg a1))], h1)) g13 rfl ?_
                obtain ⟨rfl, rfl⟩ := am_sp hM
                exact Ev.ret rfl
              · rw [if_neg c12] at hM
                refine Ev.steps (B := (102, [(3, .ref 22), (0, .ref 0), (1, .int a1), (2, .int a2)], [.int (-2)], h1)) 1 rfl ?_
                obtain ⟨rfl, rfl⟩ := am_sp hM
                exact Ev.ret rfl
  · have c1 := Decidable.of_not_not (of_decide_eq_false c1)
    rw [if_pos c1] at hM
    refine Ev.steps (B := (11, [(0, .ref 0), (1, .int a1), (2, .int a2)], [.int (-2)], h)) 1 rfl ?_
    obtain ⟨rfl, rfl⟩ := am_sp hM
    exact Ev.ret rfl
def L_X9_asTold_14 (n : Nat) : Nat → Int32 → AH → Option AH
  | 0, _, _ => none
  | m + 1, x1, h =>
    if (h.1 75 6) ≤ x1 then
      some (am_sf (am_sf h 75 20 (h.1 75 10)) 75 21 0)
    else
      bif (am_in x1 9) then
        bif (am_in x1 8) then
          bif (am_in x1 9) then
            bif (am_in x1 8) then
              bif (am_in x1 9) then
                bif (am_in x1 8) then
                  L_X9_asTold_14 n m (x1 + 1) (am_sa (am_sa (am_sa h 87 (upd (h.2.1 87) (Int32.toNatClampNeg x1) ((h.2.1 81) (Int32.toNatClampNeg x1)))) 88 (upd (h.2.1 88) (Int32.toNatClampNeg x1) ((h.2.1 82) (Int32.toNatClampNeg x1)))) 89 (upd (h.2.1 89) (Int32.toNatClampNeg x1) ((h.2.1 83) (Int32.toNatClampNeg x1))))
                else none
              else none
            else none
          else none
        else none
      else none
set_option maxRecDepth 10000 in
theorem E_L_X9_asTold_14 (n : Nat) (hR : AH) : ∀ (m : Nat) (x1 : Int32) (h : AH), L_X9_asTold_14 n m x1 h = some hR → Ev none mr_X9_asTold (14, [(0, .ref 75), (1, .int x1)], [], h) none hR := by
  intro m
  induction m with
  | zero =>
    intro x1 h hM
    exact (am_no hM).elim
  | succ m ih =>
    intro x1 h hM
    rw [L_X9_asTold_14] at hM
    refine Ev.steps (B := (19, [(0, .ref 75), (1, .int x1)], [.int (h.1 75 6), .int x1], h)) 3 rfl ?_
    refine Ev.br (b := decide ((h.1 75 6) ≤ x1)) rfl (fun c1 => ?_) (fun c1 => ?_)
    · have c1 := of_decide_eq_true c1
      rw [if_pos c1] at hM
      refine Ev.steps (B := (77, [(0, .ref 75), (1, .int x1)], [], (am_sf (am_sf h 75 20 (h.1 75 10)) 75 21 0))) 7 rfl ?_
      obtain rfl := am_s1 hM
      exact Ev.ret rfl
    · have c1 := of_decide_eq_false c1
      rw [if_neg c1] at hM
      refine Ev.steps (B := (32, [(0, .ref 75), (1, .int x1)], [.int x1, .ref 81, .int x1, .ref 87], h)) 6 rfl ?_
      obtain ⟨g2, hM⟩ := am_gS hM
      refine Ev.g (B := (33, [(0, .ref 75), (1, .int x1)], [.int ((h.2.1 81) (Int32.toNatClampNeg x1)), .int x1, .ref 87], h)) g2 rfl ?_
      obtain ⟨g3, hM⟩ := am_gS hM
      refine Ev.g (B := (34, [(0, .ref 75), (1, .int x1)], [], (am_sa h 87 (upd (h.2.1 87) (Int32.toNatClampNeg x1) ((h.2.1 81) (Int32.toNatClampNeg x1)))))) g3 rfl ?_
      refine Ev.steps (B := (44, [(0, .ref 75), (1, .int x1)], [.int x1, .ref 82, .int x1, .ref 88], (am_sa h 87 (upd (h.2.1 87) (Int32.toNatClampNeg x1) ((h.2.1 81) (Int32.toNatClampNeg x1)))))) 6 rfl ?_
      obtain ⟨g4, hM⟩ := am_gS hM
      refine Ev.g (B := (45, [(0, .ref 75), (1, .int x1)], [.int ((h.2.1 82) (Int32.toNatClampNeg x1)), .int x1, .ref 88], (am_sa h 87 (upd (h.2.1 87) (Int32.toNatClampNeg x1) ((h.2.1 81) (Int32.toNatClampNeg x1)))))) g4 rfl ?_
      obtain ⟨g5, hM⟩ := am_gS hM
      refine Ev.g (B := (46, [(0, .ref 75), (1, .int x1)], [], (am_sa (am_sa h 87 (upd (h.2.1 87) (Int32.toNatClampNeg x1) ((h.2.1 81) (Int32.toNatClampNeg x1)))) 88 (upd (h.2.1 88) (Int32.toNatClampNeg x1) ((h.2.1 82) (Int32.toNatClampNeg x1)))))) g5 rfl ?_
      refine Ev.steps (B := (56, [(0, .ref 75), (1, .int x1)], [.int x1, .ref 83, .int x1, .ref 89], (am_sa (am_sa h 87 (upd (h.2.1 87) (Int32.toNatClampNeg x1) ((h.2.1 81) (Int32.toNatClampNeg x1)))) 88 (upd (h.2.1 88) (Int32.toNatClampNeg x1) ((h.2.1 82) (Int32.toNatClampNeg x1)))))) 6 rfl ?_
      obtain ⟨g6, hM⟩ := am_gS hM
      refine Ev.g (B := (57, [(0, .ref 75), (1, .int x1)], [.int ((h.2.1 83) (Int32.toNatClampNeg x1)), .int x1, .ref 89], (am_sa (am_sa h 87 (upd (h.2.1 87) (Int32.toNatClampNeg x1) ((h.2.1 81) (Int32.toNatClampNeg x1)))) 88 (upd (h.2.1 88) (Int32.toNatClampNeg x1) ((h.2.1 82) (Int32.toNatClampNeg x1)))))) g6 rfl ?_
      obtain ⟨g7, hM⟩ := am_gS hM
      refine Ev.g (B := (58, [(0, .ref 75), (1, .int x1)], [], (am_sa (am_sa (am_sa h 87 (upd (h.2.1 87) (Int32.toNatClampNeg x1) ((h.2.1 81) (Int32.toNatClampNeg x1)))) 88 (upd (h.2.1 88) (Int32.toNatClampNeg x1) ((h.2.1 82) (Int32.toNatClampNeg x1)))) 89 (upd (h.2.1 89) (Int32.toNatClampNeg x1) ((h.2.1 83) (Int32.toNatClampNeg x1)))))) g7 rfl ?_
      refine Ev.steps (B := (14, [(1, .int (x1 + 1)), (0, .ref 75)], [], (am_sa (am_sa (am_sa h 87 (upd (h.2.1 87) (Int32.toNatClampNeg x1) ((h.2.1 81) (Int32.toNatClampNeg x1)))) 88 (upd (h.2.1 88) (Int32.toNatClampNeg x1) ((h.2.1 82) (Int32.toNatClampNeg x1)))) 89 (upd (h.2.1 89) (Int32.toNatClampNeg x1) ((h.2.1 83) (Int32.toNatClampNeg x1)))))) 2 rfl ?_
      refine Ev.lv (lv := [(0, .ref 75), (1, .int (x1 + 1))]) ⟨rfl, rfl, trivial⟩ rfl rfl ?_
      exact ih (x1 + 1) (am_sa (am_sa (am_sa h 87 (upd (h.2.1 87) (Int32.toNatClampNeg x1) ((h.2.1 81) (Int32.toNatClampNeg x1)))) 88 (upd (h.2.1 88) (Int32.toNatClampNeg x1) ((h.2.1 82) (Int32.toNatClampNeg x1)))) 89 (upd (h.2.1 89) (Int32.toNatClampNeg x1) ((h.2.1 83) (Int32.toNatClampNeg x1)))) hM
def M_X9_asTold (n : Nat) (h : AH) : Option AH :=
  am_v (M_X9_reads n h) fun h1 =>
  L_X9_asTold_14 n n 0 (am_sf h1 75 16 (h1.1 75 6))
set_option maxRecDepth 10000 in
theorem E_X9_asTold_75 (n : Nat) (h : AH) (hR : AH) (hM : M_X9_asTold n h = some hR) : Ev none mr_X9_asTold (0, [(0, .ref 75)], [], h) none hR := by
  unfold M_X9_asTold at hM
  refine Ev.steps (B := (1, [(0, .ref 75)], [.ref 75], h)) 1 rfl ?_
  obtain ⟨h1, e1, hM⟩ := am_vS hM
  refine Ev.call (q := (mr_X9_reads, [.ref 75], [])) rfl (E_X9_reads_75 n h h1 e1) ?_
  refine Ev.steps (B := (14, [(1, .int 0), (0, .ref 75)], [], (am_sf h1 75 16 (h1.1 75 6)))) 6 rfl ?_
  refine Ev.lv (lv := [(0, .ref 75), (1, .int 0)]) ⟨rfl, rfl, trivial⟩ rfl rfl ?_
  exact E_L_X9_asTold_14 n hR n 0 (am_sf h1 75 16 (h1.1 75 6)) hM
def M_X9_isIn (a1 : Int32) (a2 : Int32) : Int32 :=
  if ((a1 >>> (a2 &&& 31)) &&& 1) = 1 then
    1
  else
    0
set_option maxRecDepth 10000 in
theorem E_X9_isIn (a1 : Int32) (a2 : Int32) (h : AH) : Ev none mr_X9_isIn (0, [(0, .int a1), (1, .int a2)], [], h) (some (.int (M_X9_isIn a1 a2))) h := by
  unfold M_X9_isIn
  refine Ev.steps (B := (6, [(0, .int a1), (1, .int a2)], [.int 1, .int ((a1 >>> (a2 &&& 31)) &&& 1)], h)) 6 rfl ?_
  refine Ev.br (b := decide (¬ ((a1 >>> (a2 &&& 31)) &&& 1) = 1)) rfl (fun c1 => ?_) (fun c1 => ?_)
  · have c1 := of_decide_eq_true c1
    rw [if_neg c1]
    refine Ev.steps (B := (14, [(0, .int a1), (1, .int a2)], [.int 0], h)) 1 rfl ?_
    exact Ev.ret rfl
  · have c1 := Decidable.of_not_not (of_decide_eq_false c1)
    rw [if_pos c1]
    refine Ev.steps (B := (14, [(0, .int a1), (1, .int a2)], [.int 1], h)) 2 rfl ?_
    exact Ev.ret rfl
set_option maxRecDepth 10000 in
theorem Z_X9_isIn (a1 : Int32) (a2 : Int32) : am_b01 (M_X9_isIn a1 a2) = true := by
  unfold M_X9_isIn
  split
  · rfl
  · rfl
def M_X9_less (a1 : Int32) (a2 : Int32) : Int32 :=
  if a2 ≤ a1 then
    a2
  else
    a1
set_option maxRecDepth 10000 in
theorem E_X9_less (a1 : Int32) (a2 : Int32) (h : AH) : Ev none mr_X9_less (0, [(0, .int a1), (1, .int a2)], [], h) (some (.int (M_X9_less a1 a2))) h := by
  unfold M_X9_less
  refine Ev.steps (B := (2, [(0, .int a1), (1, .int a2)], [.int a2, .int a1], h)) 2 rfl ?_
  refine Ev.br (b := decide (a2 ≤ a1)) rfl (fun c1 => ?_) (fun c1 => ?_)
  · have c1 := of_decide_eq_true c1
    rw [if_pos c1]
    refine Ev.steps (B := (10, [(0, .int a1), (1, .int a2)], [.int a2], h)) 1 rfl ?_
    exact Ev.ret rfl
  · have c1 := of_decide_eq_false c1
    rw [if_neg c1]
    refine Ev.steps (B := (10, [(0, .int a1), (1, .int a2)], [.int a1], h)) 2 rfl ?_
    exact Ev.ret rfl
def B_X9_befalls_136 (n : Nat) (k7 : Int32 → Int32 → AH → Option AH) (x1 : Int32) (x2 : Int32) (y0 : Int32) (h : AH) : Option AH :=
  bif (am_in x2 8) then
    if ((h.2.1 84) (Int32.toNatClampNeg x2)) = 2 then
      k7 x1 (x2 + 1) (am_sf (am_sf h 75 24 y0) 75 25 1)
    else
      k7 x1 (x2 + 1) (am_sf (am_sf h 75 24 y0) 75 25 (h.1 75 25))
  else none
set_option maxRecDepth 10000 in
theorem E_B_X9_befalls_136 (n : Nat) (k7 : Int32 → Int32 → AH → Option AH) (hR : AH) (hk7 : ∀ (x1 : Int32) (x2 : Int32) (h0 : AH), k7 x1 x2 h0 = some hR → Ev none mr_X9_befalls (7, [(0, .ref 75), (1, .int x1), (2, .int x2)], [], h0) none hR) (x1 : Int32) (x2 : Int32) (y0 : Int32) (h : AH) (hM : B_X9_befalls_136 n k7 x1 x2 y0 h = some hR) : Ev none mr_X9_befalls (136, [(0, .ref 75), (1, .int x1), (2, .int x2)], [.int y0, .ref 75], h) none hR := by
  unfold B_X9_befalls_136 at hM
  refine Ev.steps (B := (145, [(0, .ref 75), (1, .int x1), (2, .int x2)], [.int x2, .ref 84, .ref 75], (am_sf h 75 24 y0))) 5 rfl ?_
  obtain ⟨g1, hM⟩ := am_gS hM
  refine Ev.g (B := (146, [(0, .ref 75), (1, .int x1), (2, .int x2)], [.int ((h.2.1 84) (Int32.toNatClampNeg x2)), .ref 75], (am_sf h 75 24 y0))) g1 rfl ?_
  refine Ev.steps (B := (147, [(0, .ref 75), (1, .int x1), (2, .int x2)], [.int 2, .int ((h.2.1 84) (Int32.toNatClampNeg x2)), .ref 75], (am_sf h 75 24 y0))) 1 rfl ?_
  refine Ev.br (b := decide (¬ ((h.2.1 84) (Int32.toNatClampNeg x2)) = 2)) rfl (fun c2 => ?_) (fun c2 => ?_)
  · have c2 := of_decide_eq_true c2
    rw [if_neg c2] at hM
    refine Ev.steps (B := (7, [(2, .int (x2 + 1)), (0, .ref 75), (1, .int x1)], [], (am_sf (am_sf h 75 24 y0) 75 25 (h.1 75 25)))) 5 rfl ?_
    refine Ev.lv (lv := [(0, .ref 75), (1, .int x1), (2, .int (x2 + 1))]) ⟨rfl, rfl, rfl, trivial⟩ rfl rfl ?_
    exact hk7 x1 (x2 + 1) (am_sf (am_sf h 75 24 y0) 75 25 (h.1 75 25)) hM
  · have c2 := Decidable.of_not_not (of_decide_eq_false c2)
    rw [if_pos c2] at hM
    refine Ev.steps (B := (7, [(2, .int (x2 + 1)), (0, .ref 75), (1, .int x1)], [], (am_sf (am_sf h 75 24 y0) 75 25 1))) 5 rfl ?_
    refine Ev.lv (lv := [(0, .ref 75), (1, .int x1), (2, .int (x2 + 1))]) ⟨rfl, rfl, rfl, trivial⟩ rfl rfl ?_
    exact hk7 x1 (x2 + 1) (am_sf (am_sf h 75 24 y0) 75 25 1) hM
def B_X9_befalls_99 (n : Nat) (k7 : Int32 → Int32 → AH → Option AH) (x1 : Int32) (x2 : Int32) (y0 : Int32) (h : AH) : Option AH :=
  bif (am_in x2 8) then
    if ((h.2.1 84) (Int32.toNatClampNeg x2)) = 1 then
      bif (am_in x2 8) then
        B_X9_befalls_136 n k7 x1 x2 (M_X9_less ((h.1 75 24) + ((h.2.1 86) (Int32.toNatClampNeg x2))) 40) (am_sf h 75 22 y0)
      else none
    else
      B_X9_befalls_136 n k7 x1 x2 (h.1 75 24) (am_sf h 75 22 y0)
  else none
set_option maxRecDepth 10000 in
theorem E_B_X9_befalls_99 (n : Nat) (k7 : Int32 → Int32 → AH → Option AH) (hR : AH) (hk7 : ∀ (x1 : Int32) (x2 : Int32) (h0 : AH), k7 x1 x2 h0 = some hR → Ev none mr_X9_befalls (7, [(0, .ref 75), (1, .int x1), (2, .int x2)], [], h0) none hR) (x1 : Int32) (x2 : Int32) (y0 : Int32) (h : AH) (hM : B_X9_befalls_99 n k7 x1 x2 y0 h = some hR) : Ev none mr_X9_befalls (99, [(0, .ref 75), (1, .int x1), (2, .int x2)], [.int y0, .ref 75], h) none hR := by
  unfold B_X9_befalls_99 at hM
  refine Ev.steps (B := (108, [(0, .ref 75), (1, .int x1), (2, .int x2)], [.int x2, .ref 84, .ref 75], (am_sf h 75 22 y0))) 5 rfl ?_
  obtain ⟨g1, hM⟩ := am_gS hM
  refine Ev.g (B := (109, [(0, .ref 75), (1, .int x1), (2, .int x2)], [.int ((h.2.1 84) (Int32.toNatClampNeg x2)), .ref 75], (am_sf h 75 22 y0))) g1 rfl ?_
  refine Ev.steps (B := (110, [(0, .ref 75), (1, .int x1), (2, .int x2)], [.int 1, .int ((h.2.1 84) (Int32.toNatClampNeg x2)), .ref 75], (am_sf h 75 22 y0))) 1 rfl ?_
  refine Ev.br (b := decide (¬ ((h.2.1 84) (Int32.toNatClampNeg x2)) = 1)) rfl (fun c2 => ?_) (fun c2 => ?_)
  · have c2 := of_decide_eq_true c2
    rw [if_neg c2] at hM
    refine Ev.steps (B := (136, [(0, .ref 75), (1, .int x1), (2, .int x2)], [.int (h.1 75 24), .ref 75], (am_sf h 75 22 y0))) 2 rfl ?_
    exact E_B_X9_befalls_136 n k7 hR hk7 x1 x2 (h.1 75 24) (am_sf h 75 22 y0) hM
  · have c2 := Decidable.of_not_not (of_decide_eq_false c2)
    rw [if_pos c2] at hM
    refine Ev.steps (B := (122, [(0, .ref 75), (1, .int x1), (2, .int x2)], [.int x2, .ref 86, .int (h.1 75 24), .ref 75], (am_sf h 75 22 y0))) 5 rfl ?_
    obtain ⟨g3, hM⟩ := am_gS hM
    refine Ev.g (B := (123, [(0, .ref 75), (1, .int x1), (2, .int x2)], [.int ((h.2.1 86) (Int32.toNatClampNeg x2)), .int (h.1 75 24), .ref 75], (am_sf h 75 22 y0))) g3 rfl ?_
    refine Ev.steps (B := (126, [(0, .ref 75), (1, .int x1), (2, .int x2)], [.int 40, .int ((h.1 75 24) + ((h.2.1 86) (Int32.toNatClampNeg x2))), .ref 75], (am_sf h 75 22 y0))) 2 rfl ?_
    refine Ev.call (q := (mr_X9_less, [.int ((h.1 75 24) + ((h.2.1 86) (Int32.toNatClampNeg x2))), .int 40], [.ref 75])) rfl (E_X9_less ((h.1 75 24) + ((h.2.1 86) (Int32.toNatClampNeg x2))) 40 (am_sf h 75 22 y0)) ?_
    refine Ev.steps (B := (136, [(0, .ref 75), (1, .int x1), (2, .int x2)], [.int (M_X9_less ((h.1 75 24) + ((h.2.1 86) (Int32.toNatClampNeg x2))) 40), .ref 75], (am_sf h 75 22 y0))) 1 rfl ?_
    exact E_B_X9_befalls_136 n k7 hR hk7 x1 x2 (M_X9_less ((h.1 75 24) + ((h.2.1 86) (Int32.toNatClampNeg x2))) 40) (am_sf h 75 22 y0) hM
def B_X9_befalls_65 (n : Nat) (k7 : Int32 → Int32 → AH → Option AH) (x1 : Int32) (x2 : Int32) (y0 : Int32) (h : AH) : Option AH :=
  if (4 * y0) ≤ (h.1 75 22) then
    B_X9_befalls_99 n k7 x1 x2 ((h.1 75 22) - (4 * y0)) (am_sf h 75 23 ((h.1 75 23) + y0))
  else
    B_X9_befalls_99 n k7 x1 x2 0 (am_sf h 75 23 ((h.1 75 23) + y0))
set_option maxRecDepth 10000 in
theorem E_B_X9_befalls_65 (n : Nat) (k7 : Int32 → Int32 → AH → Option AH) (hR : AH) (hk7 : ∀ (x1 : Int32) (x2 : Int32) (h0 : AH), k7 x1 x2 h0 = some hR → Ev none mr_X9_befalls (7, [(0, .ref 75), (1, .int x1), (2, .int x2)], [], h0) none hR) (x1 : Int32) (x2 : Int32) (y0 : Int32) (h : AH) (hM : B_X9_befalls_65 n k7 x1 x2 y0 h = some hR) : Ev none mr_X9_befalls (65, [(0, .ref 75), (1, .int x1), (2, .int x2)], [.int y0], h) none hR := by
  unfold B_X9_befalls_65 at hM
  refine Ev.steps (B := (84, [(3, .int y0), (0, .ref 75), (1, .int x1), (2, .int x2)], [.int (4 * y0), .int (h.1 75 22), .ref 75], (am_sf h 75 23 ((h.1 75 23) + y0)))) 13 rfl ?_
  refine Ev.br (b := decide ((4 * y0) ≤ (h.1 75 22))) rfl (fun c1 => ?_) (fun c1 => ?_)
  · have c1 := of_decide_eq_true c1
    rw [if_pos c1] at hM
    refine Ev.steps (B := (99, [(3, .int y0), (0, .ref 75), (1, .int x1), (2, .int x2)], [.int ((h.1 75 22) - (4 * y0)), .ref 75], (am_sf h 75 23 ((h.1 75 23) + y0)))) 6 rfl ?_
    refine Ev.lv (lv := [(0, .ref 75), (1, .int x1), (2, .int x2)]) ⟨rfl, rfl, rfl, trivial⟩ rfl rfl ?_
    exact E_B_X9_befalls_99 n k7 hR hk7 x1 x2 ((h.1 75 22) - (4 * y0)) (am_sf h 75 23 ((h.1 75 23) + y0)) hM
  · have c1 := of_decide_eq_false c1
    rw [if_neg c1] at hM
    refine Ev.steps (B := (99, [(3, .int y0), (0, .ref 75), (1, .int x1), (2, .int x2)], [.int 0, .ref 75], (am_sf h 75 23 ((h.1 75 23) + y0)))) 2 rfl ?_
    refine Ev.lv (lv := [(0, .ref 75), (1, .int x1), (2, .int x2)]) ⟨rfl, rfl, rfl, trivial⟩ rfl rfl ?_
    exact E_B_X9_befalls_99 n k7 hR hk7 x1 x2 0 (am_sf h 75 23 ((h.1 75 23) + y0)) hM
def L_X9_befalls_7 (n : Nat) : Nat → Int32 → Int32 → AH → Option AH
  | 0, _, _, _ => none
  | m + 1, x1, x2, h =>
    if (h.1 75 12) ≤ x2 then
      some h
    else
      bif (am_in x2 8) then
        if ((h.2.1 85) (Int32.toNatClampNeg x2)) = x1 then
          if (M_X9_isIn (h.1 75 21) x2) = 0 then
            bif (am_in x2 8) then
              if ((h.2.1 84) (Int32.toNatClampNeg x2)) = 0 then
                bif (am_in x2 8) then
                  B_X9_befalls_65 n (L_X9_befalls_7 n m) x1 x2 (M_X9_less ((h.2.1 86) (Int32.toNatClampNeg x2)) (30 - (h.1 75 23))) h
                else none
              else
                B_X9_befalls_65 n (L_X9_befalls_7 n m) x1 x2 0 h
            else none
          else
            L_X9_befalls_7 n m x1 (x2 + 1) h
        else
          L_X9_befalls_7 n m x1 (x2 + 1) h
      else none
set_option maxRecDepth 10000 in
theorem E_L_X9_befalls_7 (n : Nat) (hR : AH) : ∀ (m : Nat) (x1 : Int32) (x2 : Int32) (h : AH), L_X9_befalls_7 n m x1 x2 h = some hR → Ev none mr_X9_befalls (7, [(0, .ref 75), (1, .int x1), (2, .int x2)], [], h) none hR := by
  intro m
  induction m with
  | zero =>
    intro x1 x2 h hM
    exact (am_no hM).elim
  | succ m ih =>
    intro x1 x2 h hM
    rw [L_X9_befalls_7] at hM
    refine Ev.steps (B := (12, [(0, .ref 75), (1, .int x1), (2, .int x2)], [.int (h.1 75 12), .int x2], h)) 3 rfl ?_
    refine Ev.br (b := decide ((h.1 75 12) ≤ x2)) rfl (fun c1 => ?_) (fun c1 => ?_)
    · have c1 := of_decide_eq_true c1
      rw [if_pos c1] at hM
      obtain rfl := am_s1 hM
      exact Ev.ret rfl
    · have c1 := of_decide_eq_false c1
      rw [if_neg c1] at hM
      refine Ev.steps (B := (20, [(0, .ref 75), (1, .int x1), (2, .int x2)], [.int x2, .ref 85], h)) 3 rfl ?_
      obtain ⟨g2, hM⟩ := am_gS hM
      refine Ev.g (B := (21, [(0, .ref 75), (1, .int x1), (2, .int x2)], [.int ((h.2.1 85) (Int32.toNatClampNeg x2))], h)) g2 rfl ?_
      refine Ev.steps (B := (22, [(0, .ref 75), (1, .int x1), (2, .int x2)], [.int x1, .int ((h.2.1 85) (Int32.toNatClampNeg x2))], h)) 1 rfl ?_
      refine Ev.br (b := decide (¬ ((h.2.1 85) (Int32.toNatClampNeg x2)) = x1)) rfl (fun c3 => ?_) (fun c3 => ?_)
      · have c3 := of_decide_eq_true c3
        rw [if_neg c3] at hM
        refine Ev.steps (B := (7, [(2, .int (x2 + 1)), (0, .ref 75), (1, .int x1)], [], h)) 2 rfl ?_
        refine Ev.lv (lv := [(0, .ref 75), (1, .int x1), (2, .int (x2 + 1))]) ⟨rfl, rfl, rfl, trivial⟩ rfl rfl ?_
        exact ih x1 (x2 + 1) h hM
      · have c3 := Decidable.of_not_not (of_decide_eq_false c3)
        rw [if_pos c3] at hM
        refine Ev.steps (B := (30, [(0, .ref 75), (1, .int x1), (2, .int x2)], [.int x2, .int (h.1 75 21)], h)) 3 rfl ?_
        refine Ev.call (q := (mr_X9_isIn, [.int (h.1 75 21), .int x2], [])) rfl (E_X9_isIn (h.1 75 21) x2 h) ?_
        refine Ev.br (b := decide (¬ (M_X9_isIn (h.1 75 21) x2) = 0)) rfl (fun c4 => ?_) (fun c4 => ?_)
        · have c4 := of_decide_eq_true c4
          rw [if_neg c4] at hM
          refine Ev.steps (B := (7, [(2, .int (x2 + 1)), (0, .ref 75), (1, .int x1)], [], h)) 2 rfl ?_
          refine Ev.lv (lv := [(0, .ref 75), (1, .int x1), (2, .int (x2 + 1))]) ⟨rfl, rfl, rfl, trivial⟩ rfl rfl ?_
          exact ih x1 (x2 + 1) h hM
        · have c4 := Decidable.of_not_not (of_decide_eq_false c4)
          rw [if_pos c4] at hM
          refine Ev.steps (B := (41, [(0, .ref 75), (1, .int x1), (2, .int x2)], [.int x2, .ref 84], h)) 3 rfl ?_
          obtain ⟨g5, hM⟩ := am_gS hM
          refine Ev.g (B := (42, [(0, .ref 75), (1, .int x1), (2, .int x2)], [.int ((h.2.1 84) (Int32.toNatClampNeg x2))], h)) g5 rfl ?_
          refine Ev.br (b := decide (¬ ((h.2.1 84) (Int32.toNatClampNeg x2)) = 0)) rfl (fun c6 => ?_) (fun c6 => ?_)
          · have c6 := of_decide_eq_true c6
            rw [if_neg c6] at hM
            refine Ev.steps (B := (65, [(0, .ref 75), (1, .int x1), (2, .int x2)], [.int 0], h)) 1 rfl ?_
            exact E_B_X9_befalls_65 n (L_X9_befalls_7 n m) hR ih x1 x2 0 h hM
          · have c6 := Decidable.of_not_not (of_decide_eq_false c6)
            rw [if_pos c6] at hM
            refine Ev.steps (B := (50, [(0, .ref 75), (1, .int x1), (2, .int x2)], [.int x2, .ref 86], h)) 3 rfl ?_
            obtain ⟨g7, hM⟩ := am_gS hM
            refine Ev.g (B := (51, [(0, .ref 75), (1, .int x1), (2, .int x2)], [.int ((h.2.1 86) (Int32.toNatClampNeg x2))], h)) g7 rfl ?_
            refine Ev.steps (B := (58, [(0, .ref 75), (1, .int x1), (2, .int x2)], [.int (30 - (h.1 75 23)), .int ((h.2.1 86) (Int32.toNatClampNeg x2))], h)) 4 rfl ?_
            refine Ev.call (q := (mr_X9_less, [.int ((h.2.1 86) (Int32.toNatClampNeg x2)), .int (30 - (h.1 75 23))], [])) rfl (E_X9_less ((h.2.1 86) (Int32.toNatClampNeg x2)) (30 - (h.1 75 23)) h) ?_
            refine Ev.steps (B := (65, [(0, .ref 75), (1, .int x1), (2, .int x2)], [.int (M_X9_less ((h.2.1 86) (Int32.toNatClampNeg x2)) (30 - (h.1 75 23)))], h)) 1 rfl ?_
            exact E_B_X9_befalls_65 n (L_X9_befalls_7 n m) hR ih x1 x2 (M_X9_less ((h.2.1 86) (Int32.toNatClampNeg x2)) (30 - (h.1 75 23))) h hM
def M_X9_befalls (n : Nat) (a1 : Int32) (h : AH) : Option AH :=
  L_X9_befalls_7 n n a1 0 (am_sf h 75 25 0)
set_option maxRecDepth 10000 in
theorem E_X9_befalls_75 (n : Nat) (a1 : Int32) (h : AH) (hR : AH) (hM : M_X9_befalls n a1 h = some hR) : Ev none mr_X9_befalls (0, [(0, .ref 75), (1, .int a1)], [], h) none hR := by
  unfold M_X9_befalls at hM
  refine Ev.steps (B := (7, [(2, .int 0), (0, .ref 75), (1, .int a1)], [], (am_sf h 75 25 0))) 5 rfl ?_
  refine Ev.lv (lv := [(0, .ref 75), (1, .int a1), (2, .int 0)]) ⟨rfl, rfl, rfl, trivial⟩ rfl rfl ?_
  exact E_L_X9_befalls_7 n hR n a1 0 (am_sf h 75 25 0) hM
def B_X9_fireAt_93 (n : Nat) (k4 : Int32 → Int32 → Int32 → AH → Option Int32) (x1 : Int32) (x3 : Int32) (y0 : Int32) (y1 : Int32) (h : AH) : Option Int32 :=
  k4 x1 (y1 + y0) (x3 + 1) h
set_option maxRecDepth 10000 in
theorem E_B_X9_fireAt_93 (n : Nat) (k4 : Int32 → Int32 → Int32 → AH → Option Int32) (h : AH) (vR : Int32) (hk4 : ∀ (x1 : Int32) (x2 : Int32) (x3 : Int32), k4 x1 x2 x3 h = some vR → Ev none mr_X9_fireAt (4, [(0, .ref 75), (1, .int x1), (2, .int x2), (3, .int x3)], [], h) (some (.int vR)) h) (x1 : Int32) (x3 : Int32) (y0 : Int32) (y1 : Int32) (hM : B_X9_fireAt_93 n k4 x1 x3 y0 y1 h = some vR) : Ev none mr_X9_fireAt (93, [(0, .ref 75), (1, .int x1), (3, .int x3)], [.int y0, .int y1], h) (some (.int vR)) h := by
  unfold B_X9_fireAt_93 at hM
  refine Ev.steps (B := (4, [(3, .int (x3 + 1)), (2, .int (y1 + y0)), (0, .ref 75), (1, .int x1)], [], h)) 4 rfl ?_
  refine Ev.lv (lv := [(0, .ref 75), (1, .int x1), (2, .int (y1 + y0)), (3, .int (x3 + 1))]) ⟨rfl, rfl, rfl, rfl, trivial⟩ rfl rfl ?_
  exact hk4 x1 (y1 + y0) (x3 + 1) hM
def B_X9_fireAt_88 (n : Nat) (k4 : Int32 → Int32 → Int32 → AH → Option Int32) (x1 : Int32) (x3 : Int32) (y0 : Int32) (y1 : Int32) (y2 : Int32) (h : AH) : Option Int32 :=
  B_X9_fireAt_93 n k4 x1 x3 (y1 * y0) y2 h
set_option maxRecDepth 10000 in
theorem E_B_X9_fireAt_88 (n : Nat) (k4 : Int32 → Int32 → Int32 → AH → Option Int32) (h : AH) (vR : Int32) (hk4 : ∀ (x1 : Int32) (x2 : Int32) (x3 : Int32), k4 x1 x2 x3 h = some vR → Ev none mr_X9_fireAt (4, [(0, .ref 75), (1, .int x1), (2, .int x2), (3, .int x3)], [], h) (some (.int vR)) h) (x1 : Int32) (x3 : Int32) (y0 : Int32) (y1 : Int32) (y2 : Int32) (hM : B_X9_fireAt_88 n k4 x1 x3 y0 y1 y2 h = some vR) : Ev none mr_X9_fireAt (88, [(0, .ref 75), (1, .int x1), (3, .int x3)], [.int y0, .int y1, .int y2], h) (some (.int vR)) h := by
  unfold B_X9_fireAt_88 at hM
  refine Ev.steps (B := (93, [(0, .ref 75), (1, .int x1), (3, .int x3)], [.int (y1 * y0), .int y2], h)) 2 rfl ?_
  exact E_B_X9_fireAt_93 n k4 h vR hk4 x1 x3 (y1 * y0) y2 hM
def B_X9_fireAt_51 (n : Nat) (k4 : Int32 → Int32 → Int32 → AH → Option Int32) (x1 : Int32) (x2 : Int32) (x3 : Int32) (x4 : Int32) (y0 : Int32) (h : AH) : Option Int32 :=
  if (M_X9_in x4 0 (y0 - 1)) = 0 then
    B_X9_fireAt_93 n k4 x1 x3 0 x2 h
  else
    bif (am_in x3 9) then
      bif (am_in x3 9) then
        if ((h.2.1 79) (Int32.toNatClampNeg x3)) = 1 then
          B_X9_fireAt_88 n k4 x1 x3 4 ((h.2.1 80) (Int32.toNatClampNeg x3)) x2 h
        else
          B_X9_fireAt_88 n k4 x1 x3 3 ((h.2.1 80) (Int32.toNatClampNeg x3)) x2 h
      else none
    else none
set_option maxRecDepth 10000 in
theorem E_B_X9_fireAt_51 (n : Nat) (k4 : Int32 → Int32 → Int32 → AH → Option Int32) (h : AH) (vR : Int32) (hk4 : ∀ (x1 : Int32) (x2 : Int32) (x3 : Int32), k4 x1 x2 x3 h = some vR → Ev none mr_X9_fireAt (4, [(0, .ref 75), (1, .int x1), (2, .int x2), (3, .int x3)], [], h) (some (.int vR)) h) (x1 : Int32) (x2 : Int32) (x3 : Int32) (x4 : Int32) (y0 : Int32) (hM : B_X9_fireAt_51 n k4 x1 x2 x3 x4 y0 h = some vR) : Ev none mr_X9_fireAt (51, [(0, .ref 75), (1, .int x1), (2, .int x2), (3, .int x3), (4, .int x4)], [.int y0], h) (some (.int vR)) h := by
  unfold B_X9_fireAt_51 at hM
  refine Ev.steps (B := (61, [(5, .int y0), (0, .ref 75), (1, .int x1), (2, .int x2), (3, .int x3), (4, .int x4)], [.int (y0 - 1), .int 0, .int x4, .int x2], h)) 7 rfl ?_
  refine Ev.call (q := (mr_X9_in, [.int x4, .int 0, .int (y0 - 1)], [.int x2])) rfl (E_X9_in x4 0 (y0 - 1) h) ?_
  refine Ev.br (b := decide ((M_X9_in x4 0 (y0 - 1)) = 0)) rfl (fun c1 => ?_) (fun c1 => ?_)
  · have c1 := of_decide_eq_true c1
    rw [if_pos c1] at hM
    refine Ev.steps (B := (93, [(5, .int y0), (0, .ref 75), (1, .int x1), (2, .int x2), (3, .int x3), (4, .int x4)], [.int 0, .int x2], h)) 1 rfl ?_
    refine Ev.lv (lv := [(0, .ref 75), (1, .int x1), (3, .int x3)]) ⟨rfl, rfl, rfl, trivial⟩ rfl rfl ?_
    exact E_B_X9_fireAt_93 n k4 h vR hk4 x1 x3 0 x2 hM
  · have c1 := of_decide_eq_false c1
    rw [if_neg c1] at hM
    refine Ev.steps (B := (72, [(5, .int y0), (0, .ref 75), (1, .int x1), (2, .int x2), (3, .int x3), (4, .int x4)], [.int x3, .ref 80, .int x2], h)) 3 rfl ?_
    obtain ⟨g2, hM⟩ := am_gS hM
    refine Ev.g (B := (73, [(5, .int y0), (0, .ref 75), (1, .int x1), (2, .int x2), (3, .int x3), (4, .int x4)], [.int ((h.2.1 80) (Int32.toNatClampNeg x3)), .int x2], h)) g2 rfl ?_
    refine Ev.steps (B := (78, [(5, .int y0), (0, .ref 75), (1, .int x1), (2, .int x2), (3, .int x3), (4, .int x4)], [.int x3, .ref 79, .int ((h.2.1 80) (Int32.toNatClampNeg x3)), .int x2], h)) 3 rfl ?_
    obtain ⟨g3, hM⟩ := am_gS hM
    refine Ev.g (B := (79, [(5, .int y0), (0, .ref 75), (1, .int x1), (2, .int x2), (3, .int x3), (4, .int x4)], [.int ((h.2.1 79) (Int32.toNatClampNeg x3)), .int ((h.2.1 80) (Int32.toNatClampNeg x3)), .int x2], h)) g3 rfl ?_
    refine Ev.steps (B := (80, [(5, .int y0), (0, .ref 75), (1, .int x1), (2, .int x2), (3, .int x3), (4, .int x4)], [.int 1, .int ((h.2.1 79) (Int32.toNatClampNeg x3)), .int ((h.2.1 80) (Int32.toNatClampNeg x3)), .int x2], h)) 1 rfl ?_
    refine Ev.br (b := decide (¬ ((h.2.1 79) (Int32.toNatClampNeg x3)) = 1)) rfl (fun c4 => ?_) (fun c4 => ?_)
    · have c4 := of_decide_eq_true c4
      rw [if_neg c4] at hM
      refine Ev.steps (B := (88, [(5, .int y0), (0, .ref 75), (1, .int x1), (2, .int x2), (3, .int x3), (4, .int x4)], [.int 3, .int ((h.2.1 80) (Int32.toNatClampNeg x3)), .int x2], h)) 1 rfl ?_
      refine Ev.lv (lv := [(0, .ref 75), (1, .int x1), (3, .int x3)]) ⟨rfl, rfl, rfl, trivial⟩ rfl rfl ?_
      exact E_B_X9_fireAt_88 n k4 h vR hk4 x1 x3 3 ((h.2.1 80) (Int32.toNatClampNeg x3)) x2 hM
    · have c4 := Decidable.of_not_not (of_decide_eq_false c4)
      rw [if_pos c4] at hM
      refine Ev.steps (B := (88, [(5, .int y0), (0, .ref 75), (1, .int x1), (2, .int x2), (3, .int x3), (4, .int x4)], [.int 4, .int ((h.2.1 80) (Int32.toNatClampNeg x3)), .int x2], h)) 2 rfl ?_
      refine Ev.lv (lv := [(0, .ref 75), (1, .int x1), (3, .int x3)]) ⟨rfl, rfl, rfl, trivial⟩ rfl rfl ?_
      exact E_B_X9_fireAt_88 n k4 h vR hk4 x1 x3 4 ((h.2.1 80) (Int32.toNatClampNeg x3)) x2 hM
def L_X9_fireAt_4 (n : Nat) : Nat → Int32 → Int32 → Int32 → AH → Option Int32
  | 0, _, _, _, _ => none
  | m + 1, x1, x2, x3, h =>
    if (h.1 75 2) ≤ x3 then
      if (h.1 75 25) = 1 then
        some (2 * x2)
      else
        some x2
    else
      bif (am_in x3 9) then
        bif (am_in x3 9) then
          if ((h.2.1 79) (Int32.toNatClampNeg x3)) = 0 then
            B_X9_fireAt_51 n (L_X9_fireAt_4 n m) x1 x2 x3 (x1 - ((h.2.1 78) (Int32.toNatClampNeg x3))) 3 h
          else
            bif (am_in x3 9) then
              if ((h.2.1 79) (Int32.toNatClampNeg x3)) = 1 then
                B_X9_fireAt_51 n (L_X9_fireAt_4 n m) x1 x2 x3 (x1 - ((h.2.1 78) (Int32.toNatClampNeg x3))) 5 h
              else
                B_X9_fireAt_51 n (L_X9_fireAt_4 n m) x1 x2 x3 (x1 - ((h.2.1 78) (Int32.toNatClampNeg x3))) 9 h
            else none
        else none
      else none
set_option maxRecDepth 10000 in
theorem E_L_X9_fireAt_4 (n : Nat) (h : AH) (vR : Int32) : ∀ (m : Nat) (x1 : Int32) (x2 : Int32) (x3 : Int32), L_X9_fireAt_4 n m x1 x2 x3 h = some vR → Ev none mr_X9_fireAt (4, [(0, .ref 75), (1, .int x1), (2, .int x2), (3, .int x3)], [], h) (some (.int vR)) h := by
  intro m
  induction m with
  | zero =>
    intro x1 x2 x3 hM
    exact (am_no hM).elim
  | succ m ih =>
    intro x1 x2 x3 hM
    rw [L_X9_fireAt_4] at hM
    refine Ev.steps (B := (9, [(0, .ref 75), (1, .int x1), (2, .int x2), (3, .int x3)], [.int (h.1 75 2), .int x3], h)) 3 rfl ?_
    refine Ev.br (b := decide ((h.1 75 2) ≤ x3)) rfl (fun c1 => ?_) (fun c1 => ?_)
    · have c1 := of_decide_eq_true c1
      rw [if_pos c1] at hM
      refine Ev.steps (B := (106, [(0, .ref 75), (1, .int x1), (2, .int x2), (3, .int x3)], [.int 1, .int (h.1 75 25)], h)) 3 rfl ?_
      refine Ev.br (b := decide (¬ (h.1 75 25) = 1)) rfl (fun c2 => ?_) (fun c2 => ?_)
      · have c2 := of_decide_eq_true c2
        rw [if_neg c2] at hM
        refine Ev.steps (B := (116, [(0, .ref 75), (1, .int x1), (2, .int x2), (3, .int x3)], [.int x2], h)) 1 rfl ?_
        obtain rfl := am_s1 hM
        exact Ev.ret rfl
      · have c2 := Decidable.of_not_not (of_decide_eq_false c2)
        rw [if_pos c2] at hM
        refine Ev.steps (B := (116, [(0, .ref 75), (1, .int x1), (2, .int x2), (3, .int x3)], [.int (2 * x2)], h)) 4 rfl ?_
        obtain rfl := am_s1 hM
        exact Ev.ret rfl
    · have c1 := of_decide_eq_false c1
      rw [if_neg c1] at hM
      refine Ev.steps (B := (18, [(0, .ref 75), (1, .int x1), (2, .int x2), (3, .int x3)], [.int x3, .ref 78, .int x1], h)) 4 rfl ?_
      obtain ⟨g3, hM⟩ := am_gS hM
      refine Ev.g (B := (19, [(0, .ref 75), (1, .int x1), (2, .int x2), (3, .int x3)], [.int ((h.2.1 78) (Int32.toNatClampNeg x3)), .int x1], h)) g3 rfl ?_
      refine Ev.steps (B := (27, [(4, .int (x1 - ((h.2.1 78) (Int32.toNatClampNeg x3)))), (0, .ref 75), (1, .int x1), (2, .int x2), (3, .int x3)], [.int x3, .ref 79], h)) 5 rfl ?_
      obtain ⟨g4, hM⟩ := am_gS hM
      refine Ev.g (B := (28, [(4, .int (x1 - ((h.2.1 78) (Int32.toNatClampNeg x3)))), (0, .ref 75), (1, .int x1), (2, .int x2), (3, .int x3)], [.int ((h.2.1 79) (Int32.toNatClampNeg x3))], h)) g4 rfl ?_
      refine Ev.br (b := decide (¬ ((h.2.1 79) (Int32.toNatClampNeg x3)) = 0)) rfl (fun c5 => ?_) (fun c5 => ?_)
      · have c5 := of_decide_eq_true c5
        rw [if_neg c5] at hM
        refine Ev.steps (B := (40, [(4, .int (x1 - ((h.2.1 78) (Int32.toNatClampNeg x3)))), (0, .ref 75), (1, .int x1), (2, .int x2), (3, .int x3)], [.int x3, .ref 79], h)) 3 rfl ?_
        obtain ⟨g6, hM⟩ := am_gS hM
        refine Ev.g (B := (41, [(4, .int (x1 - ((h.2.1 78) (Int32.toNatClampNeg x3)))), (0, .ref 75), (1, .int x1), (2, .int x2), (3, .int x3)], [.int ((h.2.1 79) (Int32.toNatClampNeg x3))], h)) g6 rfl ?_
        refine Ev.steps (B := (42, [(4, .int (x1 - ((h.2.1 78) (Int32.toNatClampNeg x3)))), (0, .ref 75), (1, .int x1), (2, .int x2), (3, .int x3)], [.int 1, .int ((h.2.1 79) (Int32.toNatClampNeg x3))], h)) 1 rfl ?_
        refine Ev.br (b := decide (¬ ((h.2.1 79) (Int32.toNatClampNeg x3)) = 1)) rfl (fun c7 => ?_) (fun c7 => ?_)
        · have c7 := of_decide_eq_true c7
          rw [if_neg c7] at hM
          refine Ev.steps (B := (51, [(4, .int (x1 - ((h.2.1 78) (Int32.toNatClampNeg x3)))), (0, .ref 75), (1, .int x1), (2, .int x2), (3, .int x3)], [.int 9], h)) 1 rfl ?_
          refine Ev.lv (lv := [(0, .ref 75), (1, .int x1), (2, .int x2), (3, .int x3), (4, .int (x1 - ((h.2.1 78) (Int32.toNatClampNeg x3))))]) ⟨rfl, rfl, rfl, rfl, rfl, trivial⟩ rfl rfl ?_
          exact E_B_X9_fireAt_51 n (L_X9_fireAt_4 n m) h vR ih x1 x2 x3 (x1 - ((h.2.1 78) (Int32.toNatClampNeg x3))) 9 hM
        · have c7 := Decidable.of_not_not (of_decide_eq_false c7)
          rw [if_pos c7] at hM
          refine Ev.steps (B := (51, [(4, .int (x1 - ((h.2.1 78) (Int32.toNatClampNeg x3)))), (0, .ref 75), (1, .int x1), (2, .int x2), (3, .int x3)], [.int 5], h)) 2 rfl ?_
          refine Ev.lv (lv := [(0, .ref 75), (1, .int x1), (2, .int x2), (3, .int x3), (4, .int (x1 - ((h.2.1 78) (Int32.toNatClampNeg x3))))]) ⟨rfl, rfl, rfl, rfl, rfl, trivial⟩ rfl rfl ?_
          exact E_B_X9_fireAt_51 n (L_X9_fireAt_4 n m) h vR ih x1 x2 x3 (x1 - ((h.2.1 78) (Int32.toNatClampNeg x3))) 5 hM
      · have c5 := Decidable.of_not_not (of_decide_eq_false c5)
        rw [if_pos c5] at hM
        refine Ev.steps (B := (51, [(4, .int (x1 - ((h.2.1 78) (Int32.toNatClampNeg x3)))), (0, .ref 75), (1, .int x1), (2, .int x2), (3, .int x3)], [.int 3], h)) 2 rfl ?_
        refine Ev.lv (lv := [(0, .ref 75), (1, .int x1), (2, .int x2), (3, .int x3), (4, .int (x1 - ((h.2.1 78) (Int32.toNatClampNeg x3))))]) ⟨rfl, rfl, rfl, rfl, rfl, trivial⟩ rfl rfl ?_
        exact E_B_X9_fireAt_51 n (L_X9_fireAt_4 n m) h vR ih x1 x2 x3 (x1 - ((h.2.1 78) (Int32.toNatClampNeg x3))) 3 hM
def M_X9_fireAt (n : Nat) (a1 : Int32) (h : AH) : Option Int32 :=
  L_X9_fireAt_4 n n a1 0 0 h
set_option maxRecDepth 10000 in
theorem E_X9_fireAt_75 (n : Nat) (a1 : Int32) (h : AH) (vR : Int32) (hM : M_X9_fireAt n a1 h = some vR) : Ev none mr_X9_fireAt (0, [(0, .ref 75), (1, .int a1)], [], h) (some (.int vR)) h := by
  unfold M_X9_fireAt at hM
  refine Ev.steps (B := (4, [(3, .int 0), (2, .int 0), (0, .ref 75), (1, .int a1)], [], h)) 4 rfl ?_
  refine Ev.lv (lv := [(0, .ref 75), (1, .int a1), (2, .int 0), (3, .int 0)]) ⟨rfl, rfl, rfl, rfl, trivial⟩ rfl rfl ?_
  exact E_L_X9_fireAt_4 n h vR n a1 0 0 hM
def M_X9_joins (a1 : Int32) (a2 : Int32) (h : AH) : Option AH :=
  bif (am_in (h.1 75 29) 8) then
    bif (am_in a1 8) then
      bif (am_in a1 8) then
        some (am_sa (am_sa (am_sf (am_sa h 90 (upd (h.2.1 90) (Int32.toNatClampNeg (h.1 75 29)) a1)) 75 29 ((h.1 75 29) + 1)) 91 (upd (h.2.1 91) (Int32.toNatClampNeg a1) 1)) 94 (upd (h.2.1 94) (Int32.toNatClampNeg a1) a2))
      else none
    else none
  else none
set_option maxRecDepth 10000 in
theorem E_X9_joins_75 (a1 : Int32) (a2 : Int32) (h : AH) (hR : AH) (hM : M_X9_joins a1 a2 h = some hR) : Ev none mr_X9_joins (0, [(0, .ref 75), (1, .int a1), (2, .int a2)], [], h) none hR := by
  unfold M_X9_joins at hM
  refine Ev.steps (B := (9, [(0, .ref 75), (1, .int a1), (2, .int a2)], [.int a1, .int (h.1 75 29), .ref 90], h)) 5 rfl ?_
  obtain ⟨g1, hM⟩ := am_gS hM
  refine Ev.g (B := (10, [(0, .ref 75), (1, .int a1), (2, .int a2)], [], (am_sa h 90 (upd (h.2.1 90) (Int32.toNatClampNeg (h.1 75 29)) a1)))) g1 rfl ?_
  refine Ev.steps (B := (26, [(0, .ref 75), (1, .int a1), (2, .int a2)], [.int 1, .int a1, .ref 91], (am_sf (am_sa h 90 (upd (h.2.1 90) (Int32.toNatClampNeg (h.1 75 29)) a1)) 75 29 ((h.1 75 29) + 1)))) 10 rfl ?_
  obtain ⟨g2, hM⟩ := am_gS hM
  refine Ev.g (B := (27, [(0, .ref 75), (1, .int a1), (2, .int a2)], [], (am_sa (am_sf (am_sa h 90 (upd (h.2.1 90) (Int32.toNatClampNeg (h.1 75 29)) a1)) 75 29 ((h.1 75 29) + 1)) 91 (upd (h.2.1 91) (Int32.toNatClampNeg a1) 1)))) g2 rfl ?_
  refine Ev.steps (B := (33, [(0, .ref 75), (1, .int a1), (2, .int a2)], [.int a2, .int a1, .ref 94], (am_sa (am_sf (am_sa h 90 (upd (h.2.1 90) (Int32.toNatClampNeg (h.1 75 29)) a1)) 75 29 ((h.1 75 29) + 1)) 91 (upd (h.2.1 91) (Int32.toNatClampNeg a1) 1)))) 4 rfl ?_
  obtain ⟨g3, hM⟩ := am_gS hM
  refine Ev.g (B := (34, [(0, .ref 75), (1, .int a1), (2, .int a2)], [], (am_sa (am_sa (am_sf (am_sa h 90 (upd (h.2.1 90) (Int32.toNatClampNeg (h.1 75 29)) a1)) 75 29 ((h.1 75 29) + 1)) 91 (upd (h.2.1 91) (Int32.toNatClampNeg a1) 1)) 94 (upd (h.2.1 94) (Int32.toNatClampNeg a1) a2)))) g3 rfl ?_
  obtain rfl := am_s1 hM
  exact Ev.ret rfl
def L_X9_comes_34 (n : Nat) : Nat → Int32 → Int32 → AH → Option AH
  | 0, _, _, _ => none
  | m + 1, x1, x2, h =>
    if (h.1 75 16) ≤ x2 then
      some h
    else
      bif (am_in x2 8) then
        if ((h.2.1 91) (Int32.toNatClampNeg x2)) = 2 then
          bif (am_in x2 8) then
            if ((h.2.1 93) (Int32.toNatClampNeg x2)) = x1 then
              am_v (M_X9_joins x2 x1 h) fun h1 =>
              L_X9_comes_34 n m x1 (x2 + 1) h1
            else
              L_X9_comes_34 n m x1 (x2 + 1) h
          else none
        else
          L_X9_comes_34 n m x1 (x2 + 1) h
      else none
set_option maxRecDepth 10000 in
theorem E_L_X9_comes_34 (n : Nat) (hR : AH) : ∀ (m : Nat) (x1 : Int32) (x2 : Int32) (h : AH), L_X9_comes_34 n m x1 x2 h = some hR → Ev none mr_X9_comes (34, [(0, .ref 75), (1, .int x1), (2, .int x2)], [], h) none hR := by
  intro m
  induction m with
  | zero =>
    intro x1 x2 h hM
    exact (am_no hM).elim
  | succ m ih =>
    intro x1 x2 h hM
    rw [L_X9_comes_34] at hM
    refine Ev.steps (B := (39, [(0, .ref 75), (1, .int x1), (2, .int x2)], [.int (h.1 75 16), .int x2], h)) 3 rfl ?_
    refine Ev.br (b := decide ((h.1 75 16) ≤ x2)) rfl (fun c1 => ?_) (fun c1 => ?_)
    · have c1 := of_decide_eq_true c1
      rw [if_pos c1] at hM
      obtain rfl := am_s1 hM
      exact Ev.ret rfl
    · have c1 := of_decide_eq_false c1
      rw [if_neg c1] at hM
      refine Ev.steps (B := (47, [(0, .ref 75), (1, .int x1), (2, .int x2)], [.int x2, .ref 91], h)) 3 rfl ?_
      obtain ⟨g2, hM⟩ := am_gS hM
      refine Ev.g (B := (48, [(0, .ref 75), (1, .int x1), (2, .int x2)], [.int ((h.2.1 91) (Int32.toNatClampNeg x2))], h)) g2 rfl ?_
      refine Ev.steps (B := (49, [(0, .ref 75), (1, .int x1), (2, .int x2)], [.int 2, .int ((h.2.1 91) (Int32.toNatClampNeg x2))], h)) 1 rfl ?_
      refine Ev.br (b := decide (¬ ((h.2.1 91) (Int32.toNatClampNeg x2)) = 2)) rfl (fun c3 => ?_) (fun c3 => ?_)
      · have c3 := of_decide_eq_true c3
        rw [if_neg c3] at hM
        refine Ev.steps (B := (34, [(2, .int (x2 + 1)), (0, .ref 75), (1, .int x1)], [], h)) 2 rfl ?_
        refine Ev.lv (lv := [(0, .ref 75), (1, .int x1), (2, .int (x2 + 1))]) ⟨rfl, rfl, rfl, trivial⟩ rfl rfl ?_
        exact ih x1 (x2 + 1) h hM
      · have c3 := Decidable.of_not_not (of_decide_eq_false c3)
        rw [if_pos c3] at hM
        refine Ev.steps (B := (57, [(0, .ref 75), (1, .int x1), (2, .int x2)], [.int x2, .ref 93], h)) 3 rfl ?_
        obtain ⟨g4, hM⟩ := am_gS hM
        refine Ev.g (B := (58, [(0, .ref 75), (1, .int x1), (2, .int x2)], [.int ((h.2.1 93) (Int32.toNatClampNeg x2))], h)) g4 rfl ?_
        refine Ev.steps (B := (59, [(0, .ref 75), (1, .int x1), (2, .int x2)], [.int x1, .int ((h.2.1 93) (Int32.toNatClampNeg x2))], h)) 1 rfl ?_
        refine Ev.br (b := decide (¬ ((h.2.1 93) (Int32.toNatClampNeg x2)) = x1)) rfl (fun c5 => ?_) (fun c5 => ?_)
        · have c5 := of_decide_eq_true c5
          rw [if_neg c5] at hM
          refine Ev.steps (B := (34, [(2, .int (x2 + 1)), (0, .ref 75), (1, .int x1)], [], h)) 2 rfl ?_
          refine Ev.lv (lv := [(0, .ref 75), (1, .int x1), (2, .int (x2 + 1))]) ⟨rfl, rfl, rfl, trivial⟩ rfl rfl ?_
          exact ih x1 (x2 + 1) h hM
        · have c5 := Decidable.of_not_not (of_decide_eq_false c5)
          rw [if_pos c5] at hM
          refine Ev.steps (B := (65, [(0, .ref 75), (1, .int x1), (2, .int x2)], [.int x1, .int x2, .ref 75], h)) 3 rfl ?_
          obtain ⟨h1, e6, hM⟩ := am_vS hM
          refine Ev.call (q := (mr_X9_joins, [.ref 75, .int x2, .int x1], [])) rfl (E_X9_joins_75 x2 x1 h h1 e6) ?_
          refine Ev.steps (B := (34, [(2, .int (x2 + 1)), (0, .ref 75), (1, .int x1)], [], h1)) 2 rfl ?_
          refine Ev.lv (lv := [(0, .ref 75), (1, .int x1), (2, .int (x2 + 1))]) ⟨rfl, rfl, rfl, trivial⟩ rfl rfl ?_
          exact ih x1 (x2 + 1) h1 hM
def L_X9_comes_2 (n : Nat) : Nat → Int32 → Int32 → AH → Option AH
  | 0, _, _, _ => none
  | m + 1, x1, x2, h =>
    if (h.1 75 16) ≤ x2 then
      L_X9_comes_34 n n x1 0 h
    else
      bif (am_in x2 8) then
        if ((h.2.1 87) (Int32.toNatClampNeg x2)) = x1 then
          am_v (M_X9_joins x2 x1 h) fun h1 =>
          L_X9_comes_2 n m x1 (x2 + 1) h1
        else
          L_X9_comes_2 n m x1 (x2 + 1) h
      else none
set_option maxRecDepth 10000 in
theorem E_L_X9_comes_2 (n : Nat) (hR : AH) : ∀ (m : Nat) (x1 : Int32) (x2 : Int32) (h : AH), L_X9_comes_2 n m x1 x2 h = some hR → Ev none mr_X9_comes (2, [(0, .ref 75), (1, .int x1), (2, .int x2)], [], h) none hR := by
  intro m
  induction m with
  | zero =>
    intro x1 x2 h hM
    exact (am_no hM).elim
  | succ m ih =>
    intro x1 x2 h hM
    rw [L_X9_comes_2] at hM
    refine Ev.steps (B := (7, [(0, .ref 75), (1, .int x1), (2, .int x2)], [.int (h.1 75 16), .int x2], h)) 3 rfl ?_
    refine Ev.br (b := decide ((h.1 75 16) ≤ x2)) rfl (fun c1 => ?_) (fun c1 => ?_)
    · have c1 := of_decide_eq_true c1
      rw [if_pos c1] at hM
      refine Ev.steps (B := (34, [(2, .int 0), (0, .ref 75), (1, .int x1)], [], h)) 2 rfl ?_
      refine Ev.lv (lv := [(0, .ref 75), (1, .int x1), (2, .int 0)]) ⟨rfl, rfl, rfl, trivial⟩ rfl rfl ?_
      exact E_L_X9_comes_34 n hR n x1 0 h hM
    · have c1 := of_decide_eq_false c1
      rw [if_neg c1] at hM
      refine Ev.steps (B := (15, [(0, .ref 75), (1, .int x1), (2, .int x2)], [.int x2, .ref 87], h)) 3 rfl ?_
      obtain ⟨g2, hM⟩ := am_gS hM
      refine Ev.g (B := (16, [(0, .ref 75), (1, .int x1), (2, .int x2)], [.int ((h.2.1 87) (Int32.toNatClampNeg x2))], h)) g2 rfl ?_
      refine Ev.steps (B := (17, [(0, .ref 75), (1, .int x1), (2, .int x2)], [.int x1, .int ((h.2.1 87) (Int32.toNatClampNeg x2))], h)) 1 rfl ?_
      refine Ev.br (b := decide (¬ ((h.2.1 87) (Int32.toNatClampNeg x2)) = x1)) rfl (fun c3 => ?_) (fun c3 => ?_)
      · have c3 := of_decide_eq_true c3
        rw [if_neg c3] at hM
        refine Ev.steps (B := (2, [(2, .int (x2 + 1)), (0, .ref 75), (1, .int x1)], [], h)) 2 rfl ?_
        refine Ev.lv (lv := [(0, .ref 75), (1, .int x1), (2, .int (x2 + 1))]) ⟨rfl, rfl, rfl, trivial⟩ rfl rfl ?_
        exact ih x1 (x2 + 1) h hM
      · have c3 := Decidable.of_not_not (of_decide_eq_false c3)
        rw [if_pos c3] at hM
        refine Ev.steps (B := (23, [(0, .ref 75), (1, .int x1), (2, .int x2)], [.int x1, .int x2, .ref 75], h)) 3 rfl ?_
        obtain ⟨h1, e4, hM⟩ := am_vS hM
        refine Ev.call (q := (mr_X9_joins, [.ref 75, .int x2, .int x1], [])) rfl (E_X9_joins_75 x2 x1 h h1 e4) ?_
        refine Ev.steps (B := (2, [(2, .int (x2 + 1)), (0, .ref 75), (1, .int x1)], [], h1)) 2 rfl ?_
        refine Ev.lv (lv := [(0, .ref 75), (1, .int x1), (2, .int (x2 + 1))]) ⟨rfl, rfl, rfl, trivial⟩ rfl rfl ?_
        exact ih x1 (x2 + 1) h1 hM
def M_X9_comes (n : Nat) (a1 : Int32) (h : AH) : Option AH :=
  L_X9_comes_2 n n a1 0 h
set_option maxRecDepth 10000 in
theorem E_X9_comes_75 (n : Nat) (a1 : Int32) (h : AH) (hR : AH) (hM : M_X9_comes n a1 h = some hR) : Ev none mr_X9_comes (0, [(0, .ref 75), (1, .int a1)], [], h) none hR := by
  unfold M_X9_comes at hM
  refine Ev.steps (B := (2, [(2, .int 0), (0, .ref 75), (1, .int a1)], [], h)) 2 rfl ?_
  refine Ev.lv (lv := [(0, .ref 75), (1, .int a1), (2, .int 0)]) ⟨rfl, rfl, rfl, trivial⟩ rfl rfl ?_
  exact E_L_X9_comes_2 n hR n a1 0 h hM
def L_X9_leaves_2 (n : Nat) : Nat → Int32 → AH → Option AH
  | 0, _, _ => none
  | m + 1, x2, h =>
    if (h.1 75 29) ≤ (x2 + 1) then
      some (am_sf h 75 29 ((h.1 75 29) - 1))
    else
      bif (am_in (x2 + 1) 8) then
        bif (am_in x2 8) then
          L_X9_leaves_2 n m (x2 + 1) (am_sa h 90 (upd (h.2.1 90) (Int32.toNatClampNeg x2) ((h.2.1 90) (Int32.toNatClampNeg (x2 + 1)))))
        else none
      else none
set_option maxRecDepth 10000 in
theorem E_L_X9_leaves_2 (n : Nat) (hR : AH) : ∀ (m : Nat) (x2 : Int32) (h : AH), L_X9_leaves_2 n m x2 h = some hR → Ev none mr_X9_leaves (2, [(0, .ref 75), (2, .int x2)], [], h) none hR := by
  intro m
  induction m with
  | zero =>
    intro x2 h hM
    exact (am_no hM).elim
  | succ m ih =>
    intro x2 h hM
    rw [L_X9_leaves_2] at hM
    refine Ev.steps (B := (9, [(0, .ref 75), (2, .int x2)], [.int (h.1 75 29), .int (x2 + 1)], h)) 5 rfl ?_
    refine Ev.br (b := decide ((h.1 75 29) ≤ (x2 + 1))) rfl (fun c1 => ?_) (fun c1 => ?_)
    · have c1 := of_decide_eq_true c1
      rw [if_pos c1] at hM
      refine Ev.steps (B := (42, [(0, .ref 75), (2, .int x2)], [], (am_sf h 75 29 ((h.1 75 29) - 1)))) 6 rfl ?_
      obtain rfl := am_s1 hM
      exact Ev.ret rfl
    · have c1 := of_decide_eq_false c1
      rw [if_neg c1] at hM
      refine Ev.steps (B := (24, [(0, .ref 75), (2, .int x2)], [.int (x2 + 1), .ref 90, .int x2, .ref 90], h)) 8 rfl ?_
      obtain ⟨g2, hM⟩ := am_gS hM
      refine Ev.g (B := (25, [(0, .ref 75), (2, .int x2)], [.int ((h.2.1 90) (Int32.toNatClampNeg (x2 + 1))), .int x2, .ref 90], h)) g2 rfl ?_
      obtain ⟨g3, hM⟩ := am_gS hM
      refine Ev.g (B := (26, [(0, .ref 75), (2, .int x2)], [], (am_sa h 90 (upd (h.2.1 90) (Int32.toNatClampNeg x2) ((h.2.1 90) (Int32.toNatClampNeg (x2 + 1))))))) g3 rfl ?_
      refine Ev.steps (B := (2, [(2, .int (x2 + 1)), (0, .ref 75)], [], (am_sa h 90 (upd (h.2.1 90) (Int32.toNatClampNeg x2) ((h.2.1 90) (Int32.toNatClampNeg (x2 + 1))))))) 2 rfl ?_
      refine Ev.lv (lv := [(0, .ref 75), (2, .int (x2 + 1))]) ⟨rfl, rfl, trivial⟩ rfl rfl ?_
      exact ih (x2 + 1) (am_sa h 90 (upd (h.2.1 90) (Int32.toNatClampNeg x2) ((h.2.1 90) (Int32.toNatClampNeg (x2 + 1))))) hM
def M_X9_leaves (n : Nat) (a1 : Int32) (h : AH) : Option AH :=
  L_X9_leaves_2 n n a1 h
set_option maxRecDepth 10000 in
theorem E_X9_leaves_75 (n : Nat) (a1 : Int32) (h : AH) (hR : AH) (hM : M_X9_leaves n a1 h = some hR) : Ev none mr_X9_leaves (0, [(0, .ref 75), (1, .int a1)], [], h) none hR := by
  unfold M_X9_leaves at hM
  refine Ev.steps (B := (2, [(2, .int a1), (0, .ref 75), (1, .int a1)], [], h)) 2 rfl ?_
  refine Ev.lv (lv := [(0, .ref 75), (2, .int a1)]) ⟨rfl, rfl, trivial⟩ rfl rfl ?_
  exact E_L_X9_leaves_2 n hR n a1 h hM
def B_X9_serves_121 (n : Nat) (x2 : Int32) (x3 : Int32) (y0 : Int32) (y1 : Int32) (y2 : Int32) (h : AH) : Option (Int32 × AH) :=
  bif (am_in y2 8) then
    am_v (M_X9_leaves n x2 (am_sa h 93 (upd (h.2.1 93) (Int32.toNatClampNeg y2) (y1 + y0)))) fun h1 =>
    some (x3, h1)
  else none
set_option maxRecDepth 10000 in
theorem E_B_X9_serves_121 (n : Nat) (vR : Int32) (hR : AH) (x2 : Int32) (x3 : Int32) (y0 : Int32) (y1 : Int32) (y2 : Int32) (h : AH) (hM : B_X9_serves_121 n x2 x3 y0 y1 y2 h = some (vR, hR)) : Ev none mr_X9_serves (121, [(0, .ref 75), (2, .int x2), (3, .int x3)], [.int y0, .int y1, .int y2, .ref 93], h) (some (.int vR)) hR := by
  unfold B_X9_serves_121 at hM
  refine Ev.steps (B := (122, [(0, .ref 75), (2, .int x2), (3, .int x3)], [.int (y1 + y0), .int y2, .ref 93], h)) 1 rfl ?_
  obtain ⟨g1, hM⟩ := am_gS hM
  refine Ev.g (B := (123, [(0, .ref 75), (2, .int x2), (3, .int x3)], [], (am_sa h 93 (upd (h.2.1 93) (Int32.toNatClampNeg y2) (y1 + y0))))) g1 rfl ?_
  refine Ev.steps (B := (125, [(0, .ref 75), (2, .int x2), (3, .int x3)], [.int x2, .ref 75], (am_sa h 93 (upd (h.2.1 93) (Int32.toNatClampNeg y2) (y1 + y0))))) 2 rfl ?_
  obtain ⟨h1, e2, hM⟩ := am_vS hM
  refine Ev.call (q := (mr_X9_leaves, [.ref 75, .int x2], [])) rfl (E_X9_leaves_75 n x2 (am_sa h 93 (upd (h.2.1 93) (Int32.toNatClampNeg y2) (y1 + y0))) h1 e2) ?_
  refine Ev.steps (B := (129, [(0, .ref 75), (2, .int x2), (3, .int x3)], [.int x3], h1)) 1 rfl ?_
  obtain ⟨rfl, rfl⟩ := am_sp hM
  exact Ev.ret rfl
def B_X9_serves_99 (n : Nat) (x1 : Int32) (x2 : Int32) (x3 : Int32) (y0 : Int32) (y1 : Int32) (h : AH) : Option (Int32 × AH) :=
  bif (am_in y1 8) then
    bif (am_in x3 8) then
      if ((h.2.1 88) (Int32.toNatClampNeg x3)) = 1 then
        B_X9_serves_121 n x2 x3 4 x1 x3 (am_sa h 91 (upd (h.2.1 91) (Int32.toNatClampNeg y1) y0))
      else
        B_X9_serves_121 n x2 x3 3 x1 x3 (am_sa h 91 (upd (h.2.1 91) (Int32.toNatClampNeg y1) y0))
    else none
  else none
set_option maxRecDepth 10000 in
theorem E_B_X9_serves_99 (n : Nat) (vR : Int32) (hR : AH) (x1 : Int32) (x2 : Int32) (x3 : Int32) (y0 : Int32) (y1 : Int32) (h : AH) (hM : B_X9_serves_99 n x1 x2 x3 y0 y1 h = some (vR, hR)) : Ev none mr_X9_serves (99, [(0, .ref 75), (1, .int x1), (2, .int x2), (3, .int x3)], [.int y0, .int y1, .ref 91], h) (some (.int vR)) hR := by
  unfold B_X9_serves_99 at hM
  obtain ⟨g1, hM⟩ := am_gS hM
  refine Ev.g (B := (100, [(0, .ref 75), (1, .int x1), (2, .int x2), (3, .int x3)], [], (am_sa h 91 (upd (h.2.1 91) (Int32.toNatClampNeg y1) y0)))) g1 rfl ?_
  refine Ev.steps (B := (111, [(0, .ref 75), (1, .int x1), (2, .int x2), (3, .int x3)], [.int x3, .ref 88, .int x1, .int x3, .ref 93], (am_sa h 91 (upd (h.2.1 91) (Int32.toNatClampNeg y1) y0)))) 7 rfl ?_
  obtain ⟨g2, hM⟩ := am_gS hM
  refine Ev.g (B := (112, [(0, .ref 75), (1, .int x1), (2, .int x2), (3, .int x3)], [.int ((h.2.1 88) (Int32.toNatClampNeg x3)), .int x1, .int x3, .ref 93], (am_sa h 91 (upd (h.2.1 91) (Int32.toNatClampNeg y1) y0)))) g2 rfl ?_
  refine Ev.steps (B := (113, [(0, .ref 75), (1, .int x1), (2, .int x2), (3, .int x3)], [.int 1, .int ((h.2.1 88) (Int32.toNatClampNeg x3)), .int x1, .int x3, .ref 93], (am_sa h 91 (upd (h.2.1 91) (Int32.toNatClampNeg y1) y0)))) 1 rfl ?_
  refine Ev.br (b := decide (¬ ((h.2.1 88) (Int32.toNatClampNeg x3)) = 1)) rfl (fun c3 => ?_) (fun c3 => ?_)
  · have c3 := of_decide_eq_true c3
    rw [if_neg c3] at hM
    refine Ev.steps (B := (121, [(0, .ref 75), (1, .int x1), (2, .int x2), (3, .int x3)], [.int 3, .int x1, .int x3, .ref 93], (am_sa h 91 (upd (h.2.1 91) (Int32.toNatClampNeg y1) y0)))) 1 rfl ?_
    refine Ev.lv (lv := [(0, .ref 75), (2, .int x2), (3, .int x3)]) ⟨rfl, rfl, rfl, trivial⟩ rfl rfl ?_
    exact E_B_X9_serves_121 n vR hR x2 x3 3 x1 x3 (am_sa h 91 (upd (h.2.1 91) (Int32.toNatClampNeg y1) y0)) hM
  · have c3 := Decidable.of_not_not (of_decide_eq_false c3)
    rw [if_pos c3] at hM
    refine Ev.steps (B := (121, [(0, .ref 75), (1, .int x1), (2, .int x2), (3, .int x3)], [.int 4, .int x1, .int x3, .ref 93], (am_sa h 91 (upd (h.2.1 91) (Int32.toNatClampNeg y1) y0)))) 2 rfl ?_
    refine Ev.lv (lv := [(0, .ref 75), (2, .int x2), (3, .int x3)]) ⟨rfl, rfl, rfl, trivial⟩ rfl rfl ?_
    exact E_B_X9_serves_121 n vR hR x2 x3 4 x1 x3 (am_sa h 91 (upd (h.2.1 91) (Int32.toNatClampNeg y1) y0)) hM
def B_X9_serves_32 (n : Nat) (k2 : Int32 → Int32 → AH → Option (Int32 × AH)) (x1 : Int32) (x2 : Int32) (x3 : Int32) (y0 : Int32) (h : AH) : Option (Int32 × AH) :=
  if (h.1 75 24) < y0 then
    k2 x1 (x2 + 1) h
  else
    bif (am_in x3 8) then
      bif (am_in x3 8) then
        bif (am_in x3 8) then
          bif (am_in x3 8) then
            if ((upd (h.2.1 92) (Int32.toNatClampNeg x3) (((h.2.1 92) (Int32.toNatClampNeg x3)) + 1)) (Int32.toNatClampNeg x3)) = ((h.2.1 89) (Int32.toNatClampNeg x3)) then
              B_X9_serves_99 n x1 x2 x3 3 x3 (am_sa (am_sf (am_sf h 75 24 ((h.1 75 24) - y0)) 75 23 ((h.1 75 23) - 1)) 92 (upd (h.2.1 92) (Int32.toNatClampNeg x3) (((h.2.1 92) (Int32.toNatClampNeg x3)) + 1)))
            else
              B_X9_serves_99 n x1 x2 x3 2 x3 (am_sa (am_sf (am_sf h 75 24 ((h.1 75 24) - y0)) 75 23 ((h.1 75 23) - 1)) 92 (upd (h.2.1 92) (Int32.toNatClampNeg x3) (((h.2.1 92) (Int32.toNatClampNeg x3)) + 1)))
          else none
        else none
      else none
    else none
set_option maxRecDepth 10000 in
theorem E_B_X9_serves_32 (n : Nat) (k2 : Int32 → Int32 → AH → Option (Int32 × AH)) (vR : Int32) (hR : AH) (hk2 : ∀ (x1 : Int32) (x2 : Int32) (h0 : AH), k2 x1 x2 h0 = some (vR, hR) → Ev none mr_X9_serves (2, [(0, .ref 75), (1, .int x1), (2, .int x2)], [], h0) (some (.int vR)) hR) (x1 : Int32) (x2 : Int32) (x3 : Int32) (y0 : Int32) (h : AH) (hM : B_X9_serves_32 n k2 x1 x2 x3 y0 h = some (vR, hR)) : Ev none mr_X9_serves (32, [(0, .ref 75), (1, .int x1), (2, .int x2), (3, .int x3)], [.int y0], h) (some (.int vR)) hR := by
  unfold B_X9_serves_32 at hM
  refine Ev.steps (B := (40, [(4, .int y0), (0, .ref 75), (1, .int x1), (2, .int x2), (3, .int x3)], [.int y0, .int (h.1 75 24)], h)) 4 rfl ?_
  refine Ev.br (b := decide ((h.1 75 24) < y0)) rfl (fun c1 => ?_) (fun c1 => ?_)
  · have c1 := of_decide_eq_true c1
    rw [if_pos c1] at hM
    refine Ev.steps (B := (2, [(2, .int (x2 + 1)), (4, .int y0), (0, .ref 75), (1, .int x1), (3, .int x3)], [], h)) 2 rfl ?_
    refine Ev.lv (lv := [(0, .ref 75), (1, .int x1), (2, .int (x2 + 1))]) ⟨rfl, rfl, rfl, trivial⟩ rfl rfl ?_
    exact hk2 x1 (x2 + 1) h hM
  · have c1 := of_decide_eq_false c1
    rw [if_neg c1] at hM
    refine Ev.steps (B := (70, [(4, .int y0), (0, .ref 75), (1, .int x1), (2, .int x2), (3, .int x3)], [.int x3, .ref 92, .int x3, .ref 92], (am_sf (am_sf h 75 24 ((h.1 75 24) - y0)) 75 23 ((h.1 75 23) - 1)))) 16 rfl ?_
    obtain ⟨g2, hM⟩ := am_gS hM
    refine Ev.g (B := (71, [(4, .int y0), (0, .ref 75), (1, .int x1), (2, .int x2), (3, .int x3)], [.int ((h.2.1 92) (Int32.toNatClampNeg x3)), .int x3, .ref 92], (am_sf (am_sf h 75 24 ((h.1 75 24) - y0)) 75 23 ((h.1 75 23) - 1)))) g2 rfl ?_
    refine Ev.steps (B := (73, [(4, .int y0), (0, .ref 75), (1, .int x1), (2, .int x2), (3, .int x3)], [.int (((h.2.1 92) (Int32.toNatClampNeg x3)) + 1), .int x3, .ref 92], (am_sf (am_sf h 75 24 ((h.1 75 24) - y0)) 75 23 ((h.1 75 23) - 1)))) 2 rfl ?_
    obtain ⟨g3, hM⟩ := am_gS hM
    refine Ev.g (B := (74, [(4, .int y0), (0, .ref 75), (1, .int x1), (2, .int x2), (3, .int x3)], [], (am_sa (am_sf (am_sf h 75 24 ((h.1 75 24) - y0)) 75 23 ((h.1 75 23) - 1)) 92 (upd (h.2.1 92) (Int32.toNatClampNeg x3) (((h.2.1 92) (Int32.toNatClampNeg x3)) + 1))))) g3 rfl ?_
    refine Ev.steps (B := (84, [(4, .int y0), (0, .ref 75), (1, .int x1), (2, .int x2), (3, .int x3)], [.int x3, .ref 92, .int x3, .ref 91], (am_sa (am_sf (am_sf h 75 24 ((h.1 75 24) - y0)) 75 23 ((h.1 75 23) - 1)) 92 (upd (h.2.1 92) (Int32.toNatClampNeg x3) (((h.2.1 92) (Int32.toNatClampNeg x3)) + 1))))) 6 rfl ?_
    obtain ⟨g4, hM⟩ := am_gS hM
    refine Ev.g (B := (85, [(4, .int y0), (0, .ref 75), (1, .int x1), (2, .int x2), (3, .int x3)], [.int ((upd (h.2.1 92) (Int32.toNatClampNeg x3) (((h.2.1 92) (Int32.toNatClampNeg x3)) + 1)) (Int32.toNatClampNeg x3)), .int x3, .ref 91], (am_sa (am_sf (am_sf h 75 24 ((h.1 75 24) - y0)) 75 23 ((h.1 75 23) - 1)) 92 (upd (h.2.1 92) (Int32.toNatClampNeg x3) (((h.2.1 92) (Int32.toNatClampNeg x3)) + 1))))) g4 rfl ?_
    refine Ev.steps (B := (90, [(4, .int y0), (0, .ref 75), (1, .int x1), (2, .int x2), (3, .int x3)], [.int x3, .ref 89, .int ((upd (h.2.1 92) (Int32.toNatClampNeg x3) (((h.2.1 92) (Int32.toNatClampNeg x3)) + 1)) (Int32.toNatClampNeg x3)), .int x3, .ref 91], (am_sa (am_sf (am_sf h 75 24 ((h.1 75 24) - y0)) 75 23 ((h.1 75 23) - 1)) 92 (upd (h.2.1 92) (Int32.toNatClampNeg x3) (((h.2.1 92) (Int32.toNatClampNeg x3)) + 1))))) 3 rfl ?_
    obtain ⟨g5, hM⟩ := am_gS hM
    refine Ev.g (B := (91, [(4, .int y0), (0, .ref 75), (1, .int x1), (2, .int x2), (3, .int x3)], [.int ((h.2.1 89) (Int32.toNatClampNeg x3)), .int ((upd (h.2.1 92) (Int32.toNatClampNeg x3) (((h.2.1 92) (Int32.toNatClampNeg x3)) + 1)) (Int32.toNatClampNeg x3)), .int x3, .ref 91], (am_sa (am_sf (am_sf h 75 24 ((h.1 75 24) - y0)) 75 23 ((h.1 75 23) - 1)) 92 (upd (h.2.1 92) (Int32.toNatClampNeg x3) (((h.2.1 92) (Int32.toNatClampNeg x3)) + 1))))) g5 rfl ?_
    refine Ev.br (b := decide (¬ ((upd (h.2.1 92) (Int32.toNatClampNeg x3) (((h.2.1 92) (Int32.toNatClampNeg x3)) + 1)) (Int32.toNatClampNeg x3)) = ((h.2.1 89) (Int32.toNatClampNeg x3)))) rfl (fun c6 => ?_) (fun c6 => ?_)
    · have c6 := of_decide_eq_true c6
      rw [if_neg c6] at hM
      refine Ev.steps (B := (99, [(4, .int y0), (0, .ref 75), (1, .int x1), (2, .int x2), (3, .int x3)], [.int 2, .int x3, .ref 91], (am_sa (am_sf (am_sf h 75 24 ((h.1 75 24) - y0)) 75 23 ((h.1 75 23) - 1)) 92 (upd (h.2.1 92) (Int32.toNatClampNeg x3) (((h.2.1 92) (Int32.toNatClampNeg x3)) + 1))))) 1 rfl ?_
      refine Ev.lv (lv := [(0, .ref 75), (1, .int x1), (2, .int x2), (3, .int x3)]) ⟨rfl, rfl, rfl, rfl, trivial⟩ rfl rfl ?_
      exact E_B_X9_serves_99 n vR hR x1 x2 x3 2 x3 (am_sa (am_sf (am_sf h 75 24 ((h.1 75 24) - y0)) 75 23 ((h.1 75 23) - 1)) 92 (upd (h.2.1 92) (Int32.toNatClampNeg x3) (((h.2.1 92) (Int32.toNatClampNeg x3)) + 1))) hM
    · have c6 := Decidable.of_not_not (of_decide_eq_false c6)
      rw [if_pos c6] at hM
      refine Ev.steps (B := (99, [(4, .int y0), (0, .ref 75), (1, .int x1), (2, .int x2), (3, .int x3)], [.int 3, .int x3, .ref 91], (am_sa (am_sf (am_sf h 75 24 ((h.1 75 24) - y0)) 75 23 ((h.1 75 23) - 1)) 92 (upd (h.2.1 92) (Int32.toNatClampNeg x3) (((h.2.1 92) (Int32.toNatClampNeg x3)) + 1))))) 2 rfl ?_
      refine Ev.lv (lv := [(0, .ref 75), (1, .int x1), (2, .int x2), (3, .int x3)]) ⟨rfl, rfl, rfl, rfl, trivial⟩ rfl rfl ?_
      exact E_B_X9_serves_99 n vR hR x1 x2 x3 3 x3 (am_sa (am_sf (am_sf h 75 24 ((h.1 75 24) - y0)) 75 23 ((h.1 75 23) - 1)) 92 (upd (h.2.1 92) (Int32.toNatClampNeg x3) (((h.2.1 92) (Int32.toNatClampNeg x3)) + 1))) hM
def L_X9_serves_2 (n : Nat) : Nat → Int32 → Int32 → AH → Option (Int32 × AH)
  | 0, _, _, _ => none
  | m + 1, x1, x2, h =>
    if (h.1 75 29) ≤ x2 then
      some ((-1), h)
    else
      bif (am_in x2 8) then
        bif (am_in ((h.2.1 90) (Int32.toNatClampNeg x2)) 8) then
          if ((h.2.1 88) (Int32.toNatClampNeg ((h.2.1 90) (Int32.toNatClampNeg x2)))) = 1 then
            B_X9_serves_32 n (L_X9_serves_2 n m) x1 x2 ((h.2.1 90) (Int32.toNatClampNeg x2)) 3 h
          else
            B_X9_serves_32 n (L_X9_serves_2 n m) x1 x2 ((h.2.1 90) (Int32.toNatClampNeg x2)) 1 h
        else none
      else none
set_option maxRecDepth 10000 in
theorem E_L_X9_serves_2 (n : Nat) (vR : Int32) (hR : AH) : ∀ (m : Nat) (x1 : Int32) (x2 : Int32) (h : AH), L_X9_serves_2 n m x1 x2 h = some (vR, hR) → Ev none mr_X9_serves (2, [(0, .ref 75), (1, .int x1), (2, .int x2)], [], h) (some (.int vR)) hR := by
  intro m
  induction m with
  | zero =>
    intro x1 x2 h hM
    exact (am_no hM).elim
  | succ m ih =>
    intro x1 x2 h hM
    rw [L_X9_serves_2] at hM
    refine Ev.steps (B := (7, [(0, .ref 75), (1, .int x1), (2, .int x2)], [.int (h.1 75 29), .int x2], h)) 3 rfl ?_
    refine Ev.br (b := decide ((h.1 75 29) ≤ x2)) rfl (fun c1 => ?_) (fun c1 => ?_)
    · have c1 := of_decide_eq_true c1
      rw [if_pos c1] at hM
      refine Ev.steps (B := (137, [(0, .ref 75), (1, .int x1), (2, .int x2)], [.int (-1)], h)) 1 rfl ?_
      obtain ⟨rfl, rfl⟩ := am_sp hM
      exact Ev.ret rfl
    · have c1 := of_decide_eq_false c1
      rw [if_neg c1] at hM
      refine Ev.steps (B := (15, [(0, .ref 75), (1, .int x1), (2, .int x2)], [.int x2, .ref 90], h)) 3 rfl ?_
      obtain ⟨g2, hM⟩ := am_gS hM
      refine Ev.g (B := (16, [(0, .ref 75), (1, .int x1), (2, .int x2)], [.int ((h.2.1 90) (Int32.toNatClampNeg x2))], h)) g2 rfl ?_
      refine Ev.steps (B := (22, [(3, .int ((h.2.1 90) (Int32.toNatClampNeg x2))), (0, .ref 75), (1, .int x1), (2, .int x2)], [.int ((h.2.1 90) (Int32.toNatClampNeg x2)), .ref 88], h)) 4 rfl ?_
      obtain ⟨g3, hM⟩ := am_gS hM
      refine Ev.g (B := (23, [(3, .int ((h.2.1 90) (Int32.toNatClampNeg x2))), (0, .ref 75), (1, .int x1), (2, .int x2)], [.int ((h.2.1 88) (Int32.toNatClampNeg ((h.2.1 90) (Int32.toNatClampNeg x2))))], h)) g3 rfl ?_
      refine Ev.steps (B := (24, [(3, .int ((h.2.1 90) (Int32.toNatClampNeg x2))), (0, .ref 75), (1, .int x1), (2, .int x2)], [.int 1, .int ((h.2.1 88) (Int32.toNatClampNeg ((h.2.1 90) (Int32.toNatClampNeg x2))))], h)) 1 rfl ?_
      refine Ev.br (b := decide (¬ ((h.2.1 88) (Int32.toNatClampNeg ((h.2.1 90) (Int32.toNatClampNeg x2)))) = 1)) rfl (fun c4 => ?_) (fun c4 => ?_)
      · have c4 := of_decide_eq_true c4
        rw [if_neg c4] at hM
        refine Ev.steps (B := (32, [(3, .int ((h.2.1 90) (Int32.toNatClampNeg x2))), (0, .ref 75), (1, .int x1), (2, .int x2)], [.int 1], h)) 1 rfl ?_
        refine Ev.lv (lv := [(0, .ref 75), (1, .int x1), (2, .int x2), (3, .int ((h.2.1 90) (Int32.toNatClampNeg x2)))]) ⟨rfl, rfl, rfl, rfl, trivial⟩ rfl rfl ?_
        exact E_B_X9_serves_32 n (L_X9_serves_2 n m) vR hR ih x1 x2 ((h.2.1 90) (Int32.toNatClampNeg x2)) 1 h hM
      · have c4 := Decidable.of_not_not (of_decide_eq_false c4)
        rw [if_pos c4] at hM
        refine Ev.steps (B := (32, [(3, .int ((h.2.1 90) (Int32.toNatClampNeg x2))), (0, .ref 75), (1, .int x1), (2, .int x2)], [.int 3], h)) 2 rfl ?_
        refine Ev.lv (lv := [(0, .ref 75), (1, .int x1), (2, .int x2), (3, .int ((h.2.1 90) (Int32.toNatClampNeg x2)))]) ⟨rfl, rfl, rfl, rfl, trivial⟩ rfl rfl ?_
        exact E_B_X9_serves_32 n (L_X9_serves_2 n m) vR hR ih x1 x2 ((h.2.1 90) (Int32.toNatClampNeg x2)) 3 h hM
def M_X9_serves (n : Nat) (a1 : Int32) (h : AH) : Option (Int32 × AH) :=
  L_X9_serves_2 n n a1 0 h
set_option maxRecDepth 10000 in
theorem E_X9_serves_75 (n : Nat) (a1 : Int32) (h : AH) (vR : Int32) (hR : AH) (hM : M_X9_serves n a1 h = some (vR, hR)) : Ev none mr_X9_serves (0, [(0, .ref 75), (1, .int a1)], [], h) (some (.int vR)) hR := by
  unfold M_X9_serves at hM
  refine Ev.steps (B := (2, [(2, .int 0), (0, .ref 75), (1, .int a1)], [], h)) 2 rfl ?_
  refine Ev.lv (lv := [(0, .ref 75), (1, .int a1), (2, .int 0)]) ⟨rfl, rfl, rfl, trivial⟩ rfl rfl ?_
  exact E_L_X9_serves_2 n vR hR n a1 0 h hM
def L_X9_goAway_7 (n : Nat) : Nat → Int32 → Int32 → AH → Option AH
  | 0, _, _, _ => none
  | m + 1, x1, x2, h =>
    if x2 < 0 then
      some h
    else
      bif (am_in x2 8) then
        bif (am_in ((h.2.1 90) (Int32.toNatClampNeg x2)) 8) then
          if (x1 - ((h.2.1 94) (Int32.toNatClampNeg ((h.2.1 90) (Int32.toNatClampNeg x2))))) < 5 then
            L_X9_goAway_7 n m x1 (x2 + (-1)) h
          else
            bif (am_in ((h.2.1 90) (Int32.toNatClampNeg x2)) 8) then
              am_v (M_X9_leaves n x2 (am_sa h 91 (upd (h.2.1 91) (Int32.toNatClampNeg ((h.2.1 90) (Int32.toNatClampNeg x2))) 4))) fun h1 =>
              L_X9_goAway_7 n m x1 (x2 + (-1)) h1
            else none
        else none
      else none
set_option maxRecDepth 10000 in
theorem E_L_X9_goAway_7 (n : Nat) (hR : AH) : ∀ (m : Nat) (x1 : Int32) (x2 : Int32) (h : AH), L_X9_goAway_7 n m x1 x2 h = some hR → Ev none mr_X9_goAway (7, [(0, .ref 75), (1, .int x1), (2, .int x2)], [], h) none hR := by
  intro m
  induction m with
  | zero =>
    intro x1 x2 h hM
    exact (am_no hM).elim
  | succ m ih =>
    intro x1 x2 h hM
    rw [L_X9_goAway_7] at hM
    refine Ev.steps (B := (8, [(0, .ref 75), (1, .int x1), (2, .int x2)], [.int x2], h)) 1 rfl ?_
    refine Ev.br (b := decide (x2 < 0)) rfl (fun c1 => ?_) (fun c1 => ?_)
    · have c1 := of_decide_eq_true c1
      rw [if_pos c1] at hM
      obtain rfl := am_s1 hM
      exact Ev.ret rfl
    · have c1 := of_decide_eq_false c1
      rw [if_neg c1] at hM
      refine Ev.steps (B := (16, [(0, .ref 75), (1, .int x1), (2, .int x2)], [.int x2, .ref 90], h)) 3 rfl ?_
      obtain ⟨g2, hM⟩ := am_gS hM
      refine Ev.g (B := (17, [(0, .ref 75), (1, .int x1), (2, .int x2)], [.int ((h.2.1 90) (Int32.toNatClampNeg x2))], h)) g2 rfl ?_
      refine Ev.steps (B := (24, [(3, .int ((h.2.1 90) (Int32.toNatClampNeg x2))), (0, .ref 75), (1, .int x1), (2, .int x2)], [.int ((h.2.1 90) (Int32.toNatClampNeg x2)), .ref 94, .int x1], h)) 5 rfl ?_
      obtain ⟨g3, hM⟩ := am_gS hM
      refine Ev.g (B := (25, [(3, .int ((h.2.1 90) (Int32.toNatClampNeg x2))), (0, .ref 75), (1, .int x1), (2, .int x2)], [.int ((h.2.1 94) (Int32.toNatClampNeg ((h.2.1 90) (Int32.toNatClampNeg x2)))), .int x1], h)) g3 rfl ?_
      refine Ev.steps (B := (27, [(3, .int ((h.2.1 90) (Int32.toNatClampNeg x2))), (0, .ref 75), (1, .int x1), (2, .int x2)], [.int 5, .int (x1 - ((h.2.1 94) (Int32.toNatClampNeg ((h.2.1 90) (Int32.toNatClampNeg x2)))))], h)) 2 rfl ?_
      refine Ev.br (b := decide ((x1 - ((h.2.1 94) (Int32.toNatClampNeg ((h.2.1 90) (Int32.toNatClampNeg x2))))) < 5)) rfl (fun c4 => ?_) (fun c4 => ?_)
      · have c4 := of_decide_eq_true c4
        rw [if_pos c4] at hM
        refine Ev.steps (B := (7, [(2, .int (x2 + (-1))), (3, .int ((h.2.1 90) (Int32.toNatClampNeg x2))), (0, .ref 75), (1, .int x1)], [], h)) 2 rfl ?_
        refine Ev.lv (lv := [(0, .ref 75), (1, .int x1), (2, .int (x2 + (-1)))]) ⟨rfl, rfl, rfl, trivial⟩ rfl rfl ?_
        exact ih x1 (x2 + (-1)) h hM
      · have c4 := of_decide_eq_false c4
        rw [if_neg c4] at hM
        refine Ev.steps (B := (36, [(3, .int ((h.2.1 90) (Int32.toNatClampNeg x2))), (0, .ref 75), (1, .int x1), (2, .int x2)], [.int 4, .int ((h.2.1 90) (Int32.toNatClampNeg x2)), .ref 91], h)) 4 rfl ?_
        obtain ⟨g5, hM⟩ := am_gS hM
        refine Ev.g (B := (37, [(3, .int ((h.2.1 90) (Int32.toNatClampNeg x2))), (0, .ref 75), (1, .int x1), (2, .int x2)], [], (am_sa h 91 (upd (h.2.1 91) (Int32.toNatClampNeg ((h.2.1 90) (Int32.toNatClampNeg x2))) 4)))) g5 rfl ?_
        refine Ev.steps (B := (39, [(3, .int ((h.2.1 90) (Int32.toNatClampNeg x2))), (0, .ref 75), (1, .int x1), (2, .int x2)], [.int x2, .ref 75], (am_sa h 91 (upd (h.2.1 91) (Int32.toNatClampNeg ((h.2.1 90) (Int32.toNatClampNeg x2))) 4)))) 2 rfl ?_
        obtain ⟨h1, e6, hM⟩ := am_vS hM
        refine Ev.call (q := (mr_X9_leaves, [.ref 75, .int x2], [])) rfl (E_X9_leaves_75 n x2 (am_sa h 91 (upd (h.2.1 91) (Int32.toNatClampNeg ((h.2.1 90) (Int32.toNatClampNeg x2))) 4)) h1 e6) ?_
        refine Ev.steps (B := (7, [(2, .int (x2 + (-1))), (3, .int ((h.2.1 90) (Int32.toNatClampNeg x2))), (0, .ref 75), (1, .int x1)], [], h1)) 2 rfl ?_
        refine Ev.lv (lv := [(0, .ref 75), (1, .int x1), (2, .int (x2 + (-1)))]) ⟨rfl, rfl, rfl, trivial⟩ rfl rfl ?_
        exact ih x1 (x2 + (-1)) h1 hM
def M_X9_goAway (n : Nat) (a1 : Int32) (h : AH) : Option AH :=
  L_X9_goAway_7 n n a1 ((h.1 75 29) - 1) h
set_option maxRecDepth 10000 in
theorem E_X9_goAway_75 (n : Nat) (a1 : Int32) (h : AH) (hR : AH) (hM : M_X9_goAway n a1 h = some hR) : Ev none mr_X9_goAway (0, [(0, .ref 75), (1, .int a1)], [], h) none hR := by
  unfold M_X9_goAway at hM
  refine Ev.steps (B := (7, [(2, .int ((h.1 75 29) - 1)), (0, .ref 75), (1, .int a1)], [], h)) 5 rfl ?_
  refine Ev.lv (lv := [(0, .ref 75), (1, .int a1), (2, .int ((h.1 75 29) - 1))]) ⟨rfl, rfl, rfl, trivial⟩ rfl rfl ?_
  exact E_L_X9_goAway_7 n hR n a1 ((h.1 75 29) - 1) h hM
def B_X9_goesBy_354 (n : Nat) (k283 : Int32 → Int32 → AH → Option AH) (x1 : Int32) (x6 : Int32) (y0 : Int32) (y1 : Int32) (y2 : Int32) (h : AH) : Option AH :=
  bif (am_in y2 8) then
    k283 x1 (x6 + 1) (am_sa h 95 (upd (h.2.1 95) (Int32.toNatClampNeg y2) (y1 + y0)))
  else none
set_option maxRecDepth 10000 in
theorem E_B_X9_goesBy_354 (n : Nat) (k283 : Int32 → Int32 → AH → Option AH) (hR : AH) (hk283 : ∀ (x1 : Int32) (x6 : Int32) (h0 : AH), k283 x1 x6 h0 = some hR → Ev none mr_X9_goesBy (283, [(0, .ref 75), (1, .int x1), (6, .int x6)], [], h0) none hR) (x1 : Int32) (x6 : Int32) (y0 : Int32) (y1 : Int32) (y2 : Int32) (h : AH) (hM : B_X9_goesBy_354 n k283 x1 x6 y0 y1 y2 h = some hR) : Ev none mr_X9_goesBy (354, [(0, .ref 75), (1, .int x1), (6, .int x6)], [.int y0, .int y1, .int y2, .ref 95], h) none hR := by
  unfold B_X9_goesBy_354 at hM
  refine Ev.steps (B := (355, [(0, .ref 75), (1, .int x1), (6, .int x6)], [.int (y1 + y0), .int y2, .ref 95], h)) 1 rfl ?_
  obtain ⟨g1, hM⟩ := am_gS hM
  refine Ev.g (B := (356, [(0, .ref 75), (1, .int x1), (6, .int x6)], [], (am_sa h 95 (upd (h.2.1 95) (Int32.toNatClampNeg y2) (y1 + y0))))) g1 rfl ?_
  refine Ev.steps (B := (283, [(6, .int (x6 + 1)), (0, .ref 75), (1, .int x1)], [], (am_sa h 95 (upd (h.2.1 95) (Int32.toNatClampNeg y2) (y1 + y0))))) 2 rfl ?_
  refine Ev.lv (lv := [(0, .ref 75), (1, .int x1), (6, .int (x6 + 1))]) ⟨rfl, rfl, rfl, trivial⟩ rfl rfl ?_
  exact hk283 x1 (x6 + 1) (am_sa h 95 (upd (h.2.1 95) (Int32.toNatClampNeg y2) (y1 + y0))) hM
def L_X9_goesBy_283 (n : Nat) : Nat → Int32 → Int32 → AH → Option AH
  | 0, _, _, _ => none
  | m + 1, x1, x6, h =>
    if (h.1 75 16) ≤ x6 then
      some h
    else
      bif (am_in x6 8) then
        bif (am_in ((8 * x1) + x6) 192) then
          bif (am_in x6 8) then
            bif (am_in ((8 * x1) + x6) 192) then
              bif (am_in x6 8) then
                bif (am_in x6 8) then
                  if ((h.2.1 91) (Int32.toNatClampNeg x6)) = 1 then
                    B_X9_goesBy_354 n (L_X9_goesBy_283 n m) x1 x6 1 ((h.2.1 95) (Int32.toNatClampNeg x6)) x6 (am_sa (am_sa h 98 (upd (h.2.1 98) (Int32.toNatClampNeg ((8 * x1) + x6)) ((h.2.1 91) (Int32.toNatClampNeg x6)))) 99 (upd (h.2.1 99) (Int32.toNatClampNeg ((8 * x1) + x6)) ((h.2.1 92) (Int32.toNatClampNeg x6))))
                  else
                    B_X9_goesBy_354 n (L_X9_goesBy_283 n m) x1 x6 0 ((h.2.1 95) (Int32.toNatClampNeg x6)) x6 (am_sa (am_sa h 98 (upd (h.2.1 98) (Int32.toNatClampNeg ((8 * x1) + x6)) ((h.2.1 91) (Int32.toNatClampNeg x6)))) 99 (upd (h.2.1 99) (Int32.toNatClampNeg ((8 * x1) + x6)) ((h.2.1 92) (Int32.toNatClampNeg x6))))
                else none
              else none
            else none
          else none
        else none
      else none
set_option maxRecDepth 10000 in
theorem E_L_X9_goesBy_283 (n : Nat) (hR : AH) : ∀ (m : Nat) (x1 : Int32) (x6 : Int32) (h : AH), L_X9_goesBy_283 n m x1 x6 h = some hR → Ev none mr_X9_goesBy (283, [(0, .ref 75), (1, .int x1), (6, .int x6)], [], h) none hR := by
  intro m
  induction m with
  | zero =>
    intro x1 x6 h hM
    exact (am_no hM).elim
  | succ m ih =>
    intro x1 x6 h hM
    rw [L_X9_goesBy_283] at hM
    refine Ev.steps (B := (289, [(0, .ref 75), (1, .int x1), (6, .int x6)], [.int (h.1 75 16), .int x6], h)) 3 rfl ?_
    refine Ev.br (b := decide ((h.1 75 16) ≤ x6)) rfl (fun c1 => ?_) (fun c1 => ?_)
    · have c1 := of_decide_eq_true c1
      rw [if_pos c1] at hM
      obtain rfl := am_s1 hM
      exact Ev.ret rfl
    · have c1 := of_decide_eq_false c1
      rw [if_neg c1] at hM
      refine Ev.steps (B := (309, [(0, .ref 75), (1, .int x1), (6, .int x6)], [.int x6, .ref 91, .int ((8 * x1) + x6), .ref 98], h)) 10 rfl ?_
      obtain ⟨g2, hM⟩ := am_gS hM
      refine Ev.g (B := (310, [(0, .ref 75), (1, .int x1), (6, .int x6)], [.int ((h.2.1 91) (Int32.toNatClampNeg x6)), .int ((8 * x1) + x6), .ref 98], h)) g2 rfl ?_
      obtain ⟨g3, hM⟩ := am_gS hM
      refine Ev.g (B := (311, [(0, .ref 75), (1, .int x1), (6, .int x6)], [], (am_sa h 98 (upd (h.2.1 98) (Int32.toNatClampNeg ((8 * x1) + x6)) ((h.2.1 91) (Int32.toNatClampNeg x6)))))) g3 rfl ?_
      refine Ev.steps (B := (328, [(0, .ref 75), (1, .int x1), (6, .int x6)], [.int x6, .ref 92, .int ((8 * x1) + x6), .ref 99], (am_sa h 98 (upd (h.2.1 98) (Int32.toNatClampNeg ((8 * x1) + x6)) ((h.2.1 91) (Int32.toNatClampNeg x6)))))) 10 rfl ?_
      obtain ⟨g4, hM⟩ := am_gS hM
      refine Ev.g (B := (329, [(0, .ref 75), (1, .int x1), (6, .int x6)], [.int ((h.2.1 92) (Int32.toNatClampNeg x6)), .int ((8 * x1) + x6), .ref 99], (am_sa h 98 (upd (h.2.1 98) (Int32.toNatClampNeg ((8 * x1) + x6)) ((h.2.1 91) (Int32.toNatClampNeg x6)))))) g4 rfl ?_
      obtain ⟨g5, hM⟩ := am_gS hM
      refine Ev.g (B := (330, [(0, .ref 75), (1, .int x1), (6, .int x6)], [], (am_sa (am_sa h 98 (upd (h.2.1 98) (Int32.toNatClampNeg ((8 * x1) + x6)) ((h.2.1 91) (Int32.toNatClampNeg x6)))) 99 (upd (h.2.1 99) (Int32.toNatClampNeg ((8 * x1) + x6)) ((h.2.1 92) (Int32.toNatClampNeg x6)))))) g5 rfl ?_
      refine Ev.steps (B := (337, [(0, .ref 75), (1, .int x1), (6, .int x6)], [.int x6, .ref 95, .int x6, .ref 95], (am_sa (am_sa h 98 (upd (h.2.1 98) (Int32.toNatClampNeg ((8 * x1) + x6)) ((h.2.1 91) (Int32.toNatClampNeg x6)))) 99 (upd (h.2.1 99) (Int32.toNatClampNeg ((8 * x1) + x6)) ((h.2.1 92) (Int32.toNatClampNeg x6)))))) 4 rfl ?_
      obtain ⟨g6, hM⟩ := am_gS hM
      refine Ev.g (B := (338, [(0, .ref 75), (1, .int x1), (6, .int x6)], [.int ((h.2.1 95) (Int32.toNatClampNeg x6)), .int x6, .ref 95], (am_sa (am_sa h 98 (upd (h.2.1 98) (Int32.toNatClampNeg ((8 * x1) + x6)) ((h.2.1 91) (Int32.toNatClampNeg x6)))) 99 (upd (h.2.1 99) (Int32.toNatClampNeg ((8 * x1) + x6)) ((h.2.1 92) (Int32.toNatClampNeg x6)))))) g6 rfl ?_
      refine Ev.steps (B := (344, [(0, .ref 75), (1, .int x1), (6, .int x6)], [.int x6, .ref 91, .int ((h.2.1 95) (Int32.toNatClampNeg x6)), .int x6, .ref 95], (am_sa (am_sa h 98 (upd (h.2.1 98) (Int32.toNatClampNeg ((8 * x1) + x6)) ((h.2.1 91) (Int32.toNatClampNeg x6)))) 99 (upd (h.2.1 99) (Int32.toNatClampNeg ((8 * x1) + x6)) ((h.2.1 92) (Int32.toNatClampNeg x6)))))) 3 rfl ?_
      obtain ⟨g7, hM⟩ := am_gS hM
      refine Ev.g (B := (345, [(0, .ref 75), (1, .int x1), (6, .int x6)], [.int ((h.2.1 91) (Int32.toNatClampNeg x6)), .int ((h.2.1 95) (Int32.toNatClampNeg x6)), .int x6, .ref 95], (am_sa (am_sa h 98 (upd (h.2.1 98) (Int32.toNatClampNeg ((8 * x1) + x6)) ((h.2.1 91) (Int32.toNatClampNeg x6)))) 99 (upd (h.2.1 99) (Int32.toNatClampNeg ((8 * x1) + x6)) ((h.2.1 92) (Int32.toNatClampNeg x6)))))) g7 rfl ?_
      refine Ev.steps (B := (346, [(0, .ref 75), (1, .int x1), (6, .int x6)], [.int 1, .int ((h.2.1 91) (Int32.toNatClampNeg x6)), .int ((h.2.1 95) (Int32.toNatClampNeg x6)), .int x6, .ref 95], (am_sa (am_sa h 98 (upd (h.2.1 98) (Int32.toNatClampNeg ((8 * x1) + x6)) ((h.2.1 91) (Int32.toNatClampNeg x6)))) 99 (upd (h.2.1 99) (Int32.toNatClampNeg ((8 * x1) + x6)) ((h.2.1 92) (Int32.toNatClampNeg x6)))))) 1 rfl ?_
      refine Ev.br (b := decide (¬ ((h.2.1 91) (Int32.toNatClampNeg x6)) = 1)) rfl (fun c8 => ?_) (fun c8 => ?_)
      · have c8 := of_decide_eq_true c8
        rw [if_neg c8] at hM
        refine Ev.steps (B := (354, [(0, .ref 75), (1, .int x1), (6, .int x6)], [.int 0, .int ((h.2.1 95) (Int32.toNatClampNeg x6)), .int x6, .ref 95], (am_sa (am_sa h 98 (upd (h.2.1 98) (Int32.toNatClampNeg ((8 * x1) + x6)) ((h.2.1 91) (Int32.toNatClampNeg x6)))) 99 (upd (h.2.1 99) (Int32.toNatClampNeg ((8 * x1) + x6)) ((h.2.1 92) (Int32.toNatClampNeg x6)))))) 1 rfl ?_
        exact E_B_X9_goesBy_354 n (L_X9_goesBy_283 n m) hR ih x1 x6 0 ((h.2.1 95) (Int32.toNatClampNeg x6)) x6 (am_sa (am_sa h 98 (upd (h.2.1 98) (Int32.toNatClampNeg ((8 * x1) + x6)) ((h.2.1 91) (Int32.toNatClampNeg x6)))) 99 (upd (h.2.1 99) (Int32.toNatClampNeg ((8 * x1) + x6)) ((h.2.1 92) (Int32.toNatClampNeg x6)))) hM
      · have c8 := Decidable.of_not_not (of_decide_eq_false c8)
        rw [if_pos c8] at hM
        refine Ev.steps (B := (354, [(0, .ref 75), (1, .int x1), (6, .int x6)], [.int 1, .int ((h.2.1 95) (Int32.toNatClampNeg x6)), .int x6, .ref 95], (am_sa (am_sa h 98 (upd (h.2.1 98) (Int32.toNatClampNeg ((8 * x1) + x6)) ((h.2.1 91) (Int32.toNatClampNeg x6)))) 99 (upd (h.2.1 99) (Int32.toNatClampNeg ((8 * x1) + x6)) ((h.2.1 92) (Int32.toNatClampNeg x6)))))) 2 rfl ?_
        exact E_B_X9_goesBy_354 n (L_X9_goesBy_283 n m) hR ih x1 x6 1 ((h.2.1 95) (Int32.toNatClampNeg x6)) x6 (am_sa (am_sa h 98 (upd (h.2.1 98) (Int32.toNatClampNeg ((8 * x1) + x6)) ((h.2.1 91) (Int32.toNatClampNeg x6)))) 99 (upd (h.2.1 99) (Int32.toNatClampNeg ((8 * x1) + x6)) ((h.2.1 92) (Int32.toNatClampNeg x6)))) hM
