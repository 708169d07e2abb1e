def M_X9_isSeen (n : Nat) (h : AH) : Option (Int32 × AH) :=
  am_v (M_X9_runs n h) fun h1 =>
  L_X9_isSeen_8 n n 1 0 h1
set_option maxRecDepth 10000 in
theorem E_X9_isSeen_75 (n : Nat) (h : AH) (vR : Int32) (hR : AH) (hM : M_X9_isSeen n h = some (vR, hR)) : Ev none mr_X9_isSeen (0, [(0, .ref 75)], [], h) (some (.int vR)) hR := by
  unfold M_X9_isSeen at hM
  refine Ev.steps (B := (1, [(0, .ref 75)], [.ref 75], h)) 1 rfl ?_
  obtain ⟨h1, e1, hM⟩ := am_vS hM
  refine Ev.call (q := (mr_X9_runs, [.ref 75], [])) rfl (E_X9_runs_75 n h h1 e1) ?_
  refine Ev.steps (B := (8, [(2, .int 0), (1, .int 1), (0, .ref 75)], [], h1)) 4 rfl ?_
  refine Ev.lv (lv := [(0, .ref 75), (1, .int 1), (2, .int 0)]) ⟨rfl, rfl, rfl, trivial⟩ rfl rfl ?_
  exact E_L_X9_isSeen_8 n vR hR n 1 0 h1 hM
def B_X9_neverNow_38 (n : Nat) (k8 : Int32 → Int32 → AH → Option (Int32 × AH)) (x2 : Int32) (y0 : Int32) (y1 : Int32) (h : AH) : Option (Int32 × AH) :=
  k8 (y1 ||| y0) (x2 + 1) h
set_option maxRecDepth 10000 in
theorem E_B_X9_neverNow_38 (n : Nat) (k8 : Int32 → Int32 → AH → Option (Int32 × AH)) (vR : Int32) (hR : AH) (hk8 : ∀ (x1 : Int32) (x2 : Int32) (h0 : AH), k8 x1 x2 h0 = some (vR, hR) → Ev none mr_X9_neverNow (8, [(0, .ref 75), (1, .int x1), (2, .int x2)], [], h0) (some (.int vR)) hR) (x2 : Int32) (y0 : Int32) (y1 : Int32) (h : AH) (hM : B_X9_neverNow_38 n k8 x2 y0 y1 h = some (vR, hR)) : Ev none mr_X9_neverNow (38, [(0, .ref 75), (2, .int x2)], [.int y0, .int y1], h) (some (.int vR)) hR := by
  unfold B_X9_neverNow_38 at hM
  refine Ev.steps (B := (8, [(2, .int (x2 + 1)), (1, .int (y1 ||| y0)), (0, .ref 75)], [], h)) 4 rfl ?_
  refine Ev.lv (lv := [(0, .ref 75), (1, .int (y1 ||| y0)), (2, .int (x2 + 1))]) ⟨rfl, rfl, rfl, trivial⟩ rfl rfl ?_
  exact hk8 (y1 ||| y0) (x2 + 1) h hM
def L_X9_neverNow_8 (n : Nat) : Nat → Int32 → Int32 → AH → Option (Int32 × AH)
  | 0, _, _, _ => none
  | m + 1, x1, x2, h =>
    if (h.1 75 12) ≤ x2 then
      some (x1, h)
    else
      am_b (M_X9_isSeen n (am_sf h 75 21 (1 <<< (x2 &&& 31)))) fun v2 h1 =>
      if v2 = 0 then
        B_X9_neverNow_38 n (L_X9_neverNow_8 n m) x2 0 x1 h1
      else
        B_X9_neverNow_38 n (L_X9_neverNow_8 n m) x2 (1 <<< (x2 &&& 31)) x1 h1
set_option maxRecDepth 10000 in
theorem E_L_X9_neverNow_8 (n : Nat) (vR : Int32) (hR : AH) : ∀ (m : Nat) (x1 : Int32) (x2 : Int32) (h : AH), L_X9_neverNow_8 n m x1 x2 h = some (vR, hR) → Ev none mr_X9_neverNow (8, [(0, .ref 75), (1, .int x1), (2, .int x2)], [], h) (some (.int vR)) hR := by
  intro m
  induction m with
  | zero =>
    intro x1 x2 h hM
    exact (am_no hM).elim
  | succ m ih =>
    intro x1 x2 h hM
    rw [L_X9_neverNow_8] at hM
    refine Ev.steps (B := (13, [(0, .ref 75), (1, .int x1), (2, .int x2)], [.int (h.1 75 12), .int x2], h)) 3 rfl ?_
    refine Ev.br (b := decide ((h.1 75 12) ≤ x2)) rfl (fun c1 => ?_) (fun c1 => ?_)
    · have c1 := of_decide_eq_true c1
      rw [if_pos c1] at hM
      refine Ev.steps (B := (47, [(0, .ref 75), (1, .int x1), (2, .int x2)], [.int x1], h)) 1 rfl ?_
      obtain ⟨rfl, rfl⟩ := am_sp hM
      exact Ev.ret rfl
    · have c1 := of_decide_eq_false c1
      rw [if_neg c1] at hM
      refine Ev.steps (B := (25, [(0, .ref 75), (1, .int x1), (2, .int x2)], [.ref 75, .int x1], (am_sf h 75 21 (1 <<< (x2 &&& 31))))) 7 rfl ?_
      obtain ⟨v2, h1, e2, hM⟩ := am_bS hM
      refine Ev.call (q := (mr_X9_isSeen, [.ref 75], [.int x1])) rfl (E_X9_isSeen_75 n (am_sf h 75 21 (1 <<< (x2 &&& 31))) v2 h1 e2) ?_
      refine Ev.br (b := decide (v2 = 0)) rfl (fun c3 => ?_) (fun c3 => ?_)
      · have c3 := of_decide_eq_true c3
        rw [if_pos c3] at hM
        refine Ev.steps (B := (38, [(0, .ref 75), (1, .int x1), (2, .int x2)], [.int 0, .int x1], h1)) 1 rfl ?_
        refine Ev.lv (lv := [(0, .ref 75), (2, .int x2)]) ⟨rfl, rfl, trivial⟩ rfl rfl ?_
        exact E_B_X9_neverNow_38 n (L_X9_neverNow_8 n m) vR hR ih x2 0 x1 h1 hM
      · have c3 := of_decide_eq_false c3
        rw [if_neg c3] at hM
        refine Ev.steps (B := (38, [(0, .ref 75), (1, .int x1), (2, .int x2)], [.int (1 <<< (x2 &&& 31)), .int x1], h1)) 4 rfl ?_
        refine Ev.lv (lv := [(0, .ref 75), (2, .int x2)]) ⟨rfl, rfl, trivial⟩ rfl rfl ?_
        exact E_B_X9_neverNow_38 n (L_X9_neverNow_8 n m) vR hR ih x2 (1 <<< (x2 &&& 31)) x1 h1 hM
def M_X9_neverNow (n : Nat) (h : AH) : Option (Int32 × AH) :=
  am_v (M_X9_asTold n h) fun h1 =>
  L_X9_neverNow_8 n n 0 0 h1
set_option maxRecDepth 10000 in
theorem E_X9_neverNow_75 (n : Nat) (h : AH) (vR : Int32) (hR : AH) (hM : M_X9_neverNow n h = some (vR, hR)) : Ev none mr_X9_neverNow (0, [(0, .ref 75)], [], h) (some (.int vR)) hR := by
  unfold M_X9_neverNow at hM
  refine Ev.steps (B := (1, [(0, .ref 75)], [.ref 75], h)) 1 rfl ?_
  obtain ⟨h1, e1, hM⟩ := am_vS hM
  refine Ev.call (q := (mr_X9_asTold, [.ref 75], [])) rfl (E_X9_asTold_75 n h h1 e1) ?_
  refine Ev.steps (B := (8, [(2, .int 0), (1, .int 0), (0, .ref 75)], [], h1)) 4 rfl ?_
  refine Ev.lv (lv := [(0, .ref 75), (1, .int 0), (2, .int 0)]) ⟨rfl, rfl, rfl, trivial⟩ rfl rfl ?_
  exact E_L_X9_neverNow_8 n vR hR n 0 0 h1 hM
def M_X9_never (n : Nat) (h : AH) : Option (Int32 × AH) :=
  am_b (M_X9_neverNow n h) fun v2 h1 =>
  some (v2, h1)
set_option maxRecDepth 10000 in
theorem E_X9_never_75 (n : Nat) (h : AH) (vR : Int32) (hR : AH) (hM : M_X9_never n h = some (vR, hR)) : Ev none mr_X9_never (0, [(0, .ref 75)], [], h) (some (.int vR)) hR := by
  unfold M_X9_never at hM
  refine Ev.steps (B := (1, [(0, .ref 75)], [.ref 75], h)) 1 rfl ?_
  obtain ⟨v2, h1, e1, hM⟩ := am_bS hM
  refine Ev.call (q := (mr_X9_neverNow, [.ref 75], [])) rfl (E_X9_neverNow_75 n h v2 h1 e1) ?_
  obtain ⟨rfl, rfl⟩ := am_sp hM
  exact Ev.ret rfl
def L_X8_comingOutAsSeen_5 (n : Nat) : Nat → Int32 → Int32 → Int32 → Int32 → AH → Option (Int32 × AH)
  | 0, _, _, _, _, _ => none
  | m + 1, x1, x2, x3, x4, h =>
    if x2 ≤ x4 then
      some (x3, h)
    else
      am_b (M_X7_outcome n (x1 + x4) h) fun v2 h1 =>
      am_o (M_X8_comesOutAsSeen n v2 h1) fun v3 =>
      if v3 = 0 then
        L_X8_comingOutAsSeen_5 n m x1 x2 x3 (x4 + 1) h1
      else
        L_X8_comingOutAsSeen_5 n m x1 x2 (x3 ||| (1 <<< (x4 &&& 31))) (x4 + 1) h1
set_option maxRecDepth 10000 in
theorem E_L_X8_comingOutAsSeen_5 (n : Nat) (vR : Int32) (hR : AH) : ∀ (m : Nat) (x1 : Int32) (x2 : Int32) (x3 : Int32) (x4 : Int32) (h : AH), L_X8_comingOutAsSeen_5 n m x1 x2 x3 x4 h = some (vR, hR) → Ev none mr_X8_comingOutAsSeen (5, [(0, .ref 0), (1, .int x1), (2, .int x2), (3, .int x3), (4, .int x4)], [], h) (some (.int vR)) hR := by
  intro m
  induction m with
  | zero =>
    intro x1 x2 x3 x4 h hM
    exact (am_no hM).elim
  | succ m ih =>
    intro x1 x2 x3 x4 h hM
    rw [L_X8_comingOutAsSeen_5] at hM
    refine Ev.steps (B := (8, [(0, .ref 0), (1, .int x1), (2, .int x2), (3, .int x3), (4, .int x4)], [.int x2, .int x4], h)) 2 rfl ?_
    refine Ev.br (b := decide (x2 ≤ x4)) rfl (fun c1 => ?_) (fun c1 => ?_)
    · have c1 := of_decide_eq_true c1
      rw [if_pos c1] at hM
      refine Ev.steps (B := (43, [(0, .ref 0), (1, .int x1), (2, .int x2), (3, .int x3), (4, .int x4)], [.int x3], h)) 1 rfl ?_
      obtain ⟨rfl, rfl⟩ := am_sp hM
      exact Ev.ret rfl
    · have c1 := of_decide_eq_false c1
      rw [if_neg c1] at hM
      refine Ev.steps (B := (20, [(0, .ref 0), (1, .int x1), (2, .int x2), (3, .int x3), (4, .int x4)], [.int (x1 + x4), .ref 37, .ref 0], h)) 6 rfl ?_
      obtain ⟨v2, h1, e2, hM⟩ := am_bS hM
      refine Ev.call (q := (mr_X7_outcome, [.ref 37, .int (x1 + x4)], [.ref 0])) rfl (E_X7_outcome_37 n (x1 + x4) h v2 h1 e2) ?_
      obtain ⟨v3, e3, hM⟩ := am_oS hM
      refine Ev.call (q := (mr_X8_comesOutAsSeen, [.ref 0, .long v2], [])) rfl (E_X8_comesOutAsSeen_0 n v2 h1 v3 e3) ?_
      refine Ev.br (b := decide (v3 = 0)) rfl (fun c4 => ?_) (fun c4 => ?_)
      · have c4 := of_decide_eq_true c4
        rw [if_pos c4] at hM
        refine Ev.steps (B := (5, [(4, .int (x4 + 1)), (0, .ref 0), (1, .int x1), (2, .int x2), (3, .int x3)], [], h1)) 2 rfl ?_
        refine Ev.lv (lv := [(0, .ref 0), (1, .int x1), (2, .int x2), (3, .int x3), (4, .int (x4 + 1))]) ⟨rfl, rfl, rfl, rfl, rfl, trivial⟩ rfl rfl ?_
        exact ih x1 x2 x3 (x4 + 1) h1 hM
      · have c4 := of_decide_eq_false c4
        rw [if_neg c4] at hM
        refine Ev.steps (B := (5, [(4, .int (x4 + 1)), (3, .int (x3 ||| (1 <<< (x4 &&& 31)))), (0, .ref 0), (1, .int x1), (2, .int x2)], [], h1)) 8 rfl ?_
        refine Ev.lv (lv := [(0, .ref 0), (1, .int x1), (2, .int x2), (3, .int (x3 ||| (1 <<< (x4 &&& 31)))), (4, .int (x4 + 1))]) ⟨rfl, rfl, rfl, rfl, rfl, trivial⟩ rfl rfl ?_
        exact ih x1 x2 (x3 ||| (1 <<< (x4 &&& 31))) (x4 + 1) h1 hM
def M_X8_comingOutAsSeen (n : Nat) (a1 : Int32) (a2 : Int32) (h : AH) : Option (Int32 × AH) :=
  L_X8_comingOutAsSeen_5 n n a1 a2 0 0 h
set_option maxRecDepth 10000 in
theorem E_X8_comingOutAsSeen_0 (n : Nat) (a1 : Int32) (a2 : Int32) (h : AH) (vR : Int32) (hR : AH) (hM : M_X8_comingOutAsSeen n a1 a2 h = some (vR, hR)) : Ev none mr_X8_comingOutAsSeen (0, [(0, .ref 0), (1, .int a1), (2, .int a2)], [], h) (some (.int vR)) hR := by
  unfold M_X8_comingOutAsSeen at hM
  refine Ev.steps (B := (5, [(4, .int 0), (3, .int 0), (0, .ref 0), (1, .int a1), (2, .int a2)], [], h)) 4 rfl ?_
  refine Ev.lv (lv := [(0, .ref 0), (1, .int a1), (2, .int a2), (3, .int 0), (4, .int 0)]) ⟨rfl, rfl, rfl, rfl, rfl, trivial⟩ rfl rfl ?_
  exact E_L_X8_comingOutAsSeen_5 n vR hR n a1 a2 0 0 h hM
def M_X8_waters (n : Nat) (h : AH) : Option (Int32 × AH) :=
  am_b (M_X8_comingOutAsSeen n 256 31 h) fun v2 h1 =>
  some (v2, h1)
set_option maxRecDepth 10000 in
theorem E_X8_waters_0 (n : Nat) (h : AH) (vR : Int32) (hR : AH) (hM : M_X8_waters n h = some (vR, hR)) : Ev none mr_X8_waters (0, [(0, .ref 0)], [], h) (some (.int vR)) hR := by
  unfold M_X8_waters at hM
  refine Ev.steps (B := (6, [(0, .ref 0)], [.int 31, .int 256, .ref 0], h)) 3 rfl ?_
  obtain ⟨v2, h1, e1, hM⟩ := am_bS hM
  refine Ev.call (q := (mr_X8_comingOutAsSeen, [.ref 0, .int 256, .int 31], [])) rfl (E_X8_comingOutAsSeen_0 n 256 31 h v2 h1 e1) ?_
  obtain ⟨rfl, rfl⟩ := am_sp hM
  exact Ev.ret rfl
def B_X9_watersBy_94 (n : Nat) (k29 : Int32 → Int32 → AH → Option (Int32 × AH)) (k59 : Int32 → Int32 → Int32 → AH → Option (Int32 × AH)) (x1 : Int32) (x2 : Int32) (x3 : Int32) (y0 : Int32) (y1 : Int32) (y2 : Int32) (h : AH) : Option (Int32 × AH) :=
  bif (am_in y2 24) then
    k59 x1 x2 (x3 + 1) (am_sa h 103 (upd (h.2.1 103) (Int32.toNatClampNeg y2) (y1 ||| y0)))
  else none
set_option maxRecDepth 10000 in
theorem E_B_X9_watersBy_94 (n : Nat) (k29 : Int32 → Int32 → AH → Option (Int32 × AH)) (k59 : Int32 → Int32 → Int32 → AH → Option (Int32 × AH)) (vR : Int32) (hR : AH) (hk29 : ∀ (x1 : Int32) (x2 : Int32) (h0 : AH), k29 x1 x2 h0 = some (vR, hR) → Ev none mr_X9_watersBy (29, [(0, .ref 75), (1, .int x1), (2, .int x2)], [], h0) (some (.int vR)) hR) (hk59 : ∀ (x1 : Int32) (x2 : Int32) (x3 : Int32) (h0 : AH), k59 x1 x2 x3 h0 = some (vR, hR) → Ev none mr_X9_watersBy (59, [(0, .ref 75), (1, .int x1), (2, .int x2), (3, .int x3)], [], h0) (some (.int vR)) hR) (x1 : Int32) (x2 : Int32) (x3 : Int32) (y0 : Int32) (y1 : Int32) (y2 : Int32) (h : AH) (hM : B_X9_watersBy_94 n k29 k59 x1 x2 x3 y0 y1 y2 h = some (vR, hR)) : Ev none mr_X9_watersBy (94, [(0, .ref 75), (1, .int x1), (2, .int x2), (3, .int x3)], [.int y0, .int y1, .int y2, .ref 103], h) (some (.int vR)) hR := by
  unfold B_X9_watersBy_94 at hM
  refine Ev.steps (B := (95, [(0, .ref 75), (1, .int x1), (2, .int x2), (3, .int x3)], [.int (y1 ||| y0), .int y2, .ref 103], h)) 1 rfl ?_
  obtain ⟨g1, hM⟩ := am_gS hM
  refine Ev.g (B := (96, [(0, .ref 75), (1, .int x1), (2, .int x2), (3, .int x3)], [], (am_sa h 103 (upd (h.2.1 103) (Int32.toNatClampNeg y2) (y1 ||| y0))))) g1 rfl ?_
  refine Ev.steps (B := (59, [(3, .int (x3 + 1)), (0, .ref 75), (1, .int x1), (2, .int x2)], [], (am_sa h 103 (upd (h.2.1 103) (Int32.toNatClampNeg y2) (y1 ||| y0))))) 2 rfl ?_
  refine Ev.lv (lv := [(0, .ref 75), (1, .int x1), (2, .int x2), (3, .int (x3 + 1))]) ⟨rfl, rfl, rfl, rfl, trivial⟩ rfl rfl ?_
  exact hk59 x1 x2 (x3 + 1) (am_sa h 103 (upd (h.2.1 103) (Int32.toNatClampNeg y2) (y1 ||| y0))) hM
def L_X9_watersBy_59 (n : Nat) (k29 : Int32 → Int32 → AH → Option (Int32 × AH)) : Nat → Int32 → Int32 → Int32 → AH → Option (Int32 × AH)
  | 0, _, _, _, _ => none
  | m + 1, x1, x2, x3, h =>
    if 24 ≤ x3 then
      k29 x1 (x2 + 1) h
    else
      bif (am_in x3 24) then
        bif (am_in ((6 * x3) + 4) 144) then
          if ((h.2.1 96) (Int32.toNatClampNeg ((6 * x3) + 4))) = 1 then
            B_X9_watersBy_94 n k29 (L_X9_watersBy_59 n k29 m) x1 x2 x3 (1 <<< (x2 &&& 31)) ((h.2.1 103) (Int32.toNatClampNeg x3)) x3 h
          else
            B_X9_watersBy_94 n k29 (L_X9_watersBy_59 n k29 m) x1 x2 x3 0 ((h.2.1 103) (Int32.toNatClampNeg x3)) x3 h
        else none
      else none
set_option maxRecDepth 10000 in
theorem E_L_X9_watersBy_59 (n : Nat) (k29 : Int32 → Int32 → AH → Option (Int32 × AH)) (vR : Int32) (hR : AH) (hk29 : ∀ (x1 : Int32) (x2 : Int32) (h0 : AH), k29 x1 x2 h0 = some (vR, hR) → Ev none mr_X9_watersBy (29, [(0, .ref 75), (1, .int x1), (2, .int x2)], [], h0) (some (.int vR)) hR) : ∀ (m : Nat) (x1 : Int32) (x2 : Int32) (x3 : Int32) (h : AH), L_X9_watersBy_59 n k29 m x1 x2 x3 h = some (vR, hR) → Ev none mr_X9_watersBy (59, [(0, .ref 75), (1, .int x1), (2, .int x2), (3, .int x3)], [], h) (some (.int vR)) hR := by
  intro m
  induction m with
  | zero =>
    intro x1 x2 x3 h hM
    exact (am_no hM).elim
  | succ m ih =>
    intro x1 x2 x3 h hM
    rw [L_X9_watersBy_59] at hM
    refine Ev.steps (B := (62, [(0, .ref 75), (1, .int x1), (2, .int x2), (3, .int x3)], [.int 24, .int x3], h)) 2 rfl ?_
    refine Ev.br (b := decide (24 ≤ x3)) rfl (fun c1 => ?_) (fun c1 => ?_)
    · have c1 := of_decide_eq_true c1
      rw [if_pos c1] at hM
      refine Ev.steps (B := (29, [(2, .int (x2 + 1)), (0, .ref 75), (1, .int x1), (3, .int x3)], [], h)) 2 rfl ?_
      refine Ev.lv (lv := [(0, .ref 75), (1, .int x1), (2, .int (x2 + 1))]) ⟨rfl, rfl, rfl, trivial⟩ rfl rfl ?_
      exact hk29 x1 (x2 + 1) h hM
    · have c1 := of_decide_eq_false c1
      rw [if_neg c1] at hM
      refine Ev.steps (B := (71, [(0, .ref 75), (1, .int x1), (2, .int x2), (3, .int x3)], [.int x3, .ref 103, .int x3, .ref 103], h)) 4 rfl ?_
      obtain ⟨g2, hM⟩ := am_gS hM
      refine Ev.g (B := (72, [(0, .ref 75), (1, .int x1), (2, .int x2), (3, .int x3)], [.int ((h.2.1 103) (Int32.toNatClampNeg x3)), .int x3, .ref 103], h)) g2 rfl ?_
      refine Ev.steps (B := (82, [(0, .ref 75), (1, .int x1), (2, .int x2), (3, .int x3)], [.int ((6 * x3) + 4), .ref 96, .int ((h.2.1 103) (Int32.toNatClampNeg x3)), .int x3, .ref 103], h)) 7 rfl ?_
      obtain ⟨g3, hM⟩ := am_gS hM
      refine Ev.g (B := (83, [(0, .ref 75), (1, .int x1), (2, .int x2), (3, .int x3)], [.int ((h.2.1 96) (Int32.toNatClampNeg ((6 * x3) + 4))), .int ((h.2.1 103) (Int32.toNatClampNeg x3)), .int x3, .ref 103], h)) g3 rfl ?_
      refine Ev.steps (B := (84, [(0, .ref 75), (1, .int x1), (2, .int x2), (3, .int x3)], [.int 1, .int ((h.2.1 96) (Int32.toNatClampNeg ((6 * x3) + 4))), .int ((h.2.1 103) (Int32.toNatClampNeg x3)), .int x3, .ref 103], h)) 1 rfl ?_
      refine Ev.br (b := decide (¬ ((h.2.1 96) (Int32.toNatClampNeg ((6 * x3) + 4))) = 1)) rfl (fun c4 => ?_) (fun c4 => ?_)
      · have c4 := of_decide_eq_true c4
        rw [if_neg c4] at hM
        refine Ev.steps (B := (94, [(0, .ref 75), (1, .int x1), (2, .int x2), (3, .int x3)], [.int 0, .int ((h.2.1 103) (Int32.toNatClampNeg x3)), .int x3, .ref 103], h)) 1 rfl ?_
        exact E_B_X9_watersBy_94 n k29 (L_X9_watersBy_59 n k29 m) vR hR hk29 ih x1 x2 x3 0 ((h.2.1 103) (Int32.toNatClampNeg x3)) x3 h hM
      · have c4 := Decidable.of_not_not (of_decide_eq_false c4)
        rw [if_pos c4] at hM
        refine Ev.steps (B := (94, [(0, .ref 75), (1, .int x1), (2, .int x2), (3, .int x3)], [.int (1 <<< (x2 &&& 31)), .int ((h.2.1 103) (Int32.toNatClampNeg x3)), .int x3, .ref 103], h)) 4 rfl ?_
        exact E_B_X9_watersBy_94 n k29 (L_X9_watersBy_59 n k29 m) vR hR hk29 ih x1 x2 x3 (1 <<< (x2 &&& 31)) ((h.2.1 103) (Int32.toNatClampNeg x3)) x3 h hM
def B_X9_watersBy_55 (n : Nat) (k29 : Int32 → Int32 → AH → Option (Int32 × AH)) (x2 : Int32) (y0 : Int32) (y1 : Int32) (h : AH) : Option (Int32 × AH) :=
  L_X9_watersBy_59 n k29 n (y1 ||| y0) x2 0 h
set_option maxRecDepth 10000 in
theorem E_B_X9_watersBy_55 (n : Nat) (k29 : Int32 → Int32 → AH → Option (Int32 × AH)) (vR : Int32) (hR : AH) (hk29 : ∀ (x1 : Int32) (x2 : Int32) (h0 : AH), k29 x1 x2 h0 = some (vR, hR) → Ev none mr_X9_watersBy (29, [(0, .ref 75), (1, .int x1), (2, .int x2)], [], h0) (some (.int vR)) hR) (x2 : Int32) (y0 : Int32) (y1 : Int32) (h : AH) (hM : B_X9_watersBy_55 n k29 x2 y0 y1 h = some (vR, hR)) : Ev none mr_X9_watersBy (55, [(0, .ref 75), (2, .int x2)], [.int y0, .int y1], h) (some (.int vR)) hR := by
  unfold B_X9_watersBy_55 at hM
  refine Ev.steps (B := (59, [(3, .int 0), (1, .int (y1 ||| y0)), (0, .ref 75), (2, .int x2)], [], h)) 4 rfl ?_
  refine Ev.lv (lv := [(0, .ref 75), (1, .int (y1 ||| y0)), (2, .int x2), (3, .int 0)]) ⟨rfl, rfl, rfl, rfl, trivial⟩ rfl rfl ?_
  exact E_L_X9_watersBy_59 n k29 vR hR hk29 n (y1 ||| y0) x2 0 h hM
def L_X9_watersBy_29 (n : Nat) : Nat → Int32 → Int32 → AH → Option (Int32 × AH)
  | 0, _, _, _ => none
  | m + 1, x1, x2, h =>
    if 30 < x2 then
      some (x1, h)
    else
      am_b (M_X9_isSeen n (am_sf h 75 20 x2)) fun v2 h1 =>
      if v2 = 0 then
        B_X9_watersBy_55 n (L_X9_watersBy_29 n m) x2 0 x1 h1
      else
        B_X9_watersBy_55 n (L_X9_watersBy_29 n m) x2 (1 <<< (x2 &&& 31)) x1 h1
set_option maxRecDepth 10000 in
theorem E_L_X9_watersBy_29 (n : Nat) (vR : Int32) (hR : AH) : ∀ (m : Nat) (x1 : Int32) (x2 : Int32) (h : AH), L_X9_watersBy_29 n m x1 x2 h = some (vR, hR) → Ev none mr_X9_watersBy (29, [(0, .ref 75), (1, .int x1), (2, .int x2)], [], h) (some (.int vR)) hR := by
  intro m
  induction m with
  | zero =>
    intro x1 x2 h hM
    exact (am_no hM).elim
  | succ m ih =>
    intro x1 x2 h hM
    rw [L_X9_watersBy_29] at hM
    refine Ev.steps (B := (32, [(0, .ref 75), (1, .int x1), (2, .int x2)], [.int 30, .int x2], h)) 2 rfl ?_
    refine Ev.br (b := decide (30 < x2)) rfl (fun c1 => ?_) (fun c1 => ?_)
    · have c1 := of_decide_eq_true c1
      rw [if_pos c1] at hM
      refine Ev.steps (B := (109, [(0, .ref 75), (1, .int x1), (2, .int x2)], [.int x1], h)) 1 rfl ?_
      obtain ⟨rfl, rfl⟩ := am_sp hM
      exact Ev.ret rfl
    · have c1 := of_decide_eq_false c1
      rw [if_neg c1] at hM
      refine Ev.steps (B := (42, [(0, .ref 75), (1, .int x1), (2, .int x2)], [.ref 75, .int x1], (am_sf h 75 20 x2))) 5 rfl ?_
      obtain ⟨v2, h1, e2, hM⟩ := am_bS hM
      refine Ev.call (q := (mr_X9_isSeen, [.ref 75], [.int x1])) rfl (E_X9_isSeen_75 n (am_sf h 75 20 x2) v2 h1 e2) ?_
      refine Ev.br (b := decide (v2 = 0)) rfl (fun c3 => ?_) (fun c3 => ?_)
      · have c3 := of_decide_eq_true c3
        rw [if_pos c3] at hM
        refine Ev.steps (B := (55, [(0, .ref 75), (1, .int x1), (2, .int x2)], [.int 0, .int x1], h1)) 1 rfl ?_
        refine Ev.lv (lv := [(0, .ref 75), (2, .int x2)]) ⟨rfl, rfl, trivial⟩ rfl rfl ?_
        exact E_B_X9_watersBy_55 n (L_X9_watersBy_29 n m) vR hR ih x2 0 x1 h1 hM
      · have c3 := of_decide_eq_false c3
        rw [if_neg c3] at hM
        refine Ev.steps (B := (55, [(0, .ref 75), (1, .int x1), (2, .int x2)], [.int (1 <<< (x2 &&& 31)), .int x1], h1)) 4 rfl ?_
        refine Ev.lv (lv := [(0, .ref 75), (2, .int x2)]) ⟨rfl, rfl, trivial⟩ rfl rfl ?_
        exact E_B_X9_watersBy_55 n (L_X9_watersBy_29 n m) vR hR ih x2 (1 <<< (x2 &&& 31)) x1 h1 hM
def L_X9_watersBy_8 (n : Nat) : Nat → Int32 → Int32 → AH → Option (Int32 × AH)
  | 0, _, _, _ => none
  | m + 1, x1, x2, h =>
    if 24 ≤ x2 then
      L_X9_watersBy_29 n n x1 0 h
    else
      bif (am_in x2 24) then
        L_X9_watersBy_8 n m x1 (x2 + 1) (am_sa h 103 (upd (h.2.1 103) (Int32.toNatClampNeg x2) 0))
      else none
set_option maxRecDepth 10000 in
theorem E_L_X9_watersBy_8 (n : Nat) (vR : Int32) (hR : AH) : ∀ (m : Nat) (x1 : Int32) (x2 : Int32) (h : AH), L_X9_watersBy_8 n m x1 x2 h = some (vR, hR) → Ev none mr_X9_watersBy (8, [(0, .ref 75), (1, .int x1), (2, .int x2)], [], h) (some (.int vR)) hR := by
  intro m
  induction m with
  | zero =>
    intro x1 x2 h hM
    exact (am_no hM).elim
  | succ m ih =>
    intro x1 x2 h hM
    rw [L_X9_watersBy_8] at hM
    refine Ev.steps (B := (11, [(0, .ref 75), (1, .int x1), (2, .int x2)], [.int 24, .int x2], h)) 2 rfl ?_
    refine Ev.br (b := decide (24 ≤ x2)) rfl (fun c1 => ?_) (fun c1 => ?_)
    · have c1 := of_decide_eq_true c1
      rw [if_pos c1] at hM
      refine Ev.steps (B := (29, [(2, .int 0), (0, .ref 75), (1, .int x1)], [], h)) 2 rfl ?_
      refine Ev.lv (lv := [(0, .ref 75), (1, .int x1), (2, .int 0)]) ⟨rfl, rfl, rfl, trivial⟩ rfl rfl ?_
      exact E_L_X9_watersBy_29 n vR hR n x1 0 h hM
    · have c1 := of_decide_eq_false c1
      rw [if_neg c1] at hM
      refine Ev.steps (B := (20, [(0, .ref 75), (1, .int x1), (2, .int x2)], [.int 0, .int x2, .ref 103], h)) 4 rfl ?_
      obtain ⟨g2, hM⟩ := am_gS hM
      refine Ev.g (B := (21, [(0, .ref 75), (1, .int x1), (2, .int x2)], [], (am_sa h 103 (upd (h.2.1 103) (Int32.toNatClampNeg x2) 0)))) g2 rfl ?_
      refine Ev.steps (B := (8, [(2, .int (x2 + 1)), (0, .ref 75), (1, .int x1)], [], (am_sa h 103 (upd (h.2.1 103) (Int32.toNatClampNeg x2) 0)))) 2 rfl ?_
      refine Ev.lv (lv := [(0, .ref 75), (1, .int x1), (2, .int (x2 + 1))]) ⟨rfl, rfl, rfl, trivial⟩ rfl rfl ?_
      exact ih x1 (x2 + 1) (am_sa h 103 (upd (h.2.1 103) (Int32.toNatClampNeg x2) 0)) hM
def M_X9_watersBy (n : Nat) (h : AH) : Option (Int32 × AH) :=
  am_v (M_X9_asTold n h) fun h1 =>
  L_X9_watersBy_8 n n 0 0 h1
set_option maxRecDepth 10000 in
theorem E_X9_watersBy_75 (n : Nat) (h : AH) (vR : Int32) (hR : AH) (hM : M_X9_watersBy n h = some (vR, hR)) : Ev none mr_X9_watersBy (0, [(0, .ref 75)], [], h) (some (.int vR)) hR := by
  unfold M_X9_watersBy at hM
  refine Ev.steps (B := (1, [(0, .ref 75)], [.ref 75], h)) 1 rfl ?_
  obtain ⟨h1, e1, hM⟩ := am_vS hM
  refine Ev.call (q := (mr_X9_asTold, [.ref 75], [])) rfl (E_X9_asTold_75 n h h1 e1) ?_
  refine Ev.steps (B := (8, [(2, .int 0), (1, .int 0), (0, .ref 75)], [], h1)) 4 rfl ?_
  refine Ev.lv (lv := [(0, .ref 75), (1, .int 0), (2, .int 0)]) ⟨rfl, rfl, rfl, trivial⟩ rfl rfl ?_
  exact E_L_X9_watersBy_8 n vR hR n 0 0 h1 hM
def M_X9_waters (n : Nat) (h : AH) : Option (Int32 × AH) :=
  am_b (M_X9_watersBy n h) fun v2 h1 =>
  some (v2, h1)
set_option maxRecDepth 10000 in
theorem E_X9_waters_75 (n : Nat) (h : AH) (vR : Int32) (hR : AH) (hM : M_X9_waters n h = some (vR, hR)) : Ev none mr_X9_waters (0, [(0, .ref 75)], [], h) (some (.int vR)) hR := by
  unfold M_X9_waters at hM
  refine Ev.steps (B := (1, [(0, .ref 75)], [.ref 75], h)) 1 rfl ?_
  obtain ⟨v2, h1, e1, hM⟩ := am_bS hM
  refine Ev.call (q := (mr_X9_watersBy, [.ref 75], [])) rfl (E_X9_watersBy_75 n h v2 h1 e1) ?_
  obtain ⟨rfl, rfl⟩ := am_sp hM
  exact Ev.ret rfl
def M_X8_kind (n : Nat) (a1 : Int32) (h : AH) : Option (Int32 × AH) :=
  if (M_X1_has 2 a1 h) = 0 then
    some ((-2), h)
  else
    am_b (M_X8_comingOutAsSeen n (M_X7_kindsOf a1) 3 h) fun v2 h1 =>
    some (v2, h1)
set_option maxRecDepth 10000 in
theorem E_X8_kind_0 (n : Nat) (a1 : Int32) (h : AH) (vR : Int32) (hR : AH) (hM : M_X8_kind n a1 h = some (vR, hR)) : Ev none mr_X8_kind (0, [(0, .ref 0), (1, .int a1)], [], h) (some (.int vR)) hR := by
  unfold M_X8_kind at hM
  refine Ev.steps (B := (8, [(0, .ref 0), (1, .int a1)], [.int a1, .ref 2], h)) 4 rfl ?_
  refine Ev.call (q := (mr_X1_has, [.ref 2, .int a1], [])) rfl (E_X1_has_2 a1 h) ?_
  refine Ev.br (b := decide ((M_X1_has 2 a1 h) = 0)) rfl (fun c1 => ?_) (fun c1 => ?_)
  · have c1 := of_decide_eq_true c1
    rw [if_pos c1] at hM
    refine Ev.steps (B := (28, [(0, .ref 0), (1, .int a1)], [.int (-2)], h)) 1 rfl ?_
    obtain ⟨rfl, rfl⟩ := am_sp hM
    exact Ev.ret rfl
  · have c1 := of_decide_eq_false c1
    rw [if_neg c1] at hM
    refine Ev.steps (B := (16, [(0, .ref 0), (1, .int a1)], [.int a1, .ref 0], h)) 2 rfl ?_
    refine Ev.call (q := (mr_X7_kindsOf, [.int a1], [.ref 0])) rfl (E_X7_kindsOf a1 h) ?_
    refine Ev.steps (B := (20, [(0, .ref 0), (1, .int a1)], [.int 3, .int (M_X7_kindsOf a1), .ref 0], h)) 1 rfl ?_
    obtain ⟨v2, h1, e2, hM⟩ := am_bS hM
    refine Ev.call (q := (mr_X8_comingOutAsSeen, [.ref 0, .int (M_X7_kindsOf a1), .int 3], [])) rfl (E_X8_comingOutAsSeen_0 n (M_X7_kindsOf a1) 3 h v2 h1 e2) ?_
    refine Ev.steps (B := (28, [(0, .ref 0), (1, .int a1)], [.int v2], h1)) 1 rfl ?_
    obtain ⟨rfl, rfl⟩ := am_sp hM
    exact Ev.ret rfl
def B_X9_kindsBy_46 (n : Nat) (k16 : Int32 → Int32 → Int32 → Int32 → AH → Option (Int32 × AH)) (x1 : Int32) (x2 : Int32) (x4 : Int32) (y0 : Int32) (y1 : Int32) (h : AH) : Option (Int32 × AH) :=
  k16 x1 x2 (y1 ||| y0) (x4 + 1) h
set_option maxRecDepth 10000 in
theorem E_B_X9_kindsBy_46 (n : Nat) (k16 : Int32 → Int32 → Int32 → Int32 → AH → Option (Int32 × AH)) (vR : Int32) (hR : AH) (hk16 : ∀ (x1 : Int32) (x2 : Int32) (x3 : Int32) (x4 : Int32) (h0 : AH), k16 x1 x2 x3 x4 h0 = some (vR, hR) → Ev none mr_X9_kindsBy (16, [(0, .ref 75), (1, .int x1), (2, .int x2), (3, .int x3), (4, .int x4)], [], h0) (some (.int vR)) hR) (x1 : Int32) (x2 : Int32) (x4 : Int32) (y0 : Int32) (y1 : Int32) (h : AH) (hM : B_X9_kindsBy_46 n k16 x1 x2 x4 y0 y1 h = some (vR, hR)) : Ev none mr_X9_kindsBy (46, [(0, .ref 75), (1, .int x1), (2, .int x2), (4, .int x4)], [.int y0, .int y1], h) (some (.int vR)) hR := by
  unfold B_X9_kindsBy_46 at hM
  refine Ev.steps (B := (16, [(4, .int (x4 + 1)), (3, .int (y1 ||| y0)), (0, .ref 75), (1, .int x1), (2, .int x2)], [], h)) 4 rfl ?_
  refine Ev.lv (lv := [(0, .ref 75), (1, .int x1), (2, .int x2), (3, .int (y1 ||| y0)), (4, .int (x4 + 1))]) ⟨rfl, rfl, rfl, rfl, rfl, trivial⟩ rfl rfl ?_
  exact hk16 x1 x2 (y1 ||| y0) (x4 + 1) h hM
def L_X9_kindsBy_16 (n : Nat) : Nat → Int32 → Int32 → Int32 → Int32 → AH → Option (Int32 × AH)
  | 0, _, _, _, _, _ => none
  | m + 1, x1, x2, x3, x4, h =>
    if 3 ≤ x4 then
      bif (am_in x1 9) then
        some (x3, (am_sa h 79 (upd (h.2.1 79) (Int32.toNatClampNeg x1) x2)))
      else none
    else
      bif (am_in x1 9) then
        am_b (M_X9_isSeen n (am_sa h 79 (upd (h.2.1 79) (Int32.toNatClampNeg x1) x4))) fun v2 h1 =>
        if v2 = 0 then
          B_X9_kindsBy_46 n (L_X9_kindsBy_16 n m) x1 x2 x4 0 x3 h1
        else
          B_X9_kindsBy_46 n (L_X9_kindsBy_16 n m) x1 x2 x4 (1 <<< (x4 &&& 31)) x3 h1
      else none
set_option maxRecDepth 10000 in
theorem E_L_X9_kindsBy_16 (n : Nat) (vR : Int32) (hR : AH) : ∀ (m : Nat) (x1 : Int32) (x2 : Int32) (x3 : Int32) (x4 : Int32) (h : AH), L_X9_kindsBy_16 n m x1 x2 x3 x4 h = some (vR, hR) → Ev none mr_X9_kindsBy (16, [(0, .ref 75), (1, .int x1), (2, .int x2), (3, .int x3), (4, .int x4)], [], h) (some (.int vR)) hR := by
  intro m
  induction m with
  | zero =>
    intro x1 x2 x3 x4 h hM
    exact (am_no hM).elim
  | succ m ih =>
    intro x1 x2 x3 x4 h hM
    rw [L_X9_kindsBy_16] at hM
    refine Ev.steps (B := (19, [(0, .ref 75), (1, .int x1), (2, .int x2), (3, .int x3), (4, .int x4)], [.int 3, .int x4], h)) 2 rfl ?_
    refine Ev.br (b := decide (3 ≤ x4)) rfl (fun c1 => ?_) (fun c1 => ?_)
    · have c1 := of_decide_eq_true c1
      rw [if_pos c1] at hM
      refine Ev.steps (B := (60, [(0, .ref 75), (1, .int x1), (2, .int x2), (3, .int x3), (4, .int x4)], [.int x2, .int x1, .ref 79], h)) 4 rfl ?_
      obtain ⟨g2, hM⟩ := am_gS hM
      refine Ev.g (B := (61, [(0, .ref 75), (1, .int x1), (2, .int x2), (3, .int x3), (4, .int x4)], [], (am_sa h 79 (upd (h.2.1 79) (Int32.toNatClampNeg x1) x2)))) g2 rfl ?_
      refine Ev.steps (B := (62, [(0, .ref 75), (1, .int x1), (2, .int x2), (3, .int x3), (4, .int x4)], [.int x3], (am_sa h 79 (upd (h.2.1 79) (Int32.toNatClampNeg x1) x2)))) 1 rfl ?_
      obtain ⟨rfl, rfl⟩ := am_sp hM
      exact Ev.ret rfl
    · have c1 := of_decide_eq_false c1
      rw [if_neg c1] at hM
      refine Ev.steps (B := (29, [(0, .ref 75), (1, .int x1), (2, .int x2), (3, .int x3), (4, .int x4)], [.int x4, .int x1, .ref 79], h)) 4 rfl ?_
      obtain ⟨g3, hM⟩ := am_gS hM
      refine Ev.g (B := (30, [(0, .ref 75), (1, .int x1), (2, .int x2), (3, .int x3), (4, .int x4)], [], (am_sa h 79 (upd (h.2.1 79) (Int32.toNatClampNeg x1) x4)))) g3 rfl ?_
      refine Ev.steps (B := (32, [(0, .ref 75), (1, .int x1), (2, .int x2), (3, .int x3), (4, .int x4)], [.ref 75, .int x3], (am_sa h 79 (upd (h.2.1 79) (Int32.toNatClampNeg x1) x4)))) 2 rfl ?_
      obtain ⟨v2, h1, e4, hM⟩ := am_bS hM
      refine Ev.call (q := (mr_X9_isSeen, [.ref 75], [.int x3])) rfl (E_X9_isSeen_75 n (am_sa h 79 (upd (h.2.1 79) (Int32.toNatClampNeg x1) x4)) v2 h1 e4) ?_
      refine Ev.br (b := decide (v2 = 0)) rfl (fun c5 => ?_) (fun c5 => ?_)
      · have c5 := of_decide_eq_true c5
        rw [if_pos c5] at hM
        refine Ev.steps (B := (46, [(0, .ref 75), (1, .int x1), (2, .int x2), (3, .int x3), (4, .int x4)], [.int 0, .int x3], h1)) 1 rfl ?_
        refine Ev.lv (lv := [(0, .ref 75), (1, .int x1), (2, .int x2), (4, .int x4)]) ⟨rfl, rfl, rfl, rfl, trivial⟩ rfl rfl ?_
        exact E_B_X9_kindsBy_46 n (L_X9_kindsBy_16 n m) vR hR ih x1 x2 x4 0 x3 h1 hM
      · have c5 := of_decide_eq_false c5
        rw [if_neg c5] at hM
        refine Ev.steps (B := (46, [(0, .ref 75), (1, .int x1), (2, .int x2), (3, .int x3), (4, .int x4)], [.int (1 <<< (x4 &&& 31)), .int x3], h1)) 4 rfl ?_
        refine Ev.lv (lv := [(0, .ref 75), (1, .int x1), (2, .int x2), (4, .int x4)]) ⟨rfl, rfl, rfl, rfl, trivial⟩ rfl rfl ?_
        exact E_B_X9_kindsBy_46 n (L_X9_kindsBy_16 n m) vR hR ih x1 x2 x4 (1 <<< (x4 &&& 31)) x3 h1 hM
def M_X9_kindsBy (n : Nat) (a1 : Int32) (h : AH) : Option (Int32 × AH) :=
  am_v (M_X9_asTold n h) fun h1 =>
  bif (am_in a1 9) then
    L_X9_kindsBy_16 n n a1 ((h1.2.1 79) (Int32.toNatClampNeg a1)) 0 0 h1
  else none
set_option maxRecDepth 10000 in
theorem E_X9_kindsBy_75 (n : Nat) (a1 : Int32) (h : AH) (vR : Int32) (hR : AH) (hM : M_X9_kindsBy n a1 h = some (vR, hR)) : Ev none mr_X9_kindsBy (0, [(0, .ref 75), (1, .int a1)], [], h) (some (.int vR)) hR := by
  unfold M_X9_kindsBy at hM
  refine Ev.steps (B := (1, [(0, .ref 75), (1, .int a1)], [.ref 75], h)) 1 rfl ?_
  obtain ⟨h1, e1, hM⟩ := am_vS hM
  refine Ev.call (q := (mr_X9_asTold, [.ref 75], [])) rfl (E_X9_asTold_75 n h h1 e1) ?_
  refine Ev.steps (B := (9, [(0, .ref 75), (1, .int a1)], [.int a1, .ref 79], h1)) 3 rfl ?_
  obtain ⟨g2, hM⟩ := am_gS hM
  refine Ev.g (B := (10, [(0, .ref 75), (1, .int a1)], [.int ((h1.2.1 79) (Int32.toNatClampNeg a1))], h1)) g2 rfl ?_
  refine Ev.steps (B := (16, [(4, .int 0), (3, .int 0), (2, .int ((h1.2.1 79) (Int32.toNatClampNeg a1))), (0, .ref 75), (1, .int a1)], [], h1)) 5 rfl ?_
  refine Ev.lv (lv := [(0, .ref 75), (1, .int a1), (2, .int ((h1.2.1 79) (Int32.toNatClampNeg a1))), (3, .int 0), (4, .int 0)]) ⟨rfl, rfl, rfl, rfl, rfl, trivial⟩ rfl rfl ?_
  exact E_L_X9_kindsBy_16 n vR hR n a1 ((h1.2.1 79) (Int32.toNatClampNeg a1)) 0 0 h1 hM
def M_X9_kind (n : Nat) (a1 : Int32) (h : AH) : Option (Int32 × AH) :=
  am_b (M_X9_isPiece n a1 h) fun v2 h1 =>
  if v2 = 0 then
    some ((-2), h1)
  else
    am_b (M_X9_kindsBy n a1 h1) fun v4 h3 =>
    some (v4, h3)
set_option maxRecDepth 10000 in
theorem E_X9_kind_75 (n : Nat) (a1 : Int32) (h : AH) (vR : Int32) (hR : AH) (hM : M_X9_kind n a1 h = some (vR, hR)) : Ev none mr_X9_kind (0, [(0, .ref 75), (1, .int a1)], [], h) (some (.int vR)) hR := by
  unfold M_X9_kind at hM
  refine Ev.steps (B := (2, [(0, .ref 75), (1, .int a1)], [.int a1, .ref 75], h)) 2 rfl ?_
  obtain ⟨v2, h1, e1, hM⟩ := am_bS hM
  refine Ev.call (q := (mr_X9_isPiece, [.ref 75, .int a1], [])) rfl (E_X9_isPiece_75 n a1 h v2 h1 e1) ?_
  refine Ev.br (b := decide (v2 = 0)) rfl (fun c2 => ?_) (fun c2 => ?_)
  · have c2 := of_decide_eq_true c2
    rw [if_pos c2] at hM
    refine Ev.steps (B := (18, [(0, .ref 75), (1, .int a1)], [.int (-2)], h1)) 1 rfl ?_
    obtain ⟨rfl, rfl⟩ := am_sp hM
    exact Ev.ret rfl
  · have c2 := of_decide_eq_false c2
    rw [if_neg c2] at hM
    refine Ev.steps (B := (10, [(0, .ref 75), (1, .int a1)], [.int a1, .ref 75], h1)) 2 rfl ?_
    obtain ⟨v4, h3, e3, hM⟩ := am_bS hM
    refine Ev.call (q := (mr_X9_kindsBy, [.ref 75, .int a1], [])) rfl (E_X9_kindsBy_75 n a1 h1 v4 h3 e3) ?_
    refine Ev.steps (B := (18, [(0, .ref 75), (1, .int a1)], [.int v4], h3)) 1 rfl ?_
    obtain ⟨rfl, rfl⟩ := am_sp hM
    exact Ev.ret rfl
def L_X8_boilingWaters_5 (n : Nat) : Nat → Int32 → Int32 → Int32 → Int32 → AH → Option (Int32 × AH)
  | 0, _, _, _, _, _ => none
  | m + 1, x1, x2, x3, x4, h =>
    if 31 ≤ x4 then
      some (x3, h)
    else
      if ((x1 >>> (x4 &&& 31)) &&& 1) = 1 then
        am_b (M_X7_outcome n (256 + x4) h) fun v2 h1 =>
        L_X8_boilingWaters_5 n m x1 x2 (x3 + (((M_X7_boiledIn v2) >>> (x2 &&& 31)) &&& 1)) (x4 + 1) h1
      else
        L_X8_boilingWaters_5 n m x1 x2 x3 (x4 + 1) h
set_option maxRecDepth 10000 in
theorem E_L_X8_boilingWaters_5 (n : Nat) (vR : Int32) (hR : AH) : ∀ (m : Nat) (x1 : Int32) (x2 : Int32) (x3 : Int32) (x4 : Int32) (h : AH), L_X8_boilingWaters_5 n m x1 x2 x3 x4 h = some (vR, hR) → Ev none mr_X8_boilingWaters (5, [(0, .ref 0), (1, .int x1), (2, .int x2), (3, .int x3), (4, .int x4)], [], h) (some (.int vR)) hR := by
  intro m
  induction m with
  | zero =>
    intro x1 x2 x3 x4 h hM
    exact (am_no hM).elim
  | succ m ih =>
    intro x1 x2 x3 x4 h hM
    rw [L_X8_boilingWaters_5] at hM
    refine Ev.steps (B := (9, [(0, .ref 0), (1, .int x1), (2, .int x2), (3, .int x3), (4, .int x4)], [.int 31, .int x4], h)) 2 rfl ?_
    refine Ev.br (b := decide (31 ≤ x4)) rfl (fun c1 => ?_) (fun c1 => ?_)
    · have c1 := of_decide_eq_true c1
      rw [if_pos c1] at hM
      refine Ev.steps (B := (52, [(0, .ref 0), (1, .int x1), (2, .int x2), (3, .int x3), (4, .int x4)], [.int x3], h)) 1 rfl ?_
      obtain ⟨rfl, rfl⟩ := am_sp hM
      exact Ev.ret rfl
    · have c1 := of_decide_eq_false c1
      rw [if_neg c1] at hM
      refine Ev.steps (B := (19, [(0, .ref 0), (1, .int x1), (2, .int x2), (3, .int x3), (4, .int x4)], [.int 1, .int ((x1 >>> (x4 &&& 31)) &&& 1)], h)) 6 rfl ?_
      refine Ev.br (b := decide (¬ ((x1 >>> (x4 &&& 31)) &&& 1) = 1)) rfl (fun c2 => ?_) (fun c2 => ?_)
      · have c2 := of_decide_eq_true c2
        rw [if_neg c2] at hM
        refine Ev.steps (B := (5, [(4, .int (x4 + 1)), (0, .ref 0), (1, .int x1), (2, .int x2), (3, .int x3)], [], h)) 2 rfl ?_
        refine Ev.lv (lv := [(0, .ref 0), (1, .int x1), (2, .int x2), (3, .int x3), (4, .int (x4 + 1))]) ⟨rfl, rfl, rfl, rfl, rfl, trivial⟩ rfl rfl ?_
        exact ih x1 x2 x3 (x4 + 1) h hM
      · have c2 := Decidable.of_not_not (of_decide_eq_false c2)
        rw [if_pos c2] at hM
        refine Ev.steps (B := (33, [(0, .ref 0), (1, .int x1), (2, .int x2), (3, .int x3), (4, .int x4)], [.int (256 + x4), .ref 37, .int x3], h)) 6 rfl ?_
        obtain ⟨v2, h1, e3, hM⟩ := am_bS hM
        refine Ev.call (q := (mr_X7_outcome, [.ref 37, .int (256 + x4)], [.int x3])) rfl (E_X7_outcome_37 n (256 + x4) h v2 h1 e3) ?_
        refine Ev.call (q := (mr_X7_boiledIn, [.long v2], [.int x3])) rfl (E_X7_boiledIn v2 h1) ?_
        refine Ev.steps (B := (5, [(4, .int (x4 + 1)), (3, .int (x3 + (((M_X7_boiledIn v2) >>> (x2 &&& 31)) &&& 1))), (0, .ref 0), (1, .int x1), (2, .int x2)], [], h1)) 8 rfl ?_
        refine Ev.lv (lv := [(0, .ref 0), (1, .int x1), (2, .int x2), (3, .int (x3 + (((M_X7_boiledIn v2) >>> (x2 &&& 31)) &&& 1))), (4, .int (x4 + 1))]) ⟨rfl, rfl, rfl, rfl, rfl, trivial⟩ rfl rfl ?_
        exact ih x1 x2 (x3 + (((M_X7_boiledIn v2) >>> (x2 &&& 31)) &&& 1)) (x4 + 1) h1 hM
def M_X8_boilingWaters (n : Nat) (a1 : Int32) (a2 : Int32) (h : AH) : Option (Int32 × AH) :=
  L_X8_boilingWaters_5 n n a1 a2 0 0 h
set_option maxRecDepth 10000 in
theorem E_X8_boilingWaters_0 (n : Nat) (a1 : Int32) (a2 : Int32) (h : AH) (vR : Int32) (hR : AH) (hM : M_X8_boilingWaters n a1 a2 h = some (vR, hR)) : Ev none mr_X8_boilingWaters (0, [(0, .ref 0), (1, .int a1), (2, .int a2)], [], h) (some (.int vR)) hR := by
  unfold M_X8_boilingWaters at hM
  refine Ev.steps (B := (5, [(4, .int 0), (3, .int 0), (0, .ref 0), (1, .int a1), (2, .int a2)], [], h)) 4 rfl ?_
  refine Ev.lv (lv := [(0, .ref 0), (1, .int a1), (2, .int a2), (3, .int 0), (4, .int 0)]) ⟨rfl, rfl, rfl, rfl, rfl, trivial⟩ rfl rfl ?_
  exact E_L_X8_boilingWaters_5 n vR hR n a1 a2 0 0 h hM
def L_X8_ask_18 (n : Nat) : Nat → Int32 → Int32 → Int32 → Int32 → Int32 → AH → Option (Int32 × AH)
  | 0, _, _, _, _, _, _ => none
  | m + 1, x1, x2, x3, x4, x5, h =>
    if 24 ≤ x5 then
      some (x3, h)
    else
      am_b (M_X8_boilingWaters n x1 x5 h) fun v2 h1 =>
      if x4 ≤ (am_max v2 (x2 - v2)) then
        L_X8_ask_18 n m x1 x2 x3 x4 (x5 + 1) h1
      else
        L_X8_ask_18 n m x1 x2 x5 (am_max v2 (x2 - v2)) (x5 + 1) h1
set_option maxRecDepth 10000 in
theorem E_L_X8_ask_18 (n : Nat) (vR : Int32) (hR : AH) : ∀ (m : Nat) (x1 : Int32) (x2 : Int32) (x3 : Int32) (x4 : Int32) (x5 : Int32) (h : AH), L_X8_ask_18 n m x1 x2 x3 x4 x5 h = some (vR, hR) → Ev none mr_X8_ask (18, [(0, .ref 0), (1, .int x1), (2, .int x2), (3, .int x3), (4, .int x4), (5, .int x5)], [], h) (some (.int vR)) hR := by
  intro m
  induction m with
  | zero =>
    intro x1 x2 x3 x4 x5 h hM
    exact (am_no hM).elim
  | succ m ih =>
    intro x1 x2 x3 x4 x5 h hM
    rw [L_X8_ask_18] at hM
    refine Ev.steps (B := (22, [(0, .ref 0), (1, .int x1), (2, .int x2), (3, .int x3), (4, .int x4), (5, .int x5)], [.int 24, .int x5], h)) 2 rfl ?_
    refine Ev.br (b := decide (24 ≤ x5)) rfl (fun c1 => ?_) (fun c1 => ?_)
    · have c1 := of_decide_eq_true c1
      rw [if_pos c1] at hM
      refine Ev.steps (B := (66, [(0, .ref 0), (1, .int x1), (2, .int x2), (3, .int x3), (4, .int x4), (5, .int x5)], [.int x3], h)) 1 rfl ?_
      obtain ⟨rfl, rfl⟩ := am_sp hM
      exact Ev.ret rfl
    · have c1 := of_decide_eq_false c1
      rw [if_neg c1] at hM
      refine Ev.steps (B := (29, [(0, .ref 0), (1, .int x1), (2, .int x2), (3, .int x3), (4, .int x4), (5, .int x5)], [.int x5, .int x1, .ref 0], h)) 3 rfl ?_
      obtain ⟨v2, h1, e2, hM⟩ := am_bS hM
      refine Ev.call (q := (mr_X8_boilingWaters, [.ref 0, .int x1, .int x5], [])) rfl (E_X8_boilingWaters_0 n x1 x5 h v2 h1 e2) ?_
      refine Ev.steps (B := (49, [(7, .int (am_max v2 (x2 - v2))), (6, .int v2), (0, .ref 0), (1, .int x1), (2, .int x2), (3, .int x3), (4, .int x4), (5, .int x5)], [.int x4, .int (am_max v2 (x2 - v2))], h1)) 9 rfl ?_
      refine Ev.br (b := decide (x4 ≤ (am_max v2 (x2 - v2)))) rfl (fun c3 => ?_) (fun c3 => ?_)
      · have c3 := of_decide_eq_true c3
        rw [if_pos c3] at hM
        refine Ev.steps (B := (18, [(5, .int (x5 + 1)), (7, .int (am_max v2 (x2 - v2))), (6, .int v2), (0, .ref 0), (1, .int x1), (2, .int x2), (3, .int x3), (4, .int x4)], [], h1)) 2 rfl ?_
        refine Ev.lv (lv := [(0, .ref 0), (1, .int x1), (2, .int x2), (3, .int x3), (4, .int x4), (5, .int (x5 + 1))]) ⟨rfl, rfl, rfl, rfl, rfl, rfl, trivial⟩ rfl rfl ?_
        exact ih x1 x2 x3 x4 (x5 + 1) h1 hM
      · have c3 := of_decide_eq_false c3
        rw [if_neg c3] at hM
        refine Ev.steps (B := (18, [(5, .int (x5 + 1)), (4, .int (am_max v2 (x2 - v2))), (3, .int x5), (7, .int (am_max v2 (x2 - v2))), (6, .int v2), (0, .ref 0), (1, .int x1), (2, .int x2)], [], h1)) 6 rfl ?_
        refine Ev.lv (lv := [(0, .ref 0), (1, .int x1), (2, .int x2), (3, .int x5), (4, .int (am_max v2 (x2 - v2))), (5, .int (x5 + 1))]) ⟨rfl, rfl, rfl, rfl, rfl, rfl, trivial⟩ rfl rfl ?_
        exact ih x1 x2 x5 (am_max v2 (x2 - v2)) (x5 + 1) h1 hM
def M_X8_ask (n : Nat) (h : AH) : Option (Int32 × AH) :=
  am_b (M_X8_waters n h) fun v2 h1 =>
  L_X8_ask_18 n n v2 (M_J13_bitCount v2) 0 (M_J13_bitCount v2) 0 h1
set_option maxRecDepth 10000 in
theorem E_X8_ask_0 (n : Nat) (h : AH) (vR : Int32) (hR : AH) (hM : M_X8_ask n h = some (vR, hR)) : Ev none mr_X8_ask (0, [(0, .ref 0)], [], h) (some (.int vR)) hR := by
  unfold M_X8_ask at hM
  refine Ev.steps (B := (1, [(0, .ref 0)], [.ref 0], h)) 1 rfl ?_
  obtain ⟨v2, h1, e1, hM⟩ := am_bS hM
  refine Ev.call (q := (mr_X8_waters, [.ref 0], [])) rfl (E_X8_waters_0 n h v2 h1 e1) ?_
  refine Ev.steps (B := (6, [(1, .int v2), (0, .ref 0)], [.int v2], h1)) 2 rfl ?_
  refine Ev.call (q := (mr_J13_bitCount, [.int v2], [])) rfl (E_J13_bitCount v2 h1) ?_
  refine Ev.steps (B := (18, [(5, .int 0), (4, .int (M_J13_bitCount v2)), (3, .int 0), (2, .int (M_J13_bitCount v2)), (1, .int v2), (0, .ref 0)], [], h1)) 7 rfl ?_
  refine Ev.lv (lv := [(0, .ref 0), (1, .int v2), (2, .int (M_J13_bitCount v2)), (3, .int 0), (4, .int (M_J13_bitCount v2)), (5, .int 0)]) ⟨rfl, rfl, rfl, rfl, rfl, rfl, trivial⟩ rfl rfl ?_
  exact E_L_X8_ask_18 n vR hR n v2 (M_J13_bitCount v2) 0 (M_J13_bitCount v2) 0 h1 hM
def B_X9_many_24 (n : Nat) (k4 : Int32 → Int32 → Int32 → Option Int32) (x0 : Int32) (x2 : Int32) (y0 : Int32) (y1 : Int32) : Option Int32 :=
  k4 x0 (y1 + y0) (x2 + 1)
set_option maxRecDepth 10000 in
theorem E_B_X9_many_24 (n : Nat) (k4 : Int32 → Int32 → Int32 → Option Int32) (h : AH) (vR : Int32) (hk4 : ∀ (x0 : Int32) (x1 : Int32) (x2 : Int32), k4 x0 x1 x2 = some vR → Ev none mr_X9_many (4, [(0, .int x0), (1, .int x1), (2, .int x2)], [], h) (some (.int vR)) h) (x0 : Int32) (x2 : Int32) (y0 : Int32) (y1 : Int32) (hM : B_X9_many_24 n k4 x0 x2 y0 y1 = some vR) : Ev none mr_X9_many (24, [(0, .int x0), (2, .int x2)], [.int y0, .int y1], h) (some (.int vR)) h := by
  unfold B_X9_many_24 at hM
  refine Ev.steps (B := (4, [(2, .int (x2 + 1)), (1, .int (y1 + y0)), (0, .int x0)], [], h)) 4 rfl ?_
  refine Ev.lv (lv := [(0, .int x0), (1, .int (y1 + y0)), (2, .int (x2 + 1))]) ⟨rfl, rfl, rfl, trivial⟩ rfl rfl ?_
  exact hk4 x0 (y1 + y0) (x2 + 1) hM
def L_X9_many_4 (n : Nat) : Nat → Int32 → Int32 → Int32 → Option Int32
  | 0, _, _, _ => none
  | m + 1, x0, x1, x2 =>
    if 30 < x2 then
      some x1
    else
      if (M_X9_isIn x0 x2) = 0 then
        B_X9_many_24 n (L_X9_many_4 n m) x0 x2 0 x1
      else
        B_X9_many_24 n (L_X9_many_4 n m) x0 x2 1 x1
set_option maxRecDepth 10000 in
theorem E_L_X9_many_4 (n : Nat) (h : AH) (vR : Int32) : ∀ (m : Nat) (x0 : Int32) (x1 : Int32) (x2 : Int32), L_X9_many_4 n m x0 x1 x2 = some vR → Ev none mr_X9_many (4, [(0, .int x0), (1, .int x1), (2, .int x2)], [], h) (some (.int vR)) h := by
  intro m
  induction m with
  | zero =>
    intro x0 x1 x2 hM
    exact (am_no hM).elim
  | succ m ih =>
    intro x0 x1 x2 hM
    rw [L_X9_many_4] at hM
    refine Ev.steps (B := (7, [(0, .int x0), (1, .int x1), (2, .int x2)], [.int 30, .int x2], h)) 2 rfl ?_
    refine Ev.br (b := decide (30 < x2)) rfl (fun c1 => ?_) (fun c1 => ?_)
    · have c1 := of_decide_eq_true c1
      rw [if_pos c1] at hM
      refine Ev.steps (B := (33, [(0, .int x0), (1, .int x1), (2, .int x2)], [.int x1], h)) 1 rfl ?_
      obtain rfl := am_s1 hM
      exact Ev.ret rfl
    · have c1 := of_decide_eq_false c1
      rw [if_neg c1] at hM
      refine Ev.steps (B := (13, [(0, .int x0), (1, .int x1), (2, .int x2)], [.int x2, .int x0, .int x1], h)) 3 rfl ?_
      refine Ev.call (q := (mr_X9_isIn, [.int x0, .int x2], [.int x1])) rfl (E_X9_isIn x0 x2 h) ?_
      refine Ev.br (b := decide ((M_X9_isIn x0 x2) = 0)) rfl (fun c2 => ?_) (fun c2 => ?_)
      · have c2 := of_decide_eq_true c2
        rw [if_pos c2] at hM
        refine Ev.steps (B := (24, [(0, .int x0), (1, .int x1), (2, .int x2)], [.int 0, .int x1], h)) 1 rfl ?_
        refine Ev.lv (lv := [(0, .int x0), (2, .int x2)]) ⟨rfl, rfl, trivial⟩ rfl rfl ?_
        exact E_B_X9_many_24 n (L_X9_many_4 n m) h vR ih x0 x2 0 x1 hM
      · have c2 := of_decide_eq_false c2
        rw [if_neg c2] at hM
        refine Ev.steps (B := (24, [(0, .int x0), (1, .int x1), (2, .int x2)], [.int 1, .int x1], h)) 2 rfl ?_
        refine Ev.lv (lv := [(0, .int x0), (2, .int x2)]) ⟨rfl, rfl, trivial⟩ rfl rfl ?_
        exact E_B_X9_many_24 n (L_X9_many_4 n m) h vR ih x0 x2 1 x1 hM
def M_X9_many (n : Nat) (a1 : Int32) : Option Int32 :=
  L_X9_many_4 n n a1 0 0
set_option maxRecDepth 10000 in
theorem E_X9_many (n : Nat) (a1 : Int32) (h : AH) (vR : Int32) (hM : M_X9_many n a1 = some vR) : Ev none mr_X9_many (0, [(0, .int a1)], [], h) (some (.int vR)) h := by
  unfold M_X9_many at hM
  refine Ev.steps (B := (4, [(2, .int 0), (1, .int 0), (0, .int a1)], [], h)) 4 rfl ?_
  refine Ev.lv (lv := [(0, .int a1), (1, .int 0), (2, .int 0)]) ⟨rfl, rfl, rfl, trivial⟩ rfl rfl ?_
  exact E_L_X9_many_4 n h vR n a1 0 0 hM
def B_X9_askOf_94 (n : Nat) (k12 : Int32 → Int32 → Int32 → Int32 → AH → Option (Int32 × AH)) (x1 : Int32) (x3 : Int32) (x4 : Int32) (x7 : Int32) (x8 : Int32) (y0 : Int32) (h : AH) : Option (Int32 × AH) :=
  if x8 = 0 then
    k12 x1 y0 x3 (x4 + 1) h
  else
    k12 x1 y0 x7 (x4 + 1) h
set_option maxRecDepth 10000 in
theorem E_B_X9_askOf_94 (n : Nat) (k12 : Int32 → Int32 → Int32 → Int32 → AH → Option (Int32 × AH)) (vR : Int32) (hR : AH) (hk12 : ∀ (x1 : Int32) (x2 : Int32) (x3 : Int32) (x4 : Int32) (h0 : AH), k12 x1 x2 x3 x4 h0 = some (vR, hR) → Ev none mr_X9_askOf (12, [(0, .ref 75), (1, .int x1), (2, .int x2), (3, .int x3), (4, .int x4)], [], h0) (some (.int vR)) hR) (x1 : Int32) (x3 : Int32) (x4 : Int32) (x7 : Int32) (x8 : Int32) (y0 : Int32) (h : AH) (hM : B_X9_askOf_94 n k12 x1 x3 x4 x7 x8 y0 h = some (vR, hR)) : Ev none mr_X9_askOf (94, [(0, .ref 75), (1, .int x1), (3, .int x3), (4, .int x4), (7, .int x7), (8, .int x8)], [.int y0], h) (some (.int vR)) hR := by
  unfold B_X9_askOf_94 at hM
  refine Ev.steps (B := (97, [(2, .int y0), (0, .ref 75), (1, .int x1), (3, .int x3), (4, .int x4), (7, .int x7), (8, .int x8)], [.int x8], h)) 2 rfl ?_
  refine Ev.br (b := decide (x8 = 0)) rfl (fun c1 => ?_) (fun c1 => ?_)
  · have c1 := of_decide_eq_true c1
    rw [if_pos c1] at hM
    refine Ev.steps (B := (12, [(4, .int (x4 + 1)), (3, .int x3), (2, .int y0), (0, .ref 75), (1, .int x1), (7, .int x7), (8, .int x8)], [], h)) 4 rfl ?_
    refine Ev.lv (lv := [(0, .ref 75), (1, .int x1), (2, .int y0), (3, .int x3), (4, .int (x4 + 1))]) ⟨rfl, rfl, rfl, rfl, rfl, trivial⟩ rfl rfl ?_
    exact hk12 x1 y0 x3 (x4 + 1) h hM
  · have c1 := of_decide_eq_false c1
    rw [if_neg c1] at hM
    refine Ev.steps (B := (12, [(4, .int (x4 + 1)), (3, .int x7), (2, .int y0), (0, .ref 75), (1, .int x1), (7, .int x7), (8, .int x8)], [], h)) 5 rfl ?_
    refine Ev.lv (lv := [(0, .ref 75), (1, .int x1), (2, .int y0), (3, .int x7), (4, .int (x4 + 1))]) ⟨rfl, rfl, rfl, rfl, rfl, trivial⟩ rfl rfl ?_
    exact hk12 x1 y0 x7 (x4 + 1) h hM
def B_X9_askOf_81 (n : Nat) (k12 : Int32 → Int32 → Int32 → Int32 → AH → Option (Int32 × AH)) (x1 : Int32) (x2 : Int32) (x3 : Int32) (x4 : Int32) (x7 : Int32) (y0 : Int32) (h : AH) : Option (Int32 × AH) :=
  if y0 = 0 then
    B_X9_askOf_94 n k12 x1 x3 x4 x7 y0 x2 h
  else
    B_X9_askOf_94 n k12 x1 x3 x4 x7 y0 x4 h
set_option maxRecDepth 10000 in
theorem E_B_X9_askOf_81 (n : Nat) (k12 : Int32 → Int32 → Int32 → Int32 → AH → Option (Int32 × AH)) (vR : Int32) (hR : AH) (hk12 : ∀ (x1 : Int32) (x2 : Int32) (x3 : Int32) (x4 : Int32) (h0 : AH), k12 x1 x2 x3 x4 h0 = some (vR, hR) → Ev none mr_X9_askOf (12, [(0, .ref 75), (1, .int x1), (2, .int x2), (3, .int x3), (4, .int x4)], [], h0) (some (.int vR)) hR) (x1 : Int32) (x2 : Int32) (x3 : Int32) (x4 : Int32) (x7 : Int32) (y0 : Int32) (h : AH) (hM : B_X9_askOf_81 n k12 x1 x2 x3 x4 x7 y0 h = some (vR, hR)) : Ev none mr_X9_askOf (81, [(0, .ref 75), (1, .int x1), (2, .int x2), (3, .int x3), (4, .int x4), (7, .int x7)], [.int y0], h) (some (.int vR)) hR := by
  unfold B_X9_askOf_81 at hM
  refine Ev.steps (B := (85, [(8, .int y0), (0, .ref 75), (1, .int x1), (2, .int x2), (3, .int x3), (4, .int x4), (7, .int x7)], [.int y0], h)) 2 rfl ?_
  refine Ev.br (b := decide (y0 = 0)) rfl (fun c1 => ?_) (fun c1 => ?_)
  · have c1 := of_decide_eq_true c1
    rw [if_pos c1] at hM
    refine Ev.steps (B := (94, [(8, .int y0), (0, .ref 75), (1, .int x1), (2, .int x2), (3, .int x3), (4, .int x4), (7, .int x7)], [.int x2], h)) 1 rfl ?_
    refine Ev.lv (lv := [(0, .ref 75), (1, .int x1), (3, .int x3), (4, .int x4), (7, .int x7), (8, .int y0)]) ⟨rfl, rfl, rfl, rfl, rfl, rfl, trivial⟩ rfl rfl ?_
    exact E_B_X9_askOf_94 n k12 vR hR hk12 x1 x3 x4 x7 y0 x2 h hM
  · have c1 := of_decide_eq_false c1
    rw [if_neg c1] at hM
    refine Ev.steps (B := (94, [(8, .int y0), (0, .ref 75), (1, .int x1), (2, .int x2), (3, .int x3), (4, .int x4), (7, .int x7)], [.int x4], h)) 2 rfl ?_
    refine Ev.lv (lv := [(0, .ref 75), (1, .int x1), (3, .int x3), (4, .int x4), (7, .int x7), (8, .int y0)]) ⟨rfl, rfl, rfl, rfl, rfl, rfl, trivial⟩ rfl rfl ?_
    exact E_B_X9_askOf_94 n k12 vR hR hk12 x1 x3 x4 x7 y0 x4 h hM
def B_X9_askOf_76 (n : Nat) (k12 : Int32 → Int32 → Int32 → Int32 → AH → Option (Int32 × AH)) (x1 : Int32) (x2 : Int32) (x3 : Int32) (x4 : Int32) (x7 : Int32) (h : AH) : Option (Int32 × AH) :=
  B_X9_askOf_81 n k12 x1 x2 x3 x4 x7 1 h
set_option maxRecDepth 10000 in
theorem E_B_X9_askOf_76 (n : Nat) (k12 : Int32 → Int32 → Int32 → Int32 → AH → Option (Int32 × AH)) (vR : Int32) (hR : AH) (hk12 : ∀ (x1 : Int32) (x2 : Int32) (x3 : Int32) (x4 : Int32) (h0 : AH), k12 x1 x2 x3 x4 h0 = some (vR, hR) → Ev none mr_X9_askOf (12, [(0, .ref 75), (1, .int x1), (2, .int x2), (3, .int x3), (4, .int x4)], [], h0) (some (.int vR)) hR) (x1 : Int32) (x2 : Int32) (x3 : Int32) (x4 : Int32) (x7 : Int32) (h : AH) (hM : B_X9_askOf_76 n k12 x1 x2 x3 x4 x7 h = some (vR, hR)) : Ev none mr_X9_askOf (76, [(0, .ref 75), (1, .int x1), (2, .int x2), (3, .int x3), (4, .int x4), (7, .int x7)], [], h) (some (.int vR)) hR := by
  unfold B_X9_askOf_76 at hM
  refine Ev.steps (B := (81, [(0, .ref 75), (1, .int x1), (2, .int x2), (3, .int x3), (4, .int x4), (7, .int x7)], [.int 1], h)) 2 rfl ?_
  exact E_B_X9_askOf_81 n k12 vR hR hk12 x1 x2 x3 x4 x7 1 h hM
def B_X9_askOf_63 (n : Nat) (k12 : Int32 → Int32 → Int32 → Int32 → AH → Option (Int32 × AH)) (x1 : Int32) (x2 : Int32) (x3 : Int32) (x4 : Int32) (y0 : Int32) (h : AH) : Option (Int32 × AH) :=
  if x2 = (-1) then
    B_X9_askOf_76 n k12 x1 x2 x3 x4 y0 h
  else
    if x3 ≤ y0 then
      B_X9_askOf_81 n k12 x1 x2 x3 x4 y0 0 h
    else
      B_X9_askOf_76 n k12 x1 x2 x3 x4 y0 h
set_option maxRecDepth 10000 in
theorem E_B_X9_askOf_63 (n : Nat) (k12 : Int32 → Int32 → Int32 → Int32 → AH → Option (Int32 × AH)) (vR : Int32) (hR : AH) (hk12 : ∀ (x1 : Int32) (x2 : Int32) (x3 : Int32) (x4 : Int32) (h0 : AH), k12 x1 x2 x3 x4 h0 = some (vR, hR) → Ev none mr_X9_askOf (12, [(0, .ref 75), (1, .int x1), (2, .int x2), (3, .int x3), (4, .int x4)], [], h0) (some (.int vR)) hR) (x1 : Int32) (x2 : Int32) (x3 : Int32) (x4 : Int32) (y0 : Int32) (h : AH) (hM : B_X9_askOf_63 n k12 x1 x2 x3 x4 y0 h = some (vR, hR)) : Ev none mr_X9_askOf (63, [(0, .ref 75), (1, .int x1), (2, .int x2), (3, .int x3), (4, .int x4)], [.int y0], h) (some (.int vR)) hR := by
  unfold B_X9_askOf_63 at hM
  refine Ev.steps (B := (67, [(7, .int y0), (0, .ref 75), (1, .int x1), (2, .int x2), (3, .int x3), (4, .int x4)], [.int (-1), .int x2], h)) 3 rfl ?_
  refine Ev.br (b := decide (x2 = (-1))) rfl (fun c1 => ?_) (fun c1 => ?_)
  · have c1 := of_decide_eq_true c1
    rw [if_pos c1] at hM
    refine Ev.lv (lv := [(0, .ref 75), (1, .int x1), (2, .int x2), (3, .int x3), (4, .int x4), (7, .int y0)]) ⟨rfl, rfl, rfl, rfl, rfl, rfl, trivial⟩ rfl rfl ?_
    exact E_B_X9_askOf_76 n k12 vR hR hk12 x1 x2 x3 x4 y0 h hM
  · have c1 := of_decide_eq_false c1
    rw [if_neg c1] at hM
    refine Ev.steps (B := (73, [(7, .int y0), (0, .ref 75), (1, .int x1), (2, .int x2), (3, .int x3), (4, .int x4)], [.int x3, .int y0], h)) 2 rfl ?_
    refine Ev.br (b := decide (x3 ≤ y0)) rfl (fun c2 => ?_) (fun c2 => ?_)
    · have c2 := of_decide_eq_true c2
      rw [if_pos c2] at hM
      refine Ev.steps (B := (81, [(7, .int y0), (0, .ref 75), (1, .int x1), (2, .int x2), (3, .int x3), (4, .int x4)], [.int 0], h)) 1 rfl ?_
      refine Ev.lv (lv := [(0, .ref 75), (1, .int x1), (2, .int x2), (3, .int x3), (4, .int x4), (7, .int y0)]) ⟨rfl, rfl, rfl, rfl, rfl, rfl, trivial⟩ rfl rfl ?_
      exact E_B_X9_askOf_81 n k12 vR hR hk12 x1 x2 x3 x4 y0 0 h hM
    · have c2 := of_decide_eq_false c2
      rw [if_neg c2] at hM
      refine Ev.lv (lv := [(0, .ref 75), (1, .int x1), (2, .int x2), (3, .int x3), (4, .int x4), (7, .int y0)]) ⟨rfl, rfl, rfl, rfl, rfl, rfl, trivial⟩ rfl rfl ?_
      exact E_B_X9_askOf_76 n k12 vR hR hk12 x1 x2 x3 x4 y0 h hM
def L_X9_askOf_12 (n : Nat) : Nat → Int32 → Int32 → Int32 → Int32 → AH → Option (Int32 × AH)
  | 0, _, _, _, _, _ => none
  | m + 1, x1, x2, x3, x4, h =>
    if 24 ≤ x4 then
      some (x2, h)
    else
      bif (am_in x4 24) then
        am_o (M_X9_many n (x1 &&& ((h.2.1 103) (Int32.toNatClampNeg x4)))) fun v1 =>
        bif (am_in x4 24) then
          am_o (M_X9_many n (x1 &&& (((h.2.1 103) (Int32.toNatClampNeg x4)) ^^^ (-1)))) fun v2 =>
          if v1 ≤ v2 then
            B_X9_askOf_63 n (L_X9_askOf_12 n m) x1 x2 x3 x4 v2 h
          else
            B_X9_askOf_63 n (L_X9_askOf_12 n m) x1 x2 x3 x4 v1 h
        else none
      else none
set_option maxRecDepth 10000 in
theorem E_L_X9_askOf_12 (n : Nat) (vR : Int32) (hR : AH) : ∀ (m : Nat) (x1 : Int32) (x2 : Int32) (x3 : Int32) (x4 : Int32) (h : AH), L_X9_askOf_12 n m x1 x2 x3 x4 h = some (vR, hR) → Ev none mr_X9_askOf (12, [(0, .ref 75), (1, .int x1), (2, .int x2), (3, .int x3), (4, .int x4)], [], h) (some (.int vR)) hR := by
  intro m
  induction m with
  | zero =>
    intro x1 x2 x3 x4 h hM
    exact (am_no hM).elim
  | succ m ih =>
    intro x1 x2 x3 x4 h hM
    rw [L_X9_askOf_12] at hM
    refine Ev.steps (B := (16, [(0, .ref 75), (1, .int x1), (2, .int x2), (3, .int x3), (4, .int x4)], [.int 24, .int x4], h)) 2 rfl ?_
    refine Ev.br (b := decide (24 ≤ x4)) rfl (fun c1 => ?_) (fun c1 => ?_)
    · have c1 := of_decide_eq_true c1
      rw [if_pos c1] at hM
      refine Ev.steps (B := (114, [(0, .ref 75), (1, .int x1), (2, .int x2), (3, .int x3), (4, .int x4)], [.int x2], h)) 1 rfl ?_
      obtain ⟨rfl, rfl⟩ := am_sp hM
      exact Ev.ret rfl
    · have c1 := of_decide_eq_false c1
      rw [if_neg c1] at hM
      refine Ev.steps (B := (26, [(0, .ref 75), (1, .int x1), (2, .int x2), (3, .int x3), (4, .int x4)], [.int x4, .ref 103, .int x1], h)) 4 rfl ?_
      obtain ⟨g2, hM⟩ := am_gS hM
      refine Ev.g (B := (27, [(0, .ref 75), (1, .int x1), (2, .int x2), (3, .int x3), (4, .int x4)], [.int ((h.2.1 103) (Int32.toNatClampNeg x4)), .int x1], h)) g2 rfl ?_
      refine Ev.steps (B := (28, [(0, .ref 75), (1, .int x1), (2, .int x2), (3, .int x3), (4, .int x4)], [.int (x1 &&& ((h.2.1 103) (Int32.toNatClampNeg x4)))], h)) 1 rfl ?_
      obtain ⟨v1, e3, hM⟩ := am_oS hM
      refine Ev.call (q := (mr_X9_many, [.int (x1 &&& ((h.2.1 103) (Int32.toNatClampNeg x4)))], [])) rfl (E_X9_many n (x1 &&& ((h.2.1 103) (Int32.toNatClampNeg x4))) h v1 e3) ?_
      refine Ev.steps (B := (40, [(5, .int v1), (0, .ref 75), (1, .int x1), (2, .int x2), (3, .int x3), (4, .int x4)], [.int x4, .ref 103, .int x1], h)) 5 rfl ?_
      obtain ⟨g4, hM⟩ := am_gS hM
      refine Ev.g (B := (41, [(5, .int v1), (0, .ref 75), (1, .int x1), (2, .int x2), (3, .int x3), (4, .int x4)], [.int ((h.2.1 103) (Int32.toNatClampNeg x4)), .int x1], h)) g4 rfl ?_
      refine Ev.steps (B := (44, [(5, .int v1), (0, .ref 75), (1, .int x1), (2, .int x2), (3, .int x3), (4, .int x4)], [.int (x1 &&& (((h.2.1 103) (Int32.toNatClampNeg x4)) ^^^ (-1)))], h)) 3 rfl ?_
      obtain ⟨v2, e5, hM⟩ := am_oS hM
      refine Ev.call (q := (mr_X9_many, [.int (x1 &&& (((h.2.1 103) (Int32.toNatClampNeg x4)) ^^^ (-1)))], [])) rfl (E_X9_many n (x1 &&& (((h.2.1 103) (Int32.toNatClampNeg x4)) ^^^ (-1))) h v2 e5) ?_
      refine Ev.steps (B := (53, [(6, .int v2), (5, .int v1), (0, .ref 75), (1, .int x1), (2, .int x2), (3, .int x3), (4, .int x4)], [.int v2, .int v1], h)) 3 rfl ?_
      refine Ev.br (b := decide (v1 ≤ v2)) rfl (fun c6 => ?_) (fun c6 => ?_)
      · have c6 := of_decide_eq_true c6
        rw [if_pos c6] at hM
        refine Ev.steps (B := (63, [(6, .int v2), (5, .int v1), (0, .ref 75), (1, .int x1), (2, .int x2), (3, .int x3), (4, .int x4)], [.int v2], h)) 1 rfl ?_
        refine Ev.lv (lv := [(0, .ref 75), (1, .int x1), (2, .int x2), (3, .int x3), (4, .int x4)]) ⟨rfl, rfl, rfl, rfl, rfl, trivial⟩ rfl rfl ?_
        exact E_B_X9_askOf_63 n (L_X9_askOf_12 n m) vR hR ih x1 x2 x3 x4 v2 h hM
      · have c6 := of_decide_eq_false c6
        rw [if_neg c6] at hM
        refine Ev.steps (B := (63, [(6, .int v2), (5, .int v1), (0, .ref 75), (1, .int x1), (2, .int x2), (3, .int x3), (4, .int x4)], [.int v1], h)) 2 rfl ?_
        refine Ev.lv (lv := [(0, .ref 75), (1, .int x1), (2, .int x2), (3, .int x3), (4, .int x4)]) ⟨rfl, rfl, rfl, rfl, rfl, trivial⟩ rfl rfl ?_
        exact E_B_X9_askOf_63 n (L_X9_askOf_12 n m) vR hR ih x1 x2 x3 x4 v1 h hM
def M_X9_askOf (n : Nat) (h : AH) : Option (Int32 × AH) :=
  am_b (M_X9_watersBy n h) fun v2 h1 =>
  L_X9_askOf_12 n n v2 (-1) 0 0 h1
set_option maxRecDepth 10000 in
theorem E_X9_askOf_75 (n : Nat) (h : AH) (vR : Int32) (hR : AH) (hM : M_X9_askOf n h = some (vR, hR)) : Ev none mr_X9_askOf (0, [(0, .ref 75)], [], h) (some (.int vR)) hR := by
  unfold M_X9_askOf at hM
  refine Ev.steps (B := (1, [(0, .ref 75)], [.ref 75], h)) 1 rfl ?_
  obtain ⟨v2, h1, e1, hM⟩ := am_bS hM
  refine Ev.call (q := (mr_X9_watersBy, [.ref 75], [])) rfl (E_X9_watersBy_75 n h v2 h1 e1) ?_
  refine Ev.steps (B := (12, [(4, .int 0), (3, .int 0), (2, .int (-1)), (1, .int v2), (0, .ref 75)], [], h1)) 7 rfl ?_
  refine Ev.lv (lv := [(0, .ref 75), (1, .int v2), (2, .int (-1)), (3, .int 0), (4, .int 0)]) ⟨rfl, rfl, rfl, rfl, rfl, trivial⟩ rfl rfl ?_
  exact E_L_X9_askOf_12 n vR hR n v2 (-1) 0 0 h1 hM
def M_X9_ask (n : Nat) (h : AH) : Option (Int32 × AH) :=
  am_b (M_X9_askOf n h) fun v2 h1 =>
  some (v2, h1)
set_option maxRecDepth 10000 in
theorem E_X9_ask_75 (n : Nat) (h : AH) (vR : Int32) (hR : AH) (hM : M_X9_ask n h = some (vR, hR)) : Ev none mr_X9_ask (0, [(0, .ref 75)], [], h) (some (.int vR)) hR := by
  unfold M_X9_ask at hM
  refine Ev.steps (B := (1, [(0, .ref 75)], [.ref 75], h)) 1 rfl ?_
  obtain ⟨v2, h1, e1, hM⟩ := am_bS hM
  refine Ev.call (q := (mr_X9_askOf, [.ref 75], [])) rfl (E_X9_askOf_75 n h v2 h1 e1) ?_
  obtain ⟨rfl, rfl⟩ := am_sp hM
  exact Ev.ret rfl
def L_X8_power_5 (n : Nat) : Nat → Int32 → Int32 → Int64 → Int32 → Option Int64
  | 0, _, _, _, _ => none
  | m + 1, x0, x1, x2, x4 =>
    if x1 ≤ x4 then
      some x2
    else
      if 8 ≤ x4 then
        some x2
      else
        L_X8_power_5 n m x0 x1 (x2 * (Int32.toInt64 x0)) (x4 + 1)
set_option maxRecDepth 10000 in
theorem E_L_X8_power_5 (n : Nat) (h : AH) (vR : Int64) : ∀ (m : Nat) (x0 : Int32) (x1 : Int32) (x2 : Int64) (x4 : Int32), L_X8_power_5 n m x0 x1 x2 x4 = some vR → Ev none mr_X8_power (5, [(0, .int x0), (1, .int x1), (2, .long x2), (4, .int x4)], [], h) (some (.long vR)) h := by
  intro m
  induction m with
  | zero =>
    intro x0 x1 x2 x4 hM
    exact (am_no hM).elim
  | succ m ih =>
    intro x0 x1 x2 x4 hM
    rw [L_X8_power_5] at hM
    refine Ev.steps (B := (8, [(0, .int x0), (1, .int x1), (2, .long x2), (4, .int x4)], [.int x1, .int x4], h)) 2 rfl ?_
    refine Ev.br (b := decide (x1 ≤ x4)) rfl (fun c1 => ?_) (fun c1 => ?_)
    · have c1 := of_decide_eq_true c1
      rw [if_pos c1] at hM
      refine Ev.steps (B := (30, [(0, .int x0), (1, .int x1), (2, .long x2), (4, .int x4)], [.long x2], h)) 1 rfl ?_
      obtain rfl := am_s1 hM
      exact Ev.ret rfl
    · have c1 := of_decide_eq_false c1
      rw [if_neg c1] at hM
      refine Ev.steps (B := (15, [(0, .int x0), (1, .int x1), (2, .long x2), (4, .int x4)], [.int 8, .int x4], h)) 2 rfl ?_
      refine Ev.br (b := decide (8 ≤ x4)) rfl (fun c2 => ?_) (fun c2 => ?_)
      · have c2 := of_decide_eq_true c2
        rw [if_pos c2] at hM
        refine Ev.steps (B := (30, [(0, .int x0), (1, .int x1), (2, .long x2), (4, .int x4)], [.long x2], h)) 1 rfl ?_
        obtain rfl := am_s1 hM
        exact Ev.ret rfl
      · have c2 := of_decide_eq_false c2
        rw [if_neg c2] at hM
        refine Ev.steps (B := (5, [(4, .int (x4 + 1)), (2, .long (x2 * (Int32.toInt64 x0))), (0, .int x0), (1, .int x1)], [], h)) 7 rfl ?_
        refine Ev.lv (lv := [(0, .int x0), (1, .int x1), (2, .long (x2 * (Int32.toInt64 x0))), (4, .int (x4 + 1))]) ⟨rfl, rfl, rfl, rfl, trivial⟩ rfl rfl ?_
        exact ih x0 x1 (x2 * (Int32.toInt64 x0)) (x4 + 1) hM
def M_X8_power (n : Nat) (a1 : Int32) (a2 : Int32) : Option Int64 :=
  L_X8_power_5 n n a1 a2 1 0
set_option maxRecDepth 10000 in
theorem E_X8_power (n : Nat) (a1 : Int32) (a2 : Int32) (h : AH) (vR : Int64) (hM : M_X8_power n a1 a2 = some vR) : Ev none mr_X8_power (0, [(0, .int a1), (1, .int a2)], [], h) (some (.long vR)) h := by
  unfold M_X8_power at hM
  refine Ev.steps (B := (5, [(4, .int 0), (2, .long 1), (0, .int a1), (1, .int a2)], [], h)) 4 rfl ?_
  refine Ev.lv (lv := [(0, .int a1), (1, .int a2), (2, .long 1), (4, .int 0)]) ⟨rfl, rfl, rfl, rfl, trivial⟩ rfl rfl ?_
  exact E_L_X8_power_5 n h vR n a1 a2 1 0 hM
def M_X7_contentIn (a1 : Int64) : Int32 :=
  (Int64.toInt32 ((a1 >>> (Int32.toInt64 24 &&& 63)) &&& 255))
set_option maxRecDepth 10000 in
theorem E_X7_contentIn (a1 : Int64) (h : AH) : Ev none mr_X7_contentIn (0, [(0, .long a1)], [], h) (some (.int (M_X7_contentIn a1))) h := by
  unfold M_X7_contentIn
  refine Ev.steps (B := (9, [(0, .long a1)], [.int (Int64.toInt32 ((a1 >>> (Int32.toInt64 24 &&& 63)) &&& 255))], h)) 6 rfl ?_
  exact Ev.ret rfl
def B_X8_chance_180 (n : Nat) (x3 : Int32) (x5 : Int64) (x7 : Int64) (h : AH) : Option (Int64 × AH) :=
  if x3 = 0 then
    some (x5, h)
  else
    some (x7, h)
set_option maxRecDepth 10000 in
theorem E_B_X8_chance_180 (n : Nat) (vR : Int64) (hR : AH) (x3 : Int32) (x5 : Int64) (x7 : Int64) (h : AH) (hM : B_X8_chance_180 n x3 x5 x7 h = some (vR, hR)) : Ev none mr_X8_chance (180, [(3, .int x3), (5, .long x5), (7, .long x7)], [], h) (some (.long vR)) hR := by
  unfold B_X8_chance_180 at hM
  refine Ev.steps (B := (181, [(3, .int x3), (5, .long x5), (7, .long x7)], [.int x3], h)) 1 rfl ?_
  refine Ev.br (b := decide (¬ x3 = 0)) rfl (fun c1 => ?_) (fun c1 => ?_)
  · have c1 := of_decide_eq_true c1
    rw [if_neg c1] at hM
    refine Ev.steps (B := (191, [(3, .int x3), (5, .long x5), (7, .long x7)], [.long x7], h)) 1 rfl ?_
    obtain ⟨rfl, rfl⟩ := am_sp hM
    exact Ev.ret rfl
  · have c1 := Decidable.of_not_not (of_decide_eq_false c1)
    rw [if_pos c1] at hM
    refine Ev.steps (B := (191, [(3, .int x3), (5, .long x5), (7, .long x7)], [.long x5], h)) 2 rfl ?_
    obtain ⟨rfl, rfl⟩ := am_sp hM
    exact Ev.ret rfl
def L_X8_chance_133 (n : Nat) : Nat → Int32 → Int64 → Int64 → Int32 → AH → Option (Int64 × AH)
  | 0, _, _, _, _, _ => none
  | m + 1, x3, x5, x7, x9, h =>
    if 32 ≤ x9 then
      B_X8_chance_180 n x3 x5 x7 h
    else
      if (lg_cmp x7 1) ≤ 0 then
        B_X8_chance_180 n x3 x5 x7 h
      else
        if (lg_cmp (x5 - x5 / 2 * 2) 0) = 0 then
          L_X8_chance_133 n m x3 (x5 / 2) (x7 / 2) (x9 + 1) h
        else
          B_X8_chance_180 n x3 x5 x7 h
set_option maxRecDepth 10000 in
theorem E_L_X8_chance_133 (n : Nat) (vR : Int64) (hR : AH) : ∀ (m : Nat) (x3 : Int32) (x5 : Int64) (x7 : Int64) (x9 : Int32) (h : AH), L_X8_chance_133 n m x3 x5 x7 x9 h = some (vR, hR) → Ev none mr_X8_chance (133, [(3, .int x3), (5, .long x5), (7, .long x7), (9, .int x9)], [], h) (some (.long vR)) hR := by
  intro m
  induction m with
  | zero =>
    intro x3 x5 x7 x9 h hM
    exact (am_no hM).elim
  | succ m ih =>
    intro x3 x5 x7 x9 h hM
    rw [L_X8_chance_133] at hM
    refine Ev.steps (B := (137, [(3, .int x3), (5, .long x5), (7, .long x7), (9, .int x9)], [.int 32, .int x9], h)) 2 rfl ?_
    refine Ev.br (b := decide (32 ≤ x9)) rfl (fun c1 => ?_) (fun c1 => ?_)
    · have c1 := of_decide_eq_true c1
      rw [if_pos c1] at hM
      refine Ev.lv (lv := [(3, .int x3), (5, .long x5), (7, .long x7)]) ⟨rfl, rfl, rfl, trivial⟩ rfl rfl ?_
      exact E_B_X8_chance_180 n vR hR x3 x5 x7 h hM
    · have c1 := of_decide_eq_false c1
      rw [if_neg c1] at hM
      refine Ev.steps (B := (144, [(3, .int x3), (5, .long x5), (7, .long x7), (9, .int x9)], [.int (lg_cmp x7 1)], h)) 3 rfl ?_
      refine Ev.br (b := decide ((lg_cmp x7 1) ≤ 0)) rfl (fun c2 => ?_) (fun c2 => ?_)
      · have c2 := of_decide_eq_true c2
        rw [if_pos c2] at hM
        refine Ev.lv (lv := [(3, .int x3), (5, .long x5), (7, .long x7)]) ⟨rfl, rfl, rfl, trivial⟩ rfl rfl ?_
        exact E_B_X8_chance_180 n vR hR x3 x5 x7 h hM
      · have c2 := of_decide_eq_false c2
        rw [if_neg c2] at hM
        refine Ev.steps (B := (155, [(3, .int x3), (5, .long x5), (7, .long x7), (9, .int x9)], [.int (lg_cmp (x5 - x5 / 2 * 2) 0)], h)) 5 rfl ?_
        refine Ev.br (b := decide (¬ (lg_cmp (x5 - x5 / 2 * 2) 0) = 0)) rfl (fun c3 => ?_) (fun c3 => ?_)
        · have c3 := of_decide_eq_true c3
          rw [if_neg c3] at hM
          refine Ev.lv (lv := [(3, .int x3), (5, .long x5), (7, .long x7)]) ⟨rfl, rfl, rfl, trivial⟩ rfl rfl ?_
          exact E_B_X8_chance_180 n vR hR x3 x5 x7 h hM
        · have c3 := Decidable.of_not_not (of_decide_eq_false c3)
          rw [if_pos c3] at hM
          refine Ev.steps (B := (133, [(9, .int (x9 + 1)), (7, .long (x7 / 2)), (5, .long (x5 / 2)), (3, .int x3)], [], h)) 10 rfl ?_
          refine Ev.lv (lv := [(3, .int x3), (5, .long (x5 / 2)), (7, .long (x7 / 2)), (9, .int (x9 + 1))]) ⟨rfl, rfl, rfl, rfl, trivial⟩ rfl rfl ?_
          exact ih x3 (x5 / 2) (x7 / 2) (x9 + 1) h hM
def L_X8_chance_55 (n : Nat) : Nat → Int32 → Int32 → Int32 → Int32 → Int64 → Int32 → AH → Option (Int64 × AH)
  | 0, _, _, _, _, _, _, _ => none
  | m + 1, x1, x2, x3, x4, x5, x7, h =>
    if (1 <<< (x4 &&& 31)) ≤ x7 then
      am_o (M_X8_power n 16 x4) fun v1 =>
      L_X8_chance_133 n n x3 x5 v1 0 h
    else
      am_b (M_X7_outcome n x7 h) fun v3 h2 =>
      if (((M_X7_contentIn v3) >>> (x2 &&& 31)) &&& 1) = 1 then
        am_o (M_X8_power n x1 (x4 - (M_J13_bitCount x7))) fun v4 =>
        am_o (M_X8_power n (16 - x1) (M_J13_bitCount x7)) fun v5 =>
        L_X8_chance_55 n m x1 x2 x3 x4 (x5 + (v4 * v5)) (x7 + 1) h2
      else
        L_X8_chance_55 n m x1 x2 x3 x4 x5 (x7 + 1) h2
set_option maxRecDepth 10000 in
theorem E_L_X8_chance_55 (n : Nat) (vR : Int64) (hR : AH) : ∀ (m : Nat) (x1 : Int32) (x2 : Int32) (x3 : Int32) (x4 : Int32) (x5 : Int64) (x7 : Int32) (h : AH), L_X8_chance_55 n m x1 x2 x3 x4 x5 x7 h = some (vR, hR) → Ev none mr_X8_chance (55, [(0, .ref 0), (1, .int x1), (2, .int x2), (3, .int x3), (4, .int x4), (5, .long x5), (7, .int x7)], [], h) (some (.long vR)) hR := by
  intro m
  induction m with
  | zero =>
    intro x1 x2 x3 x4 x5 x7 h hM
    exact (am_no hM).elim
  | succ m ih =>
    intro x1 x2 x3 x4 x5 x7 h hM
    rw [L_X8_chance_55] at hM
    refine Ev.steps (B := (61, [(0, .ref 0), (1, .int x1), (2, .int x2), (3, .int x3), (4, .int x4), (5, .long x5), (7, .int x7)], [.int (1 <<< (x4 &&& 31)), .int x7], h)) 4 rfl ?_
    refine Ev.br (b := decide ((1 <<< (x4 &&& 31)) ≤ x7)) rfl (fun c1 => ?_) (fun c1 => ?_)
    · have c1 := of_decide_eq_true c1
      rw [if_pos c1] at hM
      refine Ev.steps (B := (125, [(0, .ref 0), (1, .int x1), (2, .int x2), (3, .int x3), (4, .int x4), (5, .long x5), (7, .int x7)], [.int x4, .int 16], h)) 2 rfl ?_
      obtain ⟨v1, e2, hM⟩ := am_oS hM
      refine Ev.call (q := (mr_X8_power, [.int 16, .int x4], [])) rfl (E_X8_power n 16 x4 h v1 e2) ?_
      refine Ev.steps (B := (133, [(9, .int 0), (7, .long v1), (0, .ref 0), (1, .int x1), (2, .int x2), (3, .int x3), (4, .int x4), (5, .long x5)], [], h)) 3 rfl ?_
      refine Ev.lv (lv := [(3, .int x3), (5, .long x5), (7, .long v1), (9, .int 0)]) ⟨rfl, rfl, rfl, rfl, trivial⟩ rfl rfl ?_
      exact E_L_X8_chance_133 n vR hR n x3 x5 v1 0 h hM
    · have c1 := of_decide_eq_false c1
      rw [if_neg c1] at hM
      refine Ev.steps (B := (70, [(0, .ref 0), (1, .int x1), (2, .int x2), (3, .int x3), (4, .int x4), (5, .long x5), (7, .int x7)], [.int x7, .ref 37], h)) 3 rfl ?_
      obtain ⟨v3, h2, e3, hM⟩ := am_bS hM
      refine Ev.call (q := (mr_X7_outcome, [.ref 37, .int x7], [])) rfl (E_X7_outcome_37 n x7 h v3 h2 e3) ?_
      refine Ev.call (q := (mr_X7_contentIn, [.long v3], [])) rfl (E_X7_contentIn v3 h2) ?_
      refine Ev.steps (B := (81, [(0, .ref 0), (1, .int x1), (2, .int x2), (3, .int x3), (4, .int x4), (5, .long x5), (7, .int x7)], [.int 1, .int (((M_X7_contentIn v3) >>> (x2 &&& 31)) &&& 1)], h2)) 5 rfl ?_
      refine Ev.br (b := decide (¬ (((M_X7_contentIn v3) >>> (x2 &&& 31)) &&& 1) = 1)) rfl (fun c4 => ?_) (fun c4 => ?_)
      · have c4 := of_decide_eq_true c4
        rw [if_neg c4] at hM
        refine Ev.steps (B := (55, [(7, .int (x7 + 1)), (0, .ref 0), (1, .int x1), (2, .int x2), (3, .int x3), (4, .int x4), (5, .long x5)], [], h2)) 2 rfl ?_
        refine Ev.lv (lv := [(0, .ref 0), (1, .int x1), (2, .int x2), (3, .int x3), (4, .int x4), (5, .long x5), (7, .int (x7 + 1))]) ⟨rfl, rfl, rfl, rfl, rfl, rfl, rfl, trivial⟩ rfl rfl ?_
        exact ih x1 x2 x3 x4 x5 (x7 + 1) h2 hM
      · have c4 := Decidable.of_not_not (of_decide_eq_false c4)
        rw [if_pos c4] at hM
        refine Ev.steps (B := (86, [(0, .ref 0), (1, .int x1), (2, .int x2), (3, .int x3), (4, .int x4), (5, .long x5), (7, .int x7)], [.int x7], h2)) 1 rfl ?_
        refine Ev.call (q := (mr_J13_bitCount, [.int x7], [])) rfl (E_J13_bitCount x7 h2) ?_
        refine Ev.steps (B := (99, [(8, .int (M_J13_bitCount x7)), (0, .ref 0), (1, .int x1), (2, .int x2), (3, .int x3), (4, .int x4), (5, .long x5), (7, .int x7)], [.int (x4 - (M_J13_bitCount x7)), .int x1, .long x5], h2)) 6 rfl ?_
        obtain ⟨v4, e5, hM⟩ := am_oS hM
        refine Ev.call (q := (mr_X8_power, [.int x1, .int (x4 - (M_J13_bitCount x7))], [.long x5])) rfl (E_X8_power n x1 (x4 - (M_J13_bitCount x7)) h2 v4 e5) ?_
        refine Ev.steps (B := (108, [(8, .int (M_J13_bitCount x7)), (0, .ref 0), (1, .int x1), (2, .int x2), (3, .int x3), (4, .int x4), (5, .long x5), (7, .int x7)], [.int (M_J13_bitCount x7), .int (16 - x1), .long v4, .long x5], h2)) 4 rfl ?_
        obtain ⟨v5, e6, hM⟩ := am_oS hM
        refine Ev.call (q := (mr_X8_power, [.int (16 - x1), .int (M_J13_bitCount x7)], [.long v4, .long x5])) rfl (E_X8_power n (16 - x1) (M_J13_bitCount x7) h2 v5 e6) ?_
        refine Ev.steps (B := (55, [(7, .int (x7 + 1)), (5, .long (x5 + (v4 * v5))), (8, .int (M_J13_bitCount x7)), (0, .ref 0), (1, .int x1), (2, .int x2), (3, .int x3), (4, .int x4)], [], h2)) 5 rfl ?_
        refine Ev.lv (lv := [(0, .ref 0), (1, .int x1), (2, .int x2), (3, .int x3), (4, .int x4), (5, .long (x5 + (v4 * v5))), (7, .int (x7 + 1))]) ⟨rfl, rfl, rfl, rfl, rfl, rfl, rfl, trivial⟩ rfl rfl ?_
        exact ih x1 x2 x3 x4 (x5 + (v4 * v5)) (x7 + 1) h2 hM
def M_X8_chance (n : Nat) (a1 : Int32) (a2 : Int32) (a3 : Int32) (h : AH) : Option (Int64 × AH) :=
  if (M_X8_within a1 16) = 0 then
    some ((-9223372036854775806), h)
  else
    if (M_X1_has 8 a2 h) = 0 then
      some ((-9223372036854775806), h)
    else
      if (M_X8_within a3 1) = 0 then
        some ((-9223372036854775806), h)
      else
        L_X8_chance_55 n n a1 a2 a3 (am_min (h.1 13 3) 8) 0 0 h
set_option maxRecDepth 10000 in
theorem E_X8_chance_0 (n : Nat) (a1 : Int32) (a2 : Int32) (a3 : Int32) (h : AH) (vR : Int64) (hR : AH) (hM : M_X8_chance n a1 a2 a3 h = some (vR, hR)) : Ev none mr_X8_chance (0, [(0, .ref 0), (1, .int a1), (2, .int a2), (3, .int a3)], [], h) (some (.long vR)) hR := by
  unfold M_X8_chance at hM
  refine Ev.steps (B := (3, [(0, .ref 0), (1, .int a1), (2, .int a2), (3, .int a3)], [.int 16, .int a1], h)) 2 rfl ?_
  refine Ev.call (q := (mr_X8_within, [.int a1, .int 16], [])) rfl (E_X8_within a1 16 h) ?_
  refine Ev.br (b := decide ((M_X8_within a1 16) = 0)) rfl (fun c1 => ?_) (fun c1 => ?_)
  · have c1 := of_decide_eq_true c1
    rw [if_pos c1] at hM
    refine Ev.steps (B := (34, [(0, .ref 0), (1, .int a1), (2, .int a2), (3, .int a3)], [.long (-9223372036854775806)], h)) 1 rfl ?_
    obtain ⟨rfl, rfl⟩ := am_sp hM
    exact Ev.ret rfl
  · have c1 := of_decide_eq_false c1
    rw [if_neg c1] at hM
    refine Ev.steps (B := (17, [(0, .ref 0), (1, .int a1), (2, .int a2), (3, .int a3)], [.int a2, .ref 8], h)) 4 rfl ?_
    refine Ev.call (q := (mr_X1_has, [.ref 8, .int a2], [])) rfl (E_X1_has_8 a2 h) ?_
    refine Ev.br (b := decide ((M_X1_has 8 a2 h) = 0)) rfl (fun c2 => ?_) (fun c2 => ?_)
    · have c2 := of_decide_eq_true c2
      rw [if_pos c2] at hM
      refine Ev.steps (B := (34, [(0, .ref 0), (1, .int a1), (2, .int a2), (3, .int a3)], [.long (-9223372036854775806)], h)) 1 rfl ?_
      obtain ⟨rfl, rfl⟩ := am_sp hM
      exact Ev.ret rfl
    · have c2 := of_decide_eq_false c2
      rw [if_neg c2] at hM
      refine Ev.steps (B := (25, [(0, .ref 0), (1, .int a1), (2, .int a2), (3, .int a3)], [.int 1, .int a3], h)) 2 rfl ?_
      refine Ev.call (q := (mr_X8_within, [.int a3, .int 1], [])) rfl (E_X8_within a3 1 h) ?_
      refine Ev.br (b := decide (¬ (M_X8_within a3 1) = 0)) rfl (fun c3 => ?_) (fun c3 => ?_)
      · have c3 := of_decide_eq_true c3
        rw [if_neg c3] at hM
        refine Ev.steps (B := (55, [(7, .int 0), (5, .long 0), (4, .int (am_min (h.1 13 3) 8)), (0, .ref 0), (1, .int a1), (2, .int a2), (3, .int a3)], [], h)) 10 rfl ?_
        refine Ev.lv (lv := [(0, .ref 0), (1, .int a1), (2, .int a2), (3, .int a3), (4, .int (am_min (h.1 13 3) 8)), (5, .long 0), (7, .int 0)]) ⟨rfl, rfl, rfl, rfl, rfl, rfl, rfl, trivial⟩ rfl rfl ?_
        exact E_L_X8_chance_55 n vR hR n a1 a2 a3 (am_min (h.1 13 3) 8) 0 0 h hM
      · have c3 := Decidable.of_not_not (of_decide_eq_false c3)
        rw [if_pos c3] at hM
        refine Ev.steps (B := (34, [(0, .ref 0), (1, .int a1), (2, .int a2), (3, .int a3)], [.long (-9223372036854775806)], h)) 1 rfl ?_
        obtain ⟨rfl, rfl⟩ := am_sp hM
        exact Ev.ret rfl
def M_X9_no (a1 : Int32) : Int64 :=
  ((-9223372036854775808) - (Int32.toInt64 a1))
set_option maxRecDepth 10000 in
theorem E_X9_no (a1 : Int32) (h : AH) : Ev none mr_X9_no (0, [(0, .int a1)], [], h) (some (.long (M_X9_no a1))) h := by
  unfold M_X9_no
  refine Ev.steps (B := (6, [(0, .int a1)], [.long ((-9223372036854775808) - (Int32.toInt64 a1))], h)) 4 rfl ?_
  exact Ev.ret rfl
def L_X9_lowest_6 (n : Nat) : Nat → Int64 → Int64 → Int32 → Int64 → Int64 → Option Int64
  | 0, _, _, _, _, _ => none
  | m + 1, x0, x2, x4, x5, x7 =>
    if (lg_cmp x7 0) = 0 then
      if x4 = 0 then
        if x5 = 0 then none else
          some (x0 / x5)
      else
        if x5 = 0 then none else
          some (x2 / x5)
    else
      if x7 = 0 then none else
        L_X9_lowest_6 n m x0 x2 x4 x7 (x5 - x5 / x7 * x7)
set_option maxRecDepth 10000 in
theorem E_L_X9_lowest_6 (n : Nat) (h : AH) (vR : Int64) : ∀ (m : Nat) (x0 : Int64) (x2 : Int64) (x4 : Int32) (x5 : Int64) (x7 : Int64), L_X9_lowest_6 n m x0 x2 x4 x5 x7 = some vR → Ev none mr_X9_lowest (6, [(0, .long x0), (2, .long x2), (4, .int x4), (5, .long x5), (7, .long x7)], [], h) (some (.long vR)) h := by
  intro m
  induction m with
  | zero =>
    intro x0 x2 x4 x5 x7 hM
    exact (am_no hM).elim
  | succ m ih =>
    intro x0 x2 x4 x5 x7 hM
    rw [L_X9_lowest_6] at hM
    refine Ev.steps (B := (10, [(0, .long x0), (2, .long x2), (4, .int x4), (5, .long x5), (7, .long x7)], [.int (lg_cmp x7 0)], h)) 3 rfl ?_
    refine Ev.br (b := decide ((lg_cmp x7 0) = 0)) rfl (fun c1 => ?_) (fun c1 => ?_)
    · have c1 := of_decide_eq_true c1
      rw [if_pos c1] at hM
      refine Ev.steps (B := (33, [(0, .long x0), (2, .long x2), (4, .int x4), (5, .long x5), (7, .long x7)], [.int x4], h)) 1 rfl ?_
      refine Ev.br (b := decide (¬ x4 = 0)) rfl (fun c2 => ?_) (fun c2 => ?_)
      · have c2 := of_decide_eq_true c2
        rw [if_neg c2] at hM
        refine Ev.steps (B := (46, [(0, .long x0), (2, .long x2), (4, .int x4), (5, .long x5), (7, .long x7)], [.long x5, .long x2], h)) 2 rfl ?_
        obtain ⟨g3, hM⟩ := am_nzS hM
        refine Ev.nz (B := (47, [(0, .long x0), (2, .long x2), (4, .int x4), (5, .long x5), (7, .long x7)], [.long (x2 / x5)], h)) g3 rfl ?_
        obtain rfl := am_s1 hM
        exact Ev.ret rfl
      · have c2 := Decidable.of_not_not (of_decide_eq_false c2)
        rw [if_pos c2] at hM
        refine Ev.steps (B := (39, [(0, .long x0), (2, .long x2), (4, .int x4), (5, .long x5), (7, .long x7)], [.long x5, .long x0], h)) 2 rfl ?_
        obtain ⟨g4, hM⟩ := am_nzS hM
        refine Ev.nz (B := (40, [(0, .long x0), (2, .long x2), (4, .int x4), (5, .long x5), (7, .long x7)], [.long (x0 / x5)], h)) g4 rfl ?_
        refine Ev.steps (B := (47, [(0, .long x0), (2, .long x2), (4, .int x4), (5, .long x5), (7, .long x7)], [.long (x0 / x5)], h)) 1 rfl ?_
        obtain rfl := am_s1 hM
        exact Ev.ret rfl
    · have c1 := of_decide_eq_false c1
      rw [if_neg c1] at hM
      refine Ev.steps (B := (17, [(0, .long x0), (2, .long x2), (4, .int x4), (5, .long x5), (7, .long x7)], [.long x7, .long x5], h)) 2 rfl ?_
      obtain ⟨g5, hM⟩ := am_nzS hM
      refine Ev.nz (B := (18, [(0, .long x0), (2, .long x2), (4, .int x4), (5, .long x5), (7, .long x7)], [.long (x5 - x5 / x7 * x7)], h)) g5 rfl ?_
      refine Ev.steps (B := (6, [(7, .long (x5 - x5 / x7 * x7)), (5, .long x7), (9, .long (x5 - x5 / x7 * x7)), (0, .long x0), (2, .long x2), (4, .int x4)], [], h)) 6 rfl ?_
      refine Ev.lv (lv := [(0, .long x0), (2, .long x2), (4, .int x4), (5, .long x7), (7, .long (x5 - x5 / x7 * x7))]) ⟨rfl, rfl, rfl, rfl, rfl, trivial⟩ rfl rfl ?_
      exact ih x0 x2 x4 x7 (x5 - x5 / x7 * x7) hM
def M_X9_lowest (n : Nat) (a1 : Int64) (a2 : Int64) (a3 : Int32) : Option Int64 :=
  L_X9_lowest_6 n n a1 a2 a3 a1 a2
set_option maxRecDepth 10000 in
theorem E_X9_lowest (n : Nat) (a1 : Int64) (a2 : Int64) (a3 : Int32) (h : AH) (vR : Int64) (hM : M_X9_lowest n a1 a2 a3 = some vR) : Ev none mr_X9_lowest (0, [(0, .long a1), (2, .long a2), (4, .int a3)], [], h) (some (.long vR)) h := by
  unfold M_X9_lowest at hM
  refine Ev.steps (B := (6, [(7, .long a2), (5, .long a1), (0, .long a1), (2, .long a2), (4, .int a3)], [], h)) 4 rfl ?_
  refine Ev.lv (lv := [(0, .long a1), (2, .long a2), (4, .int a3), (5, .long a1), (7, .long a2)]) ⟨rfl, rfl, rfl, rfl, rfl, trivial⟩ rfl rfl ?_
  exact E_L_X9_lowest_6 n h vR n a1 a2 a3 a1 a2 hM
def B_X9_chanceOf_102 (n : Nat) (k10 : Int32 → Int32 → Int32 → Int64 → Int32 → AH → Option (Int64 × AH)) (x1 : Int32) (x2 : Int32) (x3 : Int32) (x6 : Int32) (y0 : Int64) (y1 : Int64) (h : AH) : Option (Int64 × AH) :=
  k10 x1 x2 x3 (y1 + y0) (x6 + 1) h
set_option maxRecDepth 10000 in
theorem E_B_X9_chanceOf_102 (n : Nat) (k10 : Int32 → Int32 → Int32 → Int64 → Int32 → AH → Option (Int64 × AH)) (vR : Int64) (hR : AH) (hk10 : ∀ (x1 : Int32) (x2 : Int32) (x3 : Int32) (x4 : Int64) (x6 : Int32) (h0 : AH), k10 x1 x2 x3 x4 x6 h0 = some (vR, hR) → Ev none mr_X9_chanceOf (10, [(0, .ref 75), (1, .int x1), (2, .int x2), (3, .int x3), (4, .long x4), (6, .int x6)], [], h0) (some (.long vR)) hR) (x1 : Int32) (x2 : Int32) (x3 : Int32) (x6 : Int32) (y0 : Int64) (y1 : Int64) (h : AH) (hM : B_X9_chanceOf_102 n k10 x1 x2 x3 x6 y0 y1 h = some (vR, hR)) : Ev none mr_X9_chanceOf (102, [(0, .ref 75), (1, .int x1), (2, .int x2), (3, .int x3), (6, .int x6)], [.long y0, .long y1], h) (some (.long vR)) hR := by
  unfold B_X9_chanceOf_102 at hM
  refine Ev.steps (B := (10, [(6, .int (x6 + 1)), (4, .long (y1 + y0)), (0, .ref 75), (1, .int x1), (2, .int x2), (3, .int x3)], [], h)) 4 rfl ?_
  refine Ev.lv (lv := [(0, .ref 75), (1, .int x1), (2, .int x2), (3, .int x3), (4, .long (y1 + y0)), (6, .int (x6 + 1))]) ⟨rfl, rfl, rfl, rfl, rfl, rfl, trivial⟩ rfl rfl ?_
  exact hk10 x1 x2 x3 (y1 + y0) (x6 + 1) h hM
def B_X9_chanceOf_58 (n : Nat) (k10 : Int32 → Int32 → Int32 → Int64 → Int32 → AH → Option (Int64 × AH)) (k27 : Int32 → Int32 → Int32 → Int64 → Int32 → Int64 → Int32 → AH → Option (Int64 × AH)) (x1 : Int32) (x2 : Int32) (x3 : Int32) (x4 : Int64) (x6 : Int32) (x9 : Int32) (y0 : Int64) (y1 : Int64) (h : AH) : Option (Int64 × AH) :=
  k27 x1 x2 x3 x4 x6 (y1 * y0) (x9 + 1) h
set_option maxRecDepth 10000 in
theorem E_B_X9_chanceOf_58 (n : Nat) (k10 : Int32 → Int32 → Int32 → Int64 → Int32 → AH → Option (Int64 × AH)) (k27 : Int32 → Int32 → Int32 → Int64 → Int32 → Int64 → Int32 → AH → Option (Int64 × AH)) (vR : Int64) (hR : AH) (hk10 : ∀ (x1 : Int32) (x2 : Int32) (x3 : Int32) (x4 : Int64) (x6 : Int32) (h0 : AH), k10 x1 x2 x3 x4 x6 h0 = some (vR, hR) → Ev none mr_X9_chanceOf (10, [(0, .ref 75), (1, .int x1), (2, .int x2), (3, .int x3), (4, .long x4), (6, .int x6)], [], h0) (some (.long vR)) hR) (hk27 : ∀ (x1 : Int32) (x2 : Int32) (x3 : Int32) (x4 : Int64) (x6 : Int32) (x7 : Int64) (x9 : Int32) (h0 : AH), k27 x1 x2 x3 x4 x6 x7 x9 h0 = some (vR, hR) → Ev none mr_X9_chanceOf (27, [(0, .ref 75), (1, .int x1), (2, .int x2), (3, .int x3), (4, .long x4), (6, .int x6), (7, .long x7), (9, .int x9)], [], h0) (some (.long vR)) hR) (x1 : Int32) (x2 : Int32) (x3 : Int32) (x4 : Int64) (x6 : Int32) (x9 : Int32) (y0 : Int64) (y1 : Int64) (h : AH) (hM : B_X9_chanceOf_58 n k10 k27 x1 x2 x3 x4 x6 x9 y0 y1 h = some (vR, hR)) : Ev none mr_X9_chanceOf (58, [(0, .ref 75), (1, .int x1), (2, .int x2), (3, .int x3), (4, .long x4), (6, .int x6), (9, .int x9)], [.long y0, .long y1], h) (some (.long vR)) hR := by
  unfold B_X9_chanceOf_58 at hM
  refine Ev.steps (B := (27, [(9, .int (x9 + 1)), (7, .long (y1 * y0)), (0, .ref 75), (1, .int x1), (2, .int x2), (3, .int x3), (4, .long x4), (6, .int x6)], [], h)) 4 rfl ?_
  refine Ev.lv (lv := [(0, .ref 75), (1, .int x1), (2, .int x2), (3, .int x3), (4, .long x4), (6, .int x6), (7, .long (y1 * y0)), (9, .int (x9 + 1))]) ⟨rfl, rfl, rfl, rfl, rfl, rfl, rfl, rfl, trivial⟩ rfl rfl ?_
  exact hk27 x1 x2 x3 x4 x6 (y1 * y0) (x9 + 1) h hM
def L_X9_chanceOf_27 (n : Nat) (k10 : Int32 → Int32 → Int32 → Int64 → Int32 → AH → Option (Int64 × AH)) : Nat → Int32 → Int32 → Int32 → Int64 → Int32 → Int64 → Int32 → AH → Option (Int64 × AH)
  | 0, _, _, _, _, _, _, _, _ => none
  | m + 1, x1, x2, x3, x4, x6, x7, x9, h =>
    if (h.1 75 12) ≤ x9 then
      if (lg_cmp x7 0) ≤ 0 then
        k10 x1 x2 x3 x4 (x6 + 1) h
      else
        am_v (M_X9_runs n (am_sf h 75 21 x6)) fun h1 =>
        bif (am_in x2 8) then
          if ((h1.2.1 91) (Int32.toNatClampNeg x2)) = 3 then
            B_X9_chanceOf_102 n k10 x1 x2 x3 x6 x7 x4 h1
          else
            B_X9_chanceOf_102 n k10 x1 x2 x3 x6 0 x4 h1
        else none
    else
      if (M_X9_isIn x6 x9) = 0 then
        B_X9_chanceOf_58 n k10 (L_X9_chanceOf_27 n k10 m) x1 x2 x3 x4 x6 x9 (Int32.toInt64 x1) x7 h
      else
        B_X9_chanceOf_58 n k10 (L_X9_chanceOf_27 n k10 m) x1 x2 x3 x4 x6 x9 (Int32.toInt64 (16 - x1)) x7 h
set_option maxRecDepth 10000 in
theorem E_L_X9_chanceOf_27 (n : Nat) (k10 : Int32 → Int32 → Int32 → Int64 → Int32 → AH → Option (Int64 × AH)) (vR : Int64) (hR : AH) (hk10 : ∀ (x1 : Int32) (x2 : Int32) (x3 : Int32) (x4 : Int64) (x6 : Int32) (h0 : AH), k10 x1 x2 x3 x4 x6 h0 = some (vR, hR) → Ev none mr_X9_chanceOf (10, [(0, .ref 75), (1, .int x1), (2, .int x2), (3, .int x3), (4, .long x4), (6, .int x6)], [], h0) (some (.long vR)) hR) : ∀ (m : Nat) (x1 : Int32) (x2 : Int32) (x3 : Int32) (x4 : Int64) (x6 : Int32) (x7 : Int64) (x9 : Int32) (h : AH), L_X9_chanceOf_27 n k10 m x1 x2 x3 x4 x6 x7 x9 h = some (vR, hR) → Ev none mr_X9_chanceOf (27, [(0, .ref 75), (1, .int x1), (2, .int x2), (3, .int x3), (4, .long x4), (6, .int x6), (7, .long x7), (9, .int x9)], [], h) (some (.long vR)) hR := by
  intro m
  induction m with
  | zero =>
    intro x1 x2 x3 x4 x6 x7 x9 h hM
    exact (am_no hM).elim
  | succ m ih =>
    intro x1 x2 x3 x4 x6 x7 x9 h hM
    rw [L_X9_chanceOf_27] at hM
    refine Ev.steps (B := (33, [(0, .ref 75), (1, .int x1), (2, .int x2), (3, .int x3), (4, .long x4), (6, .int x6), (7, .long x7), (9, .int x9)], [.int (h.1 75 12), .int x9], h)) 3 rfl ?_
    refine Ev.br (b := decide ((h.1 75 12) ≤ x9)) rfl (fun c1 => ?_) (fun c1 => ?_)
    · have c1 := of_decide_eq_true c1
      rw [if_pos c1] at hM
      refine Ev.steps (B := (71, [(0, .ref 75), (1, .int x1), (2, .int x2), (3, .int x3), (4, .long x4), (6, .int x6), (7, .long x7), (9, .int x9)], [.int (lg_cmp x7 0)], h)) 3 rfl ?_
      refine Ev.br (b := decide ((lg_cmp x7 0) ≤ 0)) rfl (fun c2 => ?_) (fun c2 => ?_)
      · have c2 := of_decide_eq_true c2
        rw [if_pos c2] at hM
        refine Ev.steps (B := (10, [(6, .int (x6 + 1)), (0, .ref 75), (1, .int x1), (2, .int x2), (3, .int x3), (4, .long x4), (7, .long x7), (9, .int x9)], [], h)) 2 rfl ?_
        refine Ev.lv (lv := [(0, .ref 75), (1, .int x1), (2, .int x2), (3, .int x3), (4, .long x4), (6, .int (x6 + 1))]) ⟨rfl, rfl, rfl, rfl, rfl, rfl, trivial⟩ rfl rfl ?_
        exact hk10 x1 x2 x3 x4 (x6 + 1) h hM
      · have c2 := of_decide_eq_false c2
        rw [if_neg c2] at hM
        refine Ev.steps (B := (81, [(0, .ref 75), (1, .int x1), (2, .int x2), (3, .int x3), (4, .long x4), (6, .int x6), (7, .long x7), (9, .int x9)], [.ref 75], (am_sf h 75 21 x6))) 4 rfl ?_
        obtain ⟨h1, e3, hM⟩ := am_vS hM
        refine Ev.call (q := (mr_X9_runs, [.ref 75], [])) rfl (E_X9_runs_75 n (am_sf h 75 21 x6) h1 e3) ?_
        refine Ev.steps (B := (91, [(0, .ref 75), (1, .int x1), (2, .int x2), (3, .int x3), (4, .long x4), (6, .int x6), (7, .long x7), (9, .int x9)], [.int x2, .ref 91, .long x4], h1)) 4 rfl ?_
        obtain ⟨g4, hM⟩ := am_gS hM
        refine Ev.g (B := (92, [(0, .ref 75), (1, .int x1), (2, .int x2), (3, .int x3), (4, .long x4), (6, .int x6), (7, .long x7), (9, .int x9)], [.int ((h1.2.1 91) (Int32.toNatClampNeg x2)), .long x4], h1)) g4 rfl ?_
        refine Ev.steps (B := (93, [(0, .ref 75), (1, .int x1), (2, .int x2), (3, .int x3), (4, .long x4), (6, .int x6), (7, .long x7), (9, .int x9)], [.int 3, .int ((h1.2.1 91) (Int32.toNatClampNeg x2)), .long x4], h1)) 1 rfl ?_
        refine Ev.br (b := decide (¬ ((h1.2.1 91) (Int32.toNatClampNeg x2)) = 3)) rfl (fun c5 => ?_) (fun c5 => ?_)
        · have c5 := of_decide_eq_true c5
          rw [if_neg c5] at hM
          refine Ev.steps (B := (102, [(0, .ref 75), (1, .int x1), (2, .int x2), (3, .int x3), (4, .long x4), (6, .int x6), (7, .long x7), (9, .int x9)], [.long 0, .long x4], h1)) 1 rfl ?_
          refine Ev.lv (lv := [(0, .ref 75), (1, .int x1), (2, .int x2), (3, .int x3), (6, .int x6)]) ⟨rfl, rfl, rfl, rfl, rfl, trivial⟩ rfl rfl ?_
          exact E_B_X9_chanceOf_102 n k10 vR hR hk10 x1 x2 x3 x6 0 x4 h1 hM
        · have c5 := Decidable.of_not_not (of_decide_eq_false c5)
          rw [if_pos c5] at hM
          refine Ev.steps (B := (102, [(0, .ref 75), (1, .int x1), (2, .int x2), (3, .int x3), (4, .long x4), (6, .int x6), (7, .long x7), (9, .int x9)], [.long x7, .long x4], h1)) 2 rfl ?_
          refine Ev.lv (lv := [(0, .ref 75), (1, .int x1), (2, .int x2), (3, .int x3), (6, .int x6)]) ⟨rfl, rfl, rfl, rfl, rfl, trivial⟩ rfl rfl ?_
          exact E_B_X9_chanceOf_102 n k10 vR hR hk10 x1 x2 x3 x6 x7 x4 h1 hM
    · have c1 := of_decide_eq_false c1
      rw [if_neg c1] at hM
      refine Ev.steps (B := (42, [(0, .ref 75), (1, .int x1), (2, .int x2), (3, .int x3), (4, .long x4), (6, .int x6), (7, .long x7), (9, .int x9)], [.int x9, .int x6, .long x7], h)) 3 rfl ?_
      refine Ev.call (q := (mr_X9_isIn, [.int x6, .int x9], [.long x7])) rfl (E_X9_isIn x6 x9 h) ?_
      refine Ev.br (b := decide ((M_X9_isIn x6 x9) = 0)) rfl (fun c6 => ?_) (fun c6 => ?_)
      · have c6 := of_decide_eq_true c6
        rw [if_pos c6] at hM
        refine Ev.steps (B := (58, [(0, .ref 75), (1, .int x1), (2, .int x2), (3, .int x3), (4, .long x4), (6, .int x6), (7, .long x7), (9, .int x9)], [.long (Int32.toInt64 x1), .long x7], h)) 2 rfl ?_
        refine Ev.lv (lv := [(0, .ref 75), (1, .int x1), (2, .int x2), (3, .int x3), (4, .long x4), (6, .int x6), (9, .int x9)]) ⟨rfl, rfl, rfl, rfl, rfl, rfl, rfl, trivial⟩ rfl rfl ?_
        exact E_B_X9_chanceOf_58 n k10 (L_X9_chanceOf_27 n k10 m) vR hR hk10 ih x1 x2 x3 x4 x6 x9 (Int32.toInt64 x1) x7 h hM
      · have c6 := of_decide_eq_false c6
        rw [if_neg c6] at hM
        refine Ev.steps (B := (58, [(0, .ref 75), (1, .int x1), (2, .int x2), (3, .int x3), (4, .long x4), (6, .int x6), (7, .long x7), (9, .int x9)], [.long (Int32.toInt64 (16 - x1)), .long x7], h)) 5 rfl ?_
        refine Ev.lv (lv := [(0, .ref 75), (1, .int x1), (2, .int x2), (3, .int x3), (4, .long x4), (6, .int x6), (9, .int x9)]) ⟨rfl, rfl, rfl, rfl, rfl, rfl, rfl, trivial⟩ rfl rfl ?_
        exact E_B_X9_chanceOf_58 n k10 (L_X9_chanceOf_27 n k10 m) vR hR hk10 ih x1 x2 x3 x4 x6 x9 (Int32.toInt64 (16 - x1)) x7 h hM
def L_X9_chanceOf_10 (n : Nat) : Nat → Int32 → Int32 → Int32 → Int64 → Int32 → AH → Option (Int64 × AH)
  | 0, _, _, _, _, _, _ => none
  | m + 1, x1, x2, x3, x4, x6, h =>
    if (1 <<< ((h.1 75 12) &&& 31)) ≤ x6 then
      am_o (M_X9_lowest n x4 (1 <<< (Int32.toInt64 (4 * (h.1 75 12)) &&& 63)) x3) fun v1 =>
      some (v1, h)
    else
      L_X9_chanceOf_27 n (L_X9_chanceOf_10 n m) n x1 x2 x3 x4 x6 1 0 h
set_option maxRecDepth 10000 in
theorem E_L_X9_chanceOf_10 (n : Nat) (vR : Int64) (hR : AH) : ∀ (m : Nat) (x1 : Int32) (x2 : Int32) (x3 : Int32) (x4 : Int64) (x6 : Int32) (h : AH), L_X9_chanceOf_10 n m x1 x2 x3 x4 x6 h = some (vR, hR) → Ev none mr_X9_chanceOf (10, [(0, .ref 75), (1, .int x1), (2, .int x2), (3, .int x3), (4, .long x4), (6, .int x6)], [], h) (some (.long vR)) hR := by
  intro m
  induction m with
  | zero =>
    intro x1 x2 x3 x4 x6 h hM
    exact (am_no hM).elim
  | succ m ih =>
    intro x1 x2 x3 x4 x6 h hM
    rw [L_X9_chanceOf_10] at hM
    refine Ev.steps (B := (18, [(0, .ref 75), (1, .int x1), (2, .int x2), (3, .int x3), (4, .long x4), (6, .int x6)], [.int (1 <<< ((h.1 75 12) &&& 31)), .int x6], h)) 5 rfl ?_
    refine Ev.br (b := decide ((1 <<< ((h.1 75 12) &&& 31)) ≤ x6)) rfl (fun c1 => ?_) (fun c1 => ?_)
    · have c1 := of_decide_eq_true c1
      rw [if_pos c1] at hM
      refine Ev.steps (B := (122, [(0, .ref 75), (1, .int x1), (2, .int x2), (3, .int x3), (4, .long x4), (6, .int x6)], [.int x3, .long (1 <<< (Int32.toInt64 (4 * (h.1 75 12)) &&& 63)), .long x4], h)) 8 rfl ?_
      obtain ⟨v1, e2, hM⟩ := am_oS hM
      refine Ev.call (q := (mr_X9_lowest, [.long x4, .long (1 <<< (Int32.toInt64 (4 * (h.1 75 12)) &&& 63)), .int x3], [])) rfl (E_X9_lowest n x4 (1 <<< (Int32.toInt64 (4 * (h.1 75 12)) &&& 63)) x3 h v1 e2) ?_
      obtain ⟨rfl, rfl⟩ := am_sp hM
      exact Ev.ret rfl
    · have c1 := of_decide_eq_false c1
      rw [if_neg c1] at hM
      refine Ev.steps (B := (27, [(9, .int 0), (7, .long 1), (0, .ref 75), (1, .int x1), (2, .int x2), (3, .int x3), (4, .long x4), (6, .int x6)], [], h)) 4 rfl ?_
      refine Ev.lv (lv := [(0, .ref 75), (1, .int x1), (2, .int x2), (3, .int x3), (4, .long x4), (6, .int x6), (7, .long 1), (9, .int 0)]) ⟨rfl, rfl, rfl, rfl, rfl, rfl, rfl, rfl, trivial⟩ rfl rfl ?_
      exact E_L_X9_chanceOf_27 n (L_X9_chanceOf_10 n m) vR hR ih n x1 x2 x3 x4 x6 1 0 h hM
def M_X9_chanceOf (n : Nat) (a1 : Int32) (a2 : Int32) (a3 : Int32) (h : AH) : Option (Int64 × AH) :=
  am_v (M_X9_asTold n h) fun h1 =>
  L_X9_chanceOf_10 n n a1 a2 a3 0 0 h1
set_option maxRecDepth 10000 in
theorem E_X9_chanceOf_75 (n : Nat) (a1 : Int32) (a2 : Int32) (a3 : Int32) (h : AH) (vR : Int64) (hR : AH) (hM : M_X9_chanceOf n a1 a2 a3 h = some (vR, hR)) : Ev none mr_X9_chanceOf (0, [(0, .ref 75), (1, .int a1), (2, .int a2), (3, .int a3)], [], h) (some (.long vR)) hR := by
  unfold M_X9_chanceOf at hM
  refine Ev.steps (B := (1, [(0, .ref 75), (1, .int a1), (2, .int a2), (3, .int a3)], [.ref 75], h)) 1 rfl ?_
  obtain ⟨h1, e1, hM⟩ := am_vS hM
  refine Ev.call (q := (mr_X9_asTold, [.ref 75], [])) rfl (E_X9_asTold_75 n h h1 e1) ?_
  refine Ev.steps (B := (10, [(6, .int 0), (4, .long 0), (0, .ref 75), (1, .int a1), (2, .int a2), (3, .int a3)], [], h1)) 4 rfl ?_
  refine Ev.lv (lv := [(0, .ref 75), (1, .int a1), (2, .int a2), (3, .int a3), (4, .long 0), (6, .int 0)]) ⟨rfl, rfl, rfl, rfl, rfl, rfl, trivial⟩ rfl rfl ?_
  exact E_L_X9_chanceOf_10 n vR hR n a1 a2 a3 0 0 h1 hM
