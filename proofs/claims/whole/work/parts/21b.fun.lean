def M_X9_readsPart (a1 : Int32) (a2 : Int32) (a3 : Int32) (h : AH) : Option (Int32 × AH) :=
  am_o (M_X9_byteAt a1 a3 h) fun v1 =>
  am_o (M_X9_byteAt a1 (a3 + 1) h) fun v2 =>
  if a1 = 0 then
    if v2 = 107 then
      B_X9_readsPart_85 a1 a2 a3 (v1 - 97) 0 h
    else
      if v2 = 98 then
        B_X9_readsPart_85 a1 a2 a3 (v1 - 97) 1 h
      else
        if v2 = 99 then
          B_X9_readsPart_85 a1 a2 a3 (v1 - 97) 2 h
        else
          B_X9_readsPart_85 a1 a2 a3 (v1 - 97) (-1) h
  else
    if v2 = 119 then
      B_X9_readsPart_85 a1 a2 a3 (v1 - 97) 0 h
    else
      if v2 = 100 then
        B_X9_readsPart_85 a1 a2 a3 (v1 - 97) 1 h
      else
        B_X9_readsPart_85 a1 a2 a3 (v1 - 97) (-1) h
set_option maxRecDepth 10000 in
theorem E_X9_readsPart_75 (a1 : Int32) (a2 : Int32) (a3 : Int32) (h : AH) (vR : Int32) (hR : AH) (hM : M_X9_readsPart a1 a2 a3 h = some (vR, hR)) : Ev none mr_X9_readsPart (0, [(0, .ref 75), (1, .int a1), (2, .int a2), (3, .int a3)], [], h) (some (.int vR)) hR := by
  unfold M_X9_readsPart at hM
  refine Ev.steps (B := (3, [(0, .ref 75), (1, .int a1), (2, .int a2), (3, .int a3)], [.int a3, .int a1, .ref 75], h)) 3 rfl ?_
  obtain ⟨v1, e1, hM⟩ := am_oS hM
  refine Ev.call (q := (mr_X9_byteAt, [.ref 75, .int a1, .int a3], [])) rfl (E_X9_byteAt_75 a1 a3 h v1 e1) ?_
  refine Ev.steps (B := (16, [(4, .int (v1 - 97)), (0, .ref 75), (1, .int a1), (2, .int a2), (3, .int a3)], [.int (a3 + 1), .int a1, .ref 75], h)) 8 rfl ?_
  obtain ⟨v2, e2, hM⟩ := am_oS hM
  refine Ev.call (q := (mr_X9_byteAt, [.ref 75, .int a1, .int (a3 + 1)], [])) rfl (E_X9_byteAt_75 a1 (a3 + 1) h v2 e2) ?_
  refine Ev.steps (B := (22, [(5, .int v2), (4, .int (v1 - 97)), (0, .ref 75), (1, .int a1), (2, .int a2), (3, .int a3)], [.int a1], h)) 2 rfl ?_
  refine Ev.br (b := decide (¬ a1 = 0)) rfl (fun c3 => ?_) (fun c3 => ?_)
  · have c3 := of_decide_eq_true c3
    rw [if_neg c3] at hM
    refine Ev.steps (B := (66, [(5, .int v2), (4, .int (v1 - 97)), (0, .ref 75), (1, .int a1), (2, .int a2), (3, .int a3)], [.int 119, .int v2], h)) 2 rfl ?_
    refine Ev.br (b := decide (¬ v2 = 119)) rfl (fun c4 => ?_) (fun c4 => ?_)
    · have c4 := of_decide_eq_true c4
      rw [if_neg c4] at hM
      refine Ev.steps (B := (77, [(5, .int v2), (4, .int (v1 - 97)), (0, .ref 75), (1, .int a1), (2, .int a2), (3, .int a3)], [.int 100, .int v2], h)) 2 rfl ?_
      refine Ev.br (b := decide (¬ v2 = 100)) rfl (fun c5 => ?_) (fun c5 => ?_)
      · have c5 := of_decide_eq_true c5
        rw [if_neg c5] at hM
        refine Ev.steps (B := (85, [(5, .int v2), (4, .int (v1 - 97)), (0, .ref 75), (1, .int a1), (2, .int a2), (3, .int a3)], [.int (-1)], h)) 1 rfl ?_
        refine Ev.lv (lv := [(0, .ref 75), (1, .int a1), (2, .int a2), (3, .int a3), (4, .int (v1 - 97))]) ⟨rfl, rfl, rfl, rfl, rfl, trivial⟩ rfl rfl ?_
        exact E_B_X9_readsPart_85 vR hR a1 a2 a3 (v1 - 97) (-1) h hM
      · have c5 := Decidable.of_not_not (of_decide_eq_false c5)
        rw [if_pos c5] at hM
        refine Ev.steps (B := (85, [(5, .int v2), (4, .int (v1 - 97)), (0, .ref 75), (1, .int a1), (2, .int a2), (3, .int a3)], [.int 1], h)) 2 rfl ?_
        refine Ev.lv (lv := [(0, .ref 75), (1, .int a1), (2, .int a2), (3, .int a3), (4, .int (v1 - 97))]) ⟨rfl, rfl, rfl, rfl, rfl, trivial⟩ rfl rfl ?_
        exact E_B_X9_readsPart_85 vR hR a1 a2 a3 (v1 - 97) 1 h hM
    · have c4 := Decidable.of_not_not (of_decide_eq_false c4)
      rw [if_pos c4] at hM
      refine Ev.steps (B := (85, [(5, .int v2), (4, .int (v1 - 97)), (0, .ref 75), (1, .int a1), (2, .int a2), (3, .int a3)], [.int 0], h)) 2 rfl ?_
      refine Ev.lv (lv := [(0, .ref 75), (1, .int a1), (2, .int a2), (3, .int a3), (4, .int (v1 - 97))]) ⟨rfl, rfl, rfl, rfl, rfl, trivial⟩ rfl rfl ?_
      exact E_B_X9_readsPart_85 vR hR a1 a2 a3 (v1 - 97) 0 h hM
  · have c3 := Decidable.of_not_not (of_decide_eq_false c3)
    rw [if_pos c3] at hM
    refine Ev.steps (B := (29, [(5, .int v2), (4, .int (v1 - 97)), (0, .ref 75), (1, .int a1), (2, .int a2), (3, .int a3)], [.int 107, .int v2], h)) 2 rfl ?_
    refine Ev.br (b := decide (¬ v2 = 107)) rfl (fun c6 => ?_) (fun c6 => ?_)
    · have c6 := of_decide_eq_true c6
      rw [if_neg c6] at hM
      refine Ev.steps (B := (40, [(5, .int v2), (4, .int (v1 - 97)), (0, .ref 75), (1, .int a1), (2, .int a2), (3, .int a3)], [.int 98, .int v2], h)) 2 rfl ?_
      refine Ev.br (b := decide (¬ v2 = 98)) rfl (fun c7 => ?_) (fun c7 => ?_)
      · have c7 := of_decide_eq_true c7
        rw [if_neg c7] at hM
        refine Ev.steps (B := (51, [(5, .int v2), (4, .int (v1 - 97)), (0, .ref 75), (1, .int a1), (2, .int a2), (3, .int a3)], [.int 99, .int v2], h)) 2 rfl ?_
        refine Ev.br (b := decide (¬ v2 = 99)) rfl (fun c8 => ?_) (fun c8 => ?_)
        · have c8 := of_decide_eq_true c8
          rw [if_neg c8] at hM
          refine Ev.steps (B := (85, [(5, .int v2), (4, .int (v1 - 97)), (0, .ref 75), (1, .int a1), (2, .int a2), (3, .int a3)], [.int (-1)], h)) 2 rfl ?_
          refine Ev.lv (lv := [(0, .ref 75), (1, .int a1), (2, .int a2), (3, .int a3), (4, .int (v1 - 97))]) ⟨rfl, rfl, rfl, rfl, rfl, trivial⟩ rfl rfl ?_
          exact E_B_X9_readsPart_85 vR hR a1 a2 a3 (v1 - 97) (-1) h hM
        · have c8 := Decidable.of_not_not (of_decide_eq_false c8)
          rw [if_pos c8] at hM
          refine Ev.steps (B := (85, [(5, .int v2), (4, .int (v1 - 97)), (0, .ref 75), (1, .int a1), (2, .int a2), (3, .int a3)], [.int 2], h)) 2 rfl ?_
          refine Ev.lv (lv := [(0, .ref 75), (1, .int a1), (2, .int a2), (3, .int a3), (4, .int (v1 - 97))]) ⟨rfl, rfl, rfl, rfl, rfl, trivial⟩ rfl rfl ?_
          exact E_B_X9_readsPart_85 vR hR a1 a2 a3 (v1 - 97) 2 h hM
      · have c7 := Decidable.of_not_not (of_decide_eq_false c7)
        rw [if_pos c7] at hM
        refine Ev.steps (B := (85, [(5, .int v2), (4, .int (v1 - 97)), (0, .ref 75), (1, .int a1), (2, .int a2), (3, .int a3)], [.int 1], h)) 2 rfl ?_
        refine Ev.lv (lv := [(0, .ref 75), (1, .int a1), (2, .int a2), (3, .int a3), (4, .int (v1 - 97))]) ⟨rfl, rfl, rfl, rfl, rfl, trivial⟩ rfl rfl ?_
        exact E_B_X9_readsPart_85 vR hR a1 a2 a3 (v1 - 97) 1 h hM
    · have c6 := Decidable.of_not_not (of_decide_eq_false c6)
      rw [if_pos c6] at hM
      refine Ev.steps (B := (85, [(5, .int v2), (4, .int (v1 - 97)), (0, .ref 75), (1, .int a1), (2, .int a2), (3, .int a3)], [.int 0], h)) 2 rfl ?_
      refine Ev.lv (lv := [(0, .ref 75), (1, .int a1), (2, .int a2), (3, .int a3), (4, .int (v1 - 97))]) ⟨rfl, rfl, rfl, rfl, rfl, trivial⟩ rfl rfl ?_
      exact E_B_X9_readsPart_85 vR hR a1 a2 a3 (v1 - 97) 0 h hM
def B_X9_readsText_100 (n : Nat) (x1 : Int32) (x2 : Int32) (y0 : Int32) (h : AH) : Option (Int32 × AH) :=
  if x1 = 1 then
    some ((-1), (am_sf (am_sf h 75 2 y0) 75 6 x2))
  else
    some ((-1), (am_sf (am_sf h 75 2 y0) 75 6 (h.1 75 6)))
set_option maxRecDepth 10000 in
theorem E_B_X9_readsText_100 (n : Nat) (vR : Int32) (hR : AH) (x1 : Int32) (x2 : Int32) (y0 : Int32) (h : AH) (hM : B_X9_readsText_100 n x1 x2 y0 h = some (vR, hR)) : Ev none mr_X9_readsText (100, [(0, .ref 75), (1, .int x1), (2, .int x2)], [.int y0, .ref 75], h) (some (.int vR)) hR := by
  unfold B_X9_readsText_100 at hM
  refine Ev.steps (B := (106, [(0, .ref 75), (1, .int x1), (2, .int x2)], [.int 1, .int x1, .ref 75], (am_sf h 75 2 y0))) 4 rfl ?_
  refine Ev.br (b := decide (¬ x1 = 1)) rfl (fun c1 => ?_) (fun c1 => ?_)
  · have c1 := of_decide_eq_true c1
    rw [if_neg c1] at hM
    refine Ev.steps (B := (121, [(0, .ref 75), (1, .int x1), (2, .int x2)], [.int (-1)], (am_sf (am_sf h 75 2 y0) 75 6 (h.1 75 6)))) 4 rfl ?_
    obtain ⟨rfl, rfl⟩ := am_sp hM
    exact Ev.ret rfl
  · have c1 := Decidable.of_not_not (of_decide_eq_false c1)
    rw [if_pos c1] at hM
    refine Ev.steps (B := (121, [(0, .ref 75), (1, .int x1), (2, .int x2)], [.int (-1)], (am_sf (am_sf h 75 2 y0) 75 6 x2))) 4 rfl ?_
    obtain ⟨rfl, rfl⟩ := am_sp hM
    exact Ev.ret rfl
def B_X9_readsText_51 (n : Nat) (k37 : Int32 → Int32 → Int32 → AH → Option (Int32 × AH)) (x1 : Int32) (x2 : Int32) (x3 : Int32) (h : AH) : Option (Int32 × AH) :=
  am_b (M_X9_readsPart x1 x2 x3 h) fun v2 h1 =>
  if 3 ≤ v2 then
    bif (am_in x1 2) then
      if (x3 + 3) = ((h1.2.1 76) (Int32.toNatClampNeg x1)) then
        if x1 = 0 then
          B_X9_readsText_100 n x1 (x2 + 1) (x2 + 1) h1
        else
          B_X9_readsText_100 n x1 (x2 + 1) (h1.1 75 2) h1
      else
        am_o (M_X9_byteAt x1 (x3 + 3) h1) fun v3 =>
        if v3 = 59 then
          k37 x1 (x2 + 1) ((x3 + 3) + 1) h1
        else
          some ((x3 + 3), h1)
    else none
  else
    some ((x3 + v2), h1)
set_option maxRecDepth 10000 in
theorem E_B_X9_readsText_51 (n : Nat) (k37 : Int32 → Int32 → Int32 → AH → Option (Int32 × AH)) (vR : Int32) (hR : AH) (hk37 : ∀ (x1 : Int32) (x2 : Int32) (x3 : Int32) (h0 : AH), k37 x1 x2 x3 h0 = some (vR, hR) → Ev none mr_X9_readsText (37, [(0, .ref 75), (1, .int x1), (2, .int x2), (3, .int x3)], [], h0) (some (.int vR)) hR) (x1 : Int32) (x2 : Int32) (x3 : Int32) (h : AH) (hM : B_X9_readsText_51 n k37 x1 x2 x3 h = some (vR, hR)) : Ev none mr_X9_readsText (51, [(0, .ref 75), (1, .int x1), (2, .int x2), (3, .int x3)], [], h) (some (.int vR)) hR := by
  unfold B_X9_readsText_51 at hM
  refine Ev.steps (B := (55, [(0, .ref 75), (1, .int x1), (2, .int x2), (3, .int x3)], [.int x3, .int x2, .int x1, .ref 75], h)) 4 rfl ?_
  obtain ⟨v2, h1, e1, hM⟩ := am_bS hM
  refine Ev.call (q := (mr_X9_readsPart, [.ref 75, .int x1, .int x2, .int x3], [])) rfl (E_X9_readsPart_75 x1 x2 x3 h v2 h1 e1) ?_
  refine Ev.steps (B := (63, [(4, .int v2), (0, .ref 75), (1, .int x1), (2, .int x2), (3, .int x3)], [.int 3, .int v2], h1)) 3 rfl ?_
  refine Ev.br (b := decide (3 ≤ v2)) rfl (fun c2 => ?_) (fun c2 => ?_)
  · have c2 := of_decide_eq_true c2
    rw [if_pos c2] at hM
    refine Ev.steps (B := (83, [(3, .int (x3 + 3)), (2, .int (x2 + 1)), (4, .int v2), (0, .ref 75), (1, .int x1)], [.int x1, .ref 76, .int (x3 + 3)], h1)) 6 rfl ?_
    obtain ⟨g3, hM⟩ := am_gS hM
    refine Ev.g (B := (84, [(3, .int (x3 + 3)), (2, .int (x2 + 1)), (4, .int v2), (0, .ref 75), (1, .int x1)], [.int ((h1.2.1 76) (Int32.toNatClampNeg x1)), .int (x3 + 3)], h1)) g3 rfl ?_
    refine Ev.br (b := decide (¬ (x3 + 3) = ((h1.2.1 76) (Int32.toNatClampNeg x1)))) rfl (fun c4 => ?_) (fun c4 => ?_)
    · have c4 := of_decide_eq_true c4
      rw [if_neg c4] at hM
      refine Ev.steps (B := (125, [(3, .int (x3 + 3)), (2, .int (x2 + 1)), (4, .int v2), (0, .ref 75), (1, .int x1)], [.int (x3 + 3), .int x1, .ref 75], h1)) 3 rfl ?_
      obtain ⟨v3, e5, hM⟩ := am_oS hM
      refine Ev.call (q := (mr_X9_byteAt, [.ref 75, .int x1, .int (x3 + 3)], [])) rfl (E_X9_byteAt_75 x1 (x3 + 3) h1 v3 e5) ?_
      refine Ev.steps (B := (130, [(3, .int (x3 + 3)), (2, .int (x2 + 1)), (4, .int v2), (0, .ref 75), (1, .int x1)], [.int 59, .int v3], h1)) 1 rfl ?_
      refine Ev.br (b := decide (v3 = 59)) rfl (fun c6 => ?_) (fun c6 => ?_)
      · have c6 := of_decide_eq_true c6
        rw [if_pos c6] at hM
        refine Ev.steps (B := (37, [(3, .int ((x3 + 3) + 1)), (2, .int (x2 + 1)), (4, .int v2), (0, .ref 75), (1, .int x1)], [], h1)) 2 rfl ?_
        refine Ev.lv (lv := [(0, .ref 75), (1, .int x1), (2, .int (x2 + 1)), (3, .int ((x3 + 3) + 1))]) ⟨rfl, rfl, rfl, rfl, trivial⟩ rfl rfl ?_
        exact hk37 x1 (x2 + 1) ((x3 + 3) + 1) h1 hM
      · have c6 := of_decide_eq_false c6
        rw [if_neg c6] at hM
        refine Ev.steps (B := (134, [(3, .int (x3 + 3)), (2, .int (x2 + 1)), (4, .int v2), (0, .ref 75), (1, .int x1)], [.int (x3 + 3)], h1)) 1 rfl ?_
        obtain ⟨rfl, rfl⟩ := am_sp hM
        exact Ev.ret rfl
    · have c4 := Decidable.of_not_not (of_decide_eq_false c4)
      rw [if_pos c4] at hM
      refine Ev.steps (B := (89, [(3, .int (x3 + 3)), (2, .int (x2 + 1)), (4, .int v2), (0, .ref 75), (1, .int x1)], [.int x1, .ref 75], h1)) 2 rfl ?_
      refine Ev.br (b := decide (¬ x1 = 0)) rfl (fun c7 => ?_) (fun c7 => ?_)
      · have c7 := of_decide_eq_true c7
        rw [if_neg c7] at hM
        refine Ev.steps (B := (100, [(3, .int (x3 + 3)), (2, .int (x2 + 1)), (4, .int v2), (0, .ref 75), (1, .int x1)], [.int (h1.1 75 2), .ref 75], h1)) 2 rfl ?_
        refine Ev.lv (lv := [(0, .ref 75), (1, .int x1), (2, .int (x2 + 1))]) ⟨rfl, rfl, rfl, trivial⟩ rfl rfl ?_
        exact E_B_X9_readsText_100 n vR hR x1 (x2 + 1) (h1.1 75 2) h1 hM
      · have c7 := Decidable.of_not_not (of_decide_eq_false c7)
        rw [if_pos c7] at hM
        refine Ev.steps (B := (100, [(3, .int (x3 + 3)), (2, .int (x2 + 1)), (4, .int v2), (0, .ref 75), (1, .int x1)], [.int (x2 + 1), .ref 75], h1)) 2 rfl ?_
        refine Ev.lv (lv := [(0, .ref 75), (1, .int x1), (2, .int (x2 + 1))]) ⟨rfl, rfl, rfl, trivial⟩ rfl rfl ?_
        exact E_B_X9_readsText_100 n vR hR x1 (x2 + 1) (x2 + 1) h1 hM
  · have c2 := of_decide_eq_false c2
    rw [if_neg c2] at hM
    refine Ev.steps (B := (70, [(4, .int v2), (0, .ref 75), (1, .int x1), (2, .int x2), (3, .int x3)], [.int (x3 + v2)], h1)) 3 rfl ?_
    obtain ⟨rfl, rfl⟩ := am_sp hM
    exact Ev.ret rfl
def L_X9_readsText_37 (n : Nat) : Nat → Int32 → Int32 → Int32 → AH → Option (Int32 × AH)
  | 0, _, _, _, _ => none
  | m + 1, x1, x2, x3, h =>
    bif (am_in x1 2) then
      if x3 < ((h.2.1 76) (Int32.toNatClampNeg x1)) then
        B_X9_readsText_51 n (L_X9_readsText_37 n m) x1 x2 x3 h
      else
        if x3 ≤ 0 then
          some ((-1), h)
        else
          B_X9_readsText_51 n (L_X9_readsText_37 n m) x1 x2 x3 h
    else none
set_option maxRecDepth 10000 in
theorem E_L_X9_readsText_37 (n : Nat) (vR : Int32) (hR : AH) : ∀ (m : Nat) (x1 : Int32) (x2 : Int32) (x3 : Int32) (h : AH), L_X9_readsText_37 n m x1 x2 x3 h = some (vR, hR) → Ev none mr_X9_readsText (37, [(0, .ref 75), (1, .int x1), (2, .int x2), (3, .int x3)], [], h) (some (.int vR)) hR := by
  intro m
  induction m with
  | zero =>
    intro x1 x2 x3 h hM
    exact (am_no hM).elim
  | succ m ih =>
    intro x1 x2 x3 h hM
    rw [L_X9_readsText_37] at hM
    refine Ev.steps (B := (43, [(0, .ref 75), (1, .int x1), (2, .int x2), (3, .int x3)], [.int x1, .ref 76, .int x3], h)) 4 rfl ?_
    obtain ⟨g1, hM⟩ := am_gS hM
    refine Ev.g (B := (44, [(0, .ref 75), (1, .int x1), (2, .int x2), (3, .int x3)], [.int ((h.2.1 76) (Int32.toNatClampNeg x1)), .int x3], h)) g1 rfl ?_
    refine Ev.br (b := decide (x3 < ((h.2.1 76) (Int32.toNatClampNeg x1)))) rfl (fun c2 => ?_) (fun c2 => ?_)
    · have c2 := of_decide_eq_true c2
      rw [if_pos c2] at hM
      exact E_B_X9_readsText_51 n (L_X9_readsText_37 n m) vR hR ih x1 x2 x3 h hM
    · have c2 := of_decide_eq_false c2
      rw [if_neg c2] at hM
      refine Ev.steps (B := (48, [(0, .ref 75), (1, .int x1), (2, .int x2), (3, .int x3)], [.int x3], h)) 1 rfl ?_
      refine Ev.br (b := decide (x3 ≤ 0)) rfl (fun c3 => ?_) (fun c3 => ?_)
      · have c3 := of_decide_eq_true c3
        rw [if_pos c3] at hM
        refine Ev.steps (B := (142, [(0, .ref 75), (1, .int x1), (2, .int x2), (3, .int x3)], [.int (-1)], h)) 1 rfl ?_
        obtain ⟨rfl, rfl⟩ := am_sp hM
        exact Ev.ret rfl
      · have c3 := of_decide_eq_false c3
        rw [if_neg c3] at hM
        exact E_B_X9_readsText_51 n (L_X9_readsText_37 n m) vR hR ih x1 x2 x3 h hM
def B_X9_readsText_17 (n : Nat) (x1 : Int32) (x2 : Int32) (x3 : Int32) (y0 : Int32) (h : AH) : Option (Int32 × AH) :=
  if x1 = 1 then
    L_X9_readsText_37 n n x1 x2 x3 (am_sf (am_sf h 75 2 y0) 75 6 0)
  else
    L_X9_readsText_37 n n x1 x2 x3 (am_sf (am_sf h 75 2 y0) 75 6 (h.1 75 6))
set_option maxRecDepth 10000 in
theorem E_B_X9_readsText_17 (n : Nat) (vR : Int32) (hR : AH) (x1 : Int32) (x2 : Int32) (x3 : Int32) (y0 : Int32) (h : AH) (hM : B_X9_readsText_17 n x1 x2 x3 y0 h = some (vR, hR)) : Ev none mr_X9_readsText (17, [(0, .ref 75), (1, .int x1), (2, .int x2), (3, .int x3)], [.int y0, .ref 75], h) (some (.int vR)) hR := by
  unfold B_X9_readsText_17 at hM
  refine Ev.steps (B := (23, [(0, .ref 75), (1, .int x1), (2, .int x2), (3, .int x3)], [.int 1, .int x1, .ref 75], (am_sf h 75 2 y0))) 4 rfl ?_
  refine Ev.br (b := decide (¬ x1 = 1)) rfl (fun c1 => ?_) (fun c1 => ?_)
  · have c1 := of_decide_eq_true c1
    rw [if_neg c1] at hM
    refine Ev.steps (B := (37, [(0, .ref 75), (1, .int x1), (2, .int x2), (3, .int x3)], [], (am_sf (am_sf h 75 2 y0) 75 6 (h.1 75 6)))) 3 rfl ?_
    exact E_L_X9_readsText_37 n vR hR n x1 x2 x3 (am_sf (am_sf h 75 2 y0) 75 6 (h.1 75 6)) hM
  · have c1 := Decidable.of_not_not (of_decide_eq_false c1)
    rw [if_pos c1] at hM
    refine Ev.steps (B := (37, [(0, .ref 75), (1, .int x1), (2, .int x2), (3, .int x3)], [], (am_sf (am_sf h 75 2 y0) 75 6 0))) 3 rfl ?_
    exact E_L_X9_readsText_37 n vR hR n x1 x2 x3 (am_sf (am_sf h 75 2 y0) 75 6 0) hM
def M_X9_readsText (n : Nat) (a1 : Int32) (h : AH) : Option (Int32 × AH) :=
  if a1 = 0 then
    B_X9_readsText_17 n a1 0 0 0 h
  else
    B_X9_readsText_17 n a1 0 0 (h.1 75 2) h
set_option maxRecDepth 10000 in
theorem E_X9_readsText_75 (n : Nat) (a1 : Int32) (h : AH) (vR : Int32) (hR : AH) (hM : M_X9_readsText n a1 h = some (vR, hR)) : Ev none mr_X9_readsText (0, [(0, .ref 75), (1, .int a1)], [], h) (some (.int vR)) hR := by
  unfold M_X9_readsText at hM
  refine Ev.steps (B := (6, [(3, .int 0), (2, .int 0), (0, .ref 75), (1, .int a1)], [.int a1, .ref 75], h)) 6 rfl ?_
  refine Ev.br (b := decide (¬ a1 = 0)) rfl (fun c1 => ?_) (fun c1 => ?_)
  · have c1 := of_decide_eq_true c1
    rw [if_neg c1] at hM
    refine Ev.steps (B := (17, [(3, .int 0), (2, .int 0), (0, .ref 75), (1, .int a1)], [.int (h.1 75 2), .ref 75], h)) 2 rfl ?_
    refine Ev.lv (lv := [(0, .ref 75), (1, .int a1), (2, .int 0), (3, .int 0)]) ⟨rfl, rfl, rfl, rfl, trivial⟩ rfl rfl ?_
    exact E_B_X9_readsText_17 n vR hR a1 0 0 (h.1 75 2) h hM
  · have c1 := Decidable.of_not_not (of_decide_eq_false c1)
    rw [if_pos c1] at hM
    refine Ev.steps (B := (17, [(3, .int 0), (2, .int 0), (0, .ref 75), (1, .int a1)], [.int 0, .ref 75], h)) 2 rfl ?_
    refine Ev.lv (lv := [(0, .ref 75), (1, .int a1), (2, .int 0), (3, .int 0)]) ⟨rfl, rfl, rfl, rfl, trivial⟩ rfl rfl ?_
    exact E_B_X9_readsText_17 n vR hR a1 0 0 0 h hM
def M_X9_faultOf (n : Nat) (a1 : Int32) (h : AH) : Option (Int32 × AH) :=
  am_b (M_X9_readsText n 0 h) fun v2 h1 =>
  am_b (M_X9_readsText n 1 h1) fun v4 h3 =>
  if a1 = 0 then
    some (v2, h3)
  else
    some (v4, h3)
set_option maxRecDepth 10000 in
theorem E_X9_faultOf_75 (n : Nat) (a1 : Int32) (h : AH) (vR : Int32) (hR : AH) (hM : M_X9_faultOf n a1 h = some (vR, hR)) : Ev none mr_X9_faultOf (0, [(0, .ref 75), (1, .int a1)], [], h) (some (.int vR)) hR := by
  unfold M_X9_faultOf at hM
  refine Ev.steps (B := (2, [(0, .ref 75), (1, .int a1)], [.int 0, .ref 75], h)) 2 rfl ?_
  obtain ⟨v2, h1, e1, hM⟩ := am_bS hM
  refine Ev.call (q := (mr_X9_readsText, [.ref 75, .int 0], [])) rfl (E_X9_readsText_75 n 0 h v2 h1 e1) ?_
  refine Ev.steps (B := (8, [(2, .int v2), (0, .ref 75), (1, .int a1)], [.int 1, .ref 75], h1)) 3 rfl ?_
  obtain ⟨v4, h3, e2, hM⟩ := am_bS hM
  refine Ev.call (q := (mr_X9_readsText, [.ref 75, .int 1], [])) rfl (E_X9_readsText_75 n 1 h1 v4 h3 e2) ?_
  refine Ev.steps (B := (13, [(3, .int v4), (2, .int v2), (0, .ref 75), (1, .int a1)], [.int a1], h3)) 2 rfl ?_
  refine Ev.br (b := decide (¬ a1 = 0)) rfl (fun c3 => ?_) (fun c3 => ?_)
  · have c3 := of_decide_eq_true c3
    rw [if_neg c3] at hM
    refine Ev.steps (B := (21, [(3, .int v4), (2, .int v2), (0, .ref 75), (1, .int a1)], [.int v4], h3)) 1 rfl ?_
    obtain ⟨rfl, rfl⟩ := am_sp hM
    exact Ev.ret rfl
  · have c3 := Decidable.of_not_not (of_decide_eq_false c3)
    rw [if_pos c3] at hM
    refine Ev.steps (B := (21, [(3, .int v4), (2, .int v2), (0, .ref 75), (1, .int a1)], [.int v2], h3)) 2 rfl ?_
    obtain ⟨rfl, rfl⟩ := am_sp hM
    exact Ev.ret rfl
def M_X9_fault (n : Nat) (a1 : Int32) (h : AH) : Option (Int32 × AH) :=
  if (M_X9_isTwo a1) = 0 then
    some ((-2), h)
  else
    am_b (M_X9_faultOf n a1 h) fun v2 h1 =>
    some (v2, h1)
set_option maxRecDepth 10000 in
theorem E_X9_fault_75 (n : Nat) (a1 : Int32) (h : AH) (vR : Int32) (hR : AH) (hM : M_X9_fault n a1 h = some (vR, hR)) : Ev none mr_X9_fault (0, [(0, .ref 75), (1, .int a1)], [], h) (some (.int vR)) hR := by
  unfold M_X9_fault at hM
  refine Ev.steps (B := (1, [(0, .ref 75), (1, .int a1)], [.int a1], h)) 1 rfl ?_
  refine Ev.call (q := (mr_X9_isTwo, [.int a1], [])) rfl (E_X9_isTwo a1 h) ?_
  refine Ev.br (b := decide ((M_X9_isTwo a1) = 0)) rfl (fun c1 => ?_) (fun c1 => ?_)
  · have c1 := of_decide_eq_true c1
    rw [if_pos c1] at hM
    refine Ev.steps (B := (17, [(0, .ref 75), (1, .int a1)], [.int (-2)], h)) 1 rfl ?_
    obtain ⟨rfl, rfl⟩ := am_sp hM
    exact Ev.ret rfl
  · have c1 := of_decide_eq_false c1
    rw [if_neg c1] at hM
    refine Ev.steps (B := (9, [(0, .ref 75), (1, .int a1)], [.int a1, .ref 75], h)) 2 rfl ?_
    obtain ⟨v2, h1, e2, hM⟩ := am_bS hM
    refine Ev.call (q := (mr_X9_faultOf, [.ref 75, .int a1], [])) rfl (E_X9_faultOf_75 n a1 h v2 h1 e2) ?_
    refine Ev.steps (B := (17, [(0, .ref 75), (1, .int a1)], [.int v2], h1)) 1 rfl ?_
    obtain ⟨rfl, rfl⟩ := am_sp hM
    exact Ev.ret rfl
def M_X1_has (r0 : Nat) (a1 : Int32) (h : AH) : Int32 :=
  if a1 < 0 then
    0
  else
    if (h.1 r0 3) ≤ a1 then
      0
    else
      if 8 ≤ a1 then
        0
      else
        1
set_option maxRecDepth 10000 in
theorem E_X1_has_2 (a1 : Int32) (h : AH) : Ev none mr_X1_has (0, [(0, .ref 2), (1, .int a1)], [], h) (some (.int (M_X1_has 2 a1 h))) h := by
  unfold M_X1_has
  refine Ev.steps (B := (1, [(0, .ref 2), (1, .int a1)], [.int a1], h)) 1 rfl ?_
  refine Ev.br (b := decide (a1 < 0)) rfl (fun c1 => ?_) (fun c1 => ?_)
  · have c1 := of_decide_eq_true c1
    rw [if_pos c1]
    refine Ev.steps (B := (23, [(0, .ref 2), (1, .int a1)], [.int 0], h)) 1 rfl ?_
    exact Ev.ret rfl
  · have c1 := of_decide_eq_false c1
    rw [if_neg c1]
    refine Ev.steps (B := (9, [(0, .ref 2), (1, .int a1)], [.int (h.1 2 3), .int a1], h)) 3 rfl ?_
    refine Ev.br (b := decide ((h.1 2 3) ≤ a1)) rfl (fun c2 => ?_) (fun c2 => ?_)
    · have c2 := of_decide_eq_true c2
      rw [if_pos c2]
      refine Ev.steps (B := (23, [(0, .ref 2), (1, .int a1)], [.int 0], h)) 1 rfl ?_
      exact Ev.ret rfl
    · have c2 := of_decide_eq_false c2
      rw [if_neg c2]
      refine Ev.steps (B := (15, [(0, .ref 2), (1, .int a1)], [.int 8, .int a1], h)) 2 rfl ?_
      refine Ev.br (b := decide (8 ≤ a1)) rfl (fun c3 => ?_) (fun c3 => ?_)
      · have c3 := of_decide_eq_true c3
        rw [if_pos c3]
        refine Ev.steps (B := (23, [(0, .ref 2), (1, .int a1)], [.int 0], h)) 1 rfl ?_
        exact Ev.ret rfl
      · have c3 := of_decide_eq_false c3
        rw [if_neg c3]
        refine Ev.steps (B := (23, [(0, .ref 2), (1, .int a1)], [.int 1], h)) 2 rfl ?_
        exact Ev.ret rfl
set_option maxRecDepth 10000 in
theorem Z_X1_has (r0 : Nat) (a1 : Int32) (h : AH) : am_b01 (M_X1_has r0 a1 h) = true := by
  unfold M_X1_has
  split
  · rfl
  · split
    · rfl
    · split
      · rfl
      · rfl
def M_X1_part (r0 : Nat) (a1 : Int32) (a2 : Int32) (h : AH) : Option Int32 :=
  if (M_X1_has r0 a1 h) = 0 then
    some (-2)
  else
    if a2 = 0 then
      bif (am_in a1 8) then
        some ((h.2.1 (r0 + 1)) (Int32.toNatClampNeg a1))
      else none
    else
    if a2 = 1 then
      bif (am_in a1 8) then
        some ((h.2.1 (r0 + 2)) (Int32.toNatClampNeg a1))
      else none
    else
    if a2 = 2 then
      bif (am_in a1 8) then
        some ((h.2.1 (r0 + 3)) (Int32.toNatClampNeg a1))
      else none
    else
      some (-2)
set_option maxRecDepth 10000 in
theorem E_X1_part_2 (a1 : Int32) (a2 : Int32) (h : AH) (vR : Int32) (hM : M_X1_part 2 a1 a2 h = some vR) : Ev none mr_X1_part (0, [(0, .ref 2), (1, .int a1), (2, .int a2)], [], h) (some (.int vR)) h := by
  unfold M_X1_part at hM
  refine Ev.steps (B := (2, [(0, .ref 2), (1, .int a1), (2, .int a2)], [.int a1, .ref 2], h)) 2 rfl ?_
  refine Ev.call (q := (mr_X1_has, [.ref 2, .int a1], [])) rfl (E_X1_has_2 a1 h) ?_
  refine Ev.br (b := decide (¬ (M_X1_has 2 a1 h) = 0)) rfl (fun c1 => ?_) (fun c1 => ?_)
  · have c1 := of_decide_eq_true c1
    rw [if_neg c1] at hM
    refine Ev.steps (B := (12, [(0, .ref 2), (1, .int a1), (2, .int a2)], [.int a2], h)) 1 rfl ?_
    refine Ev.step (B := (am_sel a2 [(0, 40), (1, 47), (2, 54)] 61, [(0, .ref 2), (1, .int a1), (2, .int a2)], [], h)) rfl ?_
    refine Ev.sw (fun c2 => ?_) (fun c2 => ?_)
    · rw [if_pos c2] at hM
      refine Ev.steps (B := (45, [(0, .ref 2), (1, .int a1), (2, .int a2)], [.int a1, .ref (2 + 1)], h)) 3 rfl ?_
      obtain ⟨g3, hM⟩ := am_gS hM
      refine Ev.g (B := (46, [(0, .ref 2), (1, .int a1), (2, .int a2)], [.int ((h.2.1 (2 + 1)) (Int32.toNatClampNeg a1))], h)) g3 rfl ?_
      obtain rfl := am_s1 hM
      exact Ev.ret rfl
    · rw [if_neg c2] at hM
      refine Ev.sw (fun c4 => ?_) (fun c4 => ?_)
      · rw [if_pos c4] at hM
        refine Ev.steps (B := (52, [(0, .ref 2), (1, .int a1), (2, .int a2)], [.int a1, .ref (2 + 2)], h)) 3 rfl ?_
        obtain ⟨g5, hM⟩ := am_gS hM
        refine Ev.g (B := (53, [(0, .ref 2), (1, .int a1), (2, .int a2)], [.int ((h.2.1 (2 + 2)) (Int32.toNatClampNeg a1))], h)) g5 rfl ?_
        obtain rfl := am_s1 hM
        exact Ev.ret rfl
      · rw [if_neg c4] at hM
        refine Ev.sw (fun c6 => ?_) (fun c6 => ?_)
        · rw [if_pos c6] at hM
          refine Ev.steps (B := (59, [(0, .ref 2), (1, .int a1), (2, .int a2)], [.int a1, .ref (2 + 3)], h)) 3 rfl ?_
          obtain ⟨g7, hM⟩ := am_gS hM
          refine Ev.g (B := (60, [(0, .ref 2), (1, .int a1), (2, .int a2)], [.int ((h.2.1 (2 + 3)) (Int32.toNatClampNeg a1))], h)) g7 rfl ?_
          obtain rfl := am_s1 hM
          exact Ev.ret rfl
        · rw [if_neg c6] at hM
          refine Ev.steps (B := (63, [(0, .ref 2), (1, .int a1), (2, .int a2)], [.int (-2)], h)) 1 rfl ?_
          obtain rfl := am_s1 hM
          exact Ev.ret rfl
  · have c1 := Decidable.of_not_not (of_decide_eq_false c1)
    rw [if_pos c1] at hM
    refine Ev.steps (B := (10, [(0, .ref 2), (1, .int a1), (2, .int a2)], [.int (-2)], h)) 1 rfl ?_
    obtain rfl := am_s1 hM
    exact Ev.ret rfl
def M_X8_piece (a1 : Int32) (a2 : Int32) (h : AH) : Option Int32 :=
  am_o (M_X1_part 2 a1 a2 h) fun v1 =>
  some v1
set_option maxRecDepth 10000 in
theorem E_X8_piece_0 (a1 : Int32) (a2 : Int32) (h : AH) (vR : Int32) (hM : M_X8_piece a1 a2 h = some vR) : Ev none mr_X8_piece (0, [(0, .ref 0), (1, .int a1), (2, .int a2)], [], h) (some (.int vR)) h := by
  unfold M_X8_piece at hM
  refine Ev.steps (B := (9, [(0, .ref 0), (1, .int a1), (2, .int a2)], [.int a2, .int a1, .ref 2], h)) 5 rfl ?_
  obtain ⟨v1, e1, hM⟩ := am_oS hM
  refine Ev.call (q := (mr_X1_part, [.ref 2, .int a1, .int a2], [])) rfl (E_X1_part_2 a1 a2 h v1 e1) ?_
  obtain rfl := am_s1 hM
  exact Ev.ret rfl
def M_X9_reads (n : Nat) (h : AH) : Option AH :=
  am_b (M_X9_faultOf n 0 h) fun v2 h1 =>
  some h1
set_option maxRecDepth 10000 in
theorem E_X9_reads_75 (n : Nat) (h : AH) (hR : AH) (hM : M_X9_reads n h = some hR) : Ev none mr_X9_reads (0, [(0, .ref 75)], [], h) none hR := by
  unfold M_X9_reads at hM
  refine Ev.steps (B := (2, [(0, .ref 75)], [.int 0, .ref 75], h)) 2 rfl ?_
  obtain ⟨v2, h1, e1, hM⟩ := am_bS hM
  refine Ev.call (q := (mr_X9_faultOf, [.ref 75, .int 0], [])) rfl (E_X9_faultOf_75 n 0 h v2 h1 e1) ?_
  refine Ev.steps (B := (6, [(1, .int v2), (0, .ref 75)], [], h1)) 1 rfl ?_
  obtain rfl := am_s1 hM
  exact Ev.ret rfl
def M_X9_isPiece (n : Nat) (a1 : Int32) (h : AH) : Option (Int32 × AH) :=
  am_v (M_X9_reads n h) fun h1 =>
  bif am_b01 (M_X9_in a1 0 ((h1.1 75 2) - 1)) then some ((M_X9_in a1 0 ((h1.1 75 2) - 1)), h1) else none
set_option maxRecDepth 10000 in
theorem E_X9_isPiece_75 (n : Nat) (a1 : Int32) (h : AH) (vR : Int32) (hR : AH) (hM : M_X9_isPiece n a1 h = some (vR, hR)) : Ev none mr_X9_isPiece (0, [(0, .ref 75), (1, .int a1)], [], h) (some (.int vR)) hR := by
  unfold M_X9_isPiece at hM
  refine Ev.steps (B := (1, [(0, .ref 75), (1, .int a1)], [.ref 75], h)) 1 rfl ?_
  obtain ⟨h1, e1, hM⟩ := am_vS hM
  refine Ev.call (q := (mr_X9_reads, [.ref 75], [])) rfl (E_X9_reads_75 n h h1 e1) ?_
  refine Ev.steps (B := (12, [(0, .ref 75), (1, .int a1)], [.int ((h1.1 75 2) - 1), .int 0, .int a1], h1)) 6 rfl ?_
  refine Ev.call (q := (mr_X9_in, [.int a1, .int 0, .int ((h1.1 75 2) - 1)], [])) rfl (E_X9_in a1 0 ((h1.1 75 2) - 1) h1) ?_
  obtain ⟨g2, hM⟩ := am_gS hM
  obtain ⟨rfl, rfl⟩ := am_sp hM
  exact Ev.retg g2 rfl
def M_X9_isThree (a1 : Int32) : Int32 :=
  (M_X9_in a1 0 2)
set_option maxRecDepth 10000 in
theorem E_X9_isThree (a1 : Int32) (h : AH) : Ev none mr_X9_isThree (0, [(0, .int a1)], [], h) (some (.int (M_X9_isThree a1))) h := by
  unfold M_X9_isThree
  refine Ev.steps (B := (3, [(0, .int a1)], [.int 2, .int 0, .int a1], h)) 3 rfl ?_
  refine Ev.call (q := (mr_X9_in, [.int a1, .int 0, .int 2], [])) rfl (E_X9_in a1 0 2 h) ?_
  exact Ev.retg (b := am_b01 (M_X9_in a1 0 2)) (by apply Z_X9_in) rfl
set_option maxRecDepth 10000 in
theorem Z_X9_isThree (a1 : Int32) : am_b01 (M_X9_isThree a1) = true := by
  unfold M_X9_isThree
  apply Z_X9_in
def M_X9_pieceOf (a1 : Int32) (a2 : Int32) (h : AH) : Option Int32 :=
  if a2 = 0 then
    bif (am_in a1 9) then
      some ((h.2.1 78) (Int32.toNatClampNeg a1))
    else none
  else
    if a2 = 1 then
      bif (am_in a1 9) then
        some ((h.2.1 79) (Int32.toNatClampNeg a1))
      else none
    else
      bif (am_in a1 9) then
        some ((h.2.1 80) (Int32.toNatClampNeg a1))
      else none
set_option maxRecDepth 10000 in
theorem E_X9_pieceOf_75 (a1 : Int32) (a2 : Int32) (h : AH) (vR : Int32) (hM : M_X9_pieceOf a1 a2 h = some vR) : Ev none mr_X9_pieceOf (0, [(0, .ref 75), (1, .int a1), (2, .int a2)], [], h) (some (.int vR)) h := by
  unfold M_X9_pieceOf at hM
  refine Ev.steps (B := (1, [(0, .ref 75), (1, .int a1), (2, .int a2)], [.int a2], h)) 1 rfl ?_
  refine Ev.br (b := decide (¬ a2 = 0)) rfl (fun c1 => ?_) (fun c1 => ?_)
  · have c1 := of_decide_eq_true c1
    rw [if_neg c1] at hM
    refine Ev.steps (B := (15, [(0, .ref 75), (1, .int a1), (2, .int a2)], [.int 1, .int a2], h)) 2 rfl ?_
    refine Ev.br (b := decide (¬ a2 = 1)) rfl (fun c2 => ?_) (fun c2 => ?_)
    · have c2 := of_decide_eq_true c2
      rw [if_neg c2] at hM
      refine Ev.steps (B := (32, [(0, .ref 75), (1, .int a1), (2, .int a2)], [.int a1, .ref 80], h)) 3 rfl ?_
      obtain ⟨g3, hM⟩ := am_gS hM
      refine Ev.g (B := (33, [(0, .ref 75), (1, .int a1), (2, .int a2)], [.int ((h.2.1 80) (Int32.toNatClampNeg a1))], h)) g3 rfl ?_
      obtain rfl := am_s1 hM
      exact Ev.ret rfl
    · have c2 := Decidable.of_not_not (of_decide_eq_false c2)
      rw [if_pos c2] at hM
      refine Ev.steps (B := (23, [(0, .ref 75), (1, .int a1), (2, .int a2)], [.int a1, .ref 79], h)) 3 rfl ?_
      obtain ⟨g4, hM⟩ := am_gS hM
      refine Ev.g (B := (24, [(0, .ref 75), (1, .int a1), (2, .int a2)], [.int ((h.2.1 79) (Int32.toNatClampNeg a1))], h)) g4 rfl ?_
      refine Ev.steps (B := (33, [(0, .ref 75), (1, .int a1), (2, .int a2)], [.int ((h.2.1 79) (Int32.toNatClampNeg a1))], h)) 1 rfl ?_
      obtain rfl := am_s1 hM
      exact Ev.ret rfl
  · have c1 := Decidable.of_not_not (of_decide_eq_false c1)
    rw [if_pos c1] at hM
    refine Ev.steps (B := (9, [(0, .ref 75), (1, .int a1), (2, .int a2)], [.int a1, .ref 78], h)) 3 rfl ?_
    obtain ⟨g5, hM⟩ := am_gS hM
    refine Ev.g (B := (10, [(0, .ref 75), (1, .int a1), (2, .int a2)], [.int ((h.2.1 78) (Int32.toNatClampNeg a1))], h)) g5 rfl ?_
    refine Ev.steps (B := (33, [(0, .ref 75), (1, .int a1), (2, .int a2)], [.int ((h.2.1 78) (Int32.toNatClampNeg a1))], h)) 1 rfl ?_
    obtain rfl := am_s1 hM
    exact Ev.ret rfl
def M_X9_piece (n : Nat) (a1 : Int32) (a2 : Int32) (h : AH) : Option (Int32 × AH) :=
  am_b (M_X9_isPiece n a1 h) fun v2 h1 =>
  if v2 = 0 then
    some ((-2), h1)
  else
    if (M_X9_isThree a2) = 0 then
      some ((-2), h1)
    else
      am_o (M_X9_pieceOf a1 a2 h1) fun v3 =>
      some (v3, h1)
set_option maxRecDepth 10000 in
theorem E_X9_piece_75 (n : Nat) (a1 : Int32) (a2 : Int32) (h : AH) (vR : Int32) (hR : AH) (hM : M_X9_piece n a1 a2 h = some (vR, hR)) : Ev none mr_X9_piece (0, [(0, .ref 75), (1, .int a1), (2, .int a2)], [], h) (some (.int vR)) hR := by
  unfold M_X9_piece at hM
  refine Ev.steps (B := (2, [(0, .ref 75), (1, .int a1), (2, .int a2)], [.int a1, .ref 75], h)) 2 rfl ?_
  obtain ⟨v2, h1, e1, hM⟩ := am_bS hM
  refine Ev.call (q := (mr_X9_isPiece, [.ref 75, .int a1], [])) rfl (E_X9_isPiece_75 n a1 h v2 h1 e1) ?_
  refine Ev.br (b := decide (v2 = 0)) rfl (fun c2 => ?_) (fun c2 => ?_)
  · have c2 := of_decide_eq_true c2
    rw [if_pos c2] at hM
    refine Ev.steps (B := (26, [(0, .ref 75), (1, .int a1), (2, .int a2)], [.int (-2)], h1)) 1 rfl ?_
    obtain ⟨rfl, rfl⟩ := am_sp hM
    exact Ev.ret rfl
  · have c2 := of_decide_eq_false c2
    rw [if_neg c2] at hM
    refine Ev.steps (B := (9, [(0, .ref 75), (1, .int a1), (2, .int a2)], [.int a2], h1)) 1 rfl ?_
    refine Ev.call (q := (mr_X9_isThree, [.int a2], [])) rfl (E_X9_isThree a2 h1) ?_
    refine Ev.br (b := decide ((M_X9_isThree a2) = 0)) rfl (fun c3 => ?_) (fun c3 => ?_)
    · have c3 := of_decide_eq_true c3
      rw [if_pos c3] at hM
      refine Ev.steps (B := (26, [(0, .ref 75), (1, .int a1), (2, .int a2)], [.int (-2)], h1)) 1 rfl ?_
      obtain ⟨rfl, rfl⟩ := am_sp hM
      exact Ev.ret rfl
    · have c3 := of_decide_eq_false c3
      rw [if_neg c3] at hM
      refine Ev.steps (B := (18, [(0, .ref 75), (1, .int a1), (2, .int a2)], [.int a2, .int a1, .ref 75], h1)) 3 rfl ?_
      obtain ⟨v3, e4, hM⟩ := am_oS hM
      refine Ev.call (q := (mr_X9_pieceOf, [.ref 75, .int a1, .int a2], [])) rfl (E_X9_pieceOf_75 a1 a2 h1 v3 e4) ?_
      refine Ev.steps (B := (26, [(0, .ref 75), (1, .int a1), (2, .int a2)], [.int v3], h1)) 1 rfl ?_
      obtain ⟨rfl, rfl⟩ := am_sp hM
      exact Ev.ret rfl
set_option maxRecDepth 10000 in
theorem E_X1_has_8 (a1 : Int32) (h : AH) : Ev none mr_X1_has (0, [(0, .ref 8), (1, .int a1)], [], h) (some (.int (M_X1_has 8 a1 h))) h := by
  unfold M_X1_has
  refine Ev.steps (B := (1, [(0, .ref 8), (1, .int a1)], [.int a1], h)) 1 rfl ?_
  refine Ev.br (b := decide (a1 < 0)) rfl (fun c1 => ?_) (fun c1 => ?_)
  · have c1 := of_decide_eq_true c1
    rw [if_pos c1]
    refine Ev.steps (B := (23, [(0, .ref 8), (1, .int a1)], [.int 0], h)) 1 rfl ?_
    exact Ev.ret rfl
  · have c1 := of_decide_eq_false c1
    rw [if_neg c1]
    refine Ev.steps (B := (9, [(0, .ref 8), (1, .int a1)], [.int (h.1 8 3), .int a1], h)) 3 rfl ?_
    refine Ev.br (b := decide ((h.1 8 3) ≤ a1)) rfl (fun c2 => ?_) (fun c2 => ?_)
    · have c2 := of_decide_eq_true c2
      rw [if_pos c2]
      refine Ev.steps (B := (23, [(0, .ref 8), (1, .int a1)], [.int 0], h)) 1 rfl ?_
      exact Ev.ret rfl
    · have c2 := of_decide_eq_false c2
      rw [if_neg c2]
      refine Ev.steps (B := (15, [(0, .ref 8), (1, .int a1)], [.int 8, .int a1], h)) 2 rfl ?_
      refine Ev.br (b := decide (8 ≤ a1)) rfl (fun c3 => ?_) (fun c3 => ?_)
      · have c3 := of_decide_eq_true c3
        rw [if_pos c3]
        refine Ev.steps (B := (23, [(0, .ref 8), (1, .int a1)], [.int 0], h)) 1 rfl ?_
        exact Ev.ret rfl
      · have c3 := of_decide_eq_false c3
        rw [if_neg c3]
        refine Ev.steps (B := (23, [(0, .ref 8), (1, .int a1)], [.int 1], h)) 2 rfl ?_
        exact Ev.ret rfl
set_option maxRecDepth 10000 in
theorem E_X1_part_8 (a1 : Int32) (a2 : Int32) (h : AH) (vR : Int32) (hM : M_X1_part 8 a1 a2 h = some vR) : Ev none mr_X1_part (0, [(0, .ref 8), (1, .int a1), (2, .int a2)], [], h) (some (.int vR)) h := by
  unfold M_X1_part at hM
  refine Ev.steps (B := (2, [(0, .ref 8), (1, .int a1), (2, .int a2)], [.int a1, .ref 8], h)) 2 rfl ?_
  refine Ev.call (q := (mr_X1_has, [.ref 8, .int a1], [])) rfl (E_X1_has_8 a1 h) ?_
  refine Ev.br (b := decide (¬ (M_X1_has 8 a1 h) = 0)) rfl (fun c1 => ?_) (fun c1 => ?_)
  · have c1 := of_decide_eq_true c1
    rw [if_neg c1] at hM
    refine Ev.steps (B := (12, [(0, .ref 8), (1, .int a1), (2, .int a2)], [.int a2], h)) 1 rfl ?_
    refine Ev.step (B := (am_sel a2 [(0, 40), (1, 47), (2, 54)] 61, [(0, .ref 8), (1, .int a1), (2, .int a2)], [], h)) rfl ?_
    refine Ev.sw (fun c2 => ?_) (fun c2 => ?_)
    · rw [if_pos c2] at hM
      refine Ev.steps (B := (45, [(0, .ref 8), (1, .int a1), (2, .int a2)], [.int a1, .ref (8 + 1)], h)) 3 rfl ?_
      obtain ⟨g3, hM⟩ := am_gS hM
      refine Ev.g (B := (46, [(0, .ref 8), (1, .int a1), (2, .int a2)], [.int ((h.2.1 (8 + 1)) (Int32.toNatClampNeg a1))], h)) g3 rfl ?_
      obtain rfl := am_s1 hM
      exact Ev.ret rfl
    · rw [if_neg c2] at hM
      refine Ev.sw (fun c4 => ?_) (fun c4 => ?_)
      · rw [if_pos c4] at hM
        refine Ev.steps (B := (52, [(0, .ref 8), (1, .int a1), (2, .int a2)], [.int a1, .ref (8 + 2)], h)) 3 rfl ?_
        obtain ⟨g5, hM⟩ := am_gS hM
        refine Ev.g (B := (53, [(0, .ref 8), (1, .int a1), (2, .int a2)], [.int ((h.2.1 (8 + 2)) (Int32.toNatClampNeg a1))], h)) g5 rfl ?_
        obtain rfl := am_s1 hM
        exact Ev.ret rfl
      · rw [if_neg c4] at hM
        refine Ev.sw (fun c6 => ?_) (fun c6 => ?_)
        · rw [if_pos c6] at hM
          refine Ev.steps (B := (59, [(0, .ref 8), (1, .int a1), (2, .int a2)], [.int a1, .ref (8 + 3)], h)) 3 rfl ?_
          obtain ⟨g7, hM⟩ := am_gS hM
          refine Ev.g (B := (60, [(0, .ref 8), (1, .int a1), (2, .int a2)], [.int ((h.2.1 (8 + 3)) (Int32.toNatClampNeg a1))], h)) g7 rfl ?_
          obtain rfl := am_s1 hM
          exact Ev.ret rfl
        · rw [if_neg c6] at hM
          refine Ev.steps (B := (63, [(0, .ref 8), (1, .int a1), (2, .int a2)], [.int (-2)], h)) 1 rfl ?_
          obtain rfl := am_s1 hM
          exact Ev.ret rfl
  · have c1 := Decidable.of_not_not (of_decide_eq_false c1)
    rw [if_pos c1] at hM
    refine Ev.steps (B := (10, [(0, .ref 8), (1, .int a1), (2, .int a2)], [.int (-2)], h)) 1 rfl ?_
    obtain rfl := am_s1 hM
    exact Ev.ret rfl
def M_X8_guest (a1 : Int32) (a2 : Int32) (h : AH) : Option Int32 :=
  am_o (M_X1_part 8 a1 a2 h) fun v1 =>
  some v1
set_option maxRecDepth 10000 in
theorem E_X8_guest_0 (a1 : Int32) (a2 : Int32) (h : AH) (vR : Int32) (hM : M_X8_guest a1 a2 h = some vR) : Ev none mr_X8_guest (0, [(0, .ref 0), (1, .int a1), (2, .int a2)], [], h) (some (.int vR)) h := by
  unfold M_X8_guest at hM
  refine Ev.steps (B := (9, [(0, .ref 0), (1, .int a1), (2, .int a2)], [.int a2, .int a1, .ref 8], h)) 5 rfl ?_
  obtain ⟨v1, e1, hM⟩ := am_oS hM
  refine Ev.call (q := (mr_X1_part, [.ref 8, .int a1, .int a2], [])) rfl (E_X1_part_8 a1 a2 h v1 e1) ?_
  obtain rfl := am_s1 hM
  exact Ev.ret rfl
def M_X9_isGuest (n : Nat) (a1 : Int32) (h : AH) : Option (Int32 × AH) :=
  am_v (M_X9_reads n h) fun h1 =>
  bif am_b01 (M_X9_in a1 0 ((h1.1 75 6) - 1)) then some ((M_X9_in a1 0 ((h1.1 75 6) - 1)), h1) else none
set_option maxRecDepth 10000 in
theorem E_X9_isGuest_75 (n : Nat) (a1 : Int32) (h : AH) (vR : Int32) (hR : AH) (hM : M_X9_isGuest n a1 h = some (vR, hR)) : Ev none mr_X9_isGuest (0, [(0, .ref 75), (1, .int a1)], [], h) (some (.int vR)) hR := by
  unfold M_X9_isGuest at hM
  refine Ev.steps (B := (1, [(0, .ref 75), (1, .int a1)], [.ref 75], h)) 1 rfl ?_
  obtain ⟨h1, e1, hM⟩ := am_vS hM
  refine Ev.call (q := (mr_X9_reads, [.ref 75], [])) rfl (E_X9_reads_75 n h h1 e1) ?_
  refine Ev.steps (B := (12, [(0, .ref 75), (1, .int a1)], [.int ((h1.1 75 6) - 1), .int 0, .int a1], h1)) 6 rfl ?_
  refine Ev.call (q := (mr_X9_in, [.int a1, .int 0, .int ((h1.1 75 6) - 1)], [])) rfl (E_X9_in a1 0 ((h1.1 75 6) - 1) h1) ?_
  obtain ⟨g2, hM⟩ := am_gS hM
  obtain ⟨rfl, rfl⟩ := am_sp hM
  exact Ev.retg g2 rfl
def M_X9_guestOf (a1 : Int32) (a2 : Int32) (h : AH) : Option Int32 :=
  if a2 = 0 then
    bif (am_in a1 9) then
      some ((h.2.1 81) (Int32.toNatClampNeg a1))
    else none
  else
    if a2 = 1 then
      bif (am_in a1 9) then
        some ((h.2.1 82) (Int32.toNatClampNeg a1))
      else none
    else
      bif (am_in a1 9) then
        some ((h.2.1 83) (Int32.toNatClampNeg a1))
      else none
set_option maxRecDepth 10000 in
theorem E_X9_guestOf_75 (a1 : Int32) (a2 : Int32) (h : AH) (vR : Int32) (hM : M_X9_guestOf a1 a2 h = some vR) : Ev none mr_X9_guestOf (0, [(0, .ref 75), (1, .int a1), (2, .int a2)], [], h) (some (.int vR)) h := by
  unfold M_X9_guestOf at hM
  refine Ev.steps (B := (1, [(0, .ref 75), (1, .int a1), (2, .int a2)], [.int a2], h)) 1 rfl ?_
  refine Ev.br (b := decide (¬ a2 = 0)) rfl (fun c1 => ?_) (fun c1 => ?_)
  · have c1 := of_decide_eq_true c1
    rw [if_neg c1] at hM
    refine Ev.steps (B := (15, [(0, .ref 75), (1, .int a1), (2, .int a2)], [.int 1, .int a2], h)) 2 rfl ?_
    refine Ev.br (b := decide (¬ a2 = 1)) rfl (fun c2 => ?_) (fun c2 => ?_)
    · have c2 := of_decide_eq_true c2
      rw [if_neg c2] at hM
      refine Ev.steps (B := (32, [(0, .ref 75), (1, .int a1), (2, .int a2)], [.int a1, .ref 83], h)) 3 rfl ?_
      obtain ⟨g3, hM⟩ := am_gS hM
      refine Ev.g (B := (33, [(0, .ref 75), (1, .int a1), (2, .int a2)], [.int ((h.2.1 83) (Int32.toNatClampNeg a1))], h)) g3 rfl ?_
      obtain rfl := am_s1 hM
      exact Ev.ret rfl
    · have c2 := Decidable.of_not_not (of_decide_eq_false c2)
      rw [if_pos c2] at hM
      refine Ev.steps (B := (23, [(0, .ref 75), (1, .int a1), (2, .int a2)], [.int a1, .ref 82], h)) 3 rfl ?_
      obtain ⟨g4, hM⟩ := am_gS hM
      refine Ev.g (B := (24, [(0, .ref 75), (1, .int a1), (2, .int a2)], [.int ((h.2.1 82) (Int32.toNatClampNeg a1))], h)) g4 rfl ?_
      refine Ev.steps (B := (33, [(0, .ref 75), (1, .int a1), (2, .int a2)], [.int ((h.2.1 82) (Int32.toNatClampNeg a1))], h)) 1 rfl ?_
      obtain rfl := am_s1 hM
      exact Ev.ret rfl
  · have c1 := Decidable.of_not_not (of_decide_eq_false c1)
    rw [if_pos c1] at hM
    refine Ev.steps (B := (9, [(0, .ref 75), (1, .int a1), (2, .int a2)], [.int a1, .ref 81], h)) 3 rfl ?_
    obtain ⟨g5, hM⟩ := am_gS hM
    refine Ev.g (B := (10, [(0, .ref 75), (1, .int a1), (2, .int a2)], [.int ((h.2.1 81) (Int32.toNatClampNeg a1))], h)) g5 rfl ?_
    refine Ev.steps (B := (33, [(0, .ref 75), (1, .int a1), (2, .int a2)], [.int ((h.2.1 81) (Int32.toNatClampNeg a1))], h)) 1 rfl ?_
    obtain rfl := am_s1 hM
    exact Ev.ret rfl
def M_X9_guest (n : Nat) (a1 : Int32) (a2 : Int32) (h : AH) : Option (Int32 × AH) :=
  am_b (M_X9_isGuest n a1 h) fun v2 h1 =>
  if v2 = 0 then
    some ((-2), h1)
  else
    if (M_X9_isThree a2) = 0 then
      some ((-2), h1)
    else
      am_o (M_X9_guestOf a1 a2 h1) fun v3 =>
      some (v3, h1)
set_option maxRecDepth 10000 in
theorem E_X9_guest_75 (n : Nat) (a1 : Int32) (a2 : Int32) (h : AH) (vR : Int32) (hR : AH) (hM : M_X9_guest n a1 a2 h = some (vR, hR)) : Ev none mr_X9_guest (0, [(0, .ref 75), (1, .int a1), (2, .int a2)], [], h) (some (.int vR)) hR := by
  unfold M_X9_guest at hM
  refine Ev.steps (B := (2, [(0, .ref 75), (1, .int a1), (2, .int a2)], [.int a1, .ref 75], h)) 2 rfl ?_
  obtain ⟨v2, h1, e1, hM⟩ := am_bS hM
  refine Ev.call (q := (mr_X9_isGuest, [.ref 75, .int a1], [])) rfl (E_X9_isGuest_75 n a1 h v2 h1 e1) ?_
  refine Ev.br (b := decide (v2 = 0)) rfl (fun c2 => ?_) (fun c2 => ?_)
  · have c2 := of_decide_eq_true c2
    rw [if_pos c2] at hM
    refine Ev.steps (B := (26, [(0, .ref 75), (1, .int a1), (2, .int a2)], [.int (-2)], h1)) 1 rfl ?_
    obtain ⟨rfl, rfl⟩ := am_sp hM
    exact Ev.ret rfl
  · have c2 := of_decide_eq_false c2
    rw [if_neg c2] at hM
    refine Ev.steps (B := (9, [(0, .ref 75), (1, .int a1), (2, .int a2)], [.int a2], h1)) 1 rfl ?_
    refine Ev.call (q := (mr_X9_isThree, [.int a2], [])) rfl (E_X9_isThree a2 h1) ?_
    refine Ev.br (b := decide ((M_X9_isThree a2) = 0)) rfl (fun c3 => ?_) (fun c3 => ?_)
    · have c3 := of_decide_eq_true c3
      rw [if_pos c3] at hM
      refine Ev.steps (B := (26, [(0, .ref 75), (1, .int a1), (2, .int a2)], [.int (-2)], h1)) 1 rfl ?_
      obtain ⟨rfl, rfl⟩ := am_sp hM
      exact Ev.ret rfl
    · have c3 := of_decide_eq_false c3
      rw [if_neg c3] at hM
      refine Ev.steps (B := (18, [(0, .ref 75), (1, .int a1), (2, .int a2)], [.int a2, .int a1, .ref 75], h1)) 3 rfl ?_
      obtain ⟨v3, e4, hM⟩ := am_oS hM
      refine Ev.call (q := (mr_X9_guestOf, [.ref 75, .int a1, .int a2], [])) rfl (E_X9_guestOf_75 a1 a2 h1 v3 e4) ?_
      refine Ev.steps (B := (26, [(0, .ref 75), (1, .int a1), (2, .int a2)], [.int v3], h1)) 1 rfl ?_
      obtain ⟨rfl, rfl⟩ := am_sp hM
      exact Ev.ret rfl
def B_X8_set_68 (n : Nat) (x3 : Int32) (h : AH) : Option (Int32 × AH) :=
  am_v (M_X8_changed n h) fun h1 =>
  some (x3, h1)
set_option maxRecDepth 10000 in
theorem E_B_X8_set_68 (n : Nat) (vR : Int32) (hR : AH) (x3 : Int32) (h : AH) (hM : B_X8_set_68 n x3 h = some (vR, hR)) : Ev none mr_X8_set (68, [(0, .ref 0), (3, .int x3)], [], h) (some (.int vR)) hR := by
  unfold B_X8_set_68 at hM
  refine Ev.steps (B := (69, [(0, .ref 0), (3, .int x3)], [.ref 0], h)) 1 rfl ?_
  obtain ⟨h1, e1, hM⟩ := am_vS hM
  refine Ev.call (q := (mr_X8_changed, [.ref 0], [])) rfl (E_X8_changed_0 n h h1 e1) ?_
  refine Ev.steps (B := (73, [(0, .ref 0), (3, .int x3)], [.int x3], h1)) 1 rfl ?_
  obtain ⟨rfl, rfl⟩ := am_sp hM
  exact Ev.ret rfl
def B_X8_set_32 (n : Nat) (x1 : Int32) (x2 : Int32) (h : AH) : Option (Int32 × AH) :=
  if x1 = 1 then
    if (M_X8_within x2 40) = 0 then
      some ((-2), h)
    else
      B_X8_set_68 n (h.1 21 4) (am_sf h 21 4 x2)
  else
    some ((-2), h)
set_option maxRecDepth 10000 in
theorem E_B_X8_set_32 (n : Nat) (vR : Int32) (hR : AH) (x1 : Int32) (x2 : Int32) (h : AH) (hM : B_X8_set_32 n x1 x2 h = some (vR, hR)) : Ev none mr_X8_set (32, [(0, .ref 0), (1, .int x1), (2, .int x2)], [], h) (some (.int vR)) hR := by
  unfold B_X8_set_32 at hM
  refine Ev.steps (B := (34, [(0, .ref 0), (1, .int x1), (2, .int x2)], [.int 1, .int x1], h)) 2 rfl ?_
  refine Ev.br (b := decide (¬ x1 = 1)) rfl (fun c1 => ?_) (fun c1 => ?_)
  · have c1 := of_decide_eq_true c1
    rw [if_neg c1] at hM
    refine Ev.steps (B := (67, [(0, .ref 0), (1, .int x1), (2, .int x2)], [.int (-2)], h)) 1 rfl ?_
    obtain ⟨rfl, rfl⟩ := am_sp hM
    exact Ev.ret rfl
  · have c1 := Decidable.of_not_not (of_decide_eq_false c1)
    rw [if_pos c1] at hM
    refine Ev.steps (B := (40, [(0, .ref 0), (1, .int x1), (2, .int x2)], [.int 40, .int x2], h)) 2 rfl ?_
    refine Ev.call (q := (mr_X8_within, [.int x2, .int 40], [])) rfl (E_X8_within x2 40 h) ?_
    refine Ev.br (b := decide ((M_X8_within x2 40) = 0)) rfl (fun c2 => ?_) (fun c2 => ?_)
    · have c2 := of_decide_eq_true c2
      rw [if_pos c2] at hM
      refine Ev.steps (B := (67, [(0, .ref 0), (1, .int x1), (2, .int x2)], [.int (-2)], h)) 1 rfl ?_
      obtain ⟨rfl, rfl⟩ := am_sp hM
      exact Ev.ret rfl
    · have c2 := of_decide_eq_false c2
      rw [if_neg c2] at hM
      refine Ev.steps (B := (68, [(3, .int (h.1 21 4)), (0, .ref 0), (1, .int x1), (2, .int x2)], [], (am_sf h 21 4 x2))) 9 rfl ?_
      refine Ev.lv (lv := [(0, .ref 0), (3, .int (h.1 21 4))]) ⟨rfl, rfl, trivial⟩ rfl rfl ?_
      exact E_B_X8_set_68 n vR hR (h.1 21 4) (am_sf h 21 4 x2) hM
def M_X8_set (n : Nat) (a1 : Int32) (a2 : Int32) (h : AH) : Option (Int32 × AH) :=
  if a1 = 0 then
    if (M_X8_within a2 30) = 0 then
      B_X8_set_32 n a1 a2 h
    else
      B_X8_set_68 n (h.1 21 3) (am_sf h 21 3 a2)
  else
    B_X8_set_32 n a1 a2 h
set_option maxRecDepth 10000 in
theorem E_X8_set_0 (n : Nat) (a1 : Int32) (a2 : Int32) (h : AH) (vR : Int32) (hR : AH) (hM : M_X8_set n a1 a2 h = some (vR, hR)) : Ev none mr_X8_set (0, [(0, .ref 0), (1, .int a1), (2, .int a2)], [], h) (some (.int vR)) hR := by
  unfold M_X8_set at hM
  refine Ev.steps (B := (1, [(0, .ref 0), (1, .int a1), (2, .int a2)], [.int a1], h)) 1 rfl ?_
  refine Ev.br (b := decide (¬ a1 = 0)) rfl (fun c1 => ?_) (fun c1 => ?_)
  · have c1 := of_decide_eq_true c1
    rw [if_neg c1] at hM
    exact E_B_X8_set_32 n vR hR a1 a2 h hM
  · have c1 := Decidable.of_not_not (of_decide_eq_false c1)
    rw [if_pos c1] at hM
    refine Ev.steps (B := (7, [(0, .ref 0), (1, .int a1), (2, .int a2)], [.int 30, .int a2], h)) 2 rfl ?_
    refine Ev.call (q := (mr_X8_within, [.int a2, .int 30], [])) rfl (E_X8_within a2 30 h) ?_
    refine Ev.br (b := decide ((M_X8_within a2 30) = 0)) rfl (fun c2 => ?_) (fun c2 => ?_)
    · have c2 := of_decide_eq_true c2
      rw [if_pos c2] at hM
      exact E_B_X8_set_32 n vR hR a1 a2 h hM
    · have c2 := of_decide_eq_false c2
      rw [if_neg c2] at hM
      refine Ev.steps (B := (68, [(3, .int (h.1 21 3)), (0, .ref 0), (1, .int a1), (2, .int a2)], [], (am_sf h 21 3 a2))) 9 rfl ?_
      refine Ev.lv (lv := [(0, .ref 0), (3, .int (h.1 21 3))]) ⟨rfl, rfl, trivial⟩ rfl rfl ?_
      exact E_B_X8_set_68 n vR hR (h.1 21 3) (am_sf h 21 3 a2) hM
def B_X9_set_58 (x1 : Int32) (x2 : Int32) (x3 : Int32) (y0 : Int32) (h : AH) : Option (Int32 × AH) :=
  if x1 = 1 then
    some (x3, (am_sf (am_sf h 75 10 y0) 75 11 x2))
  else
    some (x3, (am_sf (am_sf h 75 10 y0) 75 11 (h.1 75 11)))
set_option maxRecDepth 10000 in
theorem E_B_X9_set_58 (vR : Int32) (hR : AH) (x1 : Int32) (x2 : Int32) (x3 : Int32) (y0 : Int32) (h : AH) (hM : B_X9_set_58 x1 x2 x3 y0 h = some (vR, hR)) : Ev none mr_X9_set (58, [(0, .ref 75), (1, .int x1), (2, .int x2), (3, .int x3)], [.int y0, .ref 75], h) (some (.int vR)) hR := by
  unfold B_X9_set_58 at hM
  refine Ev.steps (B := (64, [(0, .ref 75), (1, .int x1), (2, .int x2), (3, .int x3)], [.int 1, .int x1, .ref 75], (am_sf h 75 10 y0))) 4 rfl ?_
  refine Ev.br (b := decide (¬ x1 = 1)) rfl (fun c1 => ?_) (fun c1 => ?_)
  · have c1 := of_decide_eq_true c1
    rw [if_neg c1] at hM
    refine Ev.steps (B := (79, [(0, .ref 75), (1, .int x1), (2, .int x2), (3, .int x3)], [.int x3], (am_sf (am_sf h 75 10 y0) 75 11 (h.1 75 11)))) 4 rfl ?_
    obtain ⟨rfl, rfl⟩ := am_sp hM
    exact Ev.ret rfl
  · have c1 := Decidable.of_not_not (of_decide_eq_false c1)
    rw [if_pos c1] at hM
    refine Ev.steps (B := (79, [(0, .ref 75), (1, .int x1), (2, .int x2), (3, .int x3)], [.int x3], (am_sf (am_sf h 75 10 y0) 75 11 x2))) 4 rfl ?_
    obtain ⟨rfl, rfl⟩ := am_sp hM
    exact Ev.ret rfl
def B_X9_set_44 (x1 : Int32) (x2 : Int32) (y0 : Int32) (h : AH) : Option (Int32 × AH) :=
  if x1 = 0 then
    B_X9_set_58 x1 x2 y0 x2 h
  else
    B_X9_set_58 x1 x2 y0 (h.1 75 10) h
set_option maxRecDepth 10000 in
theorem E_B_X9_set_44 (vR : Int32) (hR : AH) (x1 : Int32) (x2 : Int32) (y0 : Int32) (h : AH) (hM : B_X9_set_44 x1 x2 y0 h = some (vR, hR)) : Ev none mr_X9_set (44, [(0, .ref 75), (1, .int x1), (2, .int x2)], [.int y0], h) (some (.int vR)) hR := by
  unfold B_X9_set_44 at hM
  refine Ev.steps (B := (47, [(3, .int y0), (0, .ref 75), (1, .int x1), (2, .int x2)], [.int x1, .ref 75], h)) 3 rfl ?_
  refine Ev.br (b := decide (¬ x1 = 0)) rfl (fun c1 => ?_) (fun c1 => ?_)
  · have c1 := of_decide_eq_true c1
    rw [if_neg c1] at hM
    refine Ev.steps (B := (58, [(3, .int y0), (0, .ref 75), (1, .int x1), (2, .int x2)], [.int (h.1 75 10), .ref 75], h)) 2 rfl ?_
    refine Ev.lv (lv := [(0, .ref 75), (1, .int x1), (2, .int x2), (3, .int y0)]) ⟨rfl, rfl, rfl, rfl, trivial⟩ rfl rfl ?_
    exact E_B_X9_set_58 vR hR x1 x2 y0 (h.1 75 10) h hM
  · have c1 := Decidable.of_not_not (of_decide_eq_false c1)
    rw [if_pos c1] at hM
    refine Ev.steps (B := (58, [(3, .int y0), (0, .ref 75), (1, .int x1), (2, .int x2)], [.int x2, .ref 75], h)) 2 rfl ?_
    refine Ev.lv (lv := [(0, .ref 75), (1, .int x1), (2, .int x2), (3, .int y0)]) ⟨rfl, rfl, rfl, rfl, trivial⟩ rfl rfl ?_
    exact E_B_X9_set_58 vR hR x1 x2 y0 x2 h hM
def B_X9_set_20 (x1 : Int32) (x2 : Int32) (y0 : Int32) (y1 : Int32) (y2 : Int32) (h : AH) : Option (Int32 × AH) :=
  if (M_X9_in y2 y1 y0) = 0 then
    some ((-2), h)
  else
    if x1 = 0 then
      B_X9_set_44 x1 x2 (h.1 75 10) h
    else
      B_X9_set_44 x1 x2 (h.1 75 11) h
set_option maxRecDepth 10000 in
theorem E_B_X9_set_20 (vR : Int32) (hR : AH) (x1 : Int32) (x2 : Int32) (y0 : Int32) (y1 : Int32) (y2 : Int32) (h : AH) (hM : B_X9_set_20 x1 x2 y0 y1 y2 h = some (vR, hR)) : Ev none mr_X9_set (20, [(0, .ref 75), (1, .int x1), (2, .int x2)], [.int y0, .int y1, .int y2], h) (some (.int vR)) hR := by
  unfold B_X9_set_20 at hM
  refine Ev.call (q := (mr_X9_in, [.int y2, .int y1, .int y0], [])) rfl (E_X9_in y2 y1 y0 h) ?_
  refine Ev.br (b := decide (¬ (M_X9_in y2 y1 y0) = 0)) rfl (fun c1 => ?_) (fun c1 => ?_)
  · have c1 := of_decide_eq_true c1
    rw [if_neg c1] at hM
    refine Ev.steps (B := (30, [(0, .ref 75), (1, .int x1), (2, .int x2)], [.int x1], h)) 1 rfl ?_
    refine Ev.br (b := decide (¬ x1 = 0)) rfl (fun c2 => ?_) (fun c2 => ?_)
    · have c2 := of_decide_eq_true c2
      rw [if_neg c2] at hM
      refine Ev.steps (B := (44, [(0, .ref 75), (1, .int x1), (2, .int x2)], [.int (h.1 75 11)], h)) 2 rfl ?_
      exact E_B_X9_set_44 vR hR x1 x2 (h.1 75 11) h hM
    · have c2 := Decidable.of_not_not (of_decide_eq_false c2)
      rw [if_pos c2] at hM
      refine Ev.steps (B := (44, [(0, .ref 75), (1, .int x1), (2, .int x2)], [.int (h.1 75 10)], h)) 3 rfl ?_
      exact E_B_X9_set_44 vR hR x1 x2 (h.1 75 10) h hM
  · have c1 := Decidable.of_not_not (of_decide_eq_false c1)
    rw [if_pos c1] at hM
    refine Ev.steps (B := (28, [(0, .ref 75), (1, .int x1), (2, .int x2)], [.int (-2)], h)) 1 rfl ?_
    obtain ⟨rfl, rfl⟩ := am_sp hM
    exact Ev.ret rfl
def M_X9_set (a1 : Int32) (a2 : Int32) (h : AH) : Option (Int32 × AH) :=
  if (M_X9_isTwo a1) = 0 then
    some ((-2), h)
  else
    if a1 = 0 then
      B_X9_set_20 a1 a2 30 0 a2 h
    else
      B_X9_set_20 a1 a2 40 0 a2 h
set_option maxRecDepth 10000 in
theorem E_X9_set_75 (a1 : Int32) (a2 : Int32) (h : AH) (vR : Int32) (hR : AH) (hM : M_X9_set a1 a2 h = some (vR, hR)) : Ev none mr_X9_set (0, [(0, .ref 75), (1, .int a1), (2, .int a2)], [], h) (some (.int vR)) hR := by
  unfold M_X9_set at hM
  refine Ev.steps (B := (1, [(0, .ref 75), (1, .int a1), (2, .int a2)], [.int a1], h)) 1 rfl ?_
  refine Ev.call (q := (mr_X9_isTwo, [.int a1], [])) rfl (E_X9_isTwo a1 h) ?_
  refine Ev.br (b := decide ((M_X9_isTwo a1) = 0)) rfl (fun c1 => ?_) (fun c1 => ?_)
  · have c1 := of_decide_eq_true c1
    rw [if_pos c1] at hM
    refine Ev.steps (B := (28, [(0, .ref 75), (1, .int a1), (2, .int a2)], [.int (-2)], h)) 1 rfl ?_
    obtain ⟨rfl, rfl⟩ := am_sp hM
    exact Ev.ret rfl
  · have c1 := of_decide_eq_false c1
    rw [if_neg c1] at hM
    refine Ev.steps (B := (10, [(0, .ref 75), (1, .int a1), (2, .int a2)], [.int a1, .int 0, .int a2], h)) 3 rfl ?_
    refine Ev.br (b := decide (¬ a1 = 0)) rfl (fun c2 => ?_) (fun c2 => ?_)
    · have c2 := of_decide_eq_true c2
      rw [if_neg c2] at hM
      refine Ev.steps (B := (20, [(0, .ref 75), (1, .int a1), (2, .int a2)], [.int 40, .int 0, .int a2], h)) 1 rfl ?_
      exact E_B_X9_set_20 vR hR a1 a2 40 0 a2 h hM
    · have c2 := Decidable.of_not_not (of_decide_eq_false c2)
      rw [if_pos c2] at hM
      refine Ev.steps (B := (20, [(0, .ref 75), (1, .int a1), (2, .int a2)], [.int 30, .int 0, .int a2], h)) 2 rfl ?_
      exact E_B_X9_set_20 vR hR a1 a2 30 0 a2 h hM
def M_X8_mayBeEvent (a1 : Int32) (a2 : Int32) (a3 : Int32) : Int32 :=
  if (M_X8_within a1 2) = 0 then
    0
  else
    if (M_X8_within a2 23) = 0 then
      0
    else
      if (M_X8_within a3 9) = 0 then
        0
      else
        1
set_option maxRecDepth 10000 in
theorem E_X8_mayBeEvent (a1 : Int32) (a2 : Int32) (a3 : Int32) (h : AH) : Ev none mr_X8_mayBeEvent (0, [(0, .int a1), (1, .int a2), (2, .int a3)], [], h) (some (.int (M_X8_mayBeEvent a1 a2 a3))) h := by
  unfold M_X8_mayBeEvent
  refine Ev.steps (B := (2, [(0, .int a1), (1, .int a2), (2, .int a3)], [.int 2, .int a1], h)) 2 rfl ?_
  refine Ev.call (q := (mr_X8_within, [.int a1, .int 2], [])) rfl (E_X8_within a1 2 h) ?_
  refine Ev.br (b := decide ((M_X8_within a1 2) = 0)) rfl (fun c1 => ?_) (fun c1 => ?_)
  · have c1 := of_decide_eq_true c1
    rw [if_pos c1]
    refine Ev.steps (B := (31, [(0, .int a1), (1, .int a2), (2, .int a3)], [.int 0], h)) 1 rfl ?_
    exact Ev.ret rfl
  · have c1 := of_decide_eq_false c1
    rw [if_neg c1]
    refine Ev.steps (B := (11, [(0, .int a1), (1, .int a2), (2, .int a3)], [.int 23, .int a2], h)) 2 rfl ?_
    refine Ev.call (q := (mr_X8_within, [.int a2, .int 23], [])) rfl (E_X8_within a2 23 h) ?_
    refine Ev.br (b := decide ((M_X8_within a2 23) = 0)) rfl (fun c2 => ?_) (fun c2 => ?_)
    · have c2 := of_decide_eq_true c2
      rw [if_pos c2]
      refine Ev.steps (B := (31, [(0, .int a1), (1, .int a2), (2, .int a3)], [.int 0], h)) 1 rfl ?_
      exact Ev.ret rfl
    · have c2 := of_decide_eq_false c2
      rw [if_neg c2]
      refine Ev.steps (B := (20, [(0, .int a1), (1, .int a2), (2, .int a3)], [.int 9, .int a3], h)) 2 rfl ?_
      refine Ev.call (q := (mr_X8_within, [.int a3, .int 9], [])) rfl (E_X8_within a3 9 h) ?_
      refine Ev.br (b := decide ((M_X8_within a3 9) = 0)) rfl (fun c3 => ?_) (fun c3 => ?_)
      · have c3 := of_decide_eq_true c3
        rw [if_pos c3]
        refine Ev.steps (B := (31, [(0, .int a1), (1, .int a2), (2, .int a3)], [.int 0], h)) 1 rfl ?_
        exact Ev.ret rfl
      · have c3 := of_decide_eq_false c3
        rw [if_neg c3]
        refine Ev.steps (B := (31, [(0, .int a1), (1, .int a2), (2, .int a3)], [.int 1], h)) 2 rfl ?_
        exact Ev.ret rfl
set_option maxRecDepth 10000 in
theorem Z_X8_mayBeEvent (a1 : Int32) (a2 : Int32) (a3 : Int32) : am_b01 (M_X8_mayBeEvent a1 a2 a3) = true := by
  unfold M_X8_mayBeEvent
  split
  · rfl
  · split
    · rfl
    · split
      · rfl
      · rfl
set_option maxRecDepth 10000 in
theorem E_X1_add_13 (a1 : Int32) (a2 : Int32) (a3 : Int32) (h : AH) (hR : AH) (hM : M_X1_add 13 a1 a2 a3 h = some hR) : Ev none mr_X1_add (0, [(0, .ref 13), (1, .int a1), (2, .int a2), (3, .int a3)], [], h) none hR := by
  unfold M_X1_add at hM
  refine Ev.steps (B := (4, [(0, .ref 13), (1, .int a1), (2, .int a2), (3, .int a3)], [.int (h.1 13 3)], h)) 2 rfl ?_
  refine Ev.br (b := decide ((h.1 13 3) < 0)) rfl (fun c1 => ?_) (fun c1 => ?_)
  · have c1 := of_decide_eq_true c1
    rw [if_pos c1] at hM
    obtain rfl := am_s1 hM
    exact Ev.ret rfl
  · have c1 := of_decide_eq_false c1
    rw [if_neg c1] at hM
    refine Ev.steps (B := (13, [(0, .ref 13), (1, .int a1), (2, .int a2), (3, .int a3)], [.int 8, .int (h.1 13 3)], h)) 3 rfl ?_
    refine Ev.br (b := decide ((h.1 13 3) < 8)) rfl (fun c2 => ?_) (fun c2 => ?_)
    · have c2 := of_decide_eq_true c2
      rw [if_pos c2] at hM
      refine Ev.steps (B := (26, [(0, .ref 13), (1, .int a1), (2, .int a2), (3, .int a3)], [.int a1, .int (h.1 13 3), .ref (13 + 1)], h)) 5 rfl ?_
      obtain ⟨g3, hM⟩ := am_gS hM
      refine Ev.g (B := (27, [(0, .ref 13), (1, .int a1), (2, .int a2), (3, .int a3)], [], (am_sa h (13 + 1) (upd (h.2.1 (13 + 1)) (Int32.toNatClampNeg (h.1 13 3)) a1)))) g3 rfl ?_
      refine Ev.steps (B := (36, [(0, .ref 13), (1, .int a1), (2, .int a2), (3, .int a3)], [.int a2, .int (h.1 13 3), .ref (13 + 2)], (am_sa h (13 + 1) (upd (h.2.1 (13 + 1)) (Int32.toNatClampNeg (h.1 13 3)) a1)))) 5 rfl ?_
      obtain ⟨g4, hM⟩ := am_gS hM
      refine Ev.g (B := (37, [(0, .ref 13), (1, .int a1), (2, .int a2), (3, .int a3)], [], (am_sa (am_sa h (13 + 1) (upd (h.2.1 (13 + 1)) (Int32.toNatClampNeg (h.1 13 3)) a1)) (13 + 2) (upd (h.2.1 (13 + 2)) (Int32.toNatClampNeg (h.1 13 3)) a2)))) g4 rfl ?_
      refine Ev.steps (B := (46, [(0, .ref 13), (1, .int a1), (2, .int a2), (3, .int a3)], [.int a3, .int (h.1 13 3), .ref (13 + 3)], (am_sa (am_sa h (13 + 1) (upd (h.2.1 (13 + 1)) (Int32.toNatClampNeg (h.1 13 3)) a1)) (13 + 2) (upd (h.2.1 (13 + 2)) (Int32.toNatClampNeg (h.1 13 3)) a2)))) 5 rfl ?_
      obtain ⟨g5, hM⟩ := am_gS hM
      refine Ev.g (B := (47, [(0, .ref 13), (1, .int a1), (2, .int a2), (3, .int a3)], [], (am_sa (am_sa (am_sa h (13 + 1) (upd (h.2.1 (13 + 1)) (Int32.toNatClampNeg (h.1 13 3)) a1)) (13 + 2) (upd (h.2.1 (13 + 2)) (Int32.toNatClampNeg (h.1 13 3)) a2)) (13 + 3) (upd (h.2.1 (13 + 3)) (Int32.toNatClampNeg (h.1 13 3)) a3)))) g5 rfl ?_
      refine Ev.steps (B := (57, [(0, .ref 13), (1, .int a1), (2, .int a2), (3, .int a3)], [], (am_sf (am_sa (am_sa (am_sa h (13 + 1) (upd (h.2.1 (13 + 1)) (Int32.toNatClampNeg (h.1 13 3)) a1)) (13 + 2) (upd (h.2.1 (13 + 2)) (Int32.toNatClampNeg (h.1 13 3)) a2)) (13 + 3) (upd (h.2.1 (13 + 3)) (Int32.toNatClampNeg (h.1 13 3)) a3)) 13 3 ((h.1 13 3) + 1)))) 6 rfl ?_
      obtain rfl := am_s1 hM
      exact Ev.ret rfl
    · have c2 := of_decide_eq_false c2
      rw [if_neg c2] at hM
      obtain rfl := am_s1 hM
      exact Ev.ret rfl
def M_X8_event (n : Nat) (a1 : Int32) (a2 : Int32) (a3 : Int32) (h : AH) : Option (Int32 × AH) :=
  if (M_X8_mayBeEvent a1 a2 a3) = 0 then
    some ((-2), h)
  else
    if (h.1 13 3) < 8 then
      am_v (M_X1_add 13 a2 a1 a3 h) fun h1 =>
      am_v (M_X8_changed n h1) fun h2 =>
      some ((h2.1 13 3), h2)
    else
      some ((-4), h)
set_option maxRecDepth 10000 in
theorem E_X8_event_0 (n : Nat) (a1 : Int32) (a2 : Int32) (a3 : Int32) (h : AH) (vR : Int32) (hR : AH) (hM : M_X8_event n a1 a2 a3 h = some (vR, hR)) : Ev none mr_X8_event (0, [(0, .ref 0), (1, .int a1), (2, .int a2), (3, .int a3)], [], h) (some (.int vR)) hR := by
  unfold M_X8_event at hM
  refine Ev.steps (B := (3, [(0, .ref 0), (1, .int a1), (2, .int a2), (3, .int a3)], [.int a3, .int a2, .int a1], h)) 3 rfl ?_
  refine Ev.call (q := (mr_X8_mayBeEvent, [.int a1, .int a2, .int a3], [])) rfl (E_X8_mayBeEvent a1 a2 a3 h) ?_
  refine Ev.br (b := decide (¬ (M_X8_mayBeEvent a1 a2 a3) = 0)) rfl (fun c1 => ?_) (fun c1 => ?_)
  · have c1 := of_decide_eq_true c1
    rw [if_neg c1] at hM
    refine Ev.steps (B := (21, [(0, .ref 0), (1, .int a1), (2, .int a2), (3, .int a3)], [.int 8, .int (h.1 13 3)], h)) 4 rfl ?_
    refine Ev.br (b := decide ((h.1 13 3) < 8)) rfl (fun c2 => ?_) (fun c2 => ?_)
    · have c2 := of_decide_eq_true c2
      rw [if_pos c2] at hM
      refine Ev.steps (B := (34, [(0, .ref 0), (1, .int a1), (2, .int a2), (3, .int a3)], [.int a3, .int a1, .int a2, .ref 13], h)) 5 rfl ?_
      obtain ⟨h1, e3, hM⟩ := am_vS hM
      refine Ev.call (q := (mr_X1_add, [.ref 13, .int a2, .int a1, .int a3], [])) rfl (E_X1_add_13 a2 a1 a3 h h1 e3) ?_
      refine Ev.steps (B := (38, [(0, .ref 0), (1, .int a1), (2, .int a2), (3, .int a3)], [.ref 0], h1)) 1 rfl ?_
      obtain ⟨h2, e4, hM⟩ := am_vS hM
      refine Ev.call (q := (mr_X8_changed, [.ref 0], [])) rfl (E_X8_changed_0 n h1 h2 e4) ?_
      refine Ev.steps (B := (48, [(0, .ref 0), (1, .int a1), (2, .int a2), (3, .int a3)], [.int (h2.1 13 3)], h2)) 3 rfl ?_
      obtain ⟨rfl, rfl⟩ := am_sp hM
      exact Ev.ret rfl
    · have c2 := of_decide_eq_false c2
      rw [if_neg c2] at hM
      refine Ev.steps (B := (26, [(0, .ref 0), (1, .int a1), (2, .int a2), (3, .int a3)], [.int (-4)], h)) 1 rfl ?_
      obtain ⟨rfl, rfl⟩ := am_sp hM
      exact Ev.ret rfl
  · have c1 := Decidable.of_not_not (of_decide_eq_false c1)
    rw [if_pos c1] at hM
    refine Ev.steps (B := (11, [(0, .ref 0), (1, .int a1), (2, .int a2), (3, .int a3)], [.int (-2)], h)) 1 rfl ?_
    obtain ⟨rfl, rfl⟩ := am_sp hM
    exact Ev.ret rfl
def M_X9_event (a1 : Int32) (a2 : Int32) (a3 : Int32) (h : AH) : Option (Int32 × AH) :=
  if (M_X9_isThree a1) = 0 then
    some ((-2), h)
  else
    if (M_X9_isMinute a2) = 0 then
      some ((-2), h)
    else
      if (M_X9_in a3 0 9) = 0 then
        some ((-2), h)
      else
        if (h.1 75 12) = 8 then
          some ((-4), h)
        else
          bif (am_in (h.1 75 12) 8) then
            bif (am_in (h.1 75 12) 8) then
              bif (am_in (h.1 75 12) 8) then
                some (((h.1 75 12) + 1), (am_sf (am_sa (am_sa (am_sa h 84 (upd (h.2.1 84) (Int32.toNatClampNeg (h.1 75 12)) a1)) 85 (upd (h.2.1 85) (Int32.toNatClampNeg (h.1 75 12)) a2)) 86 (upd (h.2.1 86) (Int32.toNatClampNeg (h.1 75 12)) a3)) 75 12 ((h.1 75 12) + 1)))
              else none
            else none
          else none
set_option maxRecDepth 10000 in
theorem E_X9_event_75 (a1 : Int32) (a2 : Int32) (a3 : Int32) (h : AH) (vR : Int32) (hR : AH) (hM : M_X9_event a1 a2 a3 h = some (vR, hR)) : Ev none mr_X9_event (0, [(0, .ref 75), (1, .int a1), (2, .int a2), (3, .int a3)], [], h) (some (.int vR)) hR := by
  unfold M_X9_event at hM
  refine Ev.steps (B := (1, [(0, .ref 75), (1, .int a1), (2, .int a2), (3, .int a3)], [.int a1], h)) 1 rfl ?_
  refine Ev.call (q := (mr_X9_isThree, [.int a1], [])) rfl (E_X9_isThree a1 h) ?_
  refine Ev.br (b := decide ((M_X9_isThree a1) = 0)) rfl (fun c1 => ?_) (fun c1 => ?_)
  · have c1 := of_decide_eq_true c1
    rw [if_pos c1] at hM
    refine Ev.steps (B := (26, [(0, .ref 75), (1, .int a1), (2, .int a2), (3, .int a3)], [.int (-2)], h)) 1 rfl ?_
    obtain ⟨rfl, rfl⟩ := am_sp hM
    exact Ev.ret rfl
  · have c1 := of_decide_eq_false c1
    rw [if_neg c1] at hM
    refine Ev.steps (B := (8, [(0, .ref 75), (1, .int a1), (2, .int a2), (3, .int a3)], [.int a2], h)) 1 rfl ?_
    refine Ev.call (q := (mr_X9_isMinute, [.int a2], [])) rfl (E_X9_isMinute a2 h) ?_
    refine Ev.br (b := decide ((M_X9_isMinute a2) = 0)) rfl (fun c2 => ?_) (fun c2 => ?_)
    · have c2 := of_decide_eq_true c2
      rw [if_pos c2] at hM
      refine Ev.steps (B := (26, [(0, .ref 75), (1, .int a1), (2, .int a2), (3, .int a3)], [.int (-2)], h)) 1 rfl ?_
      obtain ⟨rfl, rfl⟩ := am_sp hM
      exact Ev.ret rfl
    · have c2 := of_decide_eq_false c2
      rw [if_neg c2] at hM
      refine Ev.steps (B := (18, [(0, .ref 75), (1, .int a1), (2, .int a2), (3, .int a3)], [.int 9, .int 0, .int a3], h)) 3 rfl ?_
      refine Ev.call (q := (mr_X9_in, [.int a3, .int 0, .int 9], [])) rfl (E_X9_in a3 0 9 h) ?_
      refine Ev.br (b := decide (¬ (M_X9_in a3 0 9) = 0)) rfl (fun c3 => ?_) (fun c3 => ?_)
      · have c3 := of_decide_eq_true c3
        rw [if_neg c3] at hM
        refine Ev.steps (B := (33, [(0, .ref 75), (1, .int a1), (2, .int a2), (3, .int a3)], [.int 8, .int (h.1 75 12)], h)) 3 rfl ?_
        refine Ev.br (b := decide (¬ (h.1 75 12) = 8)) rfl (fun c4 => ?_) (fun c4 => ?_)
        · have c4 := of_decide_eq_true c4
          rw [if_neg c4] at hM
          refine Ev.steps (B := (48, [(0, .ref 75), (1, .int a1), (2, .int a2), (3, .int a3)], [.int a1, .int (h.1 75 12), .ref 84], h)) 5 rfl ?_
          obtain ⟨g5, hM⟩ := am_gS hM
          refine Ev.g (B := (49, [(0, .ref 75), (1, .int a1), (2, .int a2), (3, .int a3)], [], (am_sa h 84 (upd (h.2.1 84) (Int32.toNatClampNeg (h.1 75 12)) a1)))) g5 rfl ?_
          refine Ev.steps (B := (58, [(0, .ref 75), (1, .int a1), (2, .int a2), (3, .int a3)], [.int a2, .int (h.1 75 12), .ref 85], (am_sa h 84 (upd (h.2.1 84) (Int32.toNatClampNeg (h.1 75 12)) a1)))) 5 rfl ?_
          obtain ⟨g6, hM⟩ := am_gS hM
          refine Ev.g (B := (59, [(0, .ref 75), (1, .int a1), (2, .int a2), (3, .int a3)], [], (am_sa (am_sa h 84 (upd (h.2.1 84) (Int32.toNatClampNeg (h.1 75 12)) a1)) 85 (upd (h.2.1 85) (Int32.toNatClampNeg (h.1 75 12)) a2)))) g6 rfl ?_
          refine Ev.steps (B := (68, [(0, .ref 75), (1, .int a1), (2, .int a2), (3, .int a3)], [.int a3, .int (h.1 75 12), .ref 86], (am_sa (am_sa h 84 (upd (h.2.1 84) (Int32.toNatClampNeg (h.1 75 12)) a1)) 85 (upd (h.2.1 85) (Int32.toNatClampNeg (h.1 75 12)) a2)))) 5 rfl ?_
          obtain ⟨g7, hM⟩ := am_gS hM
          refine Ev.g (B := (69, [(0, .ref 75), (1, .int a1), (2, .int a2), (3, .int a3)], [], (am_sa (am_sa (am_sa h 84 (upd (h.2.1 84) (Int32.toNatClampNeg (h.1 75 12)) a1)) 85 (upd (h.2.1 85) (Int32.toNatClampNeg (h.1 75 12)) a2)) 86 (upd (h.2.1 86) (Int32.toNatClampNeg (h.1 75 12)) a3)))) g7 rfl ?_
          refine Ev.steps (B := (83, [(0, .ref 75), (1, .int a1), (2, .int a2), (3, .int a3)], [.int ((h.1 75 12) + 1)], (am_sf (am_sa (am_sa (am_sa h 84 (upd (h.2.1 84) (Int32.toNatClampNeg (h.1 75 12)) a1)) 85 (upd (h.2.1 85) (Int32.toNatClampNeg (h.1 75 12)) a2)) 86 (upd (h.2.1 86) (Int32.toNatClampNeg (h.1 75 12)) a3)) 75 12 ((h.1 75 12) + 1)))) 8 rfl ?_
          obtain ⟨rfl, rfl⟩ := am_sp hM
          exact Ev.ret rfl
        · have c4 := Decidable.of_not_not (of_decide_eq_false c4)
          rw [if_pos c4] at hM
          refine Ev.steps (B := (38, [(0, .ref 75), (1, .int a1), (2, .int a2), (3, .int a3)], [.int (-4)], h)) 1 rfl ?_
          obtain ⟨rfl, rfl⟩ := am_sp hM
          exact Ev.ret rfl
      · have c3 := Decidable.of_not_not (of_decide_eq_false c3)
        rw [if_pos c3] at hM
        refine Ev.steps (B := (26, [(0, .ref 75), (1, .int a1), (2, .int a2), (3, .int a3)], [.int (-2)], h)) 1 rfl ?_
        obtain ⟨rfl, rfl⟩ := am_sp hM
        exact Ev.ret rfl
def M_X8_back (n : Nat) (h : AH) : Option (Int32 × AH) :=
  if 0 < (h.1 13 3) then
    am_v (M_X8_changed n (am_sf h 13 3 ((h.1 13 3) - 1))) fun h1 =>
    some ((h1.1 13 3), h1)
  else
    some ((-3), h)
set_option maxRecDepth 10000 in
theorem E_X8_back_0 (n : Nat) (h : AH) (vR : Int32) (hR : AH) (hM : M_X8_back n h = some (vR, hR)) : Ev none mr_X8_back (0, [(0, .ref 0)], [], h) (some (.int vR)) hR := by
  unfold M_X8_back at hM
  refine Ev.steps (B := (7, [(0, .ref 0)], [.int (h.1 13 3)], h)) 3 rfl ?_
  refine Ev.br (b := decide (0 < (h.1 13 3))) rfl (fun c1 => ?_) (fun c1 => ?_)
  · have c1 := of_decide_eq_true c1
    rw [if_pos c1] at hM
    refine Ev.steps (B := (27, [(0, .ref 0)], [.ref 0], (am_sf h 13 3 ((h.1 13 3) - 1)))) 8 rfl ?_
    obtain ⟨h1, e2, hM⟩ := am_vS hM
    refine Ev.call (q := (mr_X8_changed, [.ref 0], [])) rfl (E_X8_changed_0 n (am_sf h 13 3 ((h.1 13 3) - 1)) h1 e2) ?_
    refine Ev.steps (B := (37, [(0, .ref 0)], [.int (h1.1 13 3)], h1)) 3 rfl ?_
    obtain ⟨rfl, rfl⟩ := am_sp hM
    exact Ev.ret rfl
  · have c1 := of_decide_eq_false c1
    rw [if_neg c1] at hM
    refine Ev.steps (B := (12, [(0, .ref 0)], [.int (-3)], h)) 1 rfl ?_
    obtain ⟨rfl, rfl⟩ := am_sp hM
    exact Ev.ret rfl
def M_X9_back (h : AH) : Option (Int32 × AH) :=
  if (h.1 75 12) = 0 then
    some ((-3), h)
  else
    some (((h.1 75 12) - 1), (am_sf h 75 12 ((h.1 75 12) - 1)))
set_option maxRecDepth 10000 in
theorem E_X9_back_75 (h : AH) (vR : Int32) (hR : AH) (hM : M_X9_back h = some (vR, hR)) : Ev none mr_X9_back (0, [(0, .ref 75)], [], h) (some (.int vR)) hR := by
  unfold M_X9_back at hM
  refine Ev.steps (B := (4, [(0, .ref 75)], [.int (h.1 75 12)], h)) 2 rfl ?_
  refine Ev.br (b := decide (¬ (h.1 75 12) = 0)) rfl (fun c1 => ?_) (fun c1 => ?_)
  · have c1 := of_decide_eq_true c1
    rw [if_neg c1] at hM
    refine Ev.steps (B := (24, [(0, .ref 75)], [.int ((h.1 75 12) - 1)], (am_sf h 75 12 ((h.1 75 12) - 1)))) 8 rfl ?_
    obtain ⟨rfl, rfl⟩ := am_sp hM
    exact Ev.ret rfl
  · have c1 := Decidable.of_not_not (of_decide_eq_false c1)
    rw [if_pos c1] at hM
    refine Ev.steps (B := (9, [(0, .ref 75)], [.int (-3)], h)) 1 rfl ?_
    obtain ⟨rfl, rfl⟩ := am_sp hM
    exact Ev.ret rfl
def M_X8_found (a1 : Int32) (h : AH) : Option (Int32 × AH) :=
  some (((-10) - a1), (am_sf h 0 12 a1))
set_option maxRecDepth 10000 in
theorem E_X8_found_0 (a1 : Int32) (h : AH) (vR : Int32) (hR : AH) (hM : M_X8_found a1 h = some (vR, hR)) : Ev none mr_X8_found (0, [(0, .ref 0), (1, .int a1)], [], h) (some (.int vR)) hR := by
  unfold M_X8_found at hM
  refine Ev.steps (B := (9, [(0, .ref 0), (1, .int a1)], [.int ((-10) - a1)], (am_sf h 0 12 a1))) 6 rfl ?_
  obtain ⟨rfl, rfl⟩ := am_sp hM
  exact Ev.ret rfl
def M_X5_has (r0 : Nat) (a1 : Int32) (h : AH) : Int32 :=
  if a1 < 0 then
    0
  else
    if (h.1 r0 3) ≤ a1 then
      0
    else
      if 60 ≤ a1 then
        0
      else
        1
set_option maxRecDepth 10000 in
theorem E_X5_has_67 (a1 : Int32) (h : AH) : Ev none mr_X5_has (0, [(0, .ref 67), (1, .int a1)], [], h) (some (.int (M_X5_has 67 a1 h))) h := by
  unfold M_X5_has
  refine Ev.steps (B := (1, [(0, .ref 67), (1, .int a1)], [.int a1], h)) 1 rfl ?_
  refine Ev.br (b := decide (a1 < 0)) rfl (fun c1 => ?_) (fun c1 => ?_)
  · have c1 := of_decide_eq_true c1
    rw [if_pos c1]
    refine Ev.steps (B := (23, [(0, .ref 67), (1, .int a1)], [.int 0], h)) 1 rfl ?_
    exact Ev.ret rfl
  · have c1 := of_decide_eq_false c1
    rw [if_neg c1]
    refine Ev.steps (B := (9, [(0, .ref 67), (1, .int a1)], [.int (h.1 67 3), .int a1], h)) 3 rfl ?_
    refine Ev.br (b := decide ((h.1 67 3) ≤ a1)) rfl (fun c2 => ?_) (fun c2 => ?_)
    · have c2 := of_decide_eq_true c2
      rw [if_pos c2]
      refine Ev.steps (B := (23, [(0, .ref 67), (1, .int a1)], [.int 0], h)) 1 rfl ?_
      exact Ev.ret rfl
    · have c2 := of_decide_eq_false c2
      rw [if_neg c2]
      refine Ev.steps (B := (15, [(0, .ref 67), (1, .int a1)], [.int 60, .int a1], h)) 2 rfl ?_
      refine Ev.br (b := decide (60 ≤ a1)) rfl (fun c3 => ?_) (fun c3 => ?_)
      · have c3 := of_decide_eq_true c3
        rw [if_pos c3]
        refine Ev.steps (B := (23, [(0, .ref 67), (1, .int a1)], [.int 0], h)) 1 rfl ?_
        exact Ev.ret rfl
      · have c3 := of_decide_eq_false c3
        rw [if_neg c3]
        refine Ev.steps (B := (23, [(0, .ref 67), (1, .int a1)], [.int 1], h)) 2 rfl ?_
        exact Ev.ret rfl
set_option maxRecDepth 10000 in
theorem Z_X5_has (r0 : Nat) (a1 : Int32) (h : AH) : am_b01 (M_X5_has r0 a1 h) = true := by
  unfold M_X5_has
  split
  · rfl
  · split
    · rfl
    · split
      · rfl
      · rfl
def M_X5_item (r0 : Nat) (a1 : Int32) (h : AH) : Option Int32 :=
  if (M_X5_has r0 a1 h) = 0 then
    some 0
  else
    bif (am_in a1 60) then
      some ((h.2.1 (r0 + 1)) (Int32.toNatClampNeg a1))
    else none
set_option maxRecDepth 10000 in
theorem E_X5_item_67 (a1 : Int32) (h : AH) (vR : Int32) (hM : M_X5_item 67 a1 h = some vR) : Ev none mr_X5_item (0, [(0, .ref 67), (1, .int a1)], [], h) (some (.int vR)) h := by
  unfold M_X5_item at hM
  refine Ev.steps (B := (2, [(0, .ref 67), (1, .int a1)], [.int a1, .ref 67], h)) 2 rfl ?_
  refine Ev.call (q := (mr_X5_has, [.ref 67, .int a1], [])) rfl (E_X5_has_67 a1 h) ?_
  refine Ev.br (b := decide ((M_X5_has 67 a1 h) = 0)) rfl (fun c1 => ?_) (fun c1 => ?_)
  · have c1 := of_decide_eq_true c1
    rw [if_pos c1] at hM
    refine Ev.steps (B := (18, [(0, .ref 67), (1, .int a1)], [.int 0], h)) 1 rfl ?_
    obtain rfl := am_s1 hM
    exact Ev.ret rfl
  · have c1 := of_decide_eq_false c1
    rw [if_neg c1] at hM
    refine Ev.steps (B := (13, [(0, .ref 67), (1, .int a1)], [.int a1, .ref (67 + 1)], h)) 3 rfl ?_
    obtain ⟨g2, hM⟩ := am_gS hM
    refine Ev.g (B := (14, [(0, .ref 67), (1, .int a1)], [.int ((h.2.1 (67 + 1)) (Int32.toNatClampNeg a1))], h)) g2 rfl ?_
    refine Ev.steps (B := (18, [(0, .ref 67), (1, .int a1)], [.int ((h.2.1 (67 + 1)) (Int32.toNatClampNeg a1))], h)) 1 rfl ?_
    obtain rfl := am_s1 hM
    exact Ev.ret rfl
def B_X8_read_122 (n : Nat) (x3 : Int32) (h : AH) : Option (Int32 × AH) :=
  am_v (M_X8_changed n h) fun h1 =>
  some (((h1.1 13 3) - x3), h1)
set_option maxRecDepth 10000 in
theorem E_B_X8_read_122 (n : Nat) (vR : Int32) (hR : AH) (x3 : Int32) (h : AH) (hM : B_X8_read_122 n x3 h = some (vR, hR)) : Ev none mr_X8_read (122, [(0, .ref 0), (3, .int x3)], [], h) (some (.int vR)) hR := by
  unfold B_X8_read_122 at hM
  refine Ev.steps (B := (123, [(0, .ref 0), (3, .int x3)], [.ref 0], h)) 1 rfl ?_
  obtain ⟨h1, e1, hM⟩ := am_vS hM
  refine Ev.call (q := (mr_X8_changed, [.ref 0], [])) rfl (E_X8_changed_0 n h h1 e1) ?_
  refine Ev.steps (B := (135, [(0, .ref 0), (3, .int x3)], [.int ((h1.1 13 3) - x3)], h1)) 5 rfl ?_
  obtain ⟨rfl, rfl⟩ := am_sp hM
  exact Ev.ret rfl
def L_X8_read_37 (n : Nat) : Nat → Nat → Int32 → Int32 → AH → Option (Int32 × AH)
  | 0, _, _, _, _ => none
  | m + 1, q2, x3, x4, h =>
    if (h.1 q2 3) ≤ (x4 + 2) then
      B_X8_read_122 n x3 h
    else
      if 8 ≤ (h.1 13 3) then
        B_X8_read_122 n x3 h
      else
        am_o (M_X5_item q2 x4 h) fun v1 =>
        am_o (M_X5_item q2 (x4 + 1) h) fun v2 =>
        am_o (M_X5_item q2 (x4 + 2) h) fun v3 =>
        if (M_X8_mayBeEvent v1 v2 v3) = 0 then
          B_X8_read_122 n x3 h
        else
          am_v (M_X1_add 13 v2 v1 v3 h) fun h4 =>
          L_X8_read_37 n m q2 x3 (x4 + 3) h4
set_option maxRecDepth 10000 in
theorem E_L_X8_read_37_67 (n : Nat) (vR : Int32) (hR : AH) : ∀ (m : Nat) (x3 : Int32) (x4 : Int32) (h : AH), L_X8_read_37 n m 67 x3 x4 h = some (vR, hR) → Ev none mr_X8_read (37, [(0, .ref 0), (2, .ref 67), (3, .int x3), (4, .int x4)], [], h) (some (.int vR)) hR := by
  intro m
  induction m with
  | zero =>
    intro x3 x4 h hM
    exact (am_no hM).elim
  | succ m ih =>
    intro x3 x4 h hM
    rw [L_X8_read_37] at hM
    refine Ev.steps (B := (45, [(0, .ref 0), (2, .ref 67), (3, .int x3), (4, .int x4)], [.int (h.1 67 3), .int (x4 + 2)], h)) 5 rfl ?_
    refine Ev.br (b := decide ((h.1 67 3) ≤ (x4 + 2))) rfl (fun c1 => ?_) (fun c1 => ?_)
    · have c1 := of_decide_eq_true c1
      rw [if_pos c1] at hM
      refine Ev.lv (lv := [(0, .ref 0), (3, .int x3)]) ⟨rfl, rfl, trivial⟩ rfl rfl ?_
      exact E_B_X8_read_122 n vR hR x3 h hM
    · have c1 := of_decide_eq_false c1
      rw [if_neg c1] at hM
      refine Ev.steps (B := (57, [(0, .ref 0), (2, .ref 67), (3, .int x3), (4, .int x4)], [.int 8, .int (h.1 13 3)], h)) 4 rfl ?_
      refine Ev.br (b := decide (8 ≤ (h.1 13 3))) rfl (fun c2 => ?_) (fun c2 => ?_)
      · have c2 := of_decide_eq_true c2
        rw [if_pos c2] at hM
        refine Ev.lv (lv := [(0, .ref 0), (3, .int x3)]) ⟨rfl, rfl, trivial⟩ rfl rfl ?_
        exact E_B_X8_read_122 n vR hR x3 h hM
      · have c2 := of_decide_eq_false c2
        rw [if_neg c2] at hM
        refine Ev.steps (B := (63, [(0, .ref 0), (2, .ref 67), (3, .int x3), (4, .int x4)], [.int x4, .ref 67], h)) 2 rfl ?_
        obtain ⟨v1, e3, hM⟩ := am_oS hM
        refine Ev.call (q := (mr_X5_item, [.ref 67, .int x4], [])) rfl (E_X5_item_67 x4 h v1 e3) ?_
        refine Ev.steps (B := (73, [(5, .int v1), (0, .ref 0), (2, .ref 67), (3, .int x3), (4, .int x4)], [.int (x4 + 1), .ref 67], h)) 5 rfl ?_
        obtain ⟨v2, e4, hM⟩ := am_oS hM
        refine Ev.call (q := (mr_X5_item, [.ref 67, .int (x4 + 1)], [])) rfl (E_X5_item_67 (x4 + 1) h v2 e4) ?_
        refine Ev.steps (B := (83, [(6, .int v2), (5, .int v1), (0, .ref 0), (2, .ref 67), (3, .int x3), (4, .int x4)], [.int (x4 + 2), .ref 67], h)) 5 rfl ?_
        obtain ⟨v3, e5, hM⟩ := am_oS hM
        refine Ev.call (q := (mr_X5_item, [.ref 67, .int (x4 + 2)], [])) rfl (E_X5_item_67 (x4 + 2) h v3 e5) ?_
        refine Ev.steps (B := (94, [(7, .int v3), (6, .int v2), (5, .int v1), (0, .ref 0), (2, .ref 67), (3, .int x3), (4, .int x4)], [.int v3, .int v2, .int v1], h)) 4 rfl ?_
        refine Ev.call (q := (mr_X8_mayBeEvent, [.int v1, .int v2, .int v3], [])) rfl (E_X8_mayBeEvent v1 v2 v3 h) ?_
        refine Ev.br (b := decide (¬ (M_X8_mayBeEvent v1 v2 v3) = 0)) rfl (fun c6 => ?_) (fun c6 => ?_)
        · have c6 := of_decide_eq_true c6
          rw [if_neg c6] at hM
          refine Ev.steps (B := (113, [(7, .int v3), (6, .int v2), (5, .int v1), (0, .ref 0), (2, .ref 67), (3, .int x3), (4, .int x4)], [.int v3, .int v1, .int v2, .ref 13], h)) 5 rfl ?_
          obtain ⟨h4, e7, hM⟩ := am_vS hM
          refine Ev.call (q := (mr_X1_add, [.ref 13, .int v2, .int v1, .int v3], [])) rfl (E_X1_add_13 v2 v1 v3 h h4 e7) ?_
          refine Ev.steps (B := (37, [(4, .int (x4 + 3)), (7, .int v3), (6, .int v2), (5, .int v1), (0, .ref 0), (2, .ref 67), (3, .int x3)], [], h4)) 2 rfl ?_
          refine Ev.lv (lv := [(0, .ref 0), (2, .ref 67), (3, .int x3), (4, .int (x4 + 3))]) ⟨rfl, rfl, rfl, rfl, trivial⟩ rfl rfl ?_
          exact ih x3 (x4 + 3) h4 hM
        · have c6 := Decidable.of_not_not (of_decide_eq_false c6)
          rw [if_pos c6] at hM
          refine Ev.steps (B := (122, [(7, .int v3), (6, .int v2), (5, .int v1), (0, .ref 0), (2, .ref 67), (3, .int x3), (4, .int x4)], [], h)) 1 rfl ?_
          refine Ev.lv (lv := [(0, .ref 0), (3, .int x3)]) ⟨rfl, rfl, trivial⟩ rfl rfl ?_
          exact E_B_X8_read_122 n vR hR x3 h hM
def B_X8_read_6 (n : Nat) (q2 : Nat) (h : AH) : Option (Int32 × AH) :=
  if (h.1 q2 1) = 0 then
    L_X8_read_37 n n q2 (h.1 13 3) 0 h
  else
    am_b (M_X8_found 1 h) fun v2 h1 =>
    some (v2, h1)
set_option maxRecDepth 10000 in
theorem E_B_X8_read_6_67 (n : Nat) (vR : Int32) (hR : AH) (h : AH) (hM : B_X8_read_6 n 67 h = some (vR, hR)) : Ev none mr_X8_read (6, [(0, .ref 0), (2, .ref 67)], [], h) (some (.int vR)) hR := by
  unfold B_X8_read_6 at hM
  refine Ev.steps (B := (17, [(0, .ref 0), (2, .ref 67)], [.int (h.1 67 1)], h)) 4 rfl ?_
  refine Ev.br (b := decide ((h.1 67 1) = 0)) rfl (fun c1 => ?_) (fun c1 => ?_)
  · have c1 := of_decide_eq_true c1
    rw [if_pos c1] at hM
    refine Ev.steps (B := (37, [(4, .int 0), (3, .int (h.1 13 3)), (0, .ref 0), (2, .ref 67)], [], h)) 6 rfl ?_
    refine Ev.lv (lv := [(0, .ref 0), (2, .ref 67), (3, .int (h.1 13 3)), (4, .int 0)]) ⟨rfl, rfl, rfl, rfl, trivial⟩ rfl rfl ?_
    exact E_L_X8_read_37_67 n vR hR n (h.1 13 3) 0 h hM
  · have c1 := of_decide_eq_false c1
    rw [if_neg c1] at hM
    refine Ev.steps (B := (22, [(0, .ref 0), (2, .ref 67)], [.int 1, .ref 0], h)) 2 rfl ?_
    obtain ⟨v2, h1, e2, hM⟩ := am_bS hM
    refine Ev.call (q := (mr_X8_found, [.ref 0, .int 1], [])) rfl (E_X8_found_0 1 h v2 h1 e2) ?_
    obtain ⟨rfl, rfl⟩ := am_sp hM
    exact Ev.ret rfl
set_option maxRecDepth 10000 in
theorem E_X5_has_69 (a1 : Int32) (h : AH) : Ev none mr_X5_has (0, [(0, .ref 69), (1, .int a1)], [], h) (some (.int (M_X5_has 69 a1 h))) h := by
  unfold M_X5_has
  refine Ev.steps (B := (1, [(0, .ref 69), (1, .int a1)], [.int a1], h)) 1 rfl ?_
  refine Ev.br (b := decide (a1 < 0)) rfl (fun c1 => ?_) (fun c1 => ?_)
  · have c1 := of_decide_eq_true c1
    rw [if_pos c1]
    refine Ev.steps (B := (23, [(0, .ref 69), (1, .int a1)], [.int 0], h)) 1 rfl ?_
    exact Ev.ret rfl
  · have c1 := of_decide_eq_false c1
    rw [if_neg c1]
    refine Ev.steps (B := (9, [(0, .ref 69), (1, .int a1)], [.int (h.1 69 3), .int a1], h)) 3 rfl ?_
    refine Ev.br (b := decide ((h.1 69 3) ≤ a1)) rfl (fun c2 => ?_) (fun c2 => ?_)
    · have c2 := of_decide_eq_true c2
      rw [if_pos c2]
      refine Ev.steps (B := (23, [(0, .ref 69), (1, .int a1)], [.int 0], h)) 1 rfl ?_
      exact Ev.ret rfl
    · have c2 := of_decide_eq_false c2
      rw [if_neg c2]
      refine Ev.steps (B := (15, [(0, .ref 69), (1, .int a1)], [.int 60, .int a1], h)) 2 rfl ?_
      refine Ev.br (b := decide (60 ≤ a1)) rfl (fun c3 => ?_) (fun c3 => ?_)
      · have c3 := of_decide_eq_true c3
        rw [if_pos c3]
        refine Ev.steps (B := (23, [(0, .ref 69), (1, .int a1)], [.int 0], h)) 1 rfl ?_
        exact Ev.ret rfl
      · have c3 := of_decide_eq_false c3
        rw [if_neg c3]
        refine Ev.steps (B := (23, [(0, .ref 69), (1, .int a1)], [.int 1], h)) 2 rfl ?_
        exact Ev.ret rfl
set_option maxRecDepth 10000 in
theorem E_X5_item_69 (a1 : Int32) (h : AH) (vR : Int32) (hM : M_X5_item 69 a1 h = some vR) : Ev none mr_X5_item (0, [(0, .ref 69), (1, .int a1)], [], h) (some (.int vR)) h := by
  unfold M_X5_item at hM
  refine Ev.steps (B := (2, [(0, .ref 69), (1, .int a1)], [.int a1, .ref 69], h)) 2 rfl ?_
  refine Ev.call (q := (mr_X5_has, [.ref 69, .int a1], [])) rfl (E_X5_has_69 a1 h) ?_
  refine Ev.br (b := decide ((M_X5_has 69 a1 h) = 0)) rfl (fun c1 => ?_) (fun c1 => ?_)
  · have c1 := of_decide_eq_true c1
    rw [if_pos c1] at hM
    refine Ev.steps (B := (18, [(0, .ref 69), (1, .int a1)], [.int 0], h)) 1 rfl ?_
    obtain rfl := am_s1 hM
    exact Ev.ret rfl
  · have c1 := of_decide_eq_false c1
    rw [if_neg c1] at hM
    refine Ev.steps (B := (13, [(0, .ref 69), (1, .int a1)], [.int a1, .ref (69 + 1)], h)) 3 rfl ?_
    obtain ⟨g2, hM⟩ := am_gS hM
    refine Ev.g (B := (14, [(0, .ref 69), (1, .int a1)], [.int ((h.2.1 (69 + 1)) (Int32.toNatClampNeg a1))], h)) g2 rfl ?_
    refine Ev.steps (B := (18, [(0, .ref 69), (1, .int a1)], [.int ((h.2.1 (69 + 1)) (Int32.toNatClampNeg a1))], h)) 1 rfl ?_
    obtain rfl := am_s1 hM
    exact Ev.ret rfl
set_option maxRecDepth 10000 in
theorem E_L_X8_read_37_69 (n : Nat) (vR : Int32) (hR : AH) : ∀ (m : Nat) (x3 : Int32) (x4 : Int32) (h : AH), L_X8_read_37 n m 69 x3 x4 h = some (vR, hR) → Ev none mr_X8_read (37, [(0, .ref 0), (2, .ref 69), (3, .int x3), (4, .int x4)], [], h) (some (.int vR)) hR := by
  intro m
  induction m with
  | zero =>
    intro x3 x4 h hM
    exact (am_no hM).elim
  | succ m ih =>
    intro x3 x4 h hM
    rw [L_X8_read_37] at hM
    refine Ev.steps (B := (45, [(0, .ref 0), (2, .ref 69), (3, .int x3), (4, .int x4)], [.int (h.1 69 3), .int (x4 + 2)], h)) 5 rfl ?_
    refine Ev.br (b := decide ((h.1 69 3) ≤ (x4 + 2))) rfl (fun c1 => ?_) (fun c1 => ?_)
    · have c1 := of_decide_eq_true c1
      rw [if_pos c1] at hM
      refine Ev.lv (lv := [(0, .ref 0), (3, .int x3)]) ⟨rfl, rfl, trivial⟩ rfl rfl ?_
      exact E_B_X8_read_122 n vR hR x3 h hM
    · have c1 := of_decide_eq_false c1
      rw [if_neg c1] at hM
      refine Ev.steps (B := (57, [(0, .ref 0), (2, .ref 69), (3, .int x3), (4, .int x4)], [.int 8, .int (h.1 13 3)], h)) 4 rfl ?_
      refine Ev.br (b := decide (8 ≤ (h.1 13 3))) rfl (fun c2 => ?_) (fun c2 => ?_)
      · have c2 := of_decide_eq_true c2
        rw [if_pos c2] at hM
        refine Ev.lv (lv := [(0, .ref 0), (3, .int x3)]) ⟨rfl, rfl, trivial⟩ rfl rfl ?_
        exact E_B_X8_read_122 n vR hR x3 h hM
      · have c2 := of_decide_eq_false c2
        rw [if_neg c2] at hM
        refine Ev.steps (B := (63, [(0, .ref 0), (2, .ref 69), (3, .int x3), (4, .int x4)], [.int x4, .ref 69], h)) 2 rfl ?_
        obtain ⟨v1, e3, hM⟩ := am_oS hM
        refine Ev.call (q := (mr_X5_item, [.ref 69, .int x4], [])) rfl (E_X5_item_69 x4 h v1 e3) ?_
        refine Ev.steps (B := (73, [(5, .int v1), (0, .ref 0), (2, .ref 69), (3, .int x3), (4, .int x4)], [.int (x4 + 1), .ref 69], h)) 5 rfl ?_
        obtain ⟨v2, e4, hM⟩ := am_oS hM
        refine Ev.call (q := (mr_X5_item, [.ref 69, .int (x4 + 1)], [])) rfl (E_X5_item_69 (x4 + 1) h v2 e4) ?_
        refine Ev.steps (B := (83, [(6, .int v2), (5, .int v1), (0, .ref 0), (2, .ref 69), (3, .int x3), (4, .int x4)], [.int (x4 + 2), .ref 69], h)) 5 rfl ?_
        obtain ⟨v3, e5, hM⟩ := am_oS hM
        refine Ev.call (q := (mr_X5_item, [.ref 69, .int (x4 + 2)], [])) rfl (E_X5_item_69 (x4 + 2) h v3 e5) ?_
        refine Ev.steps (B := (94, [(7, .int v3), (6, .int v2), (5, .int v1), (0, .ref 0), (2, .ref 69), (3, .int x3), (4, .int x4)], [.int v3, .int v2, .int v1], h)) 4 rfl ?_
        refine Ev.call (q := (mr_X8_mayBeEvent, [.int v1, .int v2, .int v3], [])) rfl (E_X8_mayBeEvent v1 v2 v3 h) ?_
        refine Ev.br (b := decide (¬ (M_X8_mayBeEvent v1 v2 v3) = 0)) rfl (fun c6 => ?_) (fun c6 => ?_)
        · have c6 := of_decide_eq_true c6
          rw [if_neg c6] at hM
          refine Ev.steps (B := (113, [(7, .int v3), (6, .int v2), (5, .int v1), (0, .ref 0), (2, .ref 69), (3, .int x3), (4, .int x4)], [.int v3, .int v1, .int v2, .ref 13], h)) 5 rfl ?_
          obtain ⟨h4, e7, hM⟩ := am_vS hM
          refine Ev.call (q := (mr_X1_add, [.ref 13, .int v2, .int v1, .int v3], [])) rfl (E_X1_add_13 v2 v1 v3 h h4 e7) ?_
          refine Ev.steps (B := (37, [(4, .int (x4 + 3)), (7, .int v3), (6, .int v2), (5, .int v1), (0, .ref 0), (2, .ref 69), (3, .int x3)], [], h4)) 2 rfl ?_
          refine Ev.lv (lv := [(0, .ref 0), (2, .ref 69), (3, .int x3), (4, .int (x4 + 3))]) ⟨rfl, rfl, rfl, rfl, trivial⟩ rfl rfl ?_
          exact ih x3 (x4 + 3) h4 hM
        · have c6 := Decidable.of_not_not (of_decide_eq_false c6)
          rw [if_pos c6] at hM
          refine Ev.steps (B := (122, [(7, .int v3), (6, .int v2), (5, .int v1), (0, .ref 0), (2, .ref 69), (3, .int x3), (4, .int x4)], [], h)) 1 rfl ?_
          refine Ev.lv (lv := [(0, .ref 0), (3, .int x3)]) ⟨rfl, rfl, trivial⟩ rfl rfl ?_
          exact E_B_X8_read_122 n vR hR x3 h hM
set_option maxRecDepth 10000 in
theorem E_B_X8_read_6_69 (n : Nat) (vR : Int32) (hR : AH) (h : AH) (hM : B_X8_read_6 n 69 h = some (vR, hR)) : Ev none mr_X8_read (6, [(0, .ref 0), (2, .ref 69)], [], h) (some (.int vR)) hR := by
  unfold B_X8_read_6 at hM
  refine Ev.steps (B := (17, [(0, .ref 0), (2, .ref 69)], [.int (h.1 69 1)], h)) 4 rfl ?_
  refine Ev.br (b := decide ((h.1 69 1) = 0)) rfl (fun c1 => ?_) (fun c1 => ?_)
  · have c1 := of_decide_eq_true c1
    rw [if_pos c1] at hM
    refine Ev.steps (B := (37, [(4, .int 0), (3, .int (h.1 13 3)), (0, .ref 0), (2, .ref 69)], [], h)) 6 rfl ?_
    refine Ev.lv (lv := [(0, .ref 0), (2, .ref 69), (3, .int (h.1 13 3)), (4, .int 0)]) ⟨rfl, rfl, rfl, rfl, trivial⟩ rfl rfl ?_
    exact E_L_X8_read_37_69 n vR hR n (h.1 13 3) 0 h hM
  · have c1 := of_decide_eq_false c1
    rw [if_neg c1] at hM
    refine Ev.steps (B := (22, [(0, .ref 0), (2, .ref 69)], [.int 1, .ref 0], h)) 2 rfl ?_
    obtain ⟨v2, h1, e2, hM⟩ := am_bS hM
    refine Ev.call (q := (mr_X8_found, [.ref 0, .int 1], [])) rfl (E_X8_found_0 1 h v2 h1 e2) ?_
    obtain ⟨rfl, rfl⟩ := am_sp hM
    exact Ev.ret rfl
set_option maxRecDepth 10000 in
theorem E_X5_has_71 (a1 : Int32) (h : AH) : Ev none mr_X5_has (0, [(0, .ref 71), (1, .int a1)], [], h) (some (.int (M_X5_has 71 a1 h))) h := by
  unfold M_X5_has
  refine Ev.steps (B := (1, [(0, .ref 71), (1, .int a1)], [.int a1], h)) 1 rfl ?_
  refine Ev.br (b := decide (a1 < 0)) rfl (fun c1 => ?_) (fun c1 => ?_)
  · have c1 := of_decide_eq_true c1
    rw [if_pos c1]
    refine Ev.steps (B := (23, [(0, .ref 71), (1, .int a1)], [.int 0], h)) 1 rfl ?_
    exact Ev.ret rfl
  · have c1 := of_decide_eq_false c1
    rw [if_neg c1]
    refine Ev.steps (B := (9, [(0, .ref 71), (1, .int a1)], [.int (h.1 71 3), .int a1], h)) 3 rfl ?_
    refine Ev.br (b := decide ((h.1 71 3) ≤ a1)) rfl (fun c2 => ?_) (fun c2 => ?_)
    · have c2 := of_decide_eq_true c2
      rw [if_pos c2]
      refine Ev.steps (B := (23, [(0, .ref 71), (1, .int a1)], [.int 0], h)) 1 rfl ?_
      exact Ev.ret rfl
    · have c2 := of_decide_eq_false c2
      rw [if_neg c2]
      refine Ev.steps (B := (15, [(0, .ref 71), (1, .int a1)], [.int 60, .int a1], h)) 2 rfl ?_
      refine Ev.br (b := decide (60 ≤ a1)) rfl (fun c3 => ?_) (fun c3 => ?_)
      · have c3 := of_decide_eq_true c3
        rw [if_pos c3]
        refine Ev.steps (B := (23, [(0, .ref 71), (1, .int a1)], [.int 0], h)) 1 rfl ?_
        exact Ev.ret rfl
      · have c3 := of_decide_eq_false c3
        rw [if_neg c3]
        refine Ev.steps (B := (23, [(0, .ref 71), (1, .int a1)], [.int 1], h)) 2 rfl ?_
        exact Ev.ret rfl
set_option maxRecDepth 10000 in
theorem E_X5_item_71 (a1 : Int32) (h : AH) (vR : Int32) (hM : M_X5_item 71 a1 h = some vR) : Ev none mr_X5_item (0, [(0, .ref 71), (1, .int a1)], [], h) (some (.int vR)) h := by
  unfold M_X5_item at hM
  refine Ev.steps (B := (2, [(0, .ref 71), (1, .int a1)], [.int a1, .ref 71], h)) 2 rfl ?_
  refine Ev.call (q := (mr_X5_has, [.ref 71, .int a1], [])) rfl (E_X5_has_71 a1 h) ?_
  refine Ev.br (b := decide ((M_X5_has 71 a1 h) = 0)) rfl (fun c1 => ?_) (fun c1 => ?_)
  · have c1 := of_decide_eq_true c1
    rw [if_pos c1] at hM
    refine Ev.steps (B := (18, [(0, .ref 71), (1, .int a1)], [.int 0], h)) 1 rfl ?_
    obtain rfl := am_s1 hM
    exact Ev.ret rfl
  · have c1 := of_decide_eq_false c1
    rw [if_neg c1] at hM
    refine Ev.steps (B := (13, [(0, .ref 71), (1, .int a1)], [.int a1, .ref (71 + 1)], h)) 3 rfl ?_
    obtain ⟨g2, hM⟩ := am_gS hM
    refine Ev.g (B := (14, [(0, .ref 71), (1, .int a1)], [.int ((h.2.1 (71 + 1)) (Int32.toNatClampNeg a1))], h)) g2 rfl ?_
    refine Ev.steps (B := (18, [(0, .ref 71), (1, .int a1)], [.int ((h.2.1 (71 + 1)) (Int32.toNatClampNeg a1))], h)) 1 rfl ?_
    obtain rfl := am_s1 hM
    exact Ev.ret rfl
set_option maxRecDepth 10000 in
theorem E_L_X8_read_37_71 (n : Nat) (vR : Int32) (hR : AH) : ∀ (m : Nat) (x3 : Int32) (x4 : Int32) (h : AH), L_X8_read_37 n m 71 x3 x4 h = some (vR, hR) → Ev none mr_X8_read (37, [(0, .ref 0), (2, .ref 71), (3, .int x3), (4, .int x4)], [], h) (some (.int vR)) hR := by
  intro m
  induction m with
  | zero =>
    intro x3 x4 h hM
    exact (am_no hM).elim
  | succ m ih =>
    intro x3 x4 h hM
    rw [L_X8_read_37] at hM
    refine Ev.steps (B := (45, [(0, .ref 0), (2, .ref 71), (3, .int x3), (4, .int x4)], [.int (h.1 71 3), .int (x4 + 2)], h)) 5 rfl ?_
    refine Ev.br (b := decide ((h.1 71 3) ≤ (x4 + 2))) rfl (fun c1 => ?_) (fun c1 => ?_)
    · have c1 := of_decide_eq_true c1
      rw [if_pos c1] at hM
      refine Ev.lv (lv := [(0, .ref 0), (3, .int x3)]) ⟨rfl, rfl, trivial⟩ rfl rfl ?_
      exact E_B_X8_read_122 n vR hR x3 h hM
    · have c1 := of_decide_eq_false c1
      rw [if_neg c1] at hM
      refine Ev.steps (B := (57, [(0, .ref 0), (2, .ref 71), (3, .int x3), (4, .int x4)], [.int 8, .int (h.1 13 3)], h)) 4 rfl ?_
      refine Ev.br (b := decide (8 ≤ (h.1 13 3))) rfl (fun c2 => ?_) (fun c2 => ?_)
      · have c2 := of_decide_eq_true c2
        rw [if_pos c2] at hM
        refine Ev.lv (lv := [(0, .ref 0), (3, .int x3)]) ⟨rfl, rfl, trivial⟩ rfl rfl ?_
        exact E_B_X8_read_122 n vR hR x3 h hM
      · have c2 := of_decide_eq_false c2
        rw [if_neg c2] at hM
        refine Ev.steps (B := (63, [(0, .ref 0), (2, .ref 71), (3, .int x3), (4, .int x4)], [.int x4, .ref 71], h)) 2 rfl ?_
        obtain ⟨v1, e3, hM⟩ := am_oS hM
        refine Ev.call (q := (mr_X5_item, [.ref 71, .int x4], [])) rfl (E_X5_item_71 x4 h v1 e3) ?_
        refine Ev.steps (B := (73, [(5, .int v1), (0, .ref 0), (2, .ref 71), (3, .int x3), (4, .int x4)], [.int (x4 + 1), .ref 71], h)) 5 rfl ?_
        obtain ⟨v2, e4, hM⟩ := am_oS hM
        refine Ev.call (q := (mr_X5_item, [.ref 71, .int (x4 + 1)], [])) rfl (E_X5_item_71 (x4 + 1) h v2 e4) ?_
        refine Ev.steps (B := (83, [(6, .int v2), (5, .int v1), (0, .ref 0), (2, .ref 71), (3, .int x3), (4, .int x4)], [.int (x4 + 2), .ref 71], h)) 5 rfl ?_
        obtain ⟨v3, e5, hM⟩ := am_oS hM
        refine Ev.call (q := (mr_X5_item, [.ref 71, .int (x4 + 2)], [])) rfl (E_X5_item_71 (x4 + 2) h v3 e5) ?_
        refine Ev.steps (B := (94, [(7, .int v3), (6, .int v2), (5, .int v1), (0, .ref 0), (2, .ref 71), (3, .int x3), (4, .int x4)], [.int v3, .int v2, .int v1], h)) 4 rfl ?_
        refine Ev.call (q := (mr_X8_mayBeEvent, [.int v1, .int v2, .int v3], [])) rfl (E_X8_mayBeEvent v1 v2 v3 h) ?_
        refine Ev.br (b := decide (¬ (M_X8_mayBeEvent v1 v2 v3) = 0)) rfl (fun c6 => ?_) (fun c6 => ?_)
        · have c6 := of_decide_eq_true c6
          rw [if_neg c6] at hM
          refine Ev.steps (B := (113, [(7, .int v3), (6, .int v2), (5, .int v1), (0, .ref 0), (2, .ref 71), (3, .int x3), (4, .int x4)], [.int v3, .int v1, .int v2, .ref 13], h)) 5 rfl ?_
          obtain ⟨h4, e7, hM⟩ := am_vS hM
          refine Ev.call (q := (mr_X1_add, [.ref 13, .int v2, .int v1, .int v3], [])) rfl (E_X1_add_13 v2 v1 v3 h h4 e7) ?_
          refine Ev.steps (B := (37, [(4, .int (x4 + 3)), (7, .int v3), (6, .int v2), (5, .int v1), (0, .ref 0), (2, .ref 71), (3, .int x3)], [], h4)) 2 rfl ?_
          refine Ev.lv (lv := [(0, .ref 0), (2, .ref 71), (3, .int x3), (4, .int (x4 + 3))]) ⟨rfl, rfl, rfl, rfl, trivial⟩ rfl rfl ?_
          exact ih x3 (x4 + 3) h4 hM
        · have c6 := Decidable.of_not_not (of_decide_eq_false c6)
          rw [if_pos c6] at hM
          refine Ev.steps (B := (122, [(7, .int v3), (6, .int v2), (5, .int v1), (0, .ref 0), (2, .ref 71), (3, .int x3), (4, .int x4)], [], h)) 1 rfl ?_
          refine Ev.lv (lv := [(0, .ref 0), (3, .int x3)]) ⟨rfl, rfl, trivial⟩ rfl rfl ?_
          exact E_B_X8_read_122 n vR hR x3 h hM
set_option maxRecDepth 10000 in
theorem E_B_X8_read_6_71 (n : Nat) (vR : Int32) (hR : AH) (h : AH) (hM : B_X8_read_6 n 71 h = some (vR, hR)) : Ev none mr_X8_read (6, [(0, .ref 0), (2, .ref 71)], [], h) (some (.int vR)) hR := by
  unfold B_X8_read_6 at hM
  refine Ev.steps (B := (17, [(0, .ref 0), (2, .ref 71)], [.int (h.1 71 1)], h)) 4 rfl ?_
  refine Ev.br (b := decide ((h.1 71 1) = 0)) rfl (fun c1 => ?_) (fun c1 => ?_)
  · have c1 := of_decide_eq_true c1
    rw [if_pos c1] at hM
    refine Ev.steps (B := (37, [(4, .int 0), (3, .int (h.1 13 3)), (0, .ref 0), (2, .ref 71)], [], h)) 6 rfl ?_
    refine Ev.lv (lv := [(0, .ref 0), (2, .ref 71), (3, .int (h.1 13 3)), (4, .int 0)]) ⟨rfl, rfl, rfl, rfl, trivial⟩ rfl rfl ?_
    exact E_L_X8_read_37_71 n vR hR n (h.1 13 3) 0 h hM
  · have c1 := of_decide_eq_false c1
    rw [if_neg c1] at hM
    refine Ev.steps (B := (22, [(0, .ref 0), (2, .ref 71)], [.int 1, .ref 0], h)) 2 rfl ?_
    obtain ⟨v2, h1, e2, hM⟩ := am_bS hM
    refine Ev.call (q := (mr_X8_found, [.ref 0, .int 1], [])) rfl (E_X8_found_0 1 h v2 h1 e2) ?_
    obtain ⟨rfl, rfl⟩ := am_sp hM
    exact Ev.ret rfl
set_option maxRecDepth 10000 in
theorem E_X5_has_73 (a1 : Int32) (h : AH) : Ev none mr_X5_has (0, [(0, .ref 73), (1, .int a1)], [], h) (some (.int (M_X5_has 73 a1 h))) h := by
  unfold M_X5_has
  refine Ev.steps (B := (1, [(0, .ref 73), (1, .int a1)], [.int a1], h)) 1 rfl ?_
  refine Ev.br (b := decide (a1 < 0)) rfl (fun c1 => ?_) (fun c1 => ?_)
  · have c1 := of_decide_eq_true c1
    rw [if_pos c1]
    refine Ev.steps (B := (23, [(0, .ref 73), (1, .int a1)], [.int 0], h)) 1 rfl ?_
    exact Ev.ret rfl
  · have c1 := of_decide_eq_false c1
    rw [if_neg c1]
    refine Ev.steps (B := (9, [(0, .ref 73), (1, .int a1)], [.int (h.1 73 3), .int a1], h)) 3 rfl ?_
    refine Ev.br (b := decide ((h.1 73 3) ≤ a1)) rfl (fun c2 => ?_) (fun c2 => ?_)
    · have c2 := of_decide_eq_true c2
      rw [if_pos c2]
      refine Ev.steps (B := (23, [(0, .ref 73), (1, .int a1)], [.int 0], h)) 1 rfl ?_
      exact Ev.ret rfl
    · have c2 := of_decide_eq_false c2
      rw [if_neg c2]
      refine Ev.steps (B := (15, [(0, .ref 73), (1, .int a1)], [.int 60, .int a1], h)) 2 rfl ?_
      refine Ev.br (b := decide (60 ≤ a1)) rfl (fun c3 => ?_) (fun c3 => ?_)
      · have c3 := of_decide_eq_true c3
        rw [if_pos c3]
        refine Ev.steps (B := (23, [(0, .ref 73), (1, .int a1)], [.int 0], h)) 1 rfl ?_
        exact Ev.ret rfl
      · have c3 := of_decide_eq_false c3
        rw [if_neg c3]
        refine Ev.steps (B := (23, [(0, .ref 73), (1, .int a1)], [.int 1], h)) 2 rfl ?_
        exact Ev.ret rfl
set_option maxRecDepth 10000 in
theorem E_X5_item_73 (a1 : Int32) (h : AH) (vR : Int32) (hM : M_X5_item 73 a1 h = some vR) : Ev none mr_X5_item (0, [(0, .ref 73), (1, .int a1)], [], h) (some (.int vR)) h := by
  unfold M_X5_item at hM
  refine Ev.steps (B := (2, [(0, .ref 73), (1, .int a1)], [.int a1, .ref 73], h)) 2 rfl ?_
  refine Ev.call (q := (mr_X5_has, [.ref 73, .int a1], [])) rfl (E_X5_has_73 a1 h) ?_
  refine Ev.br (b := decide ((M_X5_has 73 a1 h) = 0)) rfl (fun c1 => ?_) (fun c1 => ?_)
  · have c1 := of_decide_eq_true c1
    rw [if_pos c1] at hM
    refine Ev.steps (B := (18, [(0, .ref 73), (1, .int a1)], [.int 0], h)) 1 rfl ?_
    obtain rfl := am_s1 hM
    exact Ev.ret rfl
  · have c1 := of_decide_eq_false c1
    rw [if_neg c1] at hM
    refine Ev.steps (B := (13, [(0, .ref 73), (1, .int a1)], [.int a1, .ref (73 + 1)], h)) 3 rfl ?_
    obtain ⟨g2, hM⟩ := am_gS hM
    refine Ev.g (B := (14, [(0, .ref 73), (1, .int a1)], [.int ((h.2.1 (73 + 1)) (Int32.toNatClampNeg a1))], h)) g2 rfl ?_
    refine Ev.steps (B := (18, [(0, .ref 73), (1, .int a1)], [.int ((h.2.1 (73 + 1)) (Int32.toNatClampNeg a1))], h)) 1 rfl ?_
    obtain rfl := am_s1 hM
    exact Ev.ret rfl
set_option maxRecDepth 10000 in
theorem E_L_X8_read_37_73 (n : Nat) (vR : Int32) (hR : AH) : ∀ (m : Nat) (x3 : Int32) (x4 : Int32) (h : AH), L_X8_read_37 n m 73 x3 x4 h = some (vR, hR) → Ev none mr_X8_read (37, [(0, .ref 0), (2, .ref 73), (3, .int x3), (4, .int x4)], [], h) (some (.int vR)) hR := by
  intro m
  induction m with
  | zero =>
    intro x3 x4 h hM
    exact (am_no hM).elim
  | succ m ih =>
    intro x3 x4 h hM
    rw [L_X8_read_37] at hM
    refine Ev.steps (B := (45, [(0, .ref 0), (2, .ref 73), (3, .int x3), (4, .int x4)], [.int (h.1 73 3), .int (x4 + 2)], h)) 5 rfl ?_
    refine Ev.br (b := decide ((h.1 73 3) ≤ (x4 + 2))) rfl (fun c1 => ?_) (fun c1 => ?_)
    · have c1 := of_decide_eq_true c1
      rw [if_pos c1] at hM
      refine Ev.lv (lv := [(0, .ref 0), (3, .int x3)]) ⟨rfl, rfl, trivial⟩ rfl rfl ?_
      exact E_B_X8_read_122 n vR hR x3 h hM
    · have c1 := of_decide_eq_false c1
      rw [if_neg c1] at hM
      refine Ev.steps (B := (57, [(0, .ref 0), (2, .ref 73), (3, .int x3), (4, .int x4)], [.int 8, .int (h.1 13 3)], h)) 4 rfl ?_
      refine Ev.br (b := decide (8 ≤ (h.1 13 3))) rfl (fun c2 => ?_) (fun c2 => ?_)
      · have c2 := of_decide_eq_true c2
        rw [if_pos c2] at hM
        refine Ev.lv (lv := [(0, .ref 0), (3, .int x3)]) ⟨rfl, rfl, trivial⟩ rfl rfl ?_
        exact E_B_X8_read_122 n vR hR x3 h hM
      · have c2 := of_decide_eq_false c2
        rw [if_neg c2] at hM
        refine Ev.steps (B := (63, [(0, .ref 0), (2, .ref 73), (3, .int x3), (4, .int x4)], [.int x4, .ref 73], h)) 2 rfl ?_
        obtain ⟨v1, e3, hM⟩ := am_oS hM
        refine Ev.call (q := (mr_X5_item, [.ref 73, .int x4], [])) rfl (E_X5_item_73 x4 h v1 e3) ?_
        refine Ev.steps (B := (73, [(5, .int v1), (0, .ref 0), (2, .ref 73), (3, .int x3), (4, .int x4)], [.int (x4 + 1), .ref 73], h)) 5 rfl ?_
        obtain ⟨v2, e4, hM⟩ := am_oS hM
        refine Ev.call (q := (mr_X5_item, [.ref 73, .int (x4 + 1)], [])) rfl (E_X5_item_73 (x4 + 1) h v2 e4) ?_
        refine Ev.steps (B := (83, [(6, .int v2), (5, .int v1), (0, .ref 0), (2, .ref 73), (3, .int x3), (4, .int x4)], [.int (x4 + 2), .ref 73], h)) 5 rfl ?_
        obtain ⟨v3, e5, hM⟩ := am_oS hM
        refine Ev.call (q := (mr_X5_item, [.ref 73, .int (x4 + 2)], [])) rfl (E_X5_item_73 (x4 + 2) h v3 e5) ?_
        refine Ev.steps (B := (94, [(7, .int v3), (6, .int v2), (5, .int v1), (0, .ref 0), (2, .ref 73), (3, .int x3), (4, .int x4)], [.int v3, .int v2, .int v1], h)) 4 rfl ?_
        refine Ev.call (q := (mr_X8_mayBeEvent, [.int v1, .int v2, .int v3], [])) rfl (E_X8_mayBeEvent v1 v2 v3 h) ?_
        refine Ev.br (b := decide (¬ (M_X8_mayBeEvent v1 v2 v3) = 0)) rfl (fun c6 => ?_) (fun c6 => ?_)
        · have c6 := of_decide_eq_true c6
          rw [if_neg c6] at hM
          refine Ev.steps (B := (113, [(7, .int v3), (6, .int v2), (5, .int v1), (0, .ref 0), (2, .ref 73), (3, .int x3), (4, .int x4)], [.int v3, .int v1, .int v2, .ref 13], h)) 5 rfl ?_
          obtain ⟨h4, e7, hM⟩ := am_vS hM
          refine Ev.call (q := (mr_X1_add, [.ref 13, .int v2, .int v1, .int v3], [])) rfl (E_X1_add_13 v2 v1 v3 h h4 e7) ?_
          refine Ev.steps (B := (37, [(4, .int (x4 + 3)), (7, .int v3), (6, .int v2), (5, .int v1), (0, .ref 0), (2, .ref 73), (3, .int x3)], [], h4)) 2 rfl ?_
          refine Ev.lv (lv := [(0, .ref 0), (2, .ref 73), (3, .int x3), (4, .int (x4 + 3))]) ⟨rfl, rfl, rfl, rfl, trivial⟩ rfl rfl ?_
          exact ih x3 (x4 + 3) h4 hM
        · have c6 := Decidable.of_not_not (of_decide_eq_false c6)
          rw [if_pos c6] at hM
          refine Ev.steps (B := (122, [(7, .int v3), (6, .int v2), (5, .int v1), (0, .ref 0), (2, .ref 73), (3, .int x3), (4, .int x4)], [], h)) 1 rfl ?_
          refine Ev.lv (lv := [(0, .ref 0), (3, .int x3)]) ⟨rfl, rfl, trivial⟩ rfl rfl ?_
          exact E_B_X8_read_122 n vR hR x3 h hM
set_option maxRecDepth 10000 in
theorem E_B_X8_read_6_73 (n : Nat) (vR : Int32) (hR : AH) (h : AH) (hM : B_X8_read_6 n 73 h = some (vR, hR)) : Ev none mr_X8_read (6, [(0, .ref 0), (2, .ref 73)], [], h) (some (.int vR)) hR := by
  unfold B_X8_read_6 at hM
  refine Ev.steps (B := (17, [(0, .ref 0), (2, .ref 73)], [.int (h.1 73 1)], h)) 4 rfl ?_
  refine Ev.br (b := decide ((h.1 73 1) = 0)) rfl (fun c1 => ?_) (fun c1 => ?_)
  · have c1 := of_decide_eq_true c1
    rw [if_pos c1] at hM
    refine Ev.steps (B := (37, [(4, .int 0), (3, .int (h.1 13 3)), (0, .ref 0), (2, .ref 73)], [], h)) 6 rfl ?_
    refine Ev.lv (lv := [(0, .ref 0), (2, .ref 73), (3, .int (h.1 13 3)), (4, .int 0)]) ⟨rfl, rfl, rfl, rfl, trivial⟩ rfl rfl ?_
    exact E_L_X8_read_37_73 n vR hR n (h.1 13 3) 0 h hM
  · have c1 := of_decide_eq_false c1
    rw [if_neg c1] at hM
    refine Ev.steps (B := (22, [(0, .ref 0), (2, .ref 73)], [.int 1, .ref 0], h)) 2 rfl ?_
    obtain ⟨v2, h1, e2, hM⟩ := am_bS hM
    refine Ev.call (q := (mr_X8_found, [.ref 0, .int 1], [])) rfl (E_X8_found_0 1 h v2 h1 e2) ?_
    obtain ⟨rfl, rfl⟩ := am_sp hM
    exact Ev.ret rfl
