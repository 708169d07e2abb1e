def M_X8_copy (a1 : Int32) (a2 : Int32) (a3 : Int32) (a4 : Int32) (a5 : Int32) (h : AH) : Option (Int32 × AH) :=
  if a1 = 0 then
    B_X8_copy_7 a2 a3 a4 a5 67 h
  else
  if a1 = 1 then
    B_X8_copy_7 a2 a3 a4 a5 69 h
  else
  if a1 = 2 then
    B_X8_copy_7 a2 a3 a4 a5 71 h
  else
  if a1 = 3 then
    B_X8_copy_7 a2 a3 a4 a5 73 h
  else
    if a3 = 0 then
      some ((-2), h)
    else
    if a3 = 1 then
      some ((-2), h)
    else
    if a3 = 2 then
      some ((-2), h)
    else
    if a3 = 3 then
      some ((-2), h)
    else
      some ((-2), h)
set_option maxRecDepth 10000 in
theorem E_X8_copy_0 (a1 : Int32) (a2 : Int32) (a3 : Int32) (a4 : Int32) (a5 : Int32) (h : AH) (vR : Int32) (hR : AH) (hM : M_X8_copy a1 a2 a3 a4 a5 h = some (vR, hR)) : Ev none mr_X8_copy (0, [(0, .ref 0), (1, .int a1), (2, .int a2), (3, .int a3), (4, .int a4), (5, .int a5)], [], h) (some (.int vR)) hR := by
  unfold M_X8_copy at hM
  refine Ev.steps (B := (2, [(0, .ref 0), (1, .int a1), (2, .int a2), (3, .int a3), (4, .int a4), (5, .int a5)], [.int a1, .ref 0], h)) 2 rfl ?_
  by_cases c1 : a1 = 0
  · rw [if_pos c1] at hM
    refine Ev.call (q := (mr_X8_sheetAt, [.ref 0, .int a1], [])) rfl (E_X8_sheetAt_67 a1 h c1) ?_
    refine Ev.steps (B := (7, [(6, .ref 67), (0, .ref 0), (1, .int a1), (2, .int a2), (3, .int a3), (4, .int a4), (5, .int a5)], [], h)) 1 rfl ?_
    refine Ev.lv (lv := [(0, .ref 0), (2, .int a2), (3, .int a3), (4, .int a4), (5, .int a5), (6, .ref 67)]) ⟨rfl, rfl, rfl, rfl, rfl, rfl, trivial⟩ rfl rfl ?_
    exact E_B_X8_copy_7_67 vR hR a2 a3 a4 a5 h hM
  · rw [if_neg c1] at hM
    by_cases c2 : a1 = 1
    · rw [if_pos c2] at hM
      refine Ev.call (q := (mr_X8_sheetAt, [.ref 0, .int a1], [])) rfl (E_X8_sheetAt_69 a1 h c2) ?_
      refine Ev.steps (B := (7, [(6, .ref 69), (0, .ref 0), (1, .int a1), (2, .int a2), (3, .int a3), (4, .int a4), (5, .int a5)], [], h)) 1 rfl ?_
      refine Ev.lv (lv := [(0, .ref 0), (2, .int a2), (3, .int a3), (4, .int a4), (5, .int a5), (6, .ref 69)]) ⟨rfl, rfl, rfl, rfl, rfl, rfl, trivial⟩ rfl rfl ?_
      exact E_B_X8_copy_7_69 vR hR a2 a3 a4 a5 h hM
    · rw [if_neg c2] at hM
      by_cases c3 : a1 = 2
      · rw [if_pos c3] at hM
        refine Ev.call (q := (mr_X8_sheetAt, [.ref 0, .int a1], [])) rfl (E_X8_sheetAt_71 a1 h c3) ?_
        refine Ev.steps (B := (7, [(6, .ref 71), (0, .ref 0), (1, .int a1), (2, .int a2), (3, .int a3), (4, .int a4), (5, .int a5)], [], h)) 1 rfl ?_
        refine Ev.lv (lv := [(0, .ref 0), (2, .int a2), (3, .int a3), (4, .int a4), (5, .int a5), (6, .ref 71)]) ⟨rfl, rfl, rfl, rfl, rfl, rfl, trivial⟩ rfl rfl ?_
        exact E_B_X8_copy_7_71 vR hR a2 a3 a4 a5 h hM
      · rw [if_neg c3] at hM
        by_cases c4 : a1 = 3
        · rw [if_pos c4] at hM
          refine Ev.call (q := (mr_X8_sheetAt, [.ref 0, .int a1], [])) rfl (E_X8_sheetAt_73 a1 h c4) ?_
          refine Ev.steps (B := (7, [(6, .ref 73), (0, .ref 0), (1, .int a1), (2, .int a2), (3, .int a3), (4, .int a4), (5, .int a5)], [], h)) 1 rfl ?_
          refine Ev.lv (lv := [(0, .ref 0), (2, .int a2), (3, .int a3), (4, .int a4), (5, .int a5), (6, .ref 73)]) ⟨rfl, rfl, rfl, rfl, rfl, rfl, trivial⟩ rfl rfl ?_
          exact E_B_X8_copy_7_73 vR hR a2 a3 a4 a5 h hM
        · rw [if_neg c4] at hM
          refine Ev.call (q := (mr_X8_sheetAt, [.ref 0, .int a1], [])) rfl (E_X8_sheetAt_d a1 h c1 c2 c3 c4) ?_
          refine Ev.steps (B := (9, [(6, .null), (0, .ref 0), (1, .int a1), (2, .int a2), (3, .int a3), (4, .int a4), (5, .int a5)], [.int a3, .ref 0], h)) 3 rfl ?_
          by_cases c5 : a3 = 0
          · rw [if_pos c5] at hM
            refine Ev.call (q := (mr_X8_sheetAt, [.ref 0, .int a3], [])) rfl (E_X8_sheetAt_67 a3 h c5) ?_
            refine Ev.steps (B := (26, [(7, .ref 67), (6, .null), (0, .ref 0), (1, .int a1), (2, .int a2), (3, .int a3), (4, .int a4), (5, .int a5)], [.int (-2)], h)) 4 rfl ?_
            obtain ⟨rfl, rfl⟩ := am_sp hM
            exact Ev.ret rfl
          · rw [if_neg c5] at hM
            by_cases c6 : a3 = 1
            · rw [if_pos c6] at hM
              refine Ev.call (q := (mr_X8_sheetAt, [.ref 0, .int a3], [])) rfl (E_X8_sheetAt_69 a3 h c6) ?_
              refine Ev.steps (B := (26, [(7, .ref 69), (6, .null), (0, .ref 0), (1, .int a1), (2, .int a2), (3, .int a3), (4, .int a4), (5, .int a5)], [.int (-2)], h)) 4 rfl ?_
              obtain ⟨rfl, rfl⟩ := am_sp hM
              exact Ev.ret rfl
            · rw [if_neg c6] at hM
              by_cases c7 : a3 = 2
              · rw [if_pos c7] at hM
                refine Ev.call (q := (mr_X8_sheetAt, [.ref 0, .int a3], [])) rfl (E_X8_sheetAt_71 a3 h c7) ?_
                refine Ev.steps (B := (26, [(7, .ref 71), (6, .null), (0, .ref 0), (1, .int a1), (2, .int a2), (3, .int a3), (4, .int a4), (5, .int a5)], [.int (-2)], h)) 4 rfl ?_
                obtain ⟨rfl, rfl⟩ := am_sp hM
                exact Ev.ret rfl
              · rw [if_neg c7] at hM
                by_cases c8 : a3 = 3
                · rw [if_pos c8] at hM
                  refine Ev.call (q := (mr_X8_sheetAt, [.ref 0, .int a3], [])) rfl (E_X8_sheetAt_73 a3 h c8) ?_
                  refine Ev.steps (B := (26, [(7, .ref 73), (6, .null), (0, .ref 0), (1, .int a1), (2, .int a2), (3, .int a3), (4, .int a4), (5, .int a5)], [.int (-2)], h)) 4 rfl ?_
                  obtain ⟨rfl, rfl⟩ := am_sp hM
                  exact Ev.ret rfl
                · rw [if_neg c8] at hM
                  refine Ev.call (q := (mr_X8_sheetAt, [.ref 0, .int a3], [])) rfl (E_X8_sheetAt_d a3 h c5 c6 c7 c8) ?_
                  refine Ev.steps (B := (26, [(7, .null), (6, .null), (0, .ref 0), (1, .int a1), (2, .int a2), (3, .int a3), (4, .int a4), (5, .int a5)], [.int (-2)], h)) 4 rfl ?_
                  obtain ⟨rfl, rfl⟩ := am_sp hM
                  exact Ev.ret rfl
def B_X9_copy_35 (n : Nat) (h : AH) : Option (Int32 × AH) :=
  am_b (M_X9_meets 1 h) fun v2 h1 =>
  some (v2, h1)
set_option maxRecDepth 10000 in
theorem E_B_X9_copy_35 (n : Nat) (vR : Int32) (hR : AH) (h : AH) (hM : B_X9_copy_35 n h = some (vR, hR)) : Ev none mr_X9_copy (35, [(0, .ref 75)], [], h) (some (.int vR)) hR := by
  unfold B_X9_copy_35 at hM
  refine Ev.steps (B := (37, [(0, .ref 75)], [.int 1, .ref 75], h)) 2 rfl ?_
  obtain ⟨v2, h1, e1, hM⟩ := am_bS hM
  refine Ev.call (q := (mr_X9_meets, [.ref 75, .int 1], [])) rfl (E_X9_meets_75 1 h v2 h1 e1) ?_
  obtain ⟨rfl, rfl⟩ := am_sp hM
  exact Ev.ret rfl
def B_X9_copy_111 (n : Nat) (h : AH) : Option (Int32 × AH) :=
  am_b (M_X9_meets 2 h) fun v2 h1 =>
  some (v2, h1)
set_option maxRecDepth 10000 in
theorem E_B_X9_copy_111 (n : Nat) (vR : Int32) (hR : AH) (h : AH) (hM : B_X9_copy_111 n h = some (vR, hR)) : Ev none mr_X9_copy (111, [(0, .ref 75)], [], h) (some (.int vR)) hR := by
  unfold B_X9_copy_111 at hM
  refine Ev.steps (B := (113, [(0, .ref 75)], [.int 2, .ref 75], h)) 2 rfl ?_
  obtain ⟨v2, h1, e1, hM⟩ := am_bS hM
  refine Ev.call (q := (mr_X9_meets, [.ref 75, .int 2], [])) rfl (E_X9_meets_75 2 h v2 h1 e1) ?_
  obtain ⟨rfl, rfl⟩ := am_sp hM
  exact Ev.ret rfl
def L_X9_copy_157 (n : Nat) : Nat → Int32 → Int32 → Int32 → Int32 → AH → Option (Int32 × AH)
  | 0, _, _, _, _, _ => none
  | m + 1, x3, x4, x5, x6, h =>
    if x5 ≤ x6 then
      some (1, h)
    else
      bif (am_in x6 60) then
        bif (am_in (((60 * x3) + x4) + x6) 240) then
          L_X9_copy_157 n m x3 x4 x5 (x6 + 1) (am_sa h 107 (upd (h.2.1 107) (Int32.toNatClampNeg (((60 * x3) + x4) + x6)) ((h.2.1 108) (Int32.toNatClampNeg x6))))
        else none
      else none
set_option maxRecDepth 10000 in
theorem E_L_X9_copy_157 (n : Nat) (vR : Int32) (hR : AH) : ∀ (m : Nat) (x3 : Int32) (x4 : Int32) (x5 : Int32) (x6 : Int32) (h : AH), L_X9_copy_157 n m x3 x4 x5 x6 h = some (vR, hR) → Ev none mr_X9_copy (157, [(0, .ref 75), (3, .int x3), (4, .int x4), (5, .int x5), (6, .int x6)], [], h) (some (.int vR)) hR := by
  intro m
  induction m with
  | zero =>
    intro x3 x4 x5 x6 h hM
    exact (am_no hM).elim
  | succ m ih =>
    intro x3 x4 x5 x6 h hM
    rw [L_X9_copy_157] at hM
    refine Ev.steps (B := (161, [(0, .ref 75), (3, .int x3), (4, .int x4), (5, .int x5), (6, .int x6)], [.int x5, .int x6], h)) 2 rfl ?_
    refine Ev.br (b := decide (x5 ≤ x6)) rfl (fun c1 => ?_) (fun c1 => ?_)
    · have c1 := of_decide_eq_true c1
      rw [if_pos c1] at hM
      refine Ev.steps (B := (193, [(0, .ref 75), (3, .int x3), (4, .int x4), (5, .int x5), (6, .int x6)], [.int 1], h)) 1 rfl ?_
      obtain ⟨rfl, rfl⟩ := am_sp hM
      exact Ev.ret rfl
    · have c1 := of_decide_eq_false c1
      rw [if_neg c1] at hM
      refine Ev.steps (B := (184, [(0, .ref 75), (3, .int x3), (4, .int x4), (5, .int x5), (6, .int x6)], [.int x6, .ref 108, .int (((60 * x3) + x4) + x6), .ref 107], h)) 12 rfl ?_
      obtain ⟨g2, hM⟩ := am_gS hM
      refine Ev.g (B := (185, [(0, .ref 75), (3, .int x3), (4, .int x4), (5, .int x5), (6, .int x6)], [.int ((h.2.1 108) (Int32.toNatClampNeg x6)), .int (((60 * x3) + x4) + x6), .ref 107], h)) g2 rfl ?_
      obtain ⟨g3, hM⟩ := am_gS hM
      refine Ev.g (B := (186, [(0, .ref 75), (3, .int x3), (4, .int x4), (5, .int x5), (6, .int x6)], [], (am_sa h 107 (upd (h.2.1 107) (Int32.toNatClampNeg (((60 * x3) + x4) + x6)) ((h.2.1 108) (Int32.toNatClampNeg x6)))))) g3 rfl ?_
      refine Ev.steps (B := (157, [(6, .int (x6 + 1)), (0, .ref 75), (3, .int x3), (4, .int x4), (5, .int x5)], [], (am_sa h 107 (upd (h.2.1 107) (Int32.toNatClampNeg (((60 * x3) + x4) + x6)) ((h.2.1 108) (Int32.toNatClampNeg x6)))))) 2 rfl ?_
      refine Ev.lv (lv := [(0, .ref 75), (3, .int x3), (4, .int x4), (5, .int x5), (6, .int (x6 + 1))]) ⟨rfl, rfl, rfl, rfl, rfl, trivial⟩ rfl rfl ?_
      exact ih x3 x4 x5 (x6 + 1) (am_sa h 107 (upd (h.2.1 107) (Int32.toNatClampNeg (((60 * x3) + x4) + x6)) ((h.2.1 108) (Int32.toNatClampNeg x6)))) hM
def L_X9_copy_120 (n : Nat) : Nat → Int32 → Int32 → Int32 → Int32 → Int32 → Int32 → AH → Option (Int32 × AH)
  | 0, _, _, _, _, _, _, _ => none
  | m + 1, x1, x2, x3, x4, x5, x6, h =>
    if x5 ≤ x6 then
      L_X9_copy_157 n n x3 x4 x5 0 h
    else
      bif (am_in (((60 * x1) + x2) + x6) 240) then
        bif (am_in x6 60) then
          L_X9_copy_120 n m x1 x2 x3 x4 x5 (x6 + 1) (am_sa h 108 (upd (h.2.1 108) (Int32.toNatClampNeg x6) ((h.2.1 107) (Int32.toNatClampNeg (((60 * x1) + x2) + x6)))))
        else none
      else none
set_option maxRecDepth 10000 in
theorem E_L_X9_copy_120 (n : Nat) (vR : Int32) (hR : AH) : ∀ (m : Nat) (x1 : Int32) (x2 : Int32) (x3 : Int32) (x4 : Int32) (x5 : Int32) (x6 : Int32) (h : AH), L_X9_copy_120 n m x1 x2 x3 x4 x5 x6 h = some (vR, hR) → Ev none mr_X9_copy (120, [(0, .ref 75), (1, .int x1), (2, .int x2), (3, .int x3), (4, .int x4), (5, .int x5), (6, .int x6)], [], h) (some (.int vR)) hR := by
  intro m
  induction m with
  | zero =>
    intro x1 x2 x3 x4 x5 x6 h hM
    exact (am_no hM).elim
  | succ m ih =>
    intro x1 x2 x3 x4 x5 x6 h hM
    rw [L_X9_copy_120] at hM
    refine Ev.steps (B := (124, [(0, .ref 75), (1, .int x1), (2, .int x2), (3, .int x3), (4, .int x4), (5, .int x5), (6, .int x6)], [.int x5, .int x6], h)) 2 rfl ?_
    refine Ev.br (b := decide (x5 ≤ x6)) rfl (fun c1 => ?_) (fun c1 => ?_)
    · have c1 := of_decide_eq_true c1
      rw [if_pos c1] at hM
      refine Ev.steps (B := (157, [(6, .int 0), (0, .ref 75), (1, .int x1), (2, .int x2), (3, .int x3), (4, .int x4), (5, .int x5)], [], h)) 2 rfl ?_
      refine Ev.lv (lv := [(0, .ref 75), (3, .int x3), (4, .int x4), (5, .int x5), (6, .int 0)]) ⟨rfl, rfl, rfl, rfl, rfl, trivial⟩ rfl rfl ?_
      exact E_L_X9_copy_157 n vR hR n x3 x4 x5 0 h hM
    · have c1 := of_decide_eq_false c1
      rw [if_neg c1] at hM
      refine Ev.steps (B := (146, [(0, .ref 75), (1, .int x1), (2, .int x2), (3, .int x3), (4, .int x4), (5, .int x5), (6, .int x6)], [.int (((60 * x1) + x2) + x6), .ref 107, .int x6, .ref 108], h)) 12 rfl ?_
      obtain ⟨g2, hM⟩ := am_gS hM
      refine Ev.g (B := (147, [(0, .ref 75), (1, .int x1), (2, .int x2), (3, .int x3), (4, .int x4), (5, .int x5), (6, .int x6)], [.int ((h.2.1 107) (Int32.toNatClampNeg (((60 * x1) + x2) + x6))), .int x6, .ref 108], h)) g2 rfl ?_
      obtain ⟨g3, hM⟩ := am_gS hM
      refine Ev.g (B := (148, [(0, .ref 75), (1, .int x1), (2, .int x2), (3, .int x3), (4, .int x4), (5, .int x5), (6, .int x6)], [], (am_sa h 108 (upd (h.2.1 108) (Int32.toNatClampNeg x6) ((h.2.1 107) (Int32.toNatClampNeg (((60 * x1) + x2) + x6))))))) g3 rfl ?_
      refine Ev.steps (B := (120, [(6, .int (x6 + 1)), (0, .ref 75), (1, .int x1), (2, .int x2), (3, .int x3), (4, .int x4), (5, .int x5)], [], (am_sa h 108 (upd (h.2.1 108) (Int32.toNatClampNeg x6) ((h.2.1 107) (Int32.toNatClampNeg (((60 * x1) + x2) + x6))))))) 2 rfl ?_
      refine Ev.lv (lv := [(0, .ref 75), (1, .int x1), (2, .int x2), (3, .int x3), (4, .int x4), (5, .int x5), (6, .int (x6 + 1))]) ⟨rfl, rfl, rfl, rfl, rfl, rfl, rfl, trivial⟩ rfl rfl ?_
      exact ih x1 x2 x3 x4 x5 (x6 + 1) (am_sa h 108 (upd (h.2.1 108) (Int32.toNatClampNeg x6) ((h.2.1 107) (Int32.toNatClampNeg (((60 * x1) + x2) + x6))))) hM
def M_X9_copy (n : Nat) (a1 : Int32) (a2 : Int32) (a3 : Int32) (a4 : Int32) (a5 : Int32) (h : AH) : Option (Int32 × AH) :=
  if (M_X9_isSheet a1) = 0 then
    some ((-2), h)
  else
    if (M_X9_isSheet a3) = 0 then
      some ((-2), h)
    else
      bif (am_in a1 4) then
        if ((h.2.1 104) (Int32.toNatClampNeg a1)) = 0 then
          B_X9_copy_35 n h
        else
          bif (am_in a3 4) then
            if ((h.2.1 104) (Int32.toNatClampNeg a3)) = 0 then
              B_X9_copy_35 n h
            else
              bif (am_in a1 4) then
                bif (am_in a3 4) then
                  if ((h.2.1 105) (Int32.toNatClampNeg a1)) = ((h.2.1 105) (Int32.toNatClampNeg a3)) then
                    if a2 < 0 then
                      B_X9_copy_111 n h
                    else
                      if a4 < 0 then
                        B_X9_copy_111 n h
                      else
                        if a5 < 0 then
                          B_X9_copy_111 n h
                        else
                          bif (am_in a1 4) then
                            if 0 < (lg_cmp ((Int32.toInt64 a2) + (Int32.toInt64 a5)) (Int32.toInt64 ((h.2.1 106) (Int32.toNatClampNeg a1)))) then
                              B_X9_copy_111 n h
                            else
                              bif (am_in a3 4) then
                                if (lg_cmp ((Int32.toInt64 a4) + (Int32.toInt64 a5)) (Int32.toInt64 ((h.2.1 106) (Int32.toNatClampNeg a3)))) ≤ 0 then
                                  L_X9_copy_120 n n a1 a2 a3 a4 a5 0 h
                                else
                                  B_X9_copy_111 n h
                              else none
                          else none
                  else
                    am_b (M_X9_meets 4 h) fun v2 h1 =>
                    some (v2, h1)
                else none
              else none
          else none
      else none
set_option maxRecDepth 10000 in
theorem E_X9_copy_75 (n : Nat) (a1 : Int32) (a2 : Int32) (a3 : Int32) (a4 : Int32) (a5 : Int32) (h : AH) (vR : Int32) (hR : AH) (hM : M_X9_copy n a1 a2 a3 a4 a5 h = some (vR, hR)) : Ev none mr_X9_copy (0, [(0, .ref 75), (1, .int a1), (2, .int a2), (3, .int a3), (4, .int a4), (5, .int a5)], [], h) (some (.int vR)) hR := by
  unfold M_X9_copy at hM
  refine Ev.steps (B := (1, [(0, .ref 75), (1, .int a1), (2, .int a2), (3, .int a3), (4, .int a4), (5, .int a5)], [.int a1], h)) 1 rfl ?_
  refine Ev.call (q := (mr_X9_isSheet, [.int a1], [])) rfl (E_X9_isSheet a1 h) ?_
  refine Ev.br (b := decide ((M_X9_isSheet a1) = 0)) rfl (fun c1 => ?_) (fun c1 => ?_)
  · have c1 := of_decide_eq_true c1
    rw [if_pos c1] at hM
    refine Ev.steps (B := (16, [(0, .ref 75), (1, .int a1), (2, .int a2), (3, .int a3), (4, .int a4), (5, .int a5)], [.int (-2)], h)) 1 rfl ?_
    obtain ⟨rfl, rfl⟩ := am_sp hM
    exact Ev.ret rfl
  · have c1 := of_decide_eq_false c1
    rw [if_neg c1] at hM
    refine Ev.steps (B := (8, [(0, .ref 75), (1, .int a1), (2, .int a2), (3, .int a3), (4, .int a4), (5, .int a5)], [.int a3], h)) 1 rfl ?_
    refine Ev.call (q := (mr_X9_isSheet, [.int a3], [])) rfl (E_X9_isSheet a3 h) ?_
    refine Ev.br (b := decide (¬ (M_X9_isSheet a3) = 0)) rfl (fun c2 => ?_) (fun c2 => ?_)
    · have c2 := of_decide_eq_true c2
      rw [if_neg c2] at hM
      refine Ev.steps (B := (22, [(0, .ref 75), (1, .int a1), (2, .int a2), (3, .int a3), (4, .int a4), (5, .int a5)], [.int a1, .ref 104], h)) 3 rfl ?_
      obtain ⟨g3, hM⟩ := am_gS hM
      refine Ev.g (B := (23, [(0, .ref 75), (1, .int a1), (2, .int a2), (3, .int a3), (4, .int a4), (5, .int a5)], [.int ((h.2.1 104) (Int32.toNatClampNeg a1))], h)) g3 rfl ?_
      refine Ev.br (b := decide (((h.2.1 104) (Int32.toNatClampNeg a1)) = 0)) rfl (fun c4 => ?_) (fun c4 => ?_)
      · have c4 := of_decide_eq_true c4
        rw [if_pos c4] at hM
        refine Ev.lv (lv := [(0, .ref 75)]) ⟨rfl, trivial⟩ rfl rfl ?_
        exact E_B_X9_copy_35 n vR hR h hM
      · have c4 := of_decide_eq_false c4
        rw [if_neg c4] at hM
        refine Ev.steps (B := (31, [(0, .ref 75), (1, .int a1), (2, .int a2), (3, .int a3), (4, .int a4), (5, .int a5)], [.int a3, .ref 104], h)) 3 rfl ?_
        obtain ⟨g5, hM⟩ := am_gS hM
        refine Ev.g (B := (32, [(0, .ref 75), (1, .int a1), (2, .int a2), (3, .int a3), (4, .int a4), (5, .int a5)], [.int ((h.2.1 104) (Int32.toNatClampNeg a3))], h)) g5 rfl ?_
        refine Ev.br (b := decide (¬ ((h.2.1 104) (Int32.toNatClampNeg a3)) = 0)) rfl (fun c6 => ?_) (fun c6 => ?_)
        · have c6 := of_decide_eq_true c6
          rw [if_neg c6] at hM
          refine Ev.steps (B := (46, [(0, .ref 75), (1, .int a1), (2, .int a2), (3, .int a3), (4, .int a4), (5, .int a5)], [.int a1, .ref 105], h)) 3 rfl ?_
          obtain ⟨g7, hM⟩ := am_gS hM
          refine Ev.g (B := (47, [(0, .ref 75), (1, .int a1), (2, .int a2), (3, .int a3), (4, .int a4), (5, .int a5)], [.int ((h.2.1 105) (Int32.toNatClampNeg a1))], h)) g7 rfl ?_
          refine Ev.steps (B := (52, [(0, .ref 75), (1, .int a1), (2, .int a2), (3, .int a3), (4, .int a4), (5, .int a5)], [.int a3, .ref 105, .int ((h.2.1 105) (Int32.toNatClampNeg a1))], h)) 3 rfl ?_
          obtain ⟨g8, hM⟩ := am_gS hM
          refine Ev.g (B := (53, [(0, .ref 75), (1, .int a1), (2, .int a2), (3, .int a3), (4, .int a4), (5, .int a5)], [.int ((h.2.1 105) (Int32.toNatClampNeg a3)), .int ((h.2.1 105) (Int32.toNatClampNeg a1))], h)) g8 rfl ?_
          refine Ev.br (b := decide (((h.2.1 105) (Int32.toNatClampNeg a1)) = ((h.2.1 105) (Int32.toNatClampNeg a3)))) rfl (fun c9 => ?_) (fun c9 => ?_)
          · have c9 := of_decide_eq_true c9
            rw [if_pos c9] at hM
            refine Ev.steps (B := (63, [(0, .ref 75), (1, .int a1), (2, .int a2), (3, .int a3), (4, .int a4), (5, .int a5)], [.int a2], h)) 1 rfl ?_
            refine Ev.br (b := decide (a2 < 0)) rfl (fun c10 => ?_) (fun c10 => ?_)
            · have c10 := of_decide_eq_true c10
              rw [if_pos c10] at hM
              refine Ev.lv (lv := [(0, .ref 75)]) ⟨rfl, trivial⟩ rfl rfl ?_
              exact E_B_X9_copy_111 n vR hR h hM
            · have c10 := of_decide_eq_false c10
              rw [if_neg c10] at hM
              refine Ev.steps (B := (68, [(0, .ref 75), (1, .int a1), (2, .int a2), (3, .int a3), (4, .int a4), (5, .int a5)], [.int a4], h)) 1 rfl ?_
              refine Ev.br (b := decide (a4 < 0)) rfl (fun c11 => ?_) (fun c11 => ?_)
              · have c11 := of_decide_eq_true c11
                rw [if_pos c11] at hM
                refine Ev.lv (lv := [(0, .ref 75)]) ⟨rfl, trivial⟩ rfl rfl ?_
                exact E_B_X9_copy_111 n vR hR h hM
              · have c11 := of_decide_eq_false c11
                rw [if_neg c11] at hM
                refine Ev.steps (B := (73, [(0, .ref 75), (1, .int a1), (2, .int a2), (3, .int a3), (4, .int a4), (5, .int a5)], [.int a5], h)) 1 rfl ?_
                refine Ev.br (b := decide (a5 < 0)) rfl (fun c12 => ?_) (fun c12 => ?_)
                · have c12 := of_decide_eq_true c12
                  rw [if_pos c12] at hM
                  refine Ev.lv (lv := [(0, .ref 75)]) ⟨rfl, trivial⟩ rfl rfl ?_
                  exact E_B_X9_copy_111 n vR hR h hM
                · have c12 := of_decide_eq_false c12
                  rw [if_neg c12] at hM
                  refine Ev.steps (B := (87, [(0, .ref 75), (1, .int a1), (2, .int a2), (3, .int a3), (4, .int a4), (5, .int a5)], [.int a1, .ref 106, .long ((Int32.toInt64 a2) + (Int32.toInt64 a5))], h)) 8 rfl ?_
                  obtain ⟨g13, hM⟩ := am_gS hM
                  refine Ev.g (B := (88, [(0, .ref 75), (1, .int a1), (2, .int a2), (3, .int a3), (4, .int a4), (5, .int a5)], [.int ((h.2.1 106) (Int32.toNatClampNeg a1)), .long ((Int32.toInt64 a2) + (Int32.toInt64 a5))], h)) g13 rfl ?_
                  refine Ev.steps (B := (90, [(0, .ref 75), (1, .int a1), (2, .int a2), (3, .int a3), (4, .int a4), (5, .int a5)], [.int (lg_cmp ((Int32.toInt64 a2) + (Int32.toInt64 a5)) (Int32.toInt64 ((h.2.1 106) (Int32.toNatClampNeg a1))))], h)) 2 rfl ?_
                  refine Ev.br (b := decide (0 < (lg_cmp ((Int32.toInt64 a2) + (Int32.toInt64 a5)) (Int32.toInt64 ((h.2.1 106) (Int32.toNatClampNeg a1)))))) rfl (fun c14 => ?_) (fun c14 => ?_)
                  · have c14 := of_decide_eq_true c14
                    rw [if_pos c14] at hM
                    refine Ev.lv (lv := [(0, .ref 75)]) ⟨rfl, trivial⟩ rfl rfl ?_
                    exact E_B_X9_copy_111 n vR hR h hM
                  · have c14 := of_decide_eq_false c14
                    rw [if_neg c14] at hM
                    refine Ev.steps (B := (105, [(0, .ref 75), (1, .int a1), (2, .int a2), (3, .int a3), (4, .int a4), (5, .int a5)], [.int a3, .ref 106, .long ((Int32.toInt64 a4) + (Int32.toInt64 a5))], h)) 8 rfl ?_
                    obtain ⟨g15, hM⟩ := am_gS hM
                    refine Ev.g (B := (106, [(0, .ref 75), (1, .int a1), (2, .int a2), (3, .int a3), (4, .int a4), (5, .int a5)], [.int ((h.2.1 106) (Int32.toNatClampNeg a3)), .long ((Int32.toInt64 a4) + (Int32.toInt64 a5))], h)) g15 rfl ?_
                    refine Ev.steps (B := (108, [(0, .ref 75), (1, .int a1), (2, .int a2), (3, .int a3), (4, .int a4), (5, .int a5)], [.int (lg_cmp ((Int32.toInt64 a4) + (Int32.toInt64 a5)) (Int32.toInt64 ((h.2.1 106) (Int32.toNatClampNeg a3))))], h)) 2 rfl ?_
                    refine Ev.br (b := decide ((lg_cmp ((Int32.toInt64 a4) + (Int32.toInt64 a5)) (Int32.toInt64 ((h.2.1 106) (Int32.toNatClampNeg a3)))) ≤ 0)) rfl (fun c16 => ?_) (fun c16 => ?_)
                    · have c16 := of_decide_eq_true c16
                      rw [if_pos c16] at hM
                      refine Ev.steps (B := (120, [(6, .int 0), (0, .ref 75), (1, .int a1), (2, .int a2), (3, .int a3), (4, .int a4), (5, .int a5)], [], h)) 2 rfl ?_
                      refine Ev.lv (lv := [(0, .ref 75), (1, .int a1), (2, .int a2), (3, .int a3), (4, .int a4), (5, .int a5), (6, .int 0)]) ⟨rfl, rfl, rfl, rfl, rfl, rfl, rfl, trivial⟩ rfl rfl ?_
                      exact E_L_X9_copy_120 n vR hR n a1 a2 a3 a4 a5 0 h hM
                    · have c16 := of_decide_eq_false c16
                      rw [if_neg c16] at hM
                      refine Ev.lv (lv := [(0, .ref 75)]) ⟨rfl, trivial⟩ rfl rfl ?_
                      exact E_B_X9_copy_111 n vR hR h hM
          · have c9 := of_decide_eq_false c9
            rw [if_neg c9] at hM
            refine Ev.steps (B := (58, [(0, .ref 75), (1, .int a1), (2, .int a2), (3, .int a3), (4, .int a4), (5, .int a5)], [.int 4, .ref 75], h)) 2 rfl ?_
            obtain ⟨v2, h1, e17, hM⟩ := am_bS hM
            refine Ev.call (q := (mr_X9_meets, [.ref 75, .int 4], [])) rfl (E_X9_meets_75 4 h v2 h1 e17) ?_
            obtain ⟨rfl, rfl⟩ := am_sp hM
            exact Ev.ret rfl
        · have c6 := Decidable.of_not_not (of_decide_eq_false c6)
          rw [if_pos c6] at hM
          refine Ev.lv (lv := [(0, .ref 75)]) ⟨rfl, trivial⟩ rfl rfl ?_
          exact E_B_X9_copy_35 n vR hR h hM
    · have c2 := Decidable.of_not_not (of_decide_eq_false c2)
      rw [if_pos c2] at hM
      refine Ev.steps (B := (16, [(0, .ref 75), (1, .int a1), (2, .int a2), (3, .int a3), (4, .int a4), (5, .int a5)], [.int (-2)], h)) 1 rfl ?_
      obtain ⟨rfl, rfl⟩ := am_sp hM
      exact Ev.ret rfl
def L_X8_write_48 (n : Nat) : Nat → Int32 → Nat → Int32 → Int32 → AH → Option (Int32 × AH)
  | 0, _, _, _, _, _ => none
  | m + 1, x1, q3, x4, x5, h =>
    if x4 ≤ x5 then
      some (x4, h)
    else
      am_b (M_X8_at n x5 x1 h) fun v2 h1 =>
      am_v (M_X5_store q3 x5 v2 h1) fun h3 =>
      L_X8_write_48 n m x1 q3 x4 (x5 + 1) h3
set_option maxRecDepth 10000 in
theorem E_L_X8_write_48_67 (n : Nat) (vR : Int32) (hR : AH) : ∀ (m : Nat) (x1 : Int32) (x4 : Int32) (x5 : Int32) (h : AH), L_X8_write_48 n m x1 67 x4 x5 h = some (vR, hR) → Ev none mr_X8_write (48, [(0, .ref 0), (1, .int x1), (3, .ref 67), (4, .int x4), (5, .int x5)], [], h) (some (.int vR)) hR := by
  intro m
  induction m with
  | zero =>
    intro x1 x4 x5 h hM
    exact (am_no hM).elim
  | succ m ih =>
    intro x1 x4 x5 h hM
    rw [L_X8_write_48] at hM
    refine Ev.steps (B := (52, [(0, .ref 0), (1, .int x1), (3, .ref 67), (4, .int x4), (5, .int x5)], [.int x4, .int x5], h)) 2 rfl ?_
    refine Ev.br (b := decide (x4 ≤ x5)) rfl (fun c1 => ?_) (fun c1 => ?_)
    · have c1 := of_decide_eq_true c1
      rw [if_pos c1] at hM
      refine Ev.steps (B := (76, [(0, .ref 0), (1, .int x1), (3, .ref 67), (4, .int x4), (5, .int x5)], [.int x4], h)) 1 rfl ?_
      obtain ⟨rfl, rfl⟩ := am_sp hM
      exact Ev.ret rfl
    · have c1 := of_decide_eq_false c1
      rw [if_neg c1] at hM
      refine Ev.steps (B := (62, [(0, .ref 0), (1, .int x1), (3, .ref 67), (4, .int x4), (5, .int x5)], [.int x1, .int x5, .ref 0, .int x5, .ref 67], h)) 5 rfl ?_
      obtain ⟨v2, h1, e2, hM⟩ := am_bS hM
      refine Ev.call (q := (mr_X8_at, [.ref 0, .int x5, .int x1], [.int x5, .ref 67])) rfl (E_X8_at_0 n x5 x1 h v2 h1 e2) ?_
      obtain ⟨h3, e3, hM⟩ := am_vS hM
      refine Ev.call (q := (mr_X5_store, [.ref 67, .int x5, .int v2], [])) rfl (E_X5_store_67 x5 v2 h1 h3 e3) ?_
      refine Ev.steps (B := (48, [(5, .int (x5 + 1)), (0, .ref 0), (1, .int x1), (3, .ref 67), (4, .int x4)], [], h3)) 2 rfl ?_
      refine Ev.lv (lv := [(0, .ref 0), (1, .int x1), (3, .ref 67), (4, .int x4), (5, .int (x5 + 1))]) ⟨rfl, rfl, rfl, rfl, rfl, trivial⟩ rfl rfl ?_
      exact ih x1 x4 (x5 + 1) h3 hM
def B_X8_write_6 (n : Nat) (x1 : Int32) (q3 : Nat) (h : AH) : Option (Int32 × AH) :=
  if (M_X8_within x1 2) = 0 then
    some ((-2), h)
  else
    if (h.1 q3 1) = 0 then
      L_X8_write_48 n n x1 q3 (am_min (h.1 q3 3) 24) 0 h
    else
      am_b (M_X8_found 1 h) fun v2 h1 =>
      some (v2, h1)
set_option maxRecDepth 10000 in
theorem E_B_X8_write_6_67 (n : Nat) (vR : Int32) (hR : AH) (x1 : Int32) (h : AH) (hM : B_X8_write_6 n x1 67 h = some (vR, hR)) : Ev none mr_X8_write (6, [(0, .ref 0), (1, .int x1), (3, .ref 67)], [], h) (some (.int vR)) hR := by
  unfold B_X8_write_6 at hM
  refine Ev.steps (B := (12, [(0, .ref 0), (1, .int x1), (3, .ref 67)], [.int 2, .int x1], h)) 4 rfl ?_
  refine Ev.call (q := (mr_X8_within, [.int x1, .int 2], [])) rfl (E_X8_within x1 2 h) ?_
  refine Ev.br (b := decide (¬ (M_X8_within x1 2) = 0)) rfl (fun c1 => ?_) (fun c1 => ?_)
  · have c1 := of_decide_eq_true c1
    rw [if_neg c1] at hM
    refine Ev.steps (B := (25, [(0, .ref 0), (1, .int x1), (3, .ref 67)], [.int (h.1 67 1)], h)) 2 rfl ?_
    refine Ev.br (b := decide ((h.1 67 1) = 0)) rfl (fun c2 => ?_) (fun c2 => ?_)
    · have c2 := of_decide_eq_true c2
      rw [if_pos c2] at hM
      refine Ev.steps (B := (48, [(5, .int 0), (4, .int (am_min (h.1 67 3) 24)), (0, .ref 0), (1, .int x1), (3, .ref 67)], [], h)) 7 rfl ?_
      refine Ev.lv (lv := [(0, .ref 0), (1, .int x1), (3, .ref 67), (4, .int (am_min (h.1 67 3) 24)), (5, .int 0)]) ⟨rfl, rfl, rfl, rfl, rfl, trivial⟩ rfl rfl ?_
      exact E_L_X8_write_48_67 n vR hR n x1 (am_min (h.1 67 3) 24) 0 h hM
    · have c2 := of_decide_eq_false c2
      rw [if_neg c2] at hM
      refine Ev.steps (B := (30, [(0, .ref 0), (1, .int x1), (3, .ref 67)], [.int 1, .ref 0], h)) 2 rfl ?_
      obtain ⟨v2, h1, e3, hM⟩ := am_bS hM
      refine Ev.call (q := (mr_X8_found, [.ref 0, .int 1], [])) rfl (E_X8_found_0 1 h v2 h1 e3) ?_
      obtain ⟨rfl, rfl⟩ := am_sp hM
      exact Ev.ret rfl
  · have c1 := Decidable.of_not_not (of_decide_eq_false c1)
    rw [if_pos c1] at hM
    refine Ev.steps (B := (20, [(0, .ref 0), (1, .int x1), (3, .ref 67)], [.int (-2)], h)) 1 rfl ?_
    obtain ⟨rfl, rfl⟩ := am_sp hM
    exact Ev.ret rfl
set_option maxRecDepth 10000 in
theorem E_L_X8_write_48_69 (n : Nat) (vR : Int32) (hR : AH) : ∀ (m : Nat) (x1 : Int32) (x4 : Int32) (x5 : Int32) (h : AH), L_X8_write_48 n m x1 69 x4 x5 h = some (vR, hR) → Ev none mr_X8_write (48, [(0, .ref 0), (1, .int x1), (3, .ref 69), (4, .int x4), (5, .int x5)], [], h) (some (.int vR)) hR := by
  intro m
  induction m with
  | zero =>
    intro x1 x4 x5 h hM
    exact (am_no hM).elim
  | succ m ih =>
    intro x1 x4 x5 h hM
    rw [L_X8_write_48] at hM
    refine Ev.steps (B := (52, [(0, .ref 0), (1, .int x1), (3, .ref 69), (4, .int x4), (5, .int x5)], [.int x4, .int x5], h)) 2 rfl ?_
    refine Ev.br (b := decide (x4 ≤ x5)) rfl (fun c1 => ?_) (fun c1 => ?_)
    · have c1 := of_decide_eq_true c1
      rw [if_pos c1] at hM
      refine Ev.steps (B := (76, [(0, .ref 0), (1, .int x1), (3, .ref 69), (4, .int x4), (5, .int x5)], [.int x4], h)) 1 rfl ?_
      obtain ⟨rfl, rfl⟩ := am_sp hM
      exact Ev.ret rfl
    · have c1 := of_decide_eq_false c1
      rw [if_neg c1] at hM
      refine Ev.steps (B := (62, [(0, .ref 0), (1, .int x1), (3, .ref 69), (4, .int x4), (5, .int x5)], [.int x1, .int x5, .ref 0, .int x5, .ref 69], h)) 5 rfl ?_
      obtain ⟨v2, h1, e2, hM⟩ := am_bS hM
      refine Ev.call (q := (mr_X8_at, [.ref 0, .int x5, .int x1], [.int x5, .ref 69])) rfl (E_X8_at_0 n x5 x1 h v2 h1 e2) ?_
      obtain ⟨h3, e3, hM⟩ := am_vS hM
      refine Ev.call (q := (mr_X5_store, [.ref 69, .int x5, .int v2], [])) rfl (E_X5_store_69 x5 v2 h1 h3 e3) ?_
      refine Ev.steps (B := (48, [(5, .int (x5 + 1)), (0, .ref 0), (1, .int x1), (3, .ref 69), (4, .int x4)], [], h3)) 2 rfl ?_
      refine Ev.lv (lv := [(0, .ref 0), (1, .int x1), (3, .ref 69), (4, .int x4), (5, .int (x5 + 1))]) ⟨rfl, rfl, rfl, rfl, rfl, trivial⟩ rfl rfl ?_
      exact ih x1 x4 (x5 + 1) h3 hM
set_option maxRecDepth 10000 in
theorem E_B_X8_write_6_69 (n : Nat) (vR : Int32) (hR : AH) (x1 : Int32) (h : AH) (hM : B_X8_write_6 n x1 69 h = some (vR, hR)) : Ev none mr_X8_write (6, [(0, .ref 0), (1, .int x1), (3, .ref 69)], [], h) (some (.int vR)) hR := by
  unfold B_X8_write_6 at hM
  refine Ev.steps (B := (12, [(0, .ref 0), (1, .int x1), (3, .ref 69)], [.int 2, .int x1], h)) 4 rfl ?_
  refine Ev.call (q := (mr_X8_within, [.int x1, .int 2], [])) rfl (E_X8_within x1 2 h) ?_
  refine Ev.br (b := decide (¬ (M_X8_within x1 2) = 0)) rfl (fun c1 => ?_) (fun c1 => ?_)
  · have c1 := of_decide_eq_true c1
    rw [if_neg c1] at hM
    refine Ev.steps (B := (25, [(0, .ref 0), (1, .int x1), (3, .ref 69)], [.int (h.1 69 1)], h)) 2 rfl ?_
    refine Ev.br (b := decide ((h.1 69 1) = 0)) rfl (fun c2 => ?_) (fun c2 => ?_)
    · have c2 := of_decide_eq_true c2
      rw [if_pos c2] at hM
      refine Ev.steps (B := (48, [(5, .int 0), (4, .int (am_min (h.1 69 3) 24)), (0, .ref 0), (1, .int x1), (3, .ref 69)], [], h)) 7 rfl ?_
      refine Ev.lv (lv := [(0, .ref 0), (1, .int x1), (3, .ref 69), (4, .int (am_min (h.1 69 3) 24)), (5, .int 0)]) ⟨rfl, rfl, rfl, rfl, rfl, trivial⟩ rfl rfl ?_
      exact E_L_X8_write_48_69 n vR hR n x1 (am_min (h.1 69 3) 24) 0 h hM
    · have c2 := of_decide_eq_false c2
      rw [if_neg c2] at hM
      refine Ev.steps (B := (30, [(0, .ref 0), (1, .int x1), (3, .ref 69)], [.int 1, .ref 0], h)) 2 rfl ?_
      obtain ⟨v2, h1, e3, hM⟩ := am_bS hM
      refine Ev.call (q := (mr_X8_found, [.ref 0, .int 1], [])) rfl (E_X8_found_0 1 h v2 h1 e3) ?_
      obtain ⟨rfl, rfl⟩ := am_sp hM
      exact Ev.ret rfl
  · have c1 := Decidable.of_not_not (of_decide_eq_false c1)
    rw [if_pos c1] at hM
    refine Ev.steps (B := (20, [(0, .ref 0), (1, .int x1), (3, .ref 69)], [.int (-2)], h)) 1 rfl ?_
    obtain ⟨rfl, rfl⟩ := am_sp hM
    exact Ev.ret rfl
set_option maxRecDepth 10000 in
theorem E_L_X8_write_48_71 (n : Nat) (vR : Int32) (hR : AH) : ∀ (m : Nat) (x1 : Int32) (x4 : Int32) (x5 : Int32) (h : AH), L_X8_write_48 n m x1 71 x4 x5 h = some (vR, hR) → Ev none mr_X8_write (48, [(0, .ref 0), (1, .int x1), (3, .ref 71), (4, .int x4), (5, .int x5)], [], h) (some (.int vR)) hR := by
  intro m
  induction m with
  | zero =>
    intro x1 x4 x5 h hM
    exact (am_no hM).elim
  | succ m ih =>
    intro x1 x4 x5 h hM
    rw [L_X8_write_48] at hM
    refine Ev.steps (B := (52, [(0, .ref 0), (1, .int x1), (3, .ref 71), (4, .int x4), (5, .int x5)], [.int x4, .int x5], h)) 2 rfl ?_
    refine Ev.br (b := decide (x4 ≤ x5)) rfl (fun c1 => ?_) (fun c1 => ?_)
    · have c1 := of_decide_eq_true c1
      rw [if_pos c1] at hM
      refine Ev.steps (B := (76, [(0, .ref 0), (1, .int x1), (3, .ref 71), (4, .int x4), (5, .int x5)], [.int x4], h)) 1 rfl ?_
      obtain ⟨rfl, rfl⟩ := am_sp hM
      exact Ev.ret rfl
    · have c1 := of_decide_eq_false c1
      rw [if_neg c1] at hM
      refine Ev.steps (B := (62, [(0, .ref 0), (1, .int x1), (3, .ref 71), (4, .int x4), (5, .int x5)], [.int x1, .int x5, .ref 0, .int x5, .ref 71], h)) 5 rfl ?_
      obtain ⟨v2, h1, e2, hM⟩ := am_bS hM
      refine Ev.call (q := (mr_X8_at, [.ref 0, .int x5, .int x1], [.int x5, .ref 71])) rfl (E_X8_at_0 n x5 x1 h v2 h1 e2) ?_
      obtain ⟨h3, e3, hM⟩ := am_vS hM
      refine Ev.call (q := (mr_X5_store, [.ref 71, .int x5, .int v2], [])) rfl (E_X5_store_71 x5 v2 h1 h3 e3) ?_
      refine Ev.steps (B := (48, [(5, .int (x5 + 1)), (0, .ref 0), (1, .int x1), (3, .ref 71), (4, .int x4)], [], h3)) 2 rfl ?_
      refine Ev.lv (lv := [(0, .ref 0), (1, .int x1), (3, .ref 71), (4, .int x4), (5, .int (x5 + 1))]) ⟨rfl, rfl, rfl, rfl, rfl, trivial⟩ rfl rfl ?_
      exact ih x1 x4 (x5 + 1) h3 hM
set_option maxRecDepth 10000 in
theorem E_B_X8_write_6_71 (n : Nat) (vR : Int32) (hR : AH) (x1 : Int32) (h : AH) (hM : B_X8_write_6 n x1 71 h = some (vR, hR)) : Ev none mr_X8_write (6, [(0, .ref 0), (1, .int x1), (3, .ref 71)], [], h) (some (.int vR)) hR := by
  unfold B_X8_write_6 at hM
  refine Ev.steps (B := (12, [(0, .ref 0), (1, .int x1), (3, .ref 71)], [.int 2, .int x1], h)) 4 rfl ?_
  refine Ev.call (q := (mr_X8_within, [.int x1, .int 2], [])) rfl (E_X8_within x1 2 h) ?_
  refine Ev.br (b := decide (¬ (M_X8_within x1 2) = 0)) rfl (fun c1 => ?_) (fun c1 => ?_)
  · have c1 := of_decide_eq_true c1
    rw [if_neg c1] at hM
    refine Ev.steps (B := (25, [(0, .ref 0), (1, .int x1), (3, .ref 71)], [.int (h.1 71 1)], h)) 2 rfl ?_
    refine Ev.br (b := decide ((h.1 71 1) = 0)) rfl (fun c2 => ?_) (fun c2 => ?_)
    · have c2 := of_decide_eq_true c2
      rw [if_pos c2] at hM
      refine Ev.steps (B := (48, [(5, .int 0), (4, .int (am_min (h.1 71 3) 24)), (0, .ref 0), (1, .int x1), (3, .ref 71)], [], h)) 7 rfl ?_
      refine Ev.lv (lv := [(0, .ref 0), (1, .int x1), (3, .ref 71), (4, .int (am_min (h.1 71 3) 24)), (5, .int 0)]) ⟨rfl, rfl, rfl, rfl, rfl, trivial⟩ rfl rfl ?_
      exact E_L_X8_write_48_71 n vR hR n x1 (am_min (h.1 71 3) 24) 0 h hM
    · have c2 := of_decide_eq_false c2
      rw [if_neg c2] at hM
      refine Ev.steps (B := (30, [(0, .ref 0), (1, .int x1), (3, .ref 71)], [.int 1, .ref 0], h)) 2 rfl ?_
      obtain ⟨v2, h1, e3, hM⟩ := am_bS hM
      refine Ev.call (q := (mr_X8_found, [.ref 0, .int 1], [])) rfl (E_X8_found_0 1 h v2 h1 e3) ?_
      obtain ⟨rfl, rfl⟩ := am_sp hM
      exact Ev.ret rfl
  · have c1 := Decidable.of_not_not (of_decide_eq_false c1)
    rw [if_pos c1] at hM
    refine Ev.steps (B := (20, [(0, .ref 0), (1, .int x1), (3, .ref 71)], [.int (-2)], h)) 1 rfl ?_
    obtain ⟨rfl, rfl⟩ := am_sp hM
    exact Ev.ret rfl
set_option maxRecDepth 10000 in
theorem E_L_X8_write_48_73 (n : Nat) (vR : Int32) (hR : AH) : ∀ (m : Nat) (x1 : Int32) (x4 : Int32) (x5 : Int32) (h : AH), L_X8_write_48 n m x1 73 x4 x5 h = some (vR, hR) → Ev none mr_X8_write (48, [(0, .ref 0), (1, .int x1), (3, .ref 73), (4, .int x4), (5, .int x5)], [], h) (some (.int vR)) hR := by
  intro m
  induction m with
  | zero =>
    intro x1 x4 x5 h hM
    exact (am_no hM).elim
  | succ m ih =>
    intro x1 x4 x5 h hM
    rw [L_X8_write_48] at hM
    refine Ev.steps (B := (52, [(0, .ref 0), (1, .int x1), (3, .ref 73), (4, .int x4), (5, .int x5)], [.int x4, .int x5], h)) 2 rfl ?_
    refine Ev.br (b := decide (x4 ≤ x5)) rfl (fun c1 => ?_) (fun c1 => ?_)
    · have c1 := of_decide_eq_true c1
      rw [if_pos c1] at hM
      refine Ev.steps (B := (76, [(0, .ref 0), (1, .int x1), (3, .ref 73), (4, .int x4), (5, .int x5)], [.int x4], h)) 1 rfl ?_
      obtain ⟨rfl, rfl⟩ := am_sp hM
      exact Ev.ret rfl
    · have c1 := of_decide_eq_false c1
      rw [if_neg c1] at hM
      refine Ev.steps (B := (62, [(0, .ref 0), (1, .int x1), (3, .ref 73), (4, .int x4), (5, .int x5)], [.int x1, .int x5, .ref 0, .int x5, .ref 73], h)) 5 rfl ?_
      obtain ⟨v2, h1, e2, hM⟩ := am_bS hM
      refine Ev.call (q := (mr_X8_at, [.ref 0, .int x5, .int x1], [.int x5, .ref 73])) rfl (E_X8_at_0 n x5 x1 h v2 h1 e2) ?_
      obtain ⟨h3, e3, hM⟩ := am_vS hM
      refine Ev.call (q := (mr_X5_store, [.ref 73, .int x5, .int v2], [])) rfl (E_X5_store_73 x5 v2 h1 h3 e3) ?_
      refine Ev.steps (B := (48, [(5, .int (x5 + 1)), (0, .ref 0), (1, .int x1), (3, .ref 73), (4, .int x4)], [], h3)) 2 rfl ?_
      refine Ev.lv (lv := [(0, .ref 0), (1, .int x1), (3, .ref 73), (4, .int x4), (5, .int (x5 + 1))]) ⟨rfl, rfl, rfl, rfl, rfl, trivial⟩ rfl rfl ?_
      exact ih x1 x4 (x5 + 1) h3 hM
set_option maxRecDepth 10000 in
theorem E_B_X8_write_6_73 (n : Nat) (vR : Int32) (hR : AH) (x1 : Int32) (h : AH) (hM : B_X8_write_6 n x1 73 h = some (vR, hR)) : Ev none mr_X8_write (6, [(0, .ref 0), (1, .int x1), (3, .ref 73)], [], h) (some (.int vR)) hR := by
  unfold B_X8_write_6 at hM
  refine Ev.steps (B := (12, [(0, .ref 0), (1, .int x1), (3, .ref 73)], [.int 2, .int x1], h)) 4 rfl ?_
  refine Ev.call (q := (mr_X8_within, [.int x1, .int 2], [])) rfl (E_X8_within x1 2 h) ?_
  refine Ev.br (b := decide (¬ (M_X8_within x1 2) = 0)) rfl (fun c1 => ?_) (fun c1 => ?_)
  · have c1 := of_decide_eq_true c1
    rw [if_neg c1] at hM
    refine Ev.steps (B := (25, [(0, .ref 0), (1, .int x1), (3, .ref 73)], [.int (h.1 73 1)], h)) 2 rfl ?_
    refine Ev.br (b := decide ((h.1 73 1) = 0)) rfl (fun c2 => ?_) (fun c2 => ?_)
    · have c2 := of_decide_eq_true c2
      rw [if_pos c2] at hM
      refine Ev.steps (B := (48, [(5, .int 0), (4, .int (am_min (h.1 73 3) 24)), (0, .ref 0), (1, .int x1), (3, .ref 73)], [], h)) 7 rfl ?_
      refine Ev.lv (lv := [(0, .ref 0), (1, .int x1), (3, .ref 73), (4, .int (am_min (h.1 73 3) 24)), (5, .int 0)]) ⟨rfl, rfl, rfl, rfl, rfl, trivial⟩ rfl rfl ?_
      exact E_L_X8_write_48_73 n vR hR n x1 (am_min (h.1 73 3) 24) 0 h hM
    · have c2 := of_decide_eq_false c2
      rw [if_neg c2] at hM
      refine Ev.steps (B := (30, [(0, .ref 0), (1, .int x1), (3, .ref 73)], [.int 1, .ref 0], h)) 2 rfl ?_
      obtain ⟨v2, h1, e3, hM⟩ := am_bS hM
      refine Ev.call (q := (mr_X8_found, [.ref 0, .int 1], [])) rfl (E_X8_found_0 1 h v2 h1 e3) ?_
      obtain ⟨rfl, rfl⟩ := am_sp hM
      exact Ev.ret rfl
  · have c1 := Decidable.of_not_not (of_decide_eq_false c1)
    rw [if_pos c1] at hM
    refine Ev.steps (B := (20, [(0, .ref 0), (1, .int x1), (3, .ref 73)], [.int (-2)], h)) 1 rfl ?_
    obtain ⟨rfl, rfl⟩ := am_sp hM
    exact Ev.ret rfl
def M_X8_write (n : Nat) (a1 : Int32) (a2 : Int32) (h : AH) : Option (Int32 × AH) :=
  if a2 = 0 then
    B_X8_write_6 n a1 67 h
  else
  if a2 = 1 then
    B_X8_write_6 n a1 69 h
  else
  if a2 = 2 then
    B_X8_write_6 n a1 71 h
  else
  if a2 = 3 then
    B_X8_write_6 n a1 73 h
  else
    some ((-2), h)
set_option maxRecDepth 10000 in
theorem E_X8_write_0 (n : Nat) (a1 : Int32) (a2 : Int32) (h : AH) (vR : Int32) (hR : AH) (hM : M_X8_write n a1 a2 h = some (vR, hR)) : Ev none mr_X8_write (0, [(0, .ref 0), (1, .int a1), (2, .int a2)], [], h) (some (.int vR)) hR := by
  unfold M_X8_write at hM
  refine Ev.steps (B := (2, [(0, .ref 0), (1, .int a1), (2, .int a2)], [.int a2, .ref 0], h)) 2 rfl ?_
  by_cases c1 : a2 = 0
  · rw [if_pos c1] at hM
    refine Ev.call (q := (mr_X8_sheetAt, [.ref 0, .int a2], [])) rfl (E_X8_sheetAt_67 a2 h c1) ?_
    refine Ev.steps (B := (6, [(3, .ref 67), (0, .ref 0), (1, .int a1), (2, .int a2)], [], h)) 1 rfl ?_
    refine Ev.lv (lv := [(0, .ref 0), (1, .int a1), (3, .ref 67)]) ⟨rfl, rfl, rfl, trivial⟩ rfl rfl ?_
    exact E_B_X8_write_6_67 n vR hR a1 h hM
  · rw [if_neg c1] at hM
    by_cases c2 : a2 = 1
    · rw [if_pos c2] at hM
      refine Ev.call (q := (mr_X8_sheetAt, [.ref 0, .int a2], [])) rfl (E_X8_sheetAt_69 a2 h c2) ?_
      refine Ev.steps (B := (6, [(3, .ref 69), (0, .ref 0), (1, .int a1), (2, .int a2)], [], h)) 1 rfl ?_
      refine Ev.lv (lv := [(0, .ref 0), (1, .int a1), (3, .ref 69)]) ⟨rfl, rfl, rfl, trivial⟩ rfl rfl ?_
      exact E_B_X8_write_6_69 n vR hR a1 h hM
    · rw [if_neg c2] at hM
      by_cases c3 : a2 = 2
      · rw [if_pos c3] at hM
        refine Ev.call (q := (mr_X8_sheetAt, [.ref 0, .int a2], [])) rfl (E_X8_sheetAt_71 a2 h c3) ?_
        refine Ev.steps (B := (6, [(3, .ref 71), (0, .ref 0), (1, .int a1), (2, .int a2)], [], h)) 1 rfl ?_
        refine Ev.lv (lv := [(0, .ref 0), (1, .int a1), (3, .ref 71)]) ⟨rfl, rfl, rfl, trivial⟩ rfl rfl ?_
        exact E_B_X8_write_6_71 n vR hR a1 h hM
      · rw [if_neg c3] at hM
        by_cases c4 : a2 = 3
        · rw [if_pos c4] at hM
          refine Ev.call (q := (mr_X8_sheetAt, [.ref 0, .int a2], [])) rfl (E_X8_sheetAt_73 a2 h c4) ?_
          refine Ev.steps (B := (6, [(3, .ref 73), (0, .ref 0), (1, .int a1), (2, .int a2)], [], h)) 1 rfl ?_
          refine Ev.lv (lv := [(0, .ref 0), (1, .int a1), (3, .ref 73)]) ⟨rfl, rfl, rfl, trivial⟩ rfl rfl ?_
          exact E_B_X8_write_6_73 n vR hR a1 h hM
        · rw [if_neg c4] at hM
          refine Ev.call (q := (mr_X8_sheetAt, [.ref 0, .int a2], [])) rfl (E_X8_sheetAt_d a2 h c1 c2 c3 c4) ?_
          refine Ev.steps (B := (20, [(3, .null), (0, .ref 0), (1, .int a1), (2, .int a2)], [.int (-2)], h)) 4 rfl ?_
          obtain ⟨rfl, rfl⟩ := am_sp hM
          exact Ev.ret rfl
def L_X9_write_38 (n : Nat) : Nat → Int32 → Int32 → Int32 → AH → Option (Int32 × AH)
  | 0, _, _, _, _ => none
  | m + 1, x1, x2, x3, h =>
    bif (am_in x2 4) then
      if ((h.2.1 106) (Int32.toNatClampNeg x2)) ≤ x3 then
        some (x3, h)
      else
        if 24 ≤ x3 then
          some (x3, h)
        else
          bif (am_in ((6 * x3) + x1) 144) then
            am_v (M_X9_keep x2 x3 ((h.2.1 96) (Int32.toNatClampNeg ((6 * x3) + x1))) h) fun h1 =>
            L_X9_write_38 n m x1 x2 (x3 + 1) h1
          else none
    else none
set_option maxRecDepth 10000 in
theorem E_L_X9_write_38 (n : Nat) (vR : Int32) (hR : AH) : ∀ (m : Nat) (x1 : Int32) (x2 : Int32) (x3 : Int32) (h : AH), L_X9_write_38 n m x1 x2 x3 h = some (vR, hR) → Ev none mr_X9_write (38, [(0, .ref 75), (1, .int x1), (2, .int x2), (3, .int x3)], [], h) (some (.int vR)) hR := by
  intro m
  induction m with
  | zero =>
    intro x1 x2 x3 h hM
    exact (am_no hM).elim
  | succ m ih =>
    intro x1 x2 x3 h hM
    rw [L_X9_write_38] at hM
    refine Ev.steps (B := (44, [(0, .ref 75), (1, .int x1), (2, .int x2), (3, .int x3)], [.int x2, .ref 106, .int x3], h)) 4 rfl ?_
    obtain ⟨g1, hM⟩ := am_gS hM
    refine Ev.g (B := (45, [(0, .ref 75), (1, .int x1), (2, .int x2), (3, .int x3)], [.int ((h.2.1 106) (Int32.toNatClampNeg x2)), .int x3], h)) g1 rfl ?_
    refine Ev.br (b := decide (((h.2.1 106) (Int32.toNatClampNeg x2)) ≤ x3)) rfl (fun c2 => ?_) (fun c2 => ?_)
    · have c2 := of_decide_eq_true c2
      rw [if_pos c2] at hM
      refine Ev.steps (B := (78, [(0, .ref 75), (1, .int x1), (2, .int x2), (3, .int x3)], [.int x3], h)) 1 rfl ?_
      obtain ⟨rfl, rfl⟩ := am_sp hM
      exact Ev.ret rfl
    · have c2 := of_decide_eq_false c2
      rw [if_neg c2] at hM
      refine Ev.steps (B := (51, [(0, .ref 75), (1, .int x1), (2, .int x2), (3, .int x3)], [.int 24, .int x3], h)) 2 rfl ?_
      refine Ev.br (b := decide (24 ≤ x3)) rfl (fun c3 => ?_) (fun c3 => ?_)
      · have c3 := of_decide_eq_true c3
        rw [if_pos c3] at hM
        refine Ev.steps (B := (78, [(0, .ref 75), (1, .int x1), (2, .int x2), (3, .int x3)], [.int x3], h)) 1 rfl ?_
        obtain ⟨rfl, rfl⟩ := am_sp hM
        exact Ev.ret rfl
      · have c3 := of_decide_eq_false c3
        rw [if_neg c3] at hM
        refine Ev.steps (B := (67, [(0, .ref 75), (1, .int x1), (2, .int x2), (3, .int x3)], [.int ((6 * x3) + x1), .ref 96, .int x3, .int x2, .ref 75], h)) 10 rfl ?_
        obtain ⟨g4, hM⟩ := am_gS hM
        refine Ev.g (B := (68, [(0, .ref 75), (1, .int x1), (2, .int x2), (3, .int x3)], [.int ((h.2.1 96) (Int32.toNatClampNeg ((6 * x3) + x1))), .int x3, .int x2, .ref 75], h)) g4 rfl ?_
        obtain ⟨h1, e5, hM⟩ := am_vS hM
        refine Ev.call (q := (mr_X9_keep, [.ref 75, .int x2, .int x3, .int ((h.2.1 96) (Int32.toNatClampNeg ((6 * x3) + x1)))], [])) rfl (E_X9_keep_75 x2 x3 ((h.2.1 96) (Int32.toNatClampNeg ((6 * x3) + x1))) h h1 e5) ?_
        refine Ev.steps (B := (38, [(3, .int (x3 + 1)), (0, .ref 75), (1, .int x1), (2, .int x2)], [], h1)) 2 rfl ?_
        refine Ev.lv (lv := [(0, .ref 75), (1, .int x1), (2, .int x2), (3, .int (x3 + 1))]) ⟨rfl, rfl, rfl, rfl, trivial⟩ rfl rfl ?_
        exact ih x1 x2 (x3 + 1) h1 hM
def M_X9_write (n : Nat) (a1 : Int32) (a2 : Int32) (h : AH) : Option (Int32 × AH) :=
  if (M_X9_isThree a1) = 0 then
    some ((-2), h)
  else
    if (M_X9_isSheet a2) = 0 then
      some ((-2), h)
    else
      bif (am_in a2 4) then
        if ((h.2.1 104) (Int32.toNatClampNeg a2)) = 0 then
          am_b (M_X9_meets 1 h) fun v3 h2 =>
          some (v3, h2)
        else
          am_v (M_X9_runsTold n h) fun h1 =>
          L_X9_write_38 n n a1 a2 0 h1
      else none
set_option maxRecDepth 10000 in
theorem E_X9_write_75 (n : Nat) (a1 : Int32) (a2 : Int32) (h : AH) (vR : Int32) (hR : AH) (hM : M_X9_write n a1 a2 h = some (vR, hR)) : Ev none mr_X9_write (0, [(0, .ref 75), (1, .int a1), (2, .int a2)], [], h) (some (.int vR)) hR := by
  unfold M_X9_write at hM
  refine Ev.steps (B := (1, [(0, .ref 75), (1, .int a1), (2, .int a2)], [.int a1], h)) 1 rfl ?_
  refine Ev.call (q := (mr_X9_isThree, [.int a1], [])) rfl (E_X9_isThree a1 h) ?_
  refine Ev.br (b := decide ((M_X9_isThree a1) = 0)) rfl (fun c1 => ?_) (fun c1 => ?_)
  · have c1 := of_decide_eq_true c1
    rw [if_pos c1] at hM
    refine Ev.steps (B := (16, [(0, .ref 75), (1, .int a1), (2, .int a2)], [.int (-2)], h)) 1 rfl ?_
    obtain ⟨rfl, rfl⟩ := am_sp hM
    exact Ev.ret rfl
  · have c1 := of_decide_eq_false c1
    rw [if_neg c1] at hM
    refine Ev.steps (B := (8, [(0, .ref 75), (1, .int a1), (2, .int a2)], [.int a2], h)) 1 rfl ?_
    refine Ev.call (q := (mr_X9_isSheet, [.int a2], [])) rfl (E_X9_isSheet a2 h) ?_
    refine Ev.br (b := decide (¬ (M_X9_isSheet a2) = 0)) rfl (fun c2 => ?_) (fun c2 => ?_)
    · have c2 := of_decide_eq_true c2
      rw [if_neg c2] at hM
      refine Ev.steps (B := (22, [(0, .ref 75), (1, .int a1), (2, .int a2)], [.int a2, .ref 104], h)) 3 rfl ?_
      obtain ⟨g3, hM⟩ := am_gS hM
      refine Ev.g (B := (23, [(0, .ref 75), (1, .int a1), (2, .int a2)], [.int ((h.2.1 104) (Int32.toNatClampNeg a2))], h)) g3 rfl ?_
      refine Ev.br (b := decide (¬ ((h.2.1 104) (Int32.toNatClampNeg a2)) = 0)) rfl (fun c4 => ?_) (fun c4 => ?_)
      · have c4 := of_decide_eq_true c4
        rw [if_neg c4] at hM
        refine Ev.steps (B := (33, [(0, .ref 75), (1, .int a1), (2, .int a2)], [.ref 75], h)) 1 rfl ?_
        obtain ⟨h1, e5, hM⟩ := am_vS hM
        refine Ev.call (q := (mr_X9_runsTold, [.ref 75], [])) rfl (E_X9_runsTold_75 n h h1 e5) ?_
        refine Ev.steps (B := (38, [(3, .int 0), (0, .ref 75), (1, .int a1), (2, .int a2)], [], h1)) 2 rfl ?_
        refine Ev.lv (lv := [(0, .ref 75), (1, .int a1), (2, .int a2), (3, .int 0)]) ⟨rfl, rfl, rfl, rfl, trivial⟩ rfl rfl ?_
        exact E_L_X9_write_38 n vR hR n a1 a2 0 h1 hM
      · have c4 := Decidable.of_not_not (of_decide_eq_false c4)
        rw [if_pos c4] at hM
        refine Ev.steps (B := (28, [(0, .ref 75), (1, .int a1), (2, .int a2)], [.int 1, .ref 75], h)) 2 rfl ?_
        obtain ⟨v3, h2, e6, hM⟩ := am_bS hM
        refine Ev.call (q := (mr_X9_meets, [.ref 75, .int 1], [])) rfl (E_X9_meets_75 1 h v3 h2 e6) ?_
        obtain ⟨rfl, rfl⟩ := am_sp hM
        exact Ev.ret rfl
    · have c2 := Decidable.of_not_not (of_decide_eq_false c2)
      rw [if_pos c2] at hM
      refine Ev.steps (B := (16, [(0, .ref 75), (1, .int a1), (2, .int a2)], [.int (-2)], h)) 1 rfl ?_
      obtain ⟨rfl, rfl⟩ := am_sp hM
      exact Ev.ret rfl
def M_X8_count (n : Nat) (a1 : Int32) (h : AH) : Option (Int32 × AH) :=
  if a1 = 0 then
    some ((h.1 2 3), h)
  else
  if a1 = 1 then
    some ((h.1 8 3), h)
  else
  if a1 = 2 then
    some (((h.1 1 4) + (h.1 7 4)), h)
  else
  if a1 = 3 then
    some ((h.1 13 3), h)
  else
  if a1 = 4 then
    am_b (M_X8_sum n 0 h) fun v2 h1 =>
    some (v2, h1)
  else
  if a1 = 5 then
    some ((h.1 21 3), h)
  else
  if a1 = 6 then
    some ((h.1 21 4), h)
  else
  if a1 = 7 then
    some ((h.1 17 3), h)
  else
  if a1 = 8 then
    some ((h.1 0 12), h)
  else
    some ((-2), h)
set_option maxRecDepth 10000 in
theorem E_X8_count_0 (n : Nat) (a1 : Int32) (h : AH) (vR : Int32) (hR : AH) (hM : M_X8_count n a1 h = some (vR, hR)) : Ev none mr_X8_count (0, [(0, .ref 0), (1, .int a1)], [], h) (some (.int vR)) hR := by
  unfold M_X8_count at hM
  refine Ev.steps (B := (1, [(0, .ref 0), (1, .int a1)], [.int a1], h)) 1 rfl ?_
  refine Ev.step (B := (am_sel a1 [(0, 52), (1, 63), (2, 74), (3, 90), (4, 98), (5, 104), (6, 112), (7, 120), (8, 128)] 133, [(0, .ref 0), (1, .int a1)], [], h)) rfl ?_
  refine Ev.sw (fun c1 => ?_) (fun c1 => ?_)
  · rw [if_pos c1] at hM
    refine Ev.steps (B := (62, [(0, .ref 0), (1, .int a1)], [.int (h.1 2 3)], h)) 4 rfl ?_
    obtain ⟨rfl, rfl⟩ := am_sp hM
    exact Ev.ret rfl
  · rw [if_neg c1] at hM
    refine Ev.sw (fun c2 => ?_) (fun c2 => ?_)
    · rw [if_pos c2] at hM
      refine Ev.steps (B := (73, [(0, .ref 0), (1, .int a1)], [.int (h.1 8 3)], h)) 4 rfl ?_
      obtain ⟨rfl, rfl⟩ := am_sp hM
      exact Ev.ret rfl
    · rw [if_neg c2] at hM
      refine Ev.sw (fun c3 => ?_) (fun c3 => ?_)
      · rw [if_pos c3] at hM
        refine Ev.steps (B := (89, [(0, .ref 0), (1, .int a1)], [.int ((h.1 1 4) + (h.1 7 4))], h)) 7 rfl ?_
        obtain ⟨rfl, rfl⟩ := am_sp hM
        exact Ev.ret rfl
      · rw [if_neg c3] at hM
        refine Ev.sw (fun c4 => ?_) (fun c4 => ?_)
        · rw [if_pos c4] at hM
          refine Ev.steps (B := (97, [(0, .ref 0), (1, .int a1)], [.int (h.1 13 3)], h)) 3 rfl ?_
          obtain ⟨rfl, rfl⟩ := am_sp hM
          exact Ev.ret rfl
        · rw [if_neg c4] at hM
          refine Ev.sw (fun c5 => ?_) (fun c5 => ?_)
          · rw [if_pos c5] at hM
            refine Ev.steps (B := (100, [(0, .ref 0), (1, .int a1)], [.int 0, .ref 0], h)) 2 rfl ?_
            obtain ⟨v2, h1, e6, hM⟩ := am_bS hM
            refine Ev.call (q := (mr_X8_sum, [.ref 0, .int 0], [])) rfl (E_X8_sum_0 n 0 h v2 h1 e6) ?_
            obtain ⟨rfl, rfl⟩ := am_sp hM
            exact Ev.ret rfl
          · rw [if_neg c5] at hM
            refine Ev.sw (fun c7 => ?_) (fun c7 => ?_)
            · rw [if_pos c7] at hM
              refine Ev.steps (B := (111, [(0, .ref 0), (1, .int a1)], [.int (h.1 21 3)], h)) 3 rfl ?_
              obtain ⟨rfl, rfl⟩ := am_sp hM
              exact Ev.ret rfl
            · rw [if_neg c7] at hM
              refine Ev.sw (fun c8 => ?_) (fun c8 => ?_)
              · rw [if_pos c8] at hM
                refine Ev.steps (B := (119, [(0, .ref 0), (1, .int a1)], [.int (h.1 21 4)], h)) 3 rfl ?_
                obtain ⟨rfl, rfl⟩ := am_sp hM
                exact Ev.ret rfl
              · rw [if_neg c8] at hM
                refine Ev.sw (fun c9 => ?_) (fun c9 => ?_)
                · rw [if_pos c9] at hM
                  refine Ev.steps (B := (127, [(0, .ref 0), (1, .int a1)], [.int (h.1 17 3)], h)) 3 rfl ?_
                  obtain ⟨rfl, rfl⟩ := am_sp hM
                  exact Ev.ret rfl
                · rw [if_neg c9] at hM
                  refine Ev.sw (fun c10 => ?_) (fun c10 => ?_)
                  · rw [if_pos c10] at hM
                    refine Ev.steps (B := (132, [(0, .ref 0), (1, .int a1)], [.int (h.1 0 12)], h)) 2 rfl ?_
                    obtain ⟨rfl, rfl⟩ := am_sp hM
                    exact Ev.ret rfl
                  · rw [if_neg c10] at hM
                    refine Ev.steps (B := (135, [(0, .ref 0), (1, .int a1)], [.int (-2)], h)) 1 rfl ?_
                    obtain ⟨rfl, rfl⟩ := am_sp hM
                    exact Ev.ret rfl
def M_X9_tellOf (n : Nat) (a1 : Int32) (h : AH) : Option (Int32 × AH) :=
  am_v (M_X9_reads n h) fun h1 =>
  if a1 = 0 then
    some ((h1.1 75 2), h1)
  else
    some ((h1.1 75 6), h1)
set_option maxRecDepth 10000 in
theorem E_X9_tellOf_75 (n : Nat) (a1 : Int32) (h : AH) (vR : Int32) (hR : AH) (hM : M_X9_tellOf n a1 h = some (vR, hR)) : Ev none mr_X9_tellOf (0, [(0, .ref 75), (1, .int a1)], [], h) (some (.int vR)) hR := by
  unfold M_X9_tellOf at hM
  refine Ev.steps (B := (1, [(0, .ref 75), (1, .int a1)], [.ref 75], h)) 1 rfl ?_
  obtain ⟨h1, e1, hM⟩ := am_vS hM
  refine Ev.call (q := (mr_X9_reads, [.ref 75], [])) rfl (E_X9_reads_75 n h h1 e1) ?_
  refine Ev.steps (B := (5, [(0, .ref 75), (1, .int a1)], [.int a1], h1)) 1 rfl ?_
  refine Ev.br (b := decide (¬ a1 = 0)) rfl (fun c2 => ?_) (fun c2 => ?_)
  · have c2 := of_decide_eq_true c2
    rw [if_neg c2] at hM
    refine Ev.steps (B := (19, [(0, .ref 75), (1, .int a1)], [.int (h1.1 75 6)], h1)) 2 rfl ?_
    obtain ⟨rfl, rfl⟩ := am_sp hM
    exact Ev.ret rfl
  · have c2 := Decidable.of_not_not (of_decide_eq_false c2)
    rw [if_pos c2] at hM
    refine Ev.steps (B := (19, [(0, .ref 75), (1, .int a1)], [.int (h1.1 75 2)], h1)) 3 rfl ?_
    obtain ⟨rfl, rfl⟩ := am_sp hM
    exact Ev.ret rfl
def B_X9_count_52 (n : Nat) (x1 : Int32) (h : AH) : Option (Int32 × AH) :=
  am_b (M_X9_tellOf n x1 h) fun v2 h1 =>
  some (v2, h1)
set_option maxRecDepth 10000 in
theorem E_B_X9_count_52 (n : Nat) (vR : Int32) (hR : AH) (x1 : Int32) (h : AH) (hM : B_X9_count_52 n x1 h = some (vR, hR)) : Ev none mr_X9_count (52, [(0, .ref 75), (1, .int x1)], [], h) (some (.int vR)) hR := by
  unfold B_X9_count_52 at hM
  refine Ev.steps (B := (54, [(0, .ref 75), (1, .int x1)], [.int x1, .ref 75], h)) 2 rfl ?_
  obtain ⟨v2, h1, e1, hM⟩ := am_bS hM
  refine Ev.call (q := (mr_X9_tellOf, [.ref 75, .int x1], [])) rfl (E_X9_tellOf_75 n x1 h v2 h1 e1) ?_
  obtain ⟨rfl, rfl⟩ := am_sp hM
  exact Ev.ret rfl
def M_X9_count (n : Nat) (a1 : Int32) (h : AH) : Option (Int32 × AH) :=
  if a1 = 0 then
    B_X9_count_52 n a1 h
  else
  if a1 = 1 then
    B_X9_count_52 n a1 h
  else
  if a1 = 2 then
    bif (am_in 0 2) then
      bif (am_in 1 2) then
        some ((((h.2.1 76) (Int32.toNatClampNeg 0)) + ((h.2.1 76) (Int32.toNatClampNeg 1))), h)
      else none
    else none
  else
  if a1 = 3 then
    some ((h.1 75 12), h)
  else
  if a1 = 4 then
    am_b (M_X9_sumOf n 0 h) fun v2 h1 =>
    some (v2, h1)
  else
  if a1 = 5 then
    some ((h.1 75 10), h)
  else
  if a1 = 6 then
    some ((h.1 75 11), h)
  else
  if a1 = 7 then
    some ((h.1 75 43), h)
  else
  if a1 = 8 then
    some ((h.1 75 52), h)
  else
    some ((-2), h)
set_option maxRecDepth 10000 in
theorem E_X9_count_75 (n : Nat) (a1 : Int32) (h : AH) (vR : Int32) (hR : AH) (hM : M_X9_count n a1 h = some (vR, hR)) : Ev none mr_X9_count (0, [(0, .ref 75), (1, .int a1)], [], h) (some (.int vR)) hR := by
  unfold M_X9_count at hM
  refine Ev.steps (B := (1, [(0, .ref 75), (1, .int a1)], [.int a1], h)) 1 rfl ?_
  refine Ev.step (B := (am_sel a1 [(0, 52), (1, 52), (2, 58), (3, 72), (4, 77), (5, 83), (6, 88), (7, 93), (8, 98)] 103, [(0, .ref 75), (1, .int a1)], [], h)) rfl ?_
  refine Ev.sw (fun c1 => ?_) (fun c1 => ?_)
  · rw [if_pos c1] at hM
    exact E_B_X9_count_52 n vR hR a1 h hM
  · rw [if_neg c1] at hM
    refine Ev.sw (fun c2 => ?_) (fun c2 => ?_)
    · rw [if_pos c2] at hM
      exact E_B_X9_count_52 n vR hR a1 h hM
    · rw [if_neg c2] at hM
      refine Ev.sw (fun c3 => ?_) (fun c3 => ?_)
      · rw [if_pos c3] at hM
        refine Ev.steps (B := (63, [(0, .ref 75), (1, .int a1)], [.int 0, .ref 76], h)) 3 rfl ?_
        obtain ⟨g4, hM⟩ := am_gS hM
        refine Ev.g (B := (64, [(0, .ref 75), (1, .int a1)], [.int ((h.2.1 76) (Int32.toNatClampNeg 0))], h)) g4 rfl ?_
        refine Ev.steps (B := (69, [(0, .ref 75), (1, .int a1)], [.int 1, .ref 76, .int ((h.2.1 76) (Int32.toNatClampNeg 0))], h)) 3 rfl ?_
        obtain ⟨g5, hM⟩ := am_gS hM
        refine Ev.g (B := (70, [(0, .ref 75), (1, .int a1)], [.int ((h.2.1 76) (Int32.toNatClampNeg 1)), .int ((h.2.1 76) (Int32.toNatClampNeg 0))], h)) g5 rfl ?_
        refine Ev.steps (B := (71, [(0, .ref 75), (1, .int a1)], [.int (((h.2.1 76) (Int32.toNatClampNeg 0)) + ((h.2.1 76) (Int32.toNatClampNeg 1)))], h)) 1 rfl ?_
        obtain ⟨rfl, rfl⟩ := am_sp hM
        exact Ev.ret rfl
      · rw [if_neg c3] at hM
        refine Ev.sw (fun c6 => ?_) (fun c6 => ?_)
        · rw [if_pos c6] at hM
          refine Ev.steps (B := (76, [(0, .ref 75), (1, .int a1)], [.int (h.1 75 12)], h)) 2 rfl ?_
          obtain ⟨rfl, rfl⟩ := am_sp hM
          exact Ev.ret rfl
        · rw [if_neg c6] at hM
          refine Ev.sw (fun c7 => ?_) (fun c7 => ?_)
          · rw [if_pos c7] at hM
            refine Ev.steps (B := (79, [(0, .ref 75), (1, .int a1)], [.int 0, .ref 75], h)) 2 rfl ?_
            obtain ⟨v2, h1, e8, hM⟩ := am_bS hM
            refine Ev.call (q := (mr_X9_sumOf, [.ref 75, .int 0], [])) rfl (E_X9_sumOf_75 n 0 h v2 h1 e8) ?_
            obtain ⟨rfl, rfl⟩ := am_sp hM
            exact Ev.ret rfl
          · rw [if_neg c7] at hM
            refine Ev.sw (fun c9 => ?_) (fun c9 => ?_)
            · rw [if_pos c9] at hM
              refine Ev.steps (B := (87, [(0, .ref 75), (1, .int a1)], [.int (h.1 75 10)], h)) 2 rfl ?_
              obtain ⟨rfl, rfl⟩ := am_sp hM
              exact Ev.ret rfl
            · rw [if_neg c9] at hM
              refine Ev.sw (fun c10 => ?_) (fun c10 => ?_)
              · rw [if_pos c10] at hM
                refine Ev.steps (B := (92, [(0, .ref 75), (1, .int a1)], [.int (h.1 75 11)], h)) 2 rfl ?_
                obtain ⟨rfl, rfl⟩ := am_sp hM
                exact Ev.ret rfl
              · rw [if_neg c10] at hM
                refine Ev.sw (fun c11 => ?_) (fun c11 => ?_)
                · rw [if_pos c11] at hM
                  refine Ev.steps (B := (97, [(0, .ref 75), (1, .int a1)], [.int (h.1 75 43)], h)) 2 rfl ?_
                  obtain ⟨rfl, rfl⟩ := am_sp hM
                  exact Ev.ret rfl
                · rw [if_neg c11] at hM
                  refine Ev.sw (fun c12 => ?_) (fun c12 => ?_)
                  · rw [if_pos c12] at hM
                    refine Ev.steps (B := (102, [(0, .ref 75), (1, .int a1)], [.int (h.1 75 52)], h)) 2 rfl ?_
                    obtain ⟨rfl, rfl⟩ := am_sp hM
                    exact Ev.ret rfl
                  · rw [if_neg c12] at hM
                    refine Ev.steps (B := (105, [(0, .ref 75), (1, .int a1)], [.int (-2)], h)) 1 rfl ?_
                    obtain ⟨rfl, rfl⟩ := am_sp hM
                    exact Ev.ret rfl
def M_X8_joined (a1 : Int64) (a2 : Int64) : Int64 :=
  ((31 * a1) + a2)
set_option maxRecDepth 10000 in
theorem E_X8_joined (a1 : Int64) (a2 : Int64) (h : AH) : Ev none mr_X8_joined (0, [(0, .long a1), (2, .long a2)], [], h) (some (.long (M_X8_joined a1 a2))) h := by
  unfold M_X8_joined
  refine Ev.steps (B := (7, [(0, .long a1), (2, .long a2)], [.long ((31 * a1) + a2)], h)) 5 rfl ?_
  exact Ev.ret rfl
def L_X8_withMinutes_15 (n : Nat) (k5 : Int64 → Int32 → AH → Option (Int64 × AH)) : Nat → Int64 → Int32 → Int32 → AH → Option (Int64 × AH)
  | 0, _, _, _, _ => none
  | m + 1, x3, x5, x6, h =>
    if 5 < x6 then
      am_b (M_X8_line n x5 h) fun v2 h1 =>
      k5 (M_X8_joined x3 (Int32.toInt64 v2)) (x5 + 1) h1
    else
      am_b (M_X8_at n x5 x6 h) fun v4 h3 =>
      L_X8_withMinutes_15 n k5 m (M_X8_joined x3 (Int32.toInt64 v4)) x5 (x6 + 1) h3
set_option maxRecDepth 10000 in
theorem E_L_X8_withMinutes_15 (n : Nat) (k5 : Int64 → Int32 → AH → Option (Int64 × AH)) (vR : Int64) (hR : AH) (hk5 : ∀ (x3 : Int64) (x5 : Int32) (h0 : AH), k5 x3 x5 h0 = some (vR, hR) → Ev none mr_X8_withMinutes (5, [(0, .ref 0), (3, .long x3), (5, .int x5)], [], h0) (some (.long vR)) hR) : ∀ (m : Nat) (x3 : Int64) (x5 : Int32) (x6 : Int32) (h : AH), L_X8_withMinutes_15 n k5 m x3 x5 x6 h = some (vR, hR) → Ev none mr_X8_withMinutes (15, [(0, .ref 0), (3, .long x3), (5, .int x5), (6, .int x6)], [], h) (some (.long vR)) hR := by
  intro m
  induction m with
  | zero =>
    intro x3 x5 x6 h hM
    exact (am_no hM).elim
  | succ m ih =>
    intro x3 x5 x6 h hM
    rw [L_X8_withMinutes_15] at hM
    refine Ev.steps (B := (18, [(0, .ref 0), (3, .long x3), (5, .int x5), (6, .int x6)], [.int 5, .int x6], h)) 2 rfl ?_
    refine Ev.br (b := decide (5 < x6)) rfl (fun c1 => ?_) (fun c1 => ?_)
    · have c1 := of_decide_eq_true c1
      rw [if_pos c1] at hM
      refine Ev.steps (B := (45, [(0, .ref 0), (3, .long x3), (5, .int x5), (6, .int x6)], [.int x5, .ref 0, .long x3], h)) 3 rfl ?_
      obtain ⟨v2, h1, e2, hM⟩ := am_bS hM
      refine Ev.call (q := (mr_X8_line, [.ref 0, .int x5], [.long x3])) rfl (E_X8_line_0 n x5 h v2 h1 e2) ?_
      refine Ev.steps (B := (49, [(0, .ref 0), (3, .long x3), (5, .int x5), (6, .int x6)], [.long (Int32.toInt64 v2), .long x3], h1)) 1 rfl ?_
      refine Ev.call (q := (mr_X8_joined, [.long x3, .long (Int32.toInt64 v2)], [])) rfl (E_X8_joined x3 (Int32.toInt64 v2) h1) ?_
      refine Ev.steps (B := (5, [(5, .int (x5 + 1)), (3, .long (M_X8_joined x3 (Int32.toInt64 v2))), (0, .ref 0), (6, .int x6)], [], h1)) 3 rfl ?_
      refine Ev.lv (lv := [(0, .ref 0), (3, .long (M_X8_joined x3 (Int32.toInt64 v2))), (5, .int (x5 + 1))]) ⟨rfl, rfl, rfl, trivial⟩ rfl rfl ?_
      exact hk5 (M_X8_joined x3 (Int32.toInt64 v2)) (x5 + 1) h1 hM
    · have c1 := of_decide_eq_false c1
      rw [if_neg c1] at hM
      refine Ev.steps (B := (27, [(0, .ref 0), (3, .long x3), (5, .int x5), (6, .int x6)], [.int x6, .int x5, .ref 0, .long x3], h)) 4 rfl ?_
      obtain ⟨v4, h3, e3, hM⟩ := am_bS hM
      refine Ev.call (q := (mr_X8_at, [.ref 0, .int x5, .int x6], [.long x3])) rfl (E_X8_at_0 n x5 x6 h v4 h3 e3) ?_
      refine Ev.steps (B := (31, [(0, .ref 0), (3, .long x3), (5, .int x5), (6, .int x6)], [.long (Int32.toInt64 v4), .long x3], h3)) 1 rfl ?_
      refine Ev.call (q := (mr_X8_joined, [.long x3, .long (Int32.toInt64 v4)], [])) rfl (E_X8_joined x3 (Int32.toInt64 v4) h3) ?_
      refine Ev.steps (B := (15, [(6, .int (x6 + 1)), (3, .long (M_X8_joined x3 (Int32.toInt64 v4))), (0, .ref 0), (5, .int x5)], [], h3)) 3 rfl ?_
      refine Ev.lv (lv := [(0, .ref 0), (3, .long (M_X8_joined x3 (Int32.toInt64 v4))), (5, .int x5), (6, .int (x6 + 1))]) ⟨rfl, rfl, rfl, rfl, trivial⟩ rfl rfl ?_
      exact ih (M_X8_joined x3 (Int32.toInt64 v4)) x5 (x6 + 1) h3 hM
def L_X8_withMinutes_5 (n : Nat) : Nat → Int64 → Int32 → AH → Option (Int64 × AH)
  | 0, _, _, _ => none
  | m + 1, x3, x5, h =>
    if 24 ≤ x5 then
      some (x3, h)
    else
      L_X8_withMinutes_15 n (L_X8_withMinutes_5 n m) n x3 x5 0 h
set_option maxRecDepth 10000 in
theorem E_L_X8_withMinutes_5 (n : Nat) (vR : Int64) (hR : AH) : ∀ (m : Nat) (x3 : Int64) (x5 : Int32) (h : AH), L_X8_withMinutes_5 n m x3 x5 h = some (vR, hR) → Ev none mr_X8_withMinutes (5, [(0, .ref 0), (3, .long x3), (5, .int x5)], [], h) (some (.long vR)) hR := by
  intro m
  induction m with
  | zero =>
    intro x3 x5 h hM
    exact (am_no hM).elim
  | succ m ih =>
    intro x3 x5 h hM
    rw [L_X8_withMinutes_5] at hM
    refine Ev.steps (B := (9, [(0, .ref 0), (3, .long x3), (5, .int x5)], [.int 24, .int x5], h)) 2 rfl ?_
    refine Ev.br (b := decide (24 ≤ x5)) rfl (fun c1 => ?_) (fun c1 => ?_)
    · have c1 := of_decide_eq_true c1
      rw [if_pos c1] at hM
      refine Ev.steps (B := (60, [(0, .ref 0), (3, .long x3), (5, .int x5)], [.long x3], h)) 1 rfl ?_
      obtain ⟨rfl, rfl⟩ := am_sp hM
      exact Ev.ret rfl
    · have c1 := of_decide_eq_false c1
      rw [if_neg c1] at hM
      refine Ev.steps (B := (15, [(6, .int 0), (0, .ref 0), (3, .long x3), (5, .int x5)], [], h)) 2 rfl ?_
      refine Ev.lv (lv := [(0, .ref 0), (3, .long x3), (5, .int x5), (6, .int 0)]) ⟨rfl, rfl, rfl, rfl, trivial⟩ rfl rfl ?_
      exact E_L_X8_withMinutes_15 n (L_X8_withMinutes_5 n m) vR hR ih n x3 x5 0 h hM
def M_X8_withMinutes (n : Nat) (a1 : Int64) (h : AH) : Option (Int64 × AH) :=
  L_X8_withMinutes_5 n n a1 0 h
set_option maxRecDepth 10000 in
theorem E_X8_withMinutes_0 (n : Nat) (a1 : Int64) (h : AH) (vR : Int64) (hR : AH) (hM : M_X8_withMinutes n a1 h = some (vR, hR)) : Ev none mr_X8_withMinutes (0, [(0, .ref 0), (1, .long a1)], [], h) (some (.long vR)) hR := by
  unfold M_X8_withMinutes at hM
  refine Ev.steps (B := (5, [(5, .int 0), (3, .long a1), (0, .ref 0), (1, .long a1)], [], h)) 4 rfl ?_
  refine Ev.lv (lv := [(0, .ref 0), (3, .long a1), (5, .int 0)]) ⟨rfl, rfl, rfl, trivial⟩ rfl rfl ?_
  exact E_L_X8_withMinutes_5 n vR hR n a1 0 h hM
def L_X8_withPiece_6 (n : Nat) : Nat → Int32 → Int64 → Int32 → AH → Option (Int64 × AH)
  | 0, _, _, _, _ => none
  | m + 1, x3, x4, x6, h =>
    if 2 < x6 then
      am_b (M_X8_better n x3 0 h) fun v2 h1 =>
      am_b (M_X8_better n x3 1 h1) fun v4 h3 =>
      am_b (M_X8_kind n x3 h3) fun v6 h5 =>
      some ((M_X8_joined (M_X8_joined (M_X8_joined x4 (Int32.toInt64 v2)) (Int32.toInt64 v4)) (Int32.toInt64 v6)), h5)
    else
      am_o (M_X8_piece x3 x6 h) fun v7 =>
      L_X8_withPiece_6 n m x3 (M_X8_joined x4 (Int32.toInt64 v7)) (x6 + 1) h
set_option maxRecDepth 10000 in
theorem E_L_X8_withPiece_6 (n : Nat) (vR : Int64) (hR : AH) : ∀ (m : Nat) (x3 : Int32) (x4 : Int64) (x6 : Int32) (h : AH), L_X8_withPiece_6 n m x3 x4 x6 h = some (vR, hR) → Ev none mr_X8_withPiece (6, [(0, .ref 0), (3, .int x3), (4, .long x4), (6, .int x6)], [], h) (some (.long vR)) hR := by
  intro m
  induction m with
  | zero =>
    intro x3 x4 x6 h hM
    exact (am_no hM).elim
  | succ m ih =>
    intro x3 x4 x6 h hM
    rw [L_X8_withPiece_6] at hM
    refine Ev.steps (B := (9, [(0, .ref 0), (3, .int x3), (4, .long x4), (6, .int x6)], [.int 2, .int x6], h)) 2 rfl ?_
    refine Ev.br (b := decide (2 < x6)) rfl (fun c1 => ?_) (fun c1 => ?_)
    · have c1 := of_decide_eq_true c1
      rw [if_pos c1] at hM
      refine Ev.steps (B := (38, [(0, .ref 0), (3, .int x3), (4, .long x4), (6, .int x6)], [.int 0, .int x3, .ref 0, .long x4], h)) 4 rfl ?_
      obtain ⟨v2, h1, e2, hM⟩ := am_bS hM
      refine Ev.call (q := (mr_X8_better, [.ref 0, .int x3, .int 0], [.long x4])) rfl (E_X8_better_0 n x3 0 h v2 h1 e2) ?_
      refine Ev.steps (B := (42, [(0, .ref 0), (3, .int x3), (4, .long x4), (6, .int x6)], [.long (Int32.toInt64 v2), .long x4], h1)) 1 rfl ?_
      refine Ev.call (q := (mr_X8_joined, [.long x4, .long (Int32.toInt64 v2)], [])) rfl (E_X8_joined x4 (Int32.toInt64 v2) h1) ?_
      refine Ev.steps (B := (52, [(4, .long (M_X8_joined x4 (Int32.toInt64 v2))), (0, .ref 0), (3, .int x3), (6, .int x6)], [.int 1, .int x3, .ref 0, .long (M_X8_joined x4 (Int32.toInt64 v2))], h1)) 5 rfl ?_
      obtain ⟨v4, h3, e3, hM⟩ := am_bS hM
      refine Ev.call (q := (mr_X8_better, [.ref 0, .int x3, .int 1], [.long (M_X8_joined x4 (Int32.toInt64 v2))])) rfl (E_X8_better_0 n x3 1 h1 v4 h3 e3) ?_
      refine Ev.steps (B := (56, [(4, .long (M_X8_joined x4 (Int32.toInt64 v2))), (0, .ref 0), (3, .int x3), (6, .int x6)], [.long (Int32.toInt64 v4), .long (M_X8_joined x4 (Int32.toInt64 v2))], h3)) 1 rfl ?_
      refine Ev.call (q := (mr_X8_joined, [.long (M_X8_joined x4 (Int32.toInt64 v2)), .long (Int32.toInt64 v4)], [])) rfl (E_X8_joined (M_X8_joined x4 (Int32.toInt64 v2)) (Int32.toInt64 v4) h3) ?_
      refine Ev.steps (B := (65, [(4, .long (M_X8_joined (M_X8_joined x4 (Int32.toInt64 v2)) (Int32.toInt64 v4))), (0, .ref 0), (3, .int x3), (6, .int x6)], [.int x3, .ref 0, .long (M_X8_joined (M_X8_joined x4 (Int32.toInt64 v2)) (Int32.toInt64 v4))], h3)) 4 rfl ?_
      obtain ⟨v6, h5, e4, hM⟩ := am_bS hM
      refine Ev.call (q := (mr_X8_kind, [.ref 0, .int x3], [.long (M_X8_joined (M_X8_joined x4 (Int32.toInt64 v2)) (Int32.toInt64 v4))])) rfl (E_X8_kind_0 n x3 h3 v6 h5 e4) ?_
      refine Ev.steps (B := (69, [(4, .long (M_X8_joined (M_X8_joined x4 (Int32.toInt64 v2)) (Int32.toInt64 v4))), (0, .ref 0), (3, .int x3), (6, .int x6)], [.long (Int32.toInt64 v6), .long (M_X8_joined (M_X8_joined x4 (Int32.toInt64 v2)) (Int32.toInt64 v4))], h5)) 1 rfl ?_
      refine Ev.call (q := (mr_X8_joined, [.long (M_X8_joined (M_X8_joined x4 (Int32.toInt64 v2)) (Int32.toInt64 v4)), .long (Int32.toInt64 v6)], [])) rfl (E_X8_joined (M_X8_joined (M_X8_joined x4 (Int32.toInt64 v2)) (Int32.toInt64 v4)) (Int32.toInt64 v6) h5) ?_
      obtain ⟨rfl, rfl⟩ := am_sp hM
      exact Ev.ret rfl
    · have c1 := of_decide_eq_false c1
      rw [if_neg c1] at hM
      refine Ev.steps (B := (18, [(0, .ref 0), (3, .int x3), (4, .long x4), (6, .int x6)], [.int x6, .int x3, .ref 0, .long x4], h)) 4 rfl ?_
      obtain ⟨v7, e5, hM⟩ := am_oS hM
      refine Ev.call (q := (mr_X8_piece, [.ref 0, .int x3, .int x6], [.long x4])) rfl (E_X8_piece_0 x3 x6 h v7 e5) ?_
      refine Ev.steps (B := (22, [(0, .ref 0), (3, .int x3), (4, .long x4), (6, .int x6)], [.long (Int32.toInt64 v7), .long x4], h)) 1 rfl ?_
      refine Ev.call (q := (mr_X8_joined, [.long x4, .long (Int32.toInt64 v7)], [])) rfl (E_X8_joined x4 (Int32.toInt64 v7) h) ?_
      refine Ev.steps (B := (6, [(6, .int (x6 + 1)), (4, .long (M_X8_joined x4 (Int32.toInt64 v7))), (0, .ref 0), (3, .int x3)], [], h)) 3 rfl ?_
      refine Ev.lv (lv := [(0, .ref 0), (3, .int x3), (4, .long (M_X8_joined x4 (Int32.toInt64 v7))), (6, .int (x6 + 1))]) ⟨rfl, rfl, rfl, rfl, trivial⟩ rfl rfl ?_
      exact ih x3 (M_X8_joined x4 (Int32.toInt64 v7)) (x6 + 1) h hM
def M_X8_withPiece (n : Nat) (a1 : Int64) (a2 : Int32) (h : AH) : Option (Int64 × AH) :=
  L_X8_withPiece_6 n n a2 a1 0 h
set_option maxRecDepth 10000 in
theorem E_X8_withPiece_0 (n : Nat) (a1 : Int64) (a2 : Int32) (h : AH) (vR : Int64) (hR : AH) (hM : M_X8_withPiece n a1 a2 h = some (vR, hR)) : Ev none mr_X8_withPiece (0, [(0, .ref 0), (1, .long a1), (3, .int a2)], [], h) (some (.long vR)) hR := by
  unfold M_X8_withPiece at hM
  refine Ev.steps (B := (6, [(6, .int 0), (4, .long a1), (0, .ref 0), (1, .long a1), (3, .int a2)], [], h)) 4 rfl ?_
  refine Ev.lv (lv := [(0, .ref 0), (3, .int a2), (4, .long a1), (6, .int 0)]) ⟨rfl, rfl, rfl, rfl, trivial⟩ rfl rfl ?_
  exact E_L_X8_withPiece_6 n vR hR n a2 a1 0 h hM
def M_X8_withStay (n : Nat) (a1 : Int64) (a2 : Int32) (a3 : Int32) (h : AH) : Option (Int64 × AH) :=
  am_b (M_X8_is n a2 a3 0 h) fun v2 h1 =>
  am_b (M_X8_is n a2 a3 1 h1) fun v4 h3 =>
  some ((M_X8_joined (M_X8_joined a1 (Int32.toInt64 v2)) (Int32.toInt64 v4)), h3)
set_option maxRecDepth 10000 in
theorem E_X8_withStay_0 (n : Nat) (a1 : Int64) (a2 : Int32) (a3 : Int32) (h : AH) (vR : Int64) (hR : AH) (hM : M_X8_withStay n a1 a2 a3 h = some (vR, hR)) : Ev none mr_X8_withStay (0, [(0, .ref 0), (1, .long a1), (3, .int a2), (4, .int a3)], [], h) (some (.long vR)) hR := by
  unfold M_X8_withStay at hM
  refine Ev.steps (B := (6, [(0, .ref 0), (1, .long a1), (3, .int a2), (4, .int a3)], [.int 0, .int a3, .int a2, .ref 0, .long a1], h)) 5 rfl ?_
  obtain ⟨v2, h1, e1, hM⟩ := am_bS hM
  refine Ev.call (q := (mr_X8_is, [.ref 0, .int a2, .int a3, .int 0], [.long a1])) rfl (E_X8_is_0 n a2 a3 0 h v2 h1 e1) ?_
  refine Ev.steps (B := (10, [(0, .ref 0), (1, .long a1), (3, .int a2), (4, .int a3)], [.long (Int32.toInt64 v2), .long a1], h1)) 1 rfl ?_
  refine Ev.call (q := (mr_X8_joined, [.long a1, .long (Int32.toInt64 v2)], [])) rfl (E_X8_joined a1 (Int32.toInt64 v2) h1) ?_
  refine Ev.steps (B := (18, [(0, .ref 0), (1, .long a1), (3, .int a2), (4, .int a3)], [.int 1, .int a3, .int a2, .ref 0, .long (M_X8_joined a1 (Int32.toInt64 v2))], h1)) 4 rfl ?_
  obtain ⟨v4, h3, e2, hM⟩ := am_bS hM
  refine Ev.call (q := (mr_X8_is, [.ref 0, .int a2, .int a3, .int 1], [.long (M_X8_joined a1 (Int32.toInt64 v2))])) rfl (E_X8_is_0 n a2 a3 1 h1 v4 h3 e2) ?_
  refine Ev.steps (B := (22, [(0, .ref 0), (1, .long a1), (3, .int a2), (4, .int a3)], [.long (Int32.toInt64 v4), .long (M_X8_joined a1 (Int32.toInt64 v2))], h3)) 1 rfl ?_
  refine Ev.call (q := (mr_X8_joined, [.long (M_X8_joined a1 (Int32.toInt64 v2)), .long (Int32.toInt64 v4)], [])) rfl (E_X8_joined (M_X8_joined a1 (Int32.toInt64 v2)) (Int32.toInt64 v4) h3) ?_
  obtain ⟨rfl, rfl⟩ := am_sp hM
  exact Ev.ret rfl
def L_X8_withGuest_6 (n : Nat) : Nat → Int32 → Int64 → Int32 → AH → Option (Int64 × AH)
  | 0, _, _, _, _ => none
  | m + 1, x3, x4, x6, h =>
    if 2 < x6 then
      am_b (M_X8_withStay n x4 4 x3 h) fun v2 h1 =>
      am_b (M_X8_withStay n v2 11 x3 h1) fun v4 h3 =>
      am_b (M_X8_withStay n v4 23 x3 h3) fun v6 h5 =>
      am_b (M_X8_waited n x3 h5) fun v8 h7 =>
      am_b (M_X8_come n x3 0 h7) fun v10 h9 =>
      am_b (M_X8_come n x3 1 h9) fun v12 h11 =>
      am_b (M_X8_chance n 5 x3 0 h11) fun v14 h13 =>
      am_b (M_X8_chance n 5 x3 1 h13) fun v16 h15 =>
      some ((M_X8_joined (M_X8_joined (M_X8_joined (M_X8_joined (M_X8_joined v6 (Int32.toInt64 v8)) (Int32.toInt64 v10)) (Int32.toInt64 v12)) v14) v16), h15)
    else
      am_o (M_X8_guest x3 x6 h) fun v17 =>
      L_X8_withGuest_6 n m x3 (M_X8_joined x4 (Int32.toInt64 v17)) (x6 + 1) h
set_option maxRecDepth 10000 in
theorem E_L_X8_withGuest_6 (n : Nat) (vR : Int64) (hR : AH) : ∀ (m : Nat) (x3 : Int32) (x4 : Int64) (x6 : Int32) (h : AH), L_X8_withGuest_6 n m x3 x4 x6 h = some (vR, hR) → Ev none mr_X8_withGuest (6, [(0, .ref 0), (3, .int x3), (4, .long x4), (6, .int x6)], [], h) (some (.long vR)) hR := by
  intro m
  induction m with
  | zero =>
    intro x3 x4 x6 h hM
    exact (am_no hM).elim
  | succ m ih =>
    intro x3 x4 x6 h hM
    rw [L_X8_withGuest_6] at hM
    refine Ev.steps (B := (9, [(0, .ref 0), (3, .int x3), (4, .long x4), (6, .int x6)], [.int 2, .int x6], h)) 2 rfl ?_
    refine Ev.br (b := decide (2 < x6)) rfl (fun c1 => ?_) (fun c1 => ?_)
    · have c1 := of_decide_eq_true c1
      rw [if_pos c1] at hM
      refine Ev.steps (B := (38, [(0, .ref 0), (3, .int x3), (4, .long x4), (6, .int x6)], [.int x3, .int 4, .long x4, .ref 0], h)) 4 rfl ?_
      obtain ⟨v2, h1, e2, hM⟩ := am_bS hM
      refine Ev.call (q := (mr_X8_withStay, [.ref 0, .long x4, .int 4, .int x3], [])) rfl (E_X8_withStay_0 n x4 4 x3 h v2 h1 e2) ?_
      refine Ev.steps (B := (49, [(4, .long v2), (0, .ref 0), (3, .int x3), (6, .int x6)], [.int x3, .int 11, .long v2, .ref 0], h1)) 5 rfl ?_
      obtain ⟨v4, h3, e3, hM⟩ := am_bS hM
      refine Ev.call (q := (mr_X8_withStay, [.ref 0, .long v2, .int 11, .int x3], [])) rfl (E_X8_withStay_0 n v2 11 x3 h1 v4 h3 e3) ?_
      refine Ev.steps (B := (60, [(4, .long v4), (0, .ref 0), (3, .int x3), (6, .int x6)], [.int x3, .int 23, .long v4, .ref 0], h3)) 5 rfl ?_
      obtain ⟨v6, h5, e4, hM⟩ := am_bS hM
      refine Ev.call (q := (mr_X8_withStay, [.ref 0, .long v4, .int 23, .int x3], [])) rfl (E_X8_withStay_0 n v4 23 x3 h3 v6 h5 e4) ?_
      refine Ev.steps (B := (69, [(4, .long v6), (0, .ref 0), (3, .int x3), (6, .int x6)], [.int x3, .ref 0, .long v6], h5)) 4 rfl ?_
      obtain ⟨v8, h7, e5, hM⟩ := am_bS hM
      refine Ev.call (q := (mr_X8_waited, [.ref 0, .int x3], [.long v6])) rfl (E_X8_waited_0 n x3 h5 v8 h7 e5) ?_
      refine Ev.steps (B := (73, [(4, .long v6), (0, .ref 0), (3, .int x3), (6, .int x6)], [.long (Int32.toInt64 v8), .long v6], h7)) 1 rfl ?_
      refine Ev.call (q := (mr_X8_joined, [.long v6, .long (Int32.toInt64 v8)], [])) rfl (E_X8_joined v6 (Int32.toInt64 v8) h7) ?_
      refine Ev.steps (B := (83, [(4, .long (M_X8_joined v6 (Int32.toInt64 v8))), (0, .ref 0), (3, .int x3), (6, .int x6)], [.int 0, .int x3, .ref 0, .long (M_X8_joined v6 (Int32.toInt64 v8))], h7)) 5 rfl ?_
      obtain ⟨v10, h9, e6, hM⟩ := am_bS hM
      refine Ev.call (q := (mr_X8_come, [.ref 0, .int x3, .int 0], [.long (M_X8_joined v6 (Int32.toInt64 v8))])) rfl (E_X8_come_0 n x3 0 h7 v10 h9 e6) ?_
      refine Ev.steps (B := (87, [(4, .long (M_X8_joined v6 (Int32.toInt64 v8))), (0, .ref 0), (3, .int x3), (6, .int x6)], [.long (Int32.toInt64 v10), .long (M_X8_joined v6 (Int32.toInt64 v8))], h9)) 1 rfl ?_
      refine Ev.call (q := (mr_X8_joined, [.long (M_X8_joined v6 (Int32.toInt64 v8)), .long (Int32.toInt64 v10)], [])) rfl (E_X8_joined (M_X8_joined v6 (Int32.toInt64 v8)) (Int32.toInt64 v10) h9) ?_
      refine Ev.steps (B := (97, [(4, .long (M_X8_joined (M_X8_joined v6 (Int32.toInt64 v8)) (Int32.toInt64 v10))), (0, .ref 0), (3, .int x3), (6, .int x6)], [.int 1, .int x3, .ref 0, .long (M_X8_joined (M_X8_joined v6 (Int32.toInt64 v8)) (Int32.toInt64 v10))], h9)) 5 rfl ?_
      obtain ⟨v12, h11, e7, hM⟩ := am_bS hM
      refine Ev.call (q := (mr_X8_come, [.ref 0, .int x3, .int 1], [.long (M_X8_joined (M_X8_joined v6 (Int32.toInt64 v8)) (Int32.toInt64 v10))])) rfl (E_X8_come_0 n x3 1 h9 v12 h11 e7) ?_
      refine Ev.steps (B := (101, [(4, .long (M_X8_joined (M_X8_joined v6 (Int32.toInt64 v8)) (Int32.toInt64 v10))), (0, .ref 0), (3, .int x3), (6, .int x6)], [.long (Int32.toInt64 v12), .long (M_X8_joined (M_X8_joined v6 (Int32.toInt64 v8)) (Int32.toInt64 v10))], h11)) 1 rfl ?_
      refine Ev.call (q := (mr_X8_joined, [.long (M_X8_joined (M_X8_joined v6 (Int32.toInt64 v8)) (Int32.toInt64 v10)), .long (Int32.toInt64 v12)], [])) rfl (E_X8_joined (M_X8_joined (M_X8_joined v6 (Int32.toInt64 v8)) (Int32.toInt64 v10)) (Int32.toInt64 v12) h11) ?_
      refine Ev.steps (B := (112, [(4, .long (M_X8_joined (M_X8_joined (M_X8_joined v6 (Int32.toInt64 v8)) (Int32.toInt64 v10)) (Int32.toInt64 v12))), (0, .ref 0), (3, .int x3), (6, .int x6)], [.int 0, .int x3, .int 5, .ref 0, .long (M_X8_joined (M_X8_joined (M_X8_joined v6 (Int32.toInt64 v8)) (Int32.toInt64 v10)) (Int32.toInt64 v12))], h11)) 6 rfl ?_
      obtain ⟨v14, h13, e8, hM⟩ := am_bS hM
      refine Ev.call (q := (mr_X8_chance, [.ref 0, .int 5, .int x3, .int 0], [.long (M_X8_joined (M_X8_joined (M_X8_joined v6 (Int32.toInt64 v8)) (Int32.toInt64 v10)) (Int32.toInt64 v12))])) rfl (E_X8_chance_0 n 5 x3 0 h11 v14 h13 e8) ?_
      refine Ev.call (q := (mr_X8_joined, [.long (M_X8_joined (M_X8_joined (M_X8_joined v6 (Int32.toInt64 v8)) (Int32.toInt64 v10)) (Int32.toInt64 v12)), .long v14], [])) rfl (E_X8_joined (M_X8_joined (M_X8_joined (M_X8_joined v6 (Int32.toInt64 v8)) (Int32.toInt64 v10)) (Int32.toInt64 v12)) v14 h13) ?_
      refine Ev.steps (B := (126, [(4, .long (M_X8_joined (M_X8_joined (M_X8_joined (M_X8_joined v6 (Int32.toInt64 v8)) (Int32.toInt64 v10)) (Int32.toInt64 v12)) v14)), (0, .ref 0), (3, .int x3), (6, .int x6)], [.int 1, .int x3, .int 5, .ref 0, .long (M_X8_joined (M_X8_joined (M_X8_joined (M_X8_joined v6 (Int32.toInt64 v8)) (Int32.toInt64 v10)) (Int32.toInt64 v12)) v14)], h13)) 6 rfl ?_
      obtain ⟨v16, h15, e9, hM⟩ := am_bS hM
      refine Ev.call (q := (mr_X8_chance, [.ref 0, .int 5, .int x3, .int 1], [.long (M_X8_joined (M_X8_joined (M_X8_joined (M_X8_joined v6 (Int32.toInt64 v8)) (Int32.toInt64 v10)) (Int32.toInt64 v12)) v14)])) rfl (E_X8_chance_0 n 5 x3 1 h13 v16 h15 e9) ?_
      refine Ev.call (q := (mr_X8_joined, [.long (M_X8_joined (M_X8_joined (M_X8_joined (M_X8_joined v6 (Int32.toInt64 v8)) (Int32.toInt64 v10)) (Int32.toInt64 v12)) v14), .long v16], [])) rfl (E_X8_joined (M_X8_joined (M_X8_joined (M_X8_joined (M_X8_joined v6 (Int32.toInt64 v8)) (Int32.toInt64 v10)) (Int32.toInt64 v12)) v14) v16 h15) ?_
      obtain ⟨rfl, rfl⟩ := am_sp hM
      exact Ev.ret rfl
    · have c1 := of_decide_eq_false c1
      rw [if_neg c1] at hM
      refine Ev.steps (B := (18, [(0, .ref 0), (3, .int x3), (4, .long x4), (6, .int x6)], [.int x6, .int x3, .ref 0, .long x4], h)) 4 rfl ?_
      obtain ⟨v17, e10, hM⟩ := am_oS hM
      refine Ev.call (q := (mr_X8_guest, [.ref 0, .int x3, .int x6], [.long x4])) rfl (E_X8_guest_0 x3 x6 h v17 e10) ?_
      refine Ev.steps (B := (22, [(0, .ref 0), (3, .int x3), (4, .long x4), (6, .int x6)], [.long (Int32.toInt64 v17), .long x4], h)) 1 rfl ?_
      refine Ev.call (q := (mr_X8_joined, [.long x4, .long (Int32.toInt64 v17)], [])) rfl (E_X8_joined x4 (Int32.toInt64 v17) h) ?_
      refine Ev.steps (B := (6, [(6, .int (x6 + 1)), (4, .long (M_X8_joined x4 (Int32.toInt64 v17))), (0, .ref 0), (3, .int x3)], [], h)) 3 rfl ?_
      refine Ev.lv (lv := [(0, .ref 0), (3, .int x3), (4, .long (M_X8_joined x4 (Int32.toInt64 v17))), (6, .int (x6 + 1))]) ⟨rfl, rfl, rfl, rfl, trivial⟩ rfl rfl ?_
      exact ih x3 (M_X8_joined x4 (Int32.toInt64 v17)) (x6 + 1) h hM
def M_X8_withGuest (n : Nat) (a1 : Int64) (a2 : Int32) (h : AH) : Option (Int64 × AH) :=
  L_X8_withGuest_6 n n a2 a1 0 h
set_option maxRecDepth 10000 in
theorem E_X8_withGuest_0 (n : Nat) (a1 : Int64) (a2 : Int32) (h : AH) (vR : Int64) (hR : AH) (hM : M_X8_withGuest n a1 a2 h = some (vR, hR)) : Ev none mr_X8_withGuest (0, [(0, .ref 0), (1, .long a1), (3, .int a2)], [], h) (some (.long vR)) hR := by
  unfold M_X8_withGuest at hM
  refine Ev.steps (B := (6, [(6, .int 0), (4, .long a1), (0, .ref 0), (1, .long a1), (3, .int a2)], [], h)) 4 rfl ?_
  refine Ev.lv (lv := [(0, .ref 0), (3, .int a2), (4, .long a1), (6, .int 0)]) ⟨rfl, rfl, rfl, rfl, trivial⟩ rfl rfl ?_
  exact E_L_X8_withGuest_6 n vR hR n a2 a1 0 h hM
def L_X8_digest_129 (n : Nat) : Nat → Int64 → Int32 → AH → Option (Int64 × AH)
  | 0, _, _, _ => none
  | m + 1, x1, x3, h =>
    if 4 < x3 then
      am_b (M_X8_first n h) fun v2 h1 =>
      am_b (M_X8_hottest n 0 h1) fun v4 h3 =>
      am_b (M_X8_hottest n 1 h3) fun v6 h5 =>
      am_b (M_X8_thirst n h5) fun v8 h7 =>
      am_b (M_X8_fill n 0 h7) fun v10 h9 =>
      am_b (M_X8_fill n 1 h9) fun v12 h11 =>
      am_b (M_X8_spare n (-1) h11) fun v14 h13 =>
      am_b (M_X8_spare n 0 h13) fun v16 h15 =>
      am_b (M_X8_never n h15) fun v18 h17 =>
      am_b (M_X8_waters n h17) fun v20 h19 =>
      am_b (M_X8_ask n h19) fun v22 h21 =>
      am_b (M_X8_evenings n 7 6 0 h21) fun v24 h23 =>
      am_b (M_X8_evenings n 7 6 1 h23) fun v26 h25 =>
      some ((M_X8_joined (M_X8_joined (M_X8_joined (M_X8_joined (M_X8_joined (M_X8_joined (M_X8_joined (M_X8_joined (M_X8_joined (M_X8_joined (M_X8_joined (M_X8_joined (M_X8_joined x1 (Int32.toInt64 v2)) (Int32.toInt64 v4)) (Int32.toInt64 v6)) (Int32.toInt64 v8)) (Int32.toInt64 v10)) (Int32.toInt64 v12)) (Int32.toInt64 v14)) (Int32.toInt64 v16)) (Int32.toInt64 v18)) (Int32.toInt64 v20)) (Int32.toInt64 v22)) (Int32.toInt64 v24)) (Int32.toInt64 v26)), h25)
    else
      am_b (M_X8_sum n x3 h) fun v28 h27 =>
      L_X8_digest_129 n m (M_X8_joined x1 (Int32.toInt64 v28)) (x3 + 1) h27
set_option maxRecDepth 10000 in
theorem E_L_X8_digest_129 (n : Nat) (vR : Int64) (hR : AH) : ∀ (m : Nat) (x1 : Int64) (x3 : Int32) (h : AH), L_X8_digest_129 n m x1 x3 h = some (vR, hR) → Ev none mr_X8_digest (129, [(0, .ref 0), (1, .long x1), (3, .int x3)], [], h) (some (.long vR)) hR := by
  intro m
  induction m with
  | zero =>
    intro x1 x3 h hM
    exact (am_no hM).elim
  | succ m ih =>
    intro x1 x3 h hM
    rw [L_X8_digest_129] at hM
    refine Ev.steps (B := (131, [(0, .ref 0), (1, .long x1), (3, .int x3)], [.int 4, .int x3], h)) 2 rfl ?_
    refine Ev.br (b := decide (4 < x3)) rfl (fun c1 => ?_) (fun c1 => ?_)
    · have c1 := of_decide_eq_true c1
      rw [if_pos c1] at hM
      refine Ev.steps (B := (153, [(0, .ref 0), (1, .long x1), (3, .int x3)], [.ref 0, .long x1], h)) 2 rfl ?_
      obtain ⟨v2, h1, e2, hM⟩ := am_bS hM
      refine Ev.call (q := (mr_X8_first, [.ref 0], [.long x1])) rfl (E_X8_first_0 n h v2 h1 e2) ?_
      refine Ev.steps (B := (157, [(0, .ref 0), (1, .long x1), (3, .int x3)], [.long (Int32.toInt64 v2), .long x1], h1)) 1 rfl ?_
      refine Ev.call (q := (mr_X8_joined, [.long x1, .long (Int32.toInt64 v2)], [])) rfl (E_X8_joined x1 (Int32.toInt64 v2) h1) ?_
      refine Ev.steps (B := (164, [(1, .long (M_X8_joined x1 (Int32.toInt64 v2))), (0, .ref 0), (3, .int x3)], [.int 0, .ref 0, .long (M_X8_joined x1 (Int32.toInt64 v2))], h1)) 4 rfl ?_
      obtain ⟨v4, h3, e3, hM⟩ := am_bS hM
      refine Ev.call (q := (mr_X8_hottest, [.ref 0, .int 0], [.long (M_X8_joined x1 (Int32.toInt64 v2))])) rfl (E_X8_hottest_0 n 0 h1 v4 h3 e3) ?_
      refine Ev.steps (B := (168, [(1, .long (M_X8_joined x1 (Int32.toInt64 v2))), (0, .ref 0), (3, .int x3)], [.long (Int32.toInt64 v4), .long (M_X8_joined x1 (Int32.toInt64 v2))], h3)) 1 rfl ?_
      refine Ev.call (q := (mr_X8_joined, [.long (M_X8_joined x1 (Int32.toInt64 v2)), .long (Int32.toInt64 v4)], [])) rfl (E_X8_joined (M_X8_joined x1 (Int32.toInt64 v2)) (Int32.toInt64 v4) h3) ?_
      refine Ev.steps (B := (175, [(1, .long (M_X8_joined (M_X8_joined x1 (Int32.toInt64 v2)) (Int32.toInt64 v4))), (0, .ref 0), (3, .int x3)], [.int 1, .ref 0, .long (M_X8_joined (M_X8_joined x1 (Int32.toInt64 v2)) (Int32.toInt64 v4))], h3)) 4 rfl ?_
      obtain ⟨v6, h5, e4, hM⟩ := am_bS hM
      refine Ev.call (q := (mr_X8_hottest, [.ref 0, .int 1], [.long (M_X8_joined (M_X8_joined x1 (Int32.toInt64 v2)) (Int32.toInt64 v4))])) rfl (E_X8_hottest_0 n 1 h3 v6 h5 e4) ?_
      refine Ev.steps (B := (179, [(1, .long (M_X8_joined (M_X8_joined x1 (Int32.toInt64 v2)) (Int32.toInt64 v4))), (0, .ref 0), (3, .int x3)], [.long (Int32.toInt64 v6), .long (M_X8_joined (M_X8_joined x1 (Int32.toInt64 v2)) (Int32.toInt64 v4))], h5)) 1 rfl ?_
      refine Ev.call (q := (mr_X8_joined, [.long (M_X8_joined (M_X8_joined x1 (Int32.toInt64 v2)) (Int32.toInt64 v4)), .long (Int32.toInt64 v6)], [])) rfl (E_X8_joined (M_X8_joined (M_X8_joined x1 (Int32.toInt64 v2)) (Int32.toInt64 v4)) (Int32.toInt64 v6) h5) ?_
      refine Ev.steps (B := (185, [(1, .long (M_X8_joined (M_X8_joined (M_X8_joined x1 (Int32.toInt64 v2)) (Int32.toInt64 v4)) (Int32.toInt64 v6))), (0, .ref 0), (3, .int x3)], [.ref 0, .long (M_X8_joined (M_X8_joined (M_X8_joined x1 (Int32.toInt64 v2)) (Int32.toInt64 v4)) (Int32.toInt64 v6))], h5)) 3 rfl ?_
      obtain ⟨v8, h7, e5, hM⟩ := am_bS hM
      refine Ev.call (q := (mr_X8_thirst, [.ref 0], [.long (M_X8_joined (M_X8_joined (M_X8_joined x1 (Int32.toInt64 v2)) (Int32.toInt64 v4)) (Int32.toInt64 v6))])) rfl (E_X8_thirst_0 n h5 v8 h7 e5) ?_
      refine Ev.steps (B := (189, [(1, .long (M_X8_joined (M_X8_joined (M_X8_joined x1 (Int32.toInt64 v2)) (Int32.toInt64 v4)) (Int32.toInt64 v6))), (0, .ref 0), (3, .int x3)], [.long (Int32.toInt64 v8), .long (M_X8_joined (M_X8_joined (M_X8_joined x1 (Int32.toInt64 v2)) (Int32.toInt64 v4)) (Int32.toInt64 v6))], h7)) 1 rfl ?_
      refine Ev.call (q := (mr_X8_joined, [.long (M_X8_joined (M_X8_joined (M_X8_joined x1 (Int32.toInt64 v2)) (Int32.toInt64 v4)) (Int32.toInt64 v6)), .long (Int32.toInt64 v8)], [])) rfl (E_X8_joined (M_X8_joined (M_X8_joined (M_X8_joined x1 (Int32.toInt64 v2)) (Int32.toInt64 v4)) (Int32.toInt64 v6)) (Int32.toInt64 v8) h7) ?_
      refine Ev.steps (B := (196, [(1, .long (M_X8_joined (M_X8_joined (M_X8_joined (M_X8_joined x1 (Int32.toInt64 v2)) (Int32.toInt64 v4)) (Int32.toInt64 v6)) (Int32.toInt64 v8))), (0, .ref 0), (3, .int x3)], [.int 0, .ref 0, .long (M_X8_joined (M_X8_joined (M_X8_joined (M_X8_joined x1 (Int32.toInt64 v2)) (Int32.toInt64 v4)) (Int32.toInt64 v6)) (Int32.toInt64 v8))], h7)) 4 rfl ?_
      obtain ⟨v10, h9, e6, hM⟩ := am_bS hM
      refine Ev.call (q := (mr_X8_fill, [.ref 0, .int 0], [.long (M_X8_joined (M_X8_joined (M_X8_joined (M_X8_joined x1 (Int32.toInt64 v2)) (Int32.toInt64 v4)) (Int32.toInt64 v6)) (Int32.toInt64 v8))])) rfl (E_X8_fill_0 n 0 h7 v10 h9 e6) ?_
      refine Ev.steps (B := (200, [(1, .long (M_X8_joined (M_X8_joined (M_X8_joined (M_X8_joined x1 (Int32.toInt64 v2)) (Int32.toInt64 v4)) (Int32.toInt64 v6)) (Int32.toInt64 v8))), (0, .ref 0), (3, .int x3)], [.long (Int32.toInt64 v10), .long (M_X8_joined (M_X8_joined (M_X8_joined (M_X8_joined x1 (Int32.toInt64 v2)) (Int32.toInt64 v4)) (Int32.toInt64 v6)) (Int32.toInt64 v8))], h9)) 1 rfl ?_
      refine Ev.call (q := (mr_X8_joined, [.long (M_X8_joined (M_X8_joined (M_X8_joined (M_X8_joined x1 (Int32.toInt64 v2)) (Int32.toInt64 v4)) (Int32.toInt64 v6)) (Int32.toInt64 v8)), .long (Int32.toInt64 v10)], [])) rfl (E_X8_joined (M_X8_joined (M_X8_joined (M_X8_joined (M_X8_joined x1 (Int32.toInt64 v2)) (Int32.toInt64 v4)) (Int32.toInt64 v6)) (Int32.toInt64 v8)) (Int32.toInt64 v10) h9) ?_
      refine Ev.steps (B := (207, [(1, .long (M_X8_joined (M_X8_joined (M_X8_joined (M_X8_joined (M_X8_joined x1 (Int32.toInt64 v2)) (Int32.toInt64 v4)) (Int32.toInt64 v6)) (Int32.toInt64 v8)) (Int32.toInt64 v10))), (0, .ref 0), (3, .int x3)], [.int 1, .ref 0, .long (M_X8_joined (M_X8_joined (M_X8_joined (M_X8_joined (M_X8_joined x1 (Int32.toInt64 v2)) (Int32.toInt64 v4)) (Int32.toInt64 v6)) (Int32.toInt64 v8)) (Int32.toInt64 v10))], h9)) 4 rfl ?_
      obtain ⟨v12, h11, e7, hM⟩ := am_bS hM
      refine Ev.call (q := (mr_X8_fill, [.ref 0, .int 1], [.long (M_X8_joined (M_X8_joined (M_X8_joined (M_X8_joined (M_X8_joined x1 (Int32.toInt64 v2)) (Int32.toInt64 v4)) (Int32.toInt64 v6)) (Int32.toInt64 v8)) (Int32.toInt64 v10))])) rfl (E_X8_fill_0 n 1 h9 v12 h11 e7) ?_
      refine Ev.steps (B := (211, [(1, .long (M_X8_joined (M_X8_joined (M_X8_joined (M_X8_joined (M_X8_joined x1 (Int32.toInt64 v2)) (Int32.toInt64 v4)) (Int32.toInt64 v6)) (Int32.toInt64 v8)) (Int32.toInt64 v10))), (0, .ref 0), (3, .int x3)], [.long (Int32.toInt64 v12), .long (M_X8_joined (M_X8_joined (M_X8_joined (M_X8_joined (M_X8_joined x1 (Int32.toInt64 v2)) (Int32.toInt64 v4)) (Int32.toInt64 v6)) (Int32.toInt64 v8)) (Int32.toInt64 v10))], h11)) 1 rfl ?_
      refine Ev.call (q := (mr_X8_joined, [.long (M_X8_joined (M_X8_joined (M_X8_joined (M_X8_joined (M_X8_joined x1 (Int32.toInt64 v2)) (Int32.toInt64 v4)) (Int32.toInt64 v6)) (Int32.toInt64 v8)) (Int32.toInt64 v10)), .long (Int32.toInt64 v12)], [])) rfl (E_X8_joined (M_X8_joined (M_X8_joined (M_X8_joined (M_X8_joined (M_X8_joined x1 (Int32.toInt64 v2)) (Int32.toInt64 v4)) (Int32.toInt64 v6)) (Int32.toInt64 v8)) (Int32.toInt64 v10)) (Int32.toInt64 v12) h11) ?_
      refine Ev.steps (B := (218, [(1, .long (M_X8_joined (M_X8_joined (M_X8_joined (M_X8_joined (M_X8_joined (M_X8_joined x1 (Int32.toInt64 v2)) (Int32.toInt64 v4)) (Int32.toInt64 v6)) (Int32.toInt64 v8)) (Int32.toInt64 v10)) (Int32.toInt64 v12))), (0, .ref 0), (3, .int x3)], [.int (-1), .ref 0, .long (M_X8_joined (M_X8_joined (M_X8_joined (M_X8_joined (M_X8_joined (M_X8_joined x1 (Int32.toInt64 v2)) (Int32.toInt64 v4)) (Int32.toInt64 v6)) (Int32.toInt64 v8)) (Int32.toInt64 v10)) (Int32.toInt64 v12))], h11)) 4 rfl ?_
      obtain ⟨v14, h13, e8, hM⟩ := am_bS hM
      refine Ev.call (q := (mr_X8_spare, [.ref 0, .int (-1)], [.long (M_X8_joined (M_X8_joined (M_X8_joined (M_X8_joined (M_X8_joined (M_X8_joined x1 (Int32.toInt64 v2)) (Int32.toInt64 v4)) (Int32.toInt64 v6)) (Int32.toInt64 v8)) (Int32.toInt64 v10)) (Int32.toInt64 v12))])) rfl (E_X8_spare_0 n (-1) h11 v14 h13 e8) ?_
      refine Ev.steps (B := (222, [(1, .long (M_X8_joined (M_X8_joined (M_X8_joined (M_X8_joined (M_X8_joined (M_X8_joined x1 (Int32.toInt64 v2)) (Int32.toInt64 v4)) (Int32.toInt64 v6)) (Int32.toInt64 v8)) (Int32.toInt64 v10)) (Int32.toInt64 v12))), (0, .ref 0), (3, .int x3)], [.long (Int32.toInt64 v14), .long (M_X8_joined (M_X8_joined (M_X8_joined (M_X8_joined (M_X8_joined (M_X8_joined x1 (Int32.toInt64 v2)) (Int32.toInt64 v4)) (Int32.toInt64 v6)) (Int32.toInt64 v8)) (Int32.toInt64 v10)) (Int32.toInt64 v12))], h13)) 1 rfl ?_
      refine Ev.call (q := (mr_X8_joined, [.long (M_X8_joined (M_X8_joined (M_X8_joined (M_X8_joined (M_X8_joined (M_X8_joined x1 (Int32.toInt64 v2)) (Int32.toInt64 v4)) (Int32.toInt64 v6)) (Int32.toInt64 v8)) (Int32.toInt64 v10)) (Int32.toInt64 v12)), .long (Int32.toInt64 v14)], [])) rfl (E_X8_joined (M_X8_joined (M_X8_joined (M_X8_joined (M_X8_joined (M_X8_joined (M_X8_joined x1 (Int32.toInt64 v2)) (Int32.toInt64 v4)) (Int32.toInt64 v6)) (Int32.toInt64 v8)) (Int32.toInt64 v10)) (Int32.toInt64 v12)) (Int32.toInt64 v14) h13) ?_
      refine Ev.steps (B := (229, [(1, .long (M_X8_joined (M_X8_joined (M_X8_joined (M_X8_joined (M_X8_joined (M_X8_joined (M_X8_joined x1 (Int32.toInt64 v2)) (Int32.toInt64 v4)) (Int32.toInt64 v6)) (Int32.toInt64 v8)) (Int32.toInt64 v10)) (Int32.toInt64 v12)) (Int32.toInt64 v14))), (0, .ref 0), (3, .int x3)], [.int 0, .ref 0, .long (M_X8_joined (M_X8_joined (M_X8_joined (M_X8_joined (M_X8_joined (M_X8_joined (M_X8_joined x1 (Int32.toInt64 v2)) (Int32.toInt64 v4)) (Int32.toInt64 v6)) (Int32.toInt64 v8)) (Int32.toInt64 v10)) (Int32.toInt64 v12)) (Int32.toInt64 v14))], h13)) 4 rfl ?_
      obtain ⟨v16, h15, e9, hM⟩ := am_bS hM
      refine Ev.call (q := (mr_X8_spare, [.ref 0, .int 0], [.long (M_X8_joined (M_X8_joined (M_X8_joined (M_X8_joined (M_X8_joined (M_X8_joined (M_X8_joined x1 (Int32.toInt64 v2)) (Int32.toInt64 v4)) (Int32.toInt64 v6)) (Int32.toInt64 v8)) (Int32.toInt64 v10)) (Int32.toInt64 v12)) (Int32.toInt64 v14))])) rfl (E_X8_spare_0 n 0 h13 v16 h15 e9) ?_
      refine Ev.steps (B := (233, [(1, .long (M_X8_joined (M_X8_joined (M_X8_joined (M_X8_joined (M_X8_joined (M_X8_joined (M_X8_joined x1 (Int32.toInt64 v2)) (Int32.toInt64 v4)) (Int32.toInt64 v6)) (Int32.toInt64 v8)) (Int32.toInt64 v10)) (Int32.toInt64 v12)) (Int32.toInt64 v14))), (0, .ref 0), (3, .int x3)], [.long (Int32.toInt64 v16), .long (M_X8_joined (M_X8_joined (M_X8_joined (M_X8_joined (M_X8_joined (M_X8_joined (M_X8_joined x1 (Int32.toInt64 v2)) (Int32.toInt64 v4)) (Int32.toInt64 v6)) (Int32.toInt64 v8)) (Int32.toInt64 v10)) (Int32.toInt64 v12)) (Int32.toInt64 v14))], h15)) 1 rfl ?_
      refine Ev.call (q := (mr_X8_joined, [.long (M_X8_joined (M_X8_joined (M_X8_joined (M_X8_joined (M_X8_joined (M_X8_joined (M_X8_joined x1 (Int32.toInt64 v2)) (Int32.toInt64 v4)) (Int32.toInt64 v6)) (Int32.toInt64 v8)) (Int32.toInt64 v10)) (Int32.toInt64 v12)) (Int32.toInt64 v14)), .long (Int32.toInt64 v16)], [])) rfl (E_X8_joined (M_X8_joined (M_X8_joined (M_X8_joined (M_X8_joined (M_X8_joined (M_X8_joined (M_X8_joined x1 (Int32.toInt64 v2)) (Int32.toInt64 v4)) (Int32.toInt64 v6)) (Int32.toInt64 v8)) (Int32.toInt64 v10)) (Int32.toInt64 v12)) (Int32.toInt64 v14)) (Int32.toInt64 v16) h15) ?_
      refine Ev.steps (B := (239, [(1, .long (M_X8_joined (M_X8_joined (M_X8_joined (M_X8_joined (M_X8_joined (M_X8_joined (M_X8_joined (M_X8_joined x1 (Int32.toInt64 v2)) (Int32.toInt64 v4)) (Int32.toInt64 v6)) (Int32.toInt64 v8)) (Int32.toInt64 v10)) (Int32.toInt64 v12)) (Int32.toInt64 v14)) (Int32.toInt64 v16))), (0, .ref 0), (3, .int x3)], [.ref 0, .long (M_X8_joined (M_X8_joined (M_X8_joined (M_X8_joined (M_X8_joined (M_X8_joined (M_X8_joined (M_X8_joined x1 (Int32.toInt64 v2)) (Int32.toInt64 v4)) (Int32.toInt64 v6)) (Int32.toInt64 v8)) (Int32.toInt64 v10)) (Int32.toInt64 v12)) (Int32.toInt64 v14)) (Int32.toInt64 v16))], h15)) 3 rfl ?_
      obtain ⟨v18, h17, e10, hM⟩ := am_bS hM
      refine Ev.call (q := (mr_X8_never, [.ref 0], [.long (M_X8_joined (M_X8_joined (M_X8_joined (M_X8_joined (M_X8_joined (M_X8_joined (M_X8_joined (M_X8_joined x1 (Int32.toInt64 v2)) (Int32.toInt64 v4)) (Int32.toInt64 v6)) (Int32.toInt64 v8)) (Int32.toInt64 v10)) (Int32.toInt64 v12)) (Int32.toInt64 v14)) (Int32.toInt64 v16))])) rfl (E_X8_never_0 n h15 v18 h17 e10) ?_
      refine Ev.steps (B := (243, [(1, .long (M_X8_joined (M_X8_joined (M_X8_joined (M_X8_joined (M_X8_joined (M_X8_joined (M_X8_joined (M_X8_joined x1 (Int32.toInt64 v2)) (Int32.toInt64 v4)) (Int32.toInt64 v6)) (Int32.toInt64 v8)) (Int32.toInt64 v10)) (Int32.toInt64 v12)) (Int32.toInt64 v14)) (Int32.toInt64 v16))), (0, .ref 0), (3, .int x3)], [.long (Int32.toInt64 v18), .long (M_X8_joined (M_X8_joined (M_X8_joined (M_X8_joined (M_X8_joined (M_X8_joined (M_X8_joined (M_X8_joined x1 (Int32.toInt64 v2)) (Int32.toInt64 v4)) (Int32.toInt64 v6)) (Int32.toInt64 v8)) (Int32.toInt64 v10)) (Int32.toInt64 v12)) (Int32.toInt64 v14)) (Int32.toInt64 v16))], h17)) 1 rfl ?_
      refine Ev.call (q := (mr_X8_joined, [.long (M_X8_joined (M_X8_joined (M_X8_joined (M_X8_joined (M_X8_joined (M_X8_joined (M_X8_joined (M_X8_joined x1 (Int32.toInt64 v2)) (Int32.toInt64 v4)) (Int32.toInt64 v6)) (Int32.toInt64 v8)) (Int32.toInt64 v10)) (Int32.toInt64 v12)) (Int32.toInt64 v14)) (Int32.toInt64 v16)), .long (Int32.toInt64 v18)], [])) rfl (E_X8_joined (M_X8_joined (M_X8_joined (M_X8_joined (M_X8_joined (M_X8_joined (M_X8_joined (M_X8_joined (M_X8_joined x1 (Int32.toInt64 v2)) (Int32.toInt64 v4)) (Int32.toInt64 v6)) (Int32.toInt64 v8)) (Int32.toInt64 v10)) (Int32.toInt64 v12)) (Int32.toInt64 v14)) (Int32.toInt64 v16)) (Int32.toInt64 v18) h17) ?_
      refine Ev.steps (B := (249, [(1, .long (M_X8_joined (M_X8_joined (M_X8_joined (M_X8_joined (M_X8_joined (M_X8_joined (M_X8_joined (M_X8_joined (M_X8_joined x1 (Int32.toInt64 v2)) (Int32.toInt64 v4)) (Int32.toInt64 v6)) (Int32.toInt64 v8)) (Int32.toInt64 v10)) (Int32.toInt64 v12)) (Int32.toInt64 v14)) (Int32.toInt64 v16)) (Int32.toInt64 v18))), (0, .ref 0), (3, .int x3)], [.ref 0, .long (M_X8_joined (M_X8_joined (M_X8_joined (M_X8_joined (M_X8_joined (M_X8_joined (M_X8_joined (M_X8_joined (M_X8_joined x1 (Int32.toInt64 v2)) (Int32.toInt64 v4)) (Int32.toInt64 v6)) (Int32.toInt64 v8)) (Int32.toInt64 v10)) (Int32.toInt64 v12)) (Int32.toInt64 v14)) (Int32.toInt64 v16)) (Int32.toInt64 v18))], h17)) 3 rfl ?_
      obtain ⟨v20, h19, e11, hM⟩ := am_bS hM
      refine Ev.call (q := (mr_X8_waters, [.ref 0], [.long (M_X8_joined (M_X8_joined (M_X8_joined (M_X8_joined (M_X8_joined (M_X8_joined (M_X8_joined (M_X8_joined (M_X8_joined x1 (Int32.toInt64 v2)) (Int32.toInt64 v4)) (Int32.toInt64 v6)) (Int32.toInt64 v8)) (Int32.toInt64 v10)) (Int32.toInt64 v12)) (Int32.toInt64 v14)) (Int32.toInt64 v16)) (Int32.toInt64 v18))])) rfl (E_X8_waters_0 n h17 v20 h19 e11) ?_
      refine Ev.steps (B := (253, [(1, .long (M_X8_joined (M_X8_joined (M_X8_joined (M_X8_joined (M_X8_joined (M_X8_joined (M_X8_joined (M_X8_joined (M_X8_joined x1 (Int32.toInt64 v2)) (Int32.toInt64 v4)) (Int32.toInt64 v6)) (Int32.toInt64 v8)) (Int32.toInt64 v10)) (Int32.toInt64 v12)) (Int32.toInt64 v14)) (Int32.toInt64 v16)) (Int32.toInt64 v18))), (0, .ref 0), (3, .int x3)], [.long (Int32.toInt64 v20), .long (M_X8_joined (M_X8_joined (M_X8_joined (M_X8_joined (M_X8_joined (M_X8_joined (M_X8_joined (M_X8_joined (M_X8_joined x1 (Int32.toInt64 v2)) (Int32.toInt64 v4)) (Int32.toInt64 v6)) (Int32.toInt64 v8)) (Int32.toInt64 v10)) (Int32.toInt64 v12)) (Int32.toInt64 v14)) (Int32.toInt64 v16)) (Int32.toInt64 v18))], h19)) 1 rfl ?_
      refine Ev.call (q := (mr_X8_joined, [.long (M_X8_joined (M_X8_joined (M_X8_joined (M_X8_joined (M_X8_joined (M_X8_joined (M_X8_joined (M_X8_joined (M_X8_joined x1 (Int32.toInt64 v2)) (Int32.toInt64 v4)) (Int32.toInt64 v6)) (Int32.toInt64 v8)) (Int32.toInt64 v10)) (Int32.toInt64 v12)) (Int32.toInt64 v14)) (Int32.toInt64 v16)) (Int32.toInt64 v18)), .long (Int32.toInt64 v20)], [])) rfl (E_X8_joined (M_X8_joined (M_X8_joined (M_X8_joined (M_X8_joined (M_X8_joined (M_X8_joined (M_X8_joined (M_X8_joined (M_X8_joined x1 (Int32.toInt64 v2)) (Int32.toInt64 v4)) (Int32.toInt64 v6)) (Int32.toInt64 v8)) (Int32.toInt64 v10)) (Int32.toInt64 v12)) (Int32.toInt64 v14)) (Int32.toInt64 v16)) (Int32.toInt64 v18)) (Int32.toInt64 v20) h19) ?_
      refine Ev.steps (B := (259, [(1, .long (M_X8_joined (M_X8_joined (M_X8_joined (M_X8_joined (M_X8_joined (M_X8_joined (M_X8_joined (M_X8_joined (M_X8_joined (M_X8_joined x1 (Int32.toInt64 v2)) (Int32.toInt64 v4)) (Int32.toInt64 v6)) (Int32.toInt64 v8)) (Int32.toInt64 v10)) (Int32.toInt64 v12)) (Int32.toInt64 v14)) (Int32.toInt64 v16)) (Int32.toInt64 v18)) (Int32.toInt64 v20))), (0, .ref 0), (3, .int x3)], [.ref 0, .long (M_X8_joined (M_X8_joined (M_X8_joined (M_X8_joined (M_X8_joined (M_X8_joined (M_X8_joined (M_X8_joined (M_X8_joined (M_X8_joined x1 (Int32.toInt64 v2)) (Int32.toInt64 v4)) (Int32.toInt64 v6)) (Int32.toInt64 v8)) (Int32.toInt64 v10)) (Int32.toInt64 v12)) (Int32.toInt64 v14)) (Int32.toInt64 v16)) (Int32.toInt64 v18)) (Int32.toInt64 v20))], h19)) 3 rfl ?_
      obtain ⟨v22, h21, e12, hM⟩ := am_bS hM
      refine Ev.call (q := (mr_X8_ask, [.ref 0], [.long (M_X8_joined (M_X8_joined (M_X8_joined (M_X8_joined (M_X8_joined (M_X8_joined (M_X8_joined (M_X8_joined (M_X8_joined (M_X8_joined x1 (Int32.toInt64 v2)) (Int32.toInt64 v4)) (Int32.toInt64 v6)) (Int32.toInt64 v8)) (Int32.toInt64 v10)) (Int32.toInt64 v12)) (Int32.toInt64 v14)) (Int32.toInt64 v16)) (Int32.toInt64 v18)) (Int32.toInt64 v20))])) rfl (E_X8_ask_0 n h19 v22 h21 e12) ?_
      refine Ev.steps (B := (263, [(1, .long (M_X8_joined (M_X8_joined (M_X8_joined (M_X8_joined (M_X8_joined (M_X8_joined (M_X8_joined (M_X8_joined (M_X8_joined (M_X8_joined x1 (Int32.toInt64 v2)) (Int32.toInt64 v4)) (Int32.toInt64 v6)) (Int32.toInt64 v8)) (Int32.toInt64 v10)) (Int32.toInt64 v12)) (Int32.toInt64 v14)) (Int32.toInt64 v16)) (Int32.toInt64 v18)) (Int32.toInt64 v20))), (0, .ref 0), (3, .int x3)], [.long (Int32.toInt64 v22), .long (M_X8_joined (M_X8_joined (M_X8_joined (M_X8_joined (M_X8_joined (M_X8_joined (M_X8_joined (M_X8_joined (M_X8_joined (M_X8_joined x1 (Int32.toInt64 v2)) (Int32.toInt64 v4)) (Int32.toInt64 v6)) (Int32.toInt64 v8)) (Int32.toInt64 v10)) (Int32.toInt64 v12)) (Int32.toInt64 v14)) (Int32.toInt64 v16)) (Int32.toInt64 v18)) (Int32.toInt64 v20))], h21)) 1 rfl ?_
      refine Ev.call (q := (mr_X8_joined, [.long (M_X8_joined (M_X8_joined (M_X8_joined (M_X8_joined (M_X8_joined (M_X8_joined (M_X8_joined (M_X8_joined (M_X8_joined (M_X8_joined x1 (Int32.toInt64 v2)) (Int32.toInt64 v4)) (Int32.toInt64 v6)) (Int32.toInt64 v8)) (Int32.toInt64 v10)) (Int32.toInt64 v12)) (Int32.toInt64 v14)) (Int32.toInt64 v16)) (Int32.toInt64 v18)) (Int32.toInt64 v20)), .long (Int32.toInt64 v22)], [])) rfl (E_X8_joined (M_X8_joined (M_X8_joined (M_X8_joined (M_X8_joined (M_X8_joined (M_X8_joined (M_X8_joined (M_X8_joined (M_X8_joined (M_X8_joined x1 (Int32.toInt64 v2)) (Int32.toInt64 v4)) (Int32.toInt64 v6)) (Int32.toInt64 v8)) (Int32.toInt64 v10)) (Int32.toInt64 v12)) (Int32.toInt64 v14)) (Int32.toInt64 v16)) (Int32.toInt64 v18)) (Int32.toInt64 v20)) (Int32.toInt64 v22) h21) ?_
      refine Ev.steps (B := (274, [(1, .long (M_X8_joined (M_X8_joined (M_X8_joined (M_X8_joined (M_X8_joined (M_X8_joined (M_X8_joined (M_X8_joined (M_X8_joined (M_X8_joined (M_X8_joined x1 (Int32.toInt64 v2)) (Int32.toInt64 v4)) (Int32.toInt64 v6)) (Int32.toInt64 v8)) (Int32.toInt64 v10)) (Int32.toInt64 v12)) (Int32.toInt64 v14)) (Int32.toInt64 v16)) (Int32.toInt64 v18)) (Int32.toInt64 v20)) (Int32.toInt64 v22))), (0, .ref 0), (3, .int x3)], [.int 0, .int 6, .int 7, .ref 0, .long (M_X8_joined (M_X8_joined (M_X8_joined (M_X8_joined (M_X8_joined (M_X8_joined (M_X8_joined (M_X8_joined (M_X8_joined (M_X8_joined (M_X8_joined x1 (Int32.toInt64 v2)) (Int32.toInt64 v4)) (Int32.toInt64 v6)) (Int32.toInt64 v8)) (Int32.toInt64 v10)) (Int32.toInt64 v12)) (Int32.toInt64 v14)) (Int32.toInt64 v16)) (Int32.toInt64 v18)) (Int32.toInt64 v20)) (Int32.toInt64 v22))], h21)) 6 rfl ?_
      obtain ⟨v24, h23, e13, hM⟩ := am_bS hM
      refine Ev.call (q := (mr_X8_evenings, [.ref 0, .int 7, .int 6, .int 0], [.long (M_X8_joined (M_X8_joined (M_X8_joined (M_X8_joined (M_X8_joined (M_X8_joined (M_X8_joined (M_X8_joined (M_X8_joined (M_X8_joined (M_X8_joined x1 (Int32.toInt64 v2)) (Int32.toInt64 v4)) (Int32.toInt64 v6)) (Int32.toInt64 v8)) (Int32.toInt64 v10)) (Int32.toInt64 v12)) (Int32.toInt64 v14)) (Int32.toInt64 v16)) (Int32.toInt64 v18)) (Int32.toInt64 v20)) (Int32.toInt64 v22))])) rfl (E_X8_evenings_0 n 7 6 0 h21 v24 h23 e13) ?_
      refine Ev.steps (B := (278, [(1, .long (M_X8_joined (M_X8_joined (M_X8_joined (M_X8_joined (M_X8_joined (M_X8_joined (M_X8_joined (M_X8_joined (M_X8_joined (M_X8_joined (M_X8_joined x1 (Int32.toInt64 v2)) (Int32.toInt64 v4)) (Int32.toInt64 v6)) (Int32.toInt64 v8)) (Int32.toInt64 v10)) (Int32.toInt64 v12)) (Int32.toInt64 v14)) (Int32.toInt64 v16)) (Int32.toInt64 v18)) (Int32.toInt64 v20)) (Int32.toInt64 v22))), (0, .ref 0), (3, .int x3)], [.long (Int32.toInt64 v24), .long (M_X8_joined (M_X8_joined (M_X8_joined (M_X8_joined (M_X8_joined (M_X8_joined (M_X8_joined (M_X8_joined (M_X8_joined (M_X8_joined (M_X8_joined x1 (Int32.toInt64 v2)) (Int32.toInt64 v4)) (Int32.toInt64 v6)) (Int32.toInt64 v8)) (Int32.toInt64 v10)) (Int32.toInt64 v12)) (Int32.toInt64 v14)) (Int32.toInt64 v16)) (Int32.toInt64 v18)) (Int32.toInt64 v20)) (Int32.toInt64 v22))], h23)) 1 rfl ?_
      refine Ev.call (q := (mr_X8_joined, [.long (M_X8_joined (M_X8_joined (M_X8_joined (M_X8_joined (M_X8_joined (M_X8_joined (M_X8_joined (M_X8_joined (M_X8_joined (M_X8_joined (M_X8_joined x1 (Int32.toInt64 v2)) (Int32.toInt64 v4)) (Int32.toInt64 v6)) (Int32.toInt64 v8)) (Int32.toInt64 v10)) (Int32.toInt64 v12)) (Int32.toInt64 v14)) (Int32.toInt64 v16)) (Int32.toInt64 v18)) (Int32.toInt64 v20)) (Int32.toInt64 v22)), .long (Int32.toInt64 v24)], [])) rfl (E_X8_joined (M_X8_joined (M_X8_joined (M_X8_joined (M_X8_joined (M_X8_joined (M_X8_joined (M_X8_joined (M_X8_joined (M_X8_joined (M_X8_joined (M_X8_joined x1 (Int32.toInt64 v2)) (Int32.toInt64 v4)) (Int32.toInt64 v6)) (Int32.toInt64 v8)) (Int32.toInt64 v10)) (Int32.toInt64 v12)) (Int32.toInt64 v14)) (Int32.toInt64 v16)) (Int32.toInt64 v18)) (Int32.toInt64 v20)) (Int32.toInt64 v22)) (Int32.toInt64 v24) h23) ?_
      refine Ev.steps (B := (289, [(1, .long (M_X8_joined (M_X8_joined (M_X8_joined (M_X8_joined (M_X8_joined (M_X8_joined (M_X8_joined (M_X8_joined (M_X8_joined (M_X8_joined (M_X8_joined (M_X8_joined x1 (Int32.toInt64 v2)) (Int32.toInt64 v4)) (Int32.toInt64 v6)) (Int32.toInt64 v8)) (Int32.toInt64 v10)) (Int32.toInt64 v12)) (Int32.toInt64 v14)) (Int32.toInt64 v16)) (Int32.toInt64 v18)) (Int32.toInt64 v20)) (Int32.toInt64 v22)) (Int32.toInt64 v24))), (0, .ref 0), (3, .int x3)], [.int 1, .int 6, .int 7, .ref 0, .long (M_X8_joined (M_X8_joined (M_X8_joined (M_X8_joined (M_X8_joined (M_X8_joined (M_X8_joined (M_X8_joined (M_X8_joined (M_X8_joined (M_X8_joined (M_X8_joined x1 (Int32.toInt64 v2)) (Int32.toInt64 v4)) (Int32.toInt64 v6)) (Int32.toInt64 v8)) (Int32.toInt64 v10)) (Int32.toInt64 v12)) (Int32.toInt64 v14)) (Int32.toInt64 v16)) (Int32.toInt64 v18)) (Int32.toInt64 v20)) (Int32.toInt64 v22)) (Int32.toInt64 v24))], h23)) 6 rfl ?_
      obtain ⟨v26, h25, e14, hM⟩ := am_bS hM
      refine Ev.call (q := (mr_X8_evenings, [.ref 0, .int 7, .int 6, .int 1], [.long (M_X8_joined (M_X8_joined (M_X8_joined (M_X8_joined (M_X8_joined (M_X8_joined (M_X8_joined (M_X8_joined (M_X8_joined (M_X8_joined (M_X8_joined (M_X8_joined x1 (Int32.toInt64 v2)) (Int32.toInt64 v4)) (Int32.toInt64 v6)) (Int32.toInt64 v8)) (Int32.toInt64 v10)) (Int32.toInt64 v12)) (Int32.toInt64 v14)) (Int32.toInt64 v16)) (Int32.toInt64 v18)) (Int32.toInt64 v20)) (Int32.toInt64 v22)) (Int32.toInt64 v24))])) rfl (E_X8_evenings_0 n 7 6 1 h23 v26 h25 e14) ?_
      refine Ev.steps (B := (293, [(1, .long (M_X8_joined (M_X8_joined (M_X8_joined (M_X8_joined (M_X8_joined (M_X8_joined (M_X8_joined (M_X8_joined (M_X8_joined (M_X8_joined (M_X8_joined (M_X8_joined x1 (Int32.toInt64 v2)) (Int32.toInt64 v4)) (Int32.toInt64 v6)) (Int32.toInt64 v8)) (Int32.toInt64 v10)) (Int32.toInt64 v12)) (Int32.toInt64 v14)) (Int32.toInt64 v16)) (Int32.toInt64 v18)) (Int32.toInt64 v20)) (Int32.toInt64 v22)) (Int32.toInt64 v24))), (0, .ref 0), (3, .int x3)], [.long (Int32.toInt64 v26), .long (M_X8_joined (M_X8_joined (M_X8_joined (M_X8_joined (M_X8_joined (M_X8_joined (M_X8_joined (M_X8_joined (M_X8_joined (M_X8_joined (M_X8_joined (M_X8_joined x1 (Int32.toInt64 v2)) (Int32.toInt64 v4)) (Int32.toInt64 v6)) (Int32.toInt64 v8)) (Int32.toInt64 v10)) (Int32.toInt64 v12)) (Int32.toInt64 v14)) (Int32.toInt64 v16)) (Int32.toInt64 v18)) (Int32.toInt64 v20)) (Int32.toInt64 v22)) (Int32.toInt64 v24))], h25)) 1 rfl ?_
      refine Ev.call (q := (mr_X8_joined, [.long (M_X8_joined (M_X8_joined (M_X8_joined (M_X8_joined (M_X8_joined (M_X8_joined (M_X8_joined (M_X8_joined (M_X8_joined (M_X8_joined (M_X8_joined (M_X8_joined x1 (Int32.toInt64 v2)) (Int32.toInt64 v4)) (Int32.toInt64 v6)) (Int32.toInt64 v8)) (Int32.toInt64 v10)) (Int32.toInt64 v12)) (Int32.toInt64 v14)) (Int32.toInt64 v16)) (Int32.toInt64 v18)) (Int32.toInt64 v20)) (Int32.toInt64 v22)) (Int32.toInt64 v24)), .long (Int32.toInt64 v26)], [])) rfl (E_X8_joined (M_X8_joined (M_X8_joined (M_X8_joined (M_X8_joined (M_X8_joined (M_X8_joined (M_X8_joined (M_X8_joined (M_X8_joined (M_X8_joined (M_X8_joined (M_X8_joined x1 (Int32.toInt64 v2)) (Int32.toInt64 v4)) (Int32.toInt64 v6)) (Int32.toInt64 v8)) (Int32.toInt64 v10)) (Int32.toInt64 v12)) (Int32.toInt64 v14)) (Int32.toInt64 v16)) (Int32.toInt64 v18)) (Int32.toInt64 v20)) (Int32.toInt64 v22)) (Int32.toInt64 v24)) (Int32.toInt64 v26) h25) ?_
      obtain ⟨rfl, rfl⟩ := am_sp hM
      exact Ev.ret rfl
    · have c1 := of_decide_eq_false c1
      rw [if_neg c1] at hM
      refine Ev.steps (B := (137, [(0, .ref 0), (1, .long x1), (3, .int x3)], [.int x3, .ref 0, .long x1], h)) 3 rfl ?_
      obtain ⟨v28, h27, e15, hM⟩ := am_bS hM
      refine Ev.call (q := (mr_X8_sum, [.ref 0, .int x3], [.long x1])) rfl (E_X8_sum_0 n x3 h v28 h27 e15) ?_
      refine Ev.steps (B := (141, [(0, .ref 0), (1, .long x1), (3, .int x3)], [.long (Int32.toInt64 v28), .long x1], h27)) 1 rfl ?_
      refine Ev.call (q := (mr_X8_joined, [.long x1, .long (Int32.toInt64 v28)], [])) rfl (E_X8_joined x1 (Int32.toInt64 v28) h27) ?_
      refine Ev.steps (B := (129, [(3, .int (x3 + 1)), (1, .long (M_X8_joined x1 (Int32.toInt64 v28))), (0, .ref 0)], [], h27)) 3 rfl ?_
      refine Ev.lv (lv := [(0, .ref 0), (1, .long (M_X8_joined x1 (Int32.toInt64 v28))), (3, .int (x3 + 1))]) ⟨rfl, rfl, rfl, trivial⟩ rfl rfl ?_
      exact ih (M_X8_joined x1 (Int32.toInt64 v28)) (x3 + 1) h27 hM
