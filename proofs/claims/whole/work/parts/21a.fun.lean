def M_X8_within (a1 : Int32) (a2 : Int32) : Int32 :=
  if a1 < 0 then
    0
  else
    if a2 < a1 then
      0
    else
      1
set_option maxRecDepth 10000 in
theorem E_X8_within (a1 : Int32) (a2 : Int32) (h : AH) : Ev none mr_X8_within (0, [(0, .int a1), (1, .int a2)], [], h) (some (.int (M_X8_within a1 a2))) h := by
  unfold M_X8_within
  refine Ev.steps (B := (1, [(0, .int a1), (1, .int a2)], [.int a1], h)) 1 rfl ?_
  refine Ev.br (b := decide (a1 < 0)) rfl (fun c1 => ?_) (fun c1 => ?_)
  · have c1 := of_decide_eq_true c1
    rw [if_pos c1]
    refine Ev.steps (B := (14, [(0, .int a1), (1, .int a2)], [.int 0], h)) 1 rfl ?_
    exact Ev.ret rfl
  · have c1 := of_decide_eq_false c1
    rw [if_neg c1]
    refine Ev.steps (B := (6, [(0, .int a1), (1, .int a2)], [.int a2, .int a1], h)) 2 rfl ?_
    refine Ev.br (b := decide (a2 < a1)) rfl (fun c2 => ?_) (fun c2 => ?_)
    · have c2 := of_decide_eq_true c2
      rw [if_pos c2]
      refine Ev.steps (B := (14, [(0, .int a1), (1, .int a2)], [.int 0], h)) 1 rfl ?_
      exact Ev.ret rfl
    · have c2 := of_decide_eq_false c2
      rw [if_neg c2]
      refine Ev.steps (B := (14, [(0, .int a1), (1, .int a2)], [.int 1], h)) 2 rfl ?_
      exact Ev.ret rfl
set_option maxRecDepth 10000 in
theorem Z_X8_within (a1 : Int32) (a2 : Int32) : am_b01 (M_X8_within a1 a2) = true := by
  unfold M_X8_within
  split
  · rfl
  · split
    · rfl
    · rfl
def M_X6_fits (r0 : Nat) (a1 : Int32) (a2 : Int32) (h : AH) : Int32 :=
  if a1 = 0 then
    if 8 ≤ (h.1 (r0 + 1) 3) then
      0
    else
      if a2 < 97 then
        0
      else
        if 120 < a2 then
          0
        else
          1
  else
  if a1 = 1 then
    if (kx (tx_s r0) ((Int32.toUInt32 a2 % 65536).toInt32)) < 0 then
      0
    else
      1
  else
  if a1 = 2 then
    if a2 < 49 then
      0
    else
      if (48 + (h.1 r0 3)) < a2 then
        0
      else
        1
  else
    if a2 = 59 then
      1
    else
      0
set_option maxRecDepth 10000 in
theorem E_X6_fits_1 (a1 : Int32) (a2 : Int32) (h : AH) : Ev none mr_X6_fits (0, [(0, .ref 1), (1, .int a1), (2, .int a2)], [], h) (some (.int (M_X6_fits 1 a1 a2 h))) h := by
  unfold M_X6_fits
  refine Ev.steps (B := (1, [(0, .ref 1), (1, .int a1), (2, .int a2)], [.int a1], h)) 1 rfl ?_
  refine Ev.step (B := (am_sel a1 [(0, 28), (1, 58), (2, 76)] 99, [(0, .ref 1), (1, .int a1), (2, .int a2)], [], h)) rfl ?_
  refine Ev.sw (fun c1 => ?_) (fun c1 => ?_)
  · rw [if_pos c1]
    refine Ev.steps (B := (37, [(0, .ref 1), (1, .int a1), (2, .int a2)], [.int 8, .int (h.1 (1 + 1) 3)], h)) 4 rfl ?_
    refine Ev.br (b := decide (8 ≤ (h.1 (1 + 1) 3))) rfl (fun c2 => ?_) (fun c2 => ?_)
    · have c2 := of_decide_eq_true c2
      rw [if_pos c2]
      refine Ev.steps (B := (57, [(0, .ref 1), (1, .int a1), (2, .int a2)], [.int 0], h)) 1 rfl ?_
      exact Ev.ret rfl
    · have c2 := of_decide_eq_false c2
      rw [if_neg c2]
      refine Ev.steps (B := (43, [(0, .ref 1), (1, .int a1), (2, .int a2)], [.int 97, .int a2], h)) 2 rfl ?_
      refine Ev.br (b := decide (a2 < 97)) rfl (fun c3 => ?_) (fun c3 => ?_)
      · have c3 := of_decide_eq_true c3
        rw [if_pos c3]
        refine Ev.steps (B := (57, [(0, .ref 1), (1, .int a1), (2, .int a2)], [.int 0], h)) 1 rfl ?_
        exact Ev.ret rfl
      · have c3 := of_decide_eq_false c3
        rw [if_neg c3]
        refine Ev.steps (B := (49, [(0, .ref 1), (1, .int a1), (2, .int a2)], [.int 120, .int a2], h)) 2 rfl ?_
        refine Ev.br (b := decide (120 < a2)) rfl (fun c4 => ?_) (fun c4 => ?_)
        · have c4 := of_decide_eq_true c4
          rw [if_pos c4]
          refine Ev.steps (B := (57, [(0, .ref 1), (1, .int a1), (2, .int a2)], [.int 0], h)) 1 rfl ?_
          exact Ev.ret rfl
        · have c4 := of_decide_eq_false c4
          rw [if_neg c4]
          refine Ev.steps (B := (57, [(0, .ref 1), (1, .int a1), (2, .int a2)], [.int 1], h)) 2 rfl ?_
          exact Ev.ret rfl
  · rw [if_neg c1]
    refine Ev.sw (fun c5 => ?_) (fun c5 => ?_)
    · rw [if_pos c5]
      refine Ev.steps (B := (64, [(0, .ref 1), (1, .int a1), (2, .int a2)], [.int ((Int32.toUInt32 a2 % 65536).toInt32), .ref (tx_s 1)], h)) 4 rfl ?_
      refine Ev.call (q := (mr_J10_indexOf_1, [.ref (tx_s 1), .int ((Int32.toUInt32 a2 % 65536).toInt32)], [])) rfl (E_indexOf_200 ((Int32.toUInt32 a2 % 65536).toInt32) h) ?_
      refine Ev.br (b := decide ((kx (tx_s 1) ((Int32.toUInt32 a2 % 65536).toInt32)) < 0)) rfl (fun c6 => ?_) (fun c6 => ?_)
      · have c6 := of_decide_eq_true c6
        rw [if_pos c6]
        refine Ev.steps (B := (75, [(0, .ref 1), (1, .int a1), (2, .int a2)], [.int 0], h)) 1 rfl ?_
        exact Ev.ret rfl
      · have c6 := of_decide_eq_false c6
        rw [if_neg c6]
        refine Ev.steps (B := (75, [(0, .ref 1), (1, .int a1), (2, .int a2)], [.int 1], h)) 2 rfl ?_
        exact Ev.ret rfl
    · rw [if_neg c5]
      refine Ev.sw (fun c7 => ?_) (fun c7 => ?_)
      · rw [if_pos c7]
        refine Ev.steps (B := (79, [(0, .ref 1), (1, .int a1), (2, .int a2)], [.int 49, .int a2], h)) 2 rfl ?_
        refine Ev.br (b := decide (a2 < 49)) rfl (fun c8 => ?_) (fun c8 => ?_)
        · have c8 := of_decide_eq_true c8
          rw [if_pos c8]
          refine Ev.steps (B := (98, [(0, .ref 1), (1, .int a1), (2, .int a2)], [.int 0], h)) 1 rfl ?_
          exact Ev.ret rfl
        · have c8 := of_decide_eq_false c8
          rw [if_neg c8]
          refine Ev.steps (B := (90, [(0, .ref 1), (1, .int a1), (2, .int a2)], [.int (48 + (h.1 1 3)), .int a2], h)) 5 rfl ?_
          refine Ev.br (b := decide ((48 + (h.1 1 3)) < a2)) rfl (fun c9 => ?_) (fun c9 => ?_)
          · have c9 := of_decide_eq_true c9
            rw [if_pos c9]
            refine Ev.steps (B := (98, [(0, .ref 1), (1, .int a1), (2, .int a2)], [.int 0], h)) 1 rfl ?_
            exact Ev.ret rfl
          · have c9 := of_decide_eq_false c9
            rw [if_neg c9]
            refine Ev.steps (B := (98, [(0, .ref 1), (1, .int a1), (2, .int a2)], [.int 1], h)) 2 rfl ?_
            exact Ev.ret rfl
      · rw [if_neg c7]
        refine Ev.steps (B := (102, [(0, .ref 1), (1, .int a1), (2, .int a2)], [.int 59, .int a2], h)) 2 rfl ?_
        refine Ev.br (b := decide (¬ a2 = 59)) rfl (fun c10 => ?_) (fun c10 => ?_)
        · have c10 := of_decide_eq_true c10
          rw [if_neg c10]
          refine Ev.steps (B := (110, [(0, .ref 1), (1, .int a1), (2, .int a2)], [.int 0], h)) 1 rfl ?_
          exact Ev.ret rfl
        · have c10 := Decidable.of_not_not (of_decide_eq_false c10)
          rw [if_pos c10]
          refine Ev.steps (B := (110, [(0, .ref 1), (1, .int a1), (2, .int a2)], [.int 1], h)) 2 rfl ?_
          exact Ev.ret rfl
set_option maxRecDepth 10000 in
theorem Z_X6_fits (r0 : Nat) (a1 : Int32) (a2 : Int32) (h : AH) : am_b01 (M_X6_fits r0 a1 a2 h) = true := by
  unfold M_X6_fits
  split
  · split
    · rfl
    · split
      · rfl
      · split
        · rfl
        · rfl
  · split
    · split
      · rfl
      · rfl
    · split
      · split
        · rfl
        · split
          · rfl
          · rfl
      · split
        · rfl
        · rfl
def M_X1_add (r0 : Nat) (a1 : Int32) (a2 : Int32) (a3 : Int32) (h : AH) : Option AH :=
  if (h.1 r0 3) < 0 then
    some h
  else
    if (h.1 r0 3) < 8 then
      bif (am_in (h.1 r0 3) 8) then
        bif (am_in (h.1 r0 3) 8) then
          bif (am_in (h.1 r0 3) 8) then
            some (am_sf (am_sa (am_sa (am_sa h (r0 + 1) (upd (h.2.1 (r0 + 1)) (Int32.toNatClampNeg (h.1 r0 3)) a1)) (r0 + 2) (upd (h.2.1 (r0 + 2)) (Int32.toNatClampNeg (h.1 r0 3)) a2)) (r0 + 3) (upd (h.2.1 (r0 + 3)) (Int32.toNatClampNeg (h.1 r0 3)) a3)) r0 3 ((h.1 r0 3) + 1))
          else none
        else none
      else none
    else
      some h
set_option maxRecDepth 10000 in
theorem E_X1_add_2 (a1 : Int32) (a2 : Int32) (a3 : Int32) (h : AH) (hR : AH) (hM : M_X1_add 2 a1 a2 a3 h = some hR) : Ev none mr_X1_add (0, [(0, .ref 2), (1, .int a1), (2, .int a2), (3, .int a3)], [], h) none hR := by
  unfold M_X1_add at hM
  refine Ev.steps (B := (4, [(0, .ref 2), (1, .int a1), (2, .int a2), (3, .int a3)], [.int (h.1 2 3)], h)) 2 rfl ?_
  refine Ev.br (b := decide ((h.1 2 3) < 0)) rfl (fun c1 => ?_) (fun c1 => ?_)
  · have c1 := of_decide_eq_true c1
    rw [if_pos c1] at hM
    obtain rfl := am_s1 hM
    exact Ev.ret rfl
  · have c1 := of_decide_eq_false c1
    rw [if_neg c1] at hM
    refine Ev.steps (B := (13, [(0, .ref 2), (1, .int a1), (2, .int a2), (3, .int a3)], [.int 8, .int (h.1 2 3)], h)) 3 rfl ?_
    refine Ev.br (b := decide ((h.1 2 3) < 8)) rfl (fun c2 => ?_) (fun c2 => ?_)
    · have c2 := of_decide_eq_true c2
      rw [if_pos c2] at hM
      refine Ev.steps (B := (26, [(0, .ref 2), (1, .int a1), (2, .int a2), (3, .int a3)], [.int a1, .int (h.1 2 3), .ref (2 + 1)], h)) 5 rfl ?_
      obtain ⟨g3, hM⟩ := am_gS hM
      refine Ev.g (B := (27, [(0, .ref 2), (1, .int a1), (2, .int a2), (3, .int a3)], [], (am_sa h (2 + 1) (upd (h.2.1 (2 + 1)) (Int32.toNatClampNeg (h.1 2 3)) a1)))) g3 rfl ?_
      refine Ev.steps (B := (36, [(0, .ref 2), (1, .int a1), (2, .int a2), (3, .int a3)], [.int a2, .int (h.1 2 3), .ref (2 + 2)], (am_sa h (2 + 1) (upd (h.2.1 (2 + 1)) (Int32.toNatClampNeg (h.1 2 3)) a1)))) 5 rfl ?_
      obtain ⟨g4, hM⟩ := am_gS hM
      refine Ev.g (B := (37, [(0, .ref 2), (1, .int a1), (2, .int a2), (3, .int a3)], [], (am_sa (am_sa h (2 + 1) (upd (h.2.1 (2 + 1)) (Int32.toNatClampNeg (h.1 2 3)) a1)) (2 + 2) (upd (h.2.1 (2 + 2)) (Int32.toNatClampNeg (h.1 2 3)) a2)))) g4 rfl ?_
      refine Ev.steps (B := (46, [(0, .ref 2), (1, .int a1), (2, .int a2), (3, .int a3)], [.int a3, .int (h.1 2 3), .ref (2 + 3)], (am_sa (am_sa h (2 + 1) (upd (h.2.1 (2 + 1)) (Int32.toNatClampNeg (h.1 2 3)) a1)) (2 + 2) (upd (h.2.1 (2 + 2)) (Int32.toNatClampNeg (h.1 2 3)) a2)))) 5 rfl ?_
      obtain ⟨g5, hM⟩ := am_gS hM
      refine Ev.g (B := (47, [(0, .ref 2), (1, .int a1), (2, .int a2), (3, .int a3)], [], (am_sa (am_sa (am_sa h (2 + 1) (upd (h.2.1 (2 + 1)) (Int32.toNatClampNeg (h.1 2 3)) a1)) (2 + 2) (upd (h.2.1 (2 + 2)) (Int32.toNatClampNeg (h.1 2 3)) a2)) (2 + 3) (upd (h.2.1 (2 + 3)) (Int32.toNatClampNeg (h.1 2 3)) a3)))) g5 rfl ?_
      refine Ev.steps (B := (57, [(0, .ref 2), (1, .int a1), (2, .int a2), (3, .int a3)], [], (am_sf (am_sa (am_sa (am_sa h (2 + 1) (upd (h.2.1 (2 + 1)) (Int32.toNatClampNeg (h.1 2 3)) a1)) (2 + 2) (upd (h.2.1 (2 + 2)) (Int32.toNatClampNeg (h.1 2 3)) a2)) (2 + 3) (upd (h.2.1 (2 + 3)) (Int32.toNatClampNeg (h.1 2 3)) a3)) 2 3 ((h.1 2 3) + 1)))) 6 rfl ?_
      obtain rfl := am_s1 hM
      exact Ev.ret rfl
    · have c2 := of_decide_eq_false c2
      rw [if_neg c2] at hM
      obtain rfl := am_s1 hM
      exact Ev.ret rfl
def B_X6_firstFault_95 (n : Nat) (r0 : Nat) (h : AH) : Option (Int32 × AH) :=
  if ((h.1 r0 4) - (h.1 r0 4) / 4 * 4) = 3 then
    some ((-1), h)
  else
    some ((h.1 r0 4), h)
set_option maxRecDepth 10000 in
theorem E_B_X6_firstFault_95_1 (n : Nat) (vR : Int32) (hR : AH) (h : AH) (hM : B_X6_firstFault_95 n 1 h = some (vR, hR)) : Ev none mr_X6_firstFault (95, [(0, .ref 1)], [], h) (some (.int vR)) hR := by
  unfold B_X6_firstFault_95 at hM
  refine Ev.steps (B := (102, [(0, .ref 1)], [.int 3, .int ((h.1 1 4) - (h.1 1 4) / 4 * 4)], h)) 5 rfl ?_
  refine Ev.br (b := decide (¬ ((h.1 1 4) - (h.1 1 4) / 4 * 4) = 3)) rfl (fun c1 => ?_) (fun c1 => ?_)
  · have c1 := of_decide_eq_true c1
    rw [if_neg c1] at hM
    refine Ev.steps (B := (113, [(0, .ref 1)], [.int (h.1 1 4)], h)) 2 rfl ?_
    obtain ⟨rfl, rfl⟩ := am_sp hM
    exact Ev.ret rfl
  · have c1 := Decidable.of_not_not (of_decide_eq_false c1)
    rw [if_pos c1] at hM
    refine Ev.steps (B := (113, [(0, .ref 1)], [.int (-1)], h)) 2 rfl ?_
    obtain ⟨rfl, rfl⟩ := am_sp hM
    exact Ev.ret rfl
def L_X6_firstFault_2 (n : Nat) (r0 : Nat) : Nat → Int32 → AH → Option (Int32 × AH)
  | 0, _, _ => none
  | m + 1, x1, h =>
    if (h.1 r0 4) ≤ x1 then
      B_X6_firstFault_95 n r0 h
    else
      if 31 ≤ x1 then
        B_X6_firstFault_95 n r0 h
      else
        bif (am_in x1 31) then
          if (M_X6_fits r0 (x1 - x1 / 4 * 4) ((h.2.1 (r0 + 5)) (Int32.toNatClampNeg x1)) h) = 0 then
            some (x1, h)
          else
            if (x1 - x1 / 4 * 4) = 2 then
              if x1 < 2 then
                L_X6_firstFault_2 n r0 m (x1 + 1) h
              else
                bif (am_in (x1 - 2) 31) then
                  bif (am_in (x1 - 1) 31) then
                    bif (am_in x1 31) then
                      am_v (M_X1_add (r0 + 1) (((h.2.1 (r0 + 5)) (Int32.toNatClampNeg (x1 - 2))) - 97) (kx (tx_s r0) ((Int32.toUInt32 ((h.2.1 (r0 + 5)) (Int32.toNatClampNeg (x1 - 1))) % 65536).toInt32)) (((h.2.1 (r0 + 5)) (Int32.toNatClampNeg x1)) - 48) h) fun h1 =>
                      L_X6_firstFault_2 n r0 m (x1 + 1) h1
                    else none
                  else none
                else none
            else
              L_X6_firstFault_2 n r0 m (x1 + 1) h
        else none
set_option maxRecDepth 10000 in
theorem E_L_X6_firstFault_2_1 (n : Nat) (vR : Int32) (hR : AH) : ∀ (m : Nat) (x1 : Int32) (h : AH), L_X6_firstFault_2 n 1 m x1 h = some (vR, hR) → Ev none mr_X6_firstFault (2, [(0, .ref 1), (1, .int x1)], [], h) (some (.int vR)) hR := by
  intro m
  induction m with
  | zero =>
    intro x1 h hM
    exact (am_no hM).elim
  | succ m ih =>
    intro x1 h hM
    rw [L_X6_firstFault_2] at hM
    refine Ev.steps (B := (7, [(0, .ref 1), (1, .int x1)], [.int (h.1 1 4), .int x1], h)) 3 rfl ?_
    refine Ev.br (b := decide ((h.1 1 4) ≤ x1)) rfl (fun c1 => ?_) (fun c1 => ?_)
    · have c1 := of_decide_eq_true c1
      rw [if_pos c1] at hM
      refine Ev.lv (lv := [(0, .ref 1)]) ⟨rfl, trivial⟩ rfl rfl ?_
      exact E_B_X6_firstFault_95_1 n vR hR h hM
    · have c1 := of_decide_eq_false c1
      rw [if_neg c1] at hM
      refine Ev.steps (B := (13, [(0, .ref 1), (1, .int x1)], [.int 31, .int x1], h)) 2 rfl ?_
      refine Ev.br (b := decide (31 ≤ x1)) rfl (fun c2 => ?_) (fun c2 => ?_)
      · have c2 := of_decide_eq_true c2
        rw [if_pos c2] at hM
        refine Ev.lv (lv := [(0, .ref 1)]) ⟨rfl, trivial⟩ rfl rfl ?_
        exact E_B_X6_firstFault_95_1 n vR hR h hM
      · have c2 := of_decide_eq_false c2
        rw [if_neg c2] at hM
        refine Ev.steps (B := (25, [(0, .ref 1), (1, .int x1)], [.int x1, .ref (1 + 5), .int (x1 - x1 / 4 * 4), .ref 1], h)) 7 rfl ?_
        obtain ⟨g3, hM⟩ := am_gS hM
        refine Ev.g (B := (26, [(0, .ref 1), (1, .int x1)], [.int ((h.2.1 (1 + 5)) (Int32.toNatClampNeg x1)), .int (x1 - x1 / 4 * 4), .ref 1], h)) g3 rfl ?_
        refine Ev.call (q := (mr_X6_fits, [.ref 1, .int (x1 - x1 / 4 * 4), .int ((h.2.1 (1 + 5)) (Int32.toNatClampNeg x1))], [])) rfl (E_X6_fits_1 (x1 - x1 / 4 * 4) ((h.2.1 (1 + 5)) (Int32.toNatClampNeg x1)) h) ?_
        refine Ev.br (b := decide (¬ (M_X6_fits 1 (x1 - x1 / 4 * 4) ((h.2.1 (1 + 5)) (Int32.toNatClampNeg x1)) h) = 0)) rfl (fun c4 => ?_) (fun c4 => ?_)
        · have c4 := of_decide_eq_true c4
          rw [if_neg c4] at hM
          refine Ev.steps (B := (38, [(0, .ref 1), (1, .int x1)], [.int 2, .int (x1 - x1 / 4 * 4)], h)) 4 rfl ?_
          refine Ev.br (b := decide (¬ (x1 - x1 / 4 * 4) = 2)) rfl (fun c5 => ?_) (fun c5 => ?_)
          · have c5 := of_decide_eq_true c5
            rw [if_neg c5] at hM
            refine Ev.steps (B := (2, [(1, .int (x1 + 1)), (0, .ref 1)], [], h)) 2 rfl ?_
            refine Ev.lv (lv := [(0, .ref 1), (1, .int (x1 + 1))]) ⟨rfl, rfl, trivial⟩ rfl rfl ?_
            exact ih (x1 + 1) h hM
          · have c5 := Decidable.of_not_not (of_decide_eq_false c5)
            rw [if_pos c5] at hM
            refine Ev.steps (B := (43, [(0, .ref 1), (1, .int x1)], [.int 2, .int x1], h)) 2 rfl ?_
            refine Ev.br (b := decide (x1 < 2)) rfl (fun c6 => ?_) (fun c6 => ?_)
            · have c6 := of_decide_eq_true c6
              rw [if_pos c6] at hM
              refine Ev.steps (B := (2, [(1, .int (x1 + 1)), (0, .ref 1)], [], h)) 2 rfl ?_
              refine Ev.lv (lv := [(0, .ref 1), (1, .int (x1 + 1))]) ⟨rfl, rfl, trivial⟩ rfl rfl ?_
              exact ih (x1 + 1) h hM
            · have c6 := of_decide_eq_false c6
              rw [if_neg c6] at hM
              refine Ev.steps (B := (57, [(0, .ref 1), (1, .int x1)], [.int (x1 - 2), .ref (1 + 5), .ref (1 + 1)], h)) 7 rfl ?_
              obtain ⟨g7, hM⟩ := am_gS hM
              refine Ev.g (B := (58, [(0, .ref 1), (1, .int x1)], [.int ((h.2.1 (1 + 5)) (Int32.toNatClampNeg (x1 - 2))), .ref (1 + 1)], h)) g7 rfl ?_
              refine Ev.steps (B := (72, [(0, .ref 1), (1, .int x1)], [.int (x1 - 1), .ref (1 + 5), .ref (tx_s 1), .int (((h.2.1 (1 + 5)) (Int32.toNatClampNeg (x1 - 2))) - 97), .ref (1 + 1)], h)) 9 rfl ?_
              obtain ⟨g8, hM⟩ := am_gS hM
              refine Ev.g (B := (73, [(0, .ref 1), (1, .int x1)], [.int ((h.2.1 (1 + 5)) (Int32.toNatClampNeg (x1 - 1))), .ref (tx_s 1), .int (((h.2.1 (1 + 5)) (Int32.toNatClampNeg (x1 - 2))) - 97), .ref (1 + 1)], h)) g8 rfl ?_
              refine Ev.steps (B := (74, [(0, .ref 1), (1, .int x1)], [.int ((Int32.toUInt32 ((h.2.1 (1 + 5)) (Int32.toNatClampNeg (x1 - 1))) % 65536).toInt32), .ref (tx_s 1), .int (((h.2.1 (1 + 5)) (Int32.toNatClampNeg (x1 - 2))) - 97), .ref (1 + 1)], h)) 1 rfl ?_
              refine Ev.call (q := (mr_J10_indexOf_1, [.ref (tx_s 1), .int ((Int32.toUInt32 ((h.2.1 (1 + 5)) (Int32.toNatClampNeg (x1 - 1))) % 65536).toInt32)], [.int (((h.2.1 (1 + 5)) (Int32.toNatClampNeg (x1 - 2))) - 97), .ref (1 + 1)])) rfl (E_indexOf_200 ((Int32.toUInt32 ((h.2.1 (1 + 5)) (Int32.toNatClampNeg (x1 - 1))) % 65536).toInt32) h) ?_
              refine Ev.steps (B := (82, [(0, .ref 1), (1, .int x1)], [.int x1, .ref (1 + 5), .int (kx (tx_s 1) ((Int32.toUInt32 ((h.2.1 (1 + 5)) (Int32.toNatClampNeg (x1 - 1))) % 65536).toInt32)), .int (((h.2.1 (1 + 5)) (Int32.toNatClampNeg (x1 - 2))) - 97), .ref (1 + 1)], h)) 3 rfl ?_
              obtain ⟨g9, hM⟩ := am_gS hM
              refine Ev.g (B := (83, [(0, .ref 1), (1, .int x1)], [.int ((h.2.1 (1 + 5)) (Int32.toNatClampNeg x1)), .int (kx (tx_s 1) ((Int32.toUInt32 ((h.2.1 (1 + 5)) (Int32.toNatClampNeg (x1 - 1))) % 65536).toInt32)), .int (((h.2.1 (1 + 5)) (Int32.toNatClampNeg (x1 - 2))) - 97), .ref (1 + 1)], h)) g9 rfl ?_
              refine Ev.steps (B := (86, [(0, .ref 1), (1, .int x1)], [.int (((h.2.1 (1 + 5)) (Int32.toNatClampNeg x1)) - 48), .int (kx (tx_s 1) ((Int32.toUInt32 ((h.2.1 (1 + 5)) (Int32.toNatClampNeg (x1 - 1))) % 65536).toInt32)), .int (((h.2.1 (1 + 5)) (Int32.toNatClampNeg (x1 - 2))) - 97), .ref (1 + 1)], h)) 2 rfl ?_
              obtain ⟨h1, e10, hM⟩ := am_vS hM
              refine Ev.call (q := (mr_X1_add, [.ref (1 + 1), .int (((h.2.1 (1 + 5)) (Int32.toNatClampNeg (x1 - 2))) - 97), .int (kx (tx_s 1) ((Int32.toUInt32 ((h.2.1 (1 + 5)) (Int32.toNatClampNeg (x1 - 1))) % 65536).toInt32)), .int (((h.2.1 (1 + 5)) (Int32.toNatClampNeg x1)) - 48)], [])) rfl (E_X1_add_2 (((h.2.1 (1 + 5)) (Int32.toNatClampNeg (x1 - 2))) - 97) (kx (tx_s 1) ((Int32.toUInt32 ((h.2.1 (1 + 5)) (Int32.toNatClampNeg (x1 - 1))) % 65536).toInt32)) (((h.2.1 (1 + 5)) (Int32.toNatClampNeg x1)) - 48) h h1 e10) ?_
              refine Ev.steps (B := (2, [(1, .int (x1 + 1)), (0, .ref 1)], [], h1)) 2 rfl ?_
              refine Ev.lv (lv := [(0, .ref 1), (1, .int (x1 + 1))]) ⟨rfl, rfl, trivial⟩ rfl rfl ?_
              exact ih (x1 + 1) h1 hM
        · have c4 := Decidable.of_not_not (of_decide_eq_false c4)
          rw [if_pos c4] at hM
          refine Ev.steps (B := (33, [(0, .ref 1), (1, .int x1)], [.int x1], h)) 1 rfl ?_
          obtain ⟨rfl, rfl⟩ := am_sp hM
          exact Ev.ret rfl
def M_X6_firstFault (n : Nat) (r0 : Nat) (h : AH) : Option (Int32 × AH) :=
  L_X6_firstFault_2 n r0 n 0 h
set_option maxRecDepth 10000 in
theorem E_X6_firstFault_1 (n : Nat) (h : AH) (vR : Int32) (hR : AH) (hM : M_X6_firstFault n 1 h = some (vR, hR)) : Ev none mr_X6_firstFault (0, [(0, .ref 1)], [], h) (some (.int vR)) hR := by
  unfold M_X6_firstFault at hM
  refine Ev.steps (B := (2, [(1, .int 0), (0, .ref 1)], [], h)) 2 rfl ?_
  refine Ev.lv (lv := [(0, .ref 1), (1, .int 0)]) ⟨rfl, rfl, trivial⟩ rfl rfl ?_
  exact E_L_X6_firstFault_2_1 n vR hR n 0 h hM
def B_X6_scan_24 (n : Nat) (r0 : Nat) (y0 : Int32) (h : AH) : Option AH :=
  if y0 = (-1) then
    some (am_sf h r0 5 y0)
  else
    some (am_sf (am_sf h r0 5 y0) (r0 + 1) 3 0)
set_option maxRecDepth 10000 in
theorem E_B_X6_scan_24_1 (n : Nat) (hR : AH) (y0 : Int32) (h : AH) (hM : B_X6_scan_24 n 1 y0 h = some hR) : Ev none mr_X6_scan (24, [(0, .ref 1)], [.int y0, .ref 1], h) none hR := by
  unfold B_X6_scan_24 at hM
  refine Ev.steps (B := (32, [(0, .ref 1)], [.int (-1), .int y0], (am_sf h 1 5 y0))) 4 rfl ?_
  refine Ev.br (b := decide (y0 = (-1))) rfl (fun c1 => ?_) (fun c1 => ?_)
  · have c1 := of_decide_eq_true c1
    rw [if_pos c1] at hM
    obtain rfl := am_s1 hM
    exact Ev.ret rfl
  · have c1 := of_decide_eq_false c1
    rw [if_neg c1] at hM
    refine Ev.steps (B := (43, [(0, .ref 1)], [], (am_sf (am_sf h 1 5 y0) (1 + 1) 3 0))) 4 rfl ?_
    obtain rfl := am_s1 hM
    exact Ev.ret rfl
def M_X6_scan (n : Nat) (r0 : Nat) (h : AH) : Option AH :=
  if (h.1 r0 4) = 0 then
    B_X6_scan_24 n r0 (-1) (am_sf h (r0 + 1) 3 0)
  else
    am_b (M_X6_firstFault n r0 (am_sf h (r0 + 1) 3 0)) fun v2 h1 =>
    B_X6_scan_24 n r0 v2 h1
set_option maxRecDepth 10000 in
theorem E_X6_scan_1 (n : Nat) (h : AH) (hR : AH) (hM : M_X6_scan n 1 h = some hR) : Ev none mr_X6_scan (0, [(0, .ref 1)], [], h) none hR := by
  unfold M_X6_scan at hM
  refine Ev.steps (B := (13, [(0, .ref 1)], [.int (h.1 1 4), .ref 1], (am_sf h (1 + 1) 3 0))) 7 rfl ?_
  refine Ev.br (b := decide (¬ (h.1 1 4) = 0)) rfl (fun c1 => ?_) (fun c1 => ?_)
  · have c1 := of_decide_eq_true c1
    rw [if_neg c1] at hM
    refine Ev.steps (B := (21, [(0, .ref 1)], [.ref 1, .ref 1], (am_sf h (1 + 1) 3 0))) 1 rfl ?_
    obtain ⟨v2, h1, e2, hM⟩ := am_bS hM
    refine Ev.call (q := (mr_X6_firstFault, [.ref 1], [.ref 1])) rfl (E_X6_firstFault_1 n (am_sf h (1 + 1) 3 0) v2 h1 e2) ?_
    exact E_B_X6_scan_24_1 n hR v2 h1 hM
  · have c1 := Decidable.of_not_not (of_decide_eq_false c1)
    rw [if_pos c1] at hM
    refine Ev.steps (B := (24, [(0, .ref 1)], [.int (-1), .ref 1], (am_sf h (1 + 1) 3 0))) 2 rfl ?_
    exact E_B_X6_scan_24_1 n hR (-1) (am_sf h (1 + 1) 3 0) hM
def M_X6_append (n : Nat) (r0 : Nat) (a1 : Int32) (h : AH) : Option AH :=
  if (h.1 r0 4) < 0 then
    some h
  else
    if (h.1 r0 4) < 31 then
      bif (am_in (h.1 r0 4) 31) then
        am_v (M_X6_scan n r0 (am_sf (am_sa h (r0 + 5) (upd (h.2.1 (r0 + 5)) (Int32.toNatClampNeg (h.1 r0 4)) a1)) r0 4 ((h.1 r0 4) + 1))) fun h1 =>
        some h1
      else none
    else
      some h
set_option maxRecDepth 10000 in
theorem E_X6_append_1 (n : Nat) (a1 : Int32) (h : AH) (hR : AH) (hM : M_X6_append n 1 a1 h = some hR) : Ev none mr_X6_append (0, [(0, .ref 1), (1, .int a1)], [], h) none hR := by
  unfold M_X6_append at hM
  refine Ev.steps (B := (4, [(0, .ref 1), (1, .int a1)], [.int (h.1 1 4)], h)) 2 rfl ?_
  refine Ev.br (b := decide ((h.1 1 4) < 0)) rfl (fun c1 => ?_) (fun c1 => ?_)
  · have c1 := of_decide_eq_true c1
    rw [if_pos c1] at hM
    obtain rfl := am_s1 hM
    exact Ev.ret rfl
  · have c1 := of_decide_eq_false c1
    rw [if_neg c1] at hM
    refine Ev.steps (B := (13, [(0, .ref 1), (1, .int a1)], [.int 31, .int (h.1 1 4)], h)) 3 rfl ?_
    refine Ev.br (b := decide ((h.1 1 4) < 31)) rfl (fun c2 => ?_) (fun c2 => ?_)
    · have c2 := of_decide_eq_true c2
      rw [if_pos c2] at hM
      refine Ev.steps (B := (26, [(0, .ref 1), (1, .int a1)], [.int a1, .int (h.1 1 4), .ref (1 + 5)], h)) 5 rfl ?_
      obtain ⟨g3, hM⟩ := am_gS hM
      refine Ev.g (B := (27, [(0, .ref 1), (1, .int a1)], [], (am_sa h (1 + 5) (upd (h.2.1 (1 + 5)) (Int32.toNatClampNeg (h.1 1 4)) a1)))) g3 rfl ?_
      refine Ev.steps (B := (38, [(0, .ref 1), (1, .int a1)], [.ref 1], (am_sf (am_sa h (1 + 5) (upd (h.2.1 (1 + 5)) (Int32.toNatClampNeg (h.1 1 4)) a1)) 1 4 ((h.1 1 4) + 1)))) 7 rfl ?_
      obtain ⟨h1, e4, hM⟩ := am_vS hM
      refine Ev.call (q := (mr_X6_scan, [.ref 1], [])) rfl (E_X6_scan_1 n (am_sf (am_sa h (1 + 5) (upd (h.2.1 (1 + 5)) (Int32.toNatClampNeg (h.1 1 4)) a1)) 1 4 ((h.1 1 4) + 1)) h1 e4) ?_
      obtain rfl := am_s1 hM
      exact Ev.ret rfl
    · have c2 := of_decide_eq_false c2
      rw [if_neg c2] at hM
      obtain rfl := am_s1 hM
      exact Ev.ret rfl
def L_J14_fill_J_6 (n : Nat) (r1 : Nat) : Nat → Int64 → Int32 → Int32 → AH → Option AH
  | 0, _, _, _, _ => none
  | m + 1, x1, x3, x4, h =>
    if x4 ≤ x3 then
      some h
    else
      bif (am_in x3 (am_lna r1)) then
        L_J14_fill_J_6 n r1 m x1 (x3 + 1) x4 (am_sl h r1 (vp_updL (h.2.2 r1) (Int32.toNatClampNeg x3) x1))
      else none
set_option maxRecDepth 10000 in
theorem E_L_J14_fill_J_6_38 (n : Nat) (hR : AH) : ∀ (m : Nat) (x1 : Int64) (x3 : Int32) (x4 : Int32) (h : AH), L_J14_fill_J_6 n 38 m x1 x3 x4 h = some hR → Ev none mr_J14_fill_J (6, [(0, .ref 38), (1, .long x1), (3, .int x3), (4, .int x4)], [], h) none hR := by
  intro m
  induction m with
  | zero =>
    intro x1 x3 x4 h hM
    exact (am_no hM).elim
  | succ m ih =>
    intro x1 x3 x4 h hM
    rw [L_J14_fill_J_6] at hM
    refine Ev.steps (B := (9, [(0, .ref 38), (1, .long x1), (3, .int x3), (4, .int x4)], [.int x4, .int x3], h)) 2 rfl ?_
    refine Ev.br (b := decide (x4 ≤ x3)) rfl (fun c1 => ?_) (fun c1 => ?_)
    · have c1 := of_decide_eq_true c1
      rw [if_pos c1] at hM
      obtain rfl := am_s1 hM
      exact Ev.ret rfl
    · have c1 := of_decide_eq_false c1
      rw [if_neg c1] at hM
      refine Ev.steps (B := (15, [(0, .ref 38), (1, .long x1), (3, .int x3), (4, .int x4)], [.long x1, .int x3, .ref 38], h)) 3 rfl ?_
      obtain ⟨g2, hM⟩ := am_gS hM
      refine Ev.g (B := (16, [(0, .ref 38), (1, .long x1), (3, .int x3), (4, .int x4)], [], (am_sl h 38 (vp_updL (h.2.2 38) (Int32.toNatClampNeg x3) x1)))) g2 rfl ?_
      refine Ev.steps (B := (6, [(3, .int (x3 + 1)), (0, .ref 38), (1, .long x1), (4, .int x4)], [], (am_sl h 38 (vp_updL (h.2.2 38) (Int32.toNatClampNeg x3) x1)))) 2 rfl ?_
      refine Ev.lv (lv := [(0, .ref 38), (1, .long x1), (3, .int (x3 + 1)), (4, .int x4)]) ⟨rfl, rfl, rfl, rfl, trivial⟩ rfl rfl ?_
      exact ih x1 (x3 + 1) x4 (am_sl h 38 (vp_updL (h.2.2 38) (Int32.toNatClampNeg x3) x1)) hM
def M_J14_fill_J (n : Nat) (r1 : Nat) (a2 : Int64) (h : AH) : Option AH :=
  L_J14_fill_J_6 n r1 n a2 0 (Int32.ofNat (am_lna r1)) h
set_option maxRecDepth 10000 in
theorem E_J14_fill_J_38 (n : Nat) (a2 : Int64) (h : AH) (hR : AH) (hM : M_J14_fill_J n 38 a2 h = some hR) : Ev none mr_J14_fill_J (0, [(0, .ref 38), (1, .long a2)], [], h) none hR := by
  unfold M_J14_fill_J at hM
  refine Ev.steps (B := (6, [(4, .int (Int32.ofNat (am_lna 38))), (3, .int 0), (0, .ref 38), (1, .long a2)], [], h)) 5 rfl ?_
  refine Ev.lv (lv := [(0, .ref 38), (1, .long a2), (3, .int 0), (4, .int (Int32.ofNat (am_lna 38)))]) ⟨rfl, rfl, rfl, rfl, trivial⟩ rfl rfl ?_
  exact E_L_J14_fill_J_6_38 n hR n a2 0 (Int32.ofNat (am_lna 38)) h hM
def M_X7_drop (n : Nat) (h : AH) : Option AH :=
  if (h.1 37 4) = 0 then
    am_v (M_J14_fill_J n 38 0 h) fun h1 =>
    some (am_sf h1 37 4 1)
  else
    some h
set_option maxRecDepth 10000 in
theorem E_X7_drop_37 (n : Nat) (h : AH) (hR : AH) (hM : M_X7_drop n h = some hR) : Ev none mr_X7_drop (0, [(0, .ref 37)], [], h) none hR := by
  unfold M_X7_drop at hM
  refine Ev.steps (B := (4, [(0, .ref 37)], [.int (h.1 37 4)], h)) 2 rfl ?_
  refine Ev.br (b := decide (¬ (h.1 37 4) = 0)) rfl (fun c1 => ?_) (fun c1 => ?_)
  · have c1 := of_decide_eq_true c1
    rw [if_neg c1] at hM
    obtain rfl := am_s1 hM
    exact Ev.ret rfl
  · have c1 := Decidable.of_not_not (of_decide_eq_false c1)
    rw [if_pos c1] at hM
    refine Ev.steps (B := (12, [(0, .ref 37)], [.long 0, .ref 38], h)) 3 rfl ?_
    obtain ⟨h1, e2, hM⟩ := am_vS hM
    refine Ev.call (q := (mr_J14_fill_J, [.ref 38, .long 0], [])) rfl (E_J14_fill_J_38 n 0 h h1 e2) ?_
    refine Ev.steps (B := (20, [(0, .ref 37)], [], (am_sf h1 37 4 1))) 3 rfl ?_
    obtain rfl := am_s1 hM
    exact Ev.ret rfl
def M_X8_changed (n : Nat) (h : AH) : Option AH :=
  am_v (M_X7_drop n (am_sf h 0 11 0)) fun h1 =>
  some h1
set_option maxRecDepth 10000 in
theorem E_X8_changed_0 (n : Nat) (h : AH) (hR : AH) (hM : M_X8_changed n h = some hR) : Ev none mr_X8_changed (0, [(0, .ref 0)], [], h) none hR := by
  unfold M_X8_changed at hM
  refine Ev.steps (B := (9, [(0, .ref 0)], [.ref 37], (am_sf h 0 11 0))) 5 rfl ?_
  obtain ⟨h1, e1, hM⟩ := am_vS hM
  refine Ev.call (q := (mr_X7_drop, [.ref 37], [])) rfl (E_X7_drop_37 n (am_sf h 0 11 0) h1 e1) ?_
  obtain rfl := am_s1 hM
  exact Ev.ret rfl
def B_X8_type_6 (n : Nat) (x2 : Int32) (q3 : Nat) (h : AH) : Option (Int32 × AH) :=
  if (M_X8_within x2 255) = 0 then
    some ((-2), h)
  else
    if (h.1 q3 4) < 31 then
      am_v (M_X6_append n q3 x2 h) fun h1 =>
      am_v (M_X8_changed n h1) fun h2 =>
      some ((h2.1 q3 4), h2)
    else
      some ((-4), h)
set_option maxRecDepth 10000 in
theorem E_B_X8_type_6_1 (n : Nat) (vR : Int32) (hR : AH) (x2 : Int32) (h : AH) (hM : B_X8_type_6 n x2 1 h = some (vR, hR)) : Ev none mr_X8_type (6, [(0, .ref 0), (2, .int x2), (3, .ref 1)], [], h) (some (.int vR)) hR := by
  unfold B_X8_type_6 at hM
  refine Ev.steps (B := (14, [(0, .ref 0), (2, .int x2), (3, .ref 1)], [.int 255, .int x2], h)) 4 rfl ?_
  refine Ev.call (q := (mr_X8_within, [.int x2, .int 255], [])) rfl (E_X8_within x2 255 h) ?_
  refine Ev.br (b := decide (¬ (M_X8_within x2 255) = 0)) rfl (fun c1 => ?_) (fun c1 => ?_)
  · have c1 := of_decide_eq_true c1
    rw [if_neg c1] at hM
    refine Ev.steps (B := (29, [(0, .ref 0), (2, .int x2), (3, .ref 1)], [.int 31, .int (h.1 1 4)], h)) 3 rfl ?_
    refine Ev.br (b := decide ((h.1 1 4) < 31)) rfl (fun c2 => ?_) (fun c2 => ?_)
    · have c2 := of_decide_eq_true c2
      rw [if_pos c2] at hM
      refine Ev.steps (B := (37, [(0, .ref 0), (2, .int x2), (3, .ref 1)], [.int x2, .ref 1], h)) 2 rfl ?_
      obtain ⟨h1, e3, hM⟩ := am_vS hM
      refine Ev.call (q := (mr_X6_append, [.ref 1, .int x2], [])) rfl (E_X6_append_1 n x2 h h1 e3) ?_
      refine Ev.steps (B := (41, [(0, .ref 0), (2, .int x2), (3, .ref 1)], [.ref 0], h1)) 1 rfl ?_
      obtain ⟨h2, e4, hM⟩ := am_vS hM
      refine Ev.call (q := (mr_X8_changed, [.ref 0], [])) rfl (E_X8_changed_0 n h1 h2 e4) ?_
      refine Ev.steps (B := (48, [(0, .ref 0), (2, .int x2), (3, .ref 1)], [.int (h2.1 1 4)], h2)) 2 rfl ?_
      obtain ⟨rfl, rfl⟩ := am_sp hM
      exact Ev.ret rfl
    · have c2 := of_decide_eq_false c2
      rw [if_neg c2] at hM
      refine Ev.steps (B := (34, [(0, .ref 0), (2, .int x2), (3, .ref 1)], [.int (-4)], h)) 1 rfl ?_
      obtain ⟨rfl, rfl⟩ := am_sp hM
      exact Ev.ret rfl
  · have c1 := Decidable.of_not_not (of_decide_eq_false c1)
    rw [if_pos c1] at hM
    refine Ev.steps (B := (22, [(0, .ref 0), (2, .int x2), (3, .ref 1)], [.int (-2)], h)) 1 rfl ?_
    obtain ⟨rfl, rfl⟩ := am_sp hM
    exact Ev.ret rfl
set_option maxRecDepth 10000 in
theorem E_X6_fits_7 (a1 : Int32) (a2 : Int32) (h : AH) : Ev none mr_X6_fits (0, [(0, .ref 7), (1, .int a1), (2, .int a2)], [], h) (some (.int (M_X6_fits 7 a1 a2 h))) h := by
  unfold M_X6_fits
  refine Ev.steps (B := (1, [(0, .ref 7), (1, .int a1), (2, .int a2)], [.int a1], h)) 1 rfl ?_
  refine Ev.step (B := (am_sel a1 [(0, 28), (1, 58), (2, 76)] 99, [(0, .ref 7), (1, .int a1), (2, .int a2)], [], h)) rfl ?_
  refine Ev.sw (fun c1 => ?_) (fun c1 => ?_)
  · rw [if_pos c1]
    refine Ev.steps (B := (37, [(0, .ref 7), (1, .int a1), (2, .int a2)], [.int 8, .int (h.1 (7 + 1) 3)], h)) 4 rfl ?_
    refine Ev.br (b := decide (8 ≤ (h.1 (7 + 1) 3))) rfl (fun c2 => ?_) (fun c2 => ?_)
    · have c2 := of_decide_eq_true c2
      rw [if_pos c2]
      refine Ev.steps (B := (57, [(0, .ref 7), (1, .int a1), (2, .int a2)], [.int 0], h)) 1 rfl ?_
      exact Ev.ret rfl
    · have c2 := of_decide_eq_false c2
      rw [if_neg c2]
      refine Ev.steps (B := (43, [(0, .ref 7), (1, .int a1), (2, .int a2)], [.int 97, .int a2], h)) 2 rfl ?_
      refine Ev.br (b := decide (a2 < 97)) rfl (fun c3 => ?_) (fun c3 => ?_)
      · have c3 := of_decide_eq_true c3
        rw [if_pos c3]
        refine Ev.steps (B := (57, [(0, .ref 7), (1, .int a1), (2, .int a2)], [.int 0], h)) 1 rfl ?_
        exact Ev.ret rfl
      · have c3 := of_decide_eq_false c3
        rw [if_neg c3]
        refine Ev.steps (B := (49, [(0, .ref 7), (1, .int a1), (2, .int a2)], [.int 120, .int a2], h)) 2 rfl ?_
        refine Ev.br (b := decide (120 < a2)) rfl (fun c4 => ?_) (fun c4 => ?_)
        · have c4 := of_decide_eq_true c4
          rw [if_pos c4]
          refine Ev.steps (B := (57, [(0, .ref 7), (1, .int a1), (2, .int a2)], [.int 0], h)) 1 rfl ?_
          exact Ev.ret rfl
        · have c4 := of_decide_eq_false c4
          rw [if_neg c4]
          refine Ev.steps (B := (57, [(0, .ref 7), (1, .int a1), (2, .int a2)], [.int 1], h)) 2 rfl ?_
          exact Ev.ret rfl
  · rw [if_neg c1]
    refine Ev.sw (fun c5 => ?_) (fun c5 => ?_)
    · rw [if_pos c5]
      refine Ev.steps (B := (64, [(0, .ref 7), (1, .int a1), (2, .int a2)], [.int ((Int32.toUInt32 a2 % 65536).toInt32), .ref (tx_s 7)], h)) 4 rfl ?_
      refine Ev.call (q := (mr_J10_indexOf_1, [.ref (tx_s 7), .int ((Int32.toUInt32 a2 % 65536).toInt32)], [])) rfl (E_indexOf_201 ((Int32.toUInt32 a2 % 65536).toInt32) h) ?_
      refine Ev.br (b := decide ((kx (tx_s 7) ((Int32.toUInt32 a2 % 65536).toInt32)) < 0)) rfl (fun c6 => ?_) (fun c6 => ?_)
      · have c6 := of_decide_eq_true c6
        rw [if_pos c6]
        refine Ev.steps (B := (75, [(0, .ref 7), (1, .int a1), (2, .int a2)], [.int 0], h)) 1 rfl ?_
        exact Ev.ret rfl
      · have c6 := of_decide_eq_false c6
        rw [if_neg c6]
        refine Ev.steps (B := (75, [(0, .ref 7), (1, .int a1), (2, .int a2)], [.int 1], h)) 2 rfl ?_
        exact Ev.ret rfl
    · rw [if_neg c5]
      refine Ev.sw (fun c7 => ?_) (fun c7 => ?_)
      · rw [if_pos c7]
        refine Ev.steps (B := (79, [(0, .ref 7), (1, .int a1), (2, .int a2)], [.int 49, .int a2], h)) 2 rfl ?_
        refine Ev.br (b := decide (a2 < 49)) rfl (fun c8 => ?_) (fun c8 => ?_)
        · have c8 := of_decide_eq_true c8
          rw [if_pos c8]
          refine Ev.steps (B := (98, [(0, .ref 7), (1, .int a1), (2, .int a2)], [.int 0], h)) 1 rfl ?_
          exact Ev.ret rfl
        · have c8 := of_decide_eq_false c8
          rw [if_neg c8]
          refine Ev.steps (B := (90, [(0, .ref 7), (1, .int a1), (2, .int a2)], [.int (48 + (h.1 7 3)), .int a2], h)) 5 rfl ?_
          refine Ev.br (b := decide ((48 + (h.1 7 3)) < a2)) rfl (fun c9 => ?_) (fun c9 => ?_)
          · have c9 := of_decide_eq_true c9
            rw [if_pos c9]
            refine Ev.steps (B := (98, [(0, .ref 7), (1, .int a1), (2, .int a2)], [.int 0], h)) 1 rfl ?_
            exact Ev.ret rfl
          · have c9 := of_decide_eq_false c9
            rw [if_neg c9]
            refine Ev.steps (B := (98, [(0, .ref 7), (1, .int a1), (2, .int a2)], [.int 1], h)) 2 rfl ?_
            exact Ev.ret rfl
      · rw [if_neg c7]
        refine Ev.steps (B := (102, [(0, .ref 7), (1, .int a1), (2, .int a2)], [.int 59, .int a2], h)) 2 rfl ?_
        refine Ev.br (b := decide (¬ a2 = 59)) rfl (fun c10 => ?_) (fun c10 => ?_)
        · have c10 := of_decide_eq_true c10
          rw [if_neg c10]
          refine Ev.steps (B := (110, [(0, .ref 7), (1, .int a1), (2, .int a2)], [.int 0], h)) 1 rfl ?_
          exact Ev.ret rfl
        · have c10 := Decidable.of_not_not (of_decide_eq_false c10)
          rw [if_pos c10]
          refine Ev.steps (B := (110, [(0, .ref 7), (1, .int a1), (2, .int a2)], [.int 1], h)) 2 rfl ?_
          exact Ev.ret rfl
set_option maxRecDepth 10000 in
theorem E_X1_add_8 (a1 : Int32) (a2 : Int32) (a3 : Int32) (h : AH) (hR : AH) (hM : M_X1_add 8 a1 a2 a3 h = some hR) : Ev none mr_X1_add (0, [(0, .ref 8), (1, .int a1), (2, .int a2), (3, .int a3)], [], h) none hR := by
  unfold M_X1_add at hM
  refine Ev.steps (B := (4, [(0, .ref 8), (1, .int a1), (2, .int a2), (3, .int a3)], [.int (h.1 8 3)], h)) 2 rfl ?_
  refine Ev.br (b := decide ((h.1 8 3) < 0)) rfl (fun c1 => ?_) (fun c1 => ?_)
  · have c1 := of_decide_eq_true c1
    rw [if_pos c1] at hM
    obtain rfl := am_s1 hM
    exact Ev.ret rfl
  · have c1 := of_decide_eq_false c1
    rw [if_neg c1] at hM
    refine Ev.steps (B := (13, [(0, .ref 8), (1, .int a1), (2, .int a2), (3, .int a3)], [.int 8, .int (h.1 8 3)], h)) 3 rfl ?_
    refine Ev.br (b := decide ((h.1 8 3) < 8)) rfl (fun c2 => ?_) (fun c2 => ?_)
    · have c2 := of_decide_eq_true c2
      rw [if_pos c2] at hM
      refine Ev.steps (B := (26, [(0, .ref 8), (1, .int a1), (2, .int a2), (3, .int a3)], [.int a1, .int (h.1 8 3), .ref (8 + 1)], h)) 5 rfl ?_
      obtain ⟨g3, hM⟩ := am_gS hM
      refine Ev.g (B := (27, [(0, .ref 8), (1, .int a1), (2, .int a2), (3, .int a3)], [], (am_sa h (8 + 1) (upd (h.2.1 (8 + 1)) (Int32.toNatClampNeg (h.1 8 3)) a1)))) g3 rfl ?_
      refine Ev.steps (B := (36, [(0, .ref 8), (1, .int a1), (2, .int a2), (3, .int a3)], [.int a2, .int (h.1 8 3), .ref (8 + 2)], (am_sa h (8 + 1) (upd (h.2.1 (8 + 1)) (Int32.toNatClampNeg (h.1 8 3)) a1)))) 5 rfl ?_
      obtain ⟨g4, hM⟩ := am_gS hM
      refine Ev.g (B := (37, [(0, .ref 8), (1, .int a1), (2, .int a2), (3, .int a3)], [], (am_sa (am_sa h (8 + 1) (upd (h.2.1 (8 + 1)) (Int32.toNatClampNeg (h.1 8 3)) a1)) (8 + 2) (upd (h.2.1 (8 + 2)) (Int32.toNatClampNeg (h.1 8 3)) a2)))) g4 rfl ?_
      refine Ev.steps (B := (46, [(0, .ref 8), (1, .int a1), (2, .int a2), (3, .int a3)], [.int a3, .int (h.1 8 3), .ref (8 + 3)], (am_sa (am_sa h (8 + 1) (upd (h.2.1 (8 + 1)) (Int32.toNatClampNeg (h.1 8 3)) a1)) (8 + 2) (upd (h.2.1 (8 + 2)) (Int32.toNatClampNeg (h.1 8 3)) a2)))) 5 rfl ?_
      obtain ⟨g5, hM⟩ := am_gS hM
      refine Ev.g (B := (47, [(0, .ref 8), (1, .int a1), (2, .int a2), (3, .int a3)], [], (am_sa (am_sa (am_sa h (8 + 1) (upd (h.2.1 (8 + 1)) (Int32.toNatClampNeg (h.1 8 3)) a1)) (8 + 2) (upd (h.2.1 (8 + 2)) (Int32.toNatClampNeg (h.1 8 3)) a2)) (8 + 3) (upd (h.2.1 (8 + 3)) (Int32.toNatClampNeg (h.1 8 3)) a3)))) g5 rfl ?_
      refine Ev.steps (B := (57, [(0, .ref 8), (1, .int a1), (2, .int a2), (3, .int a3)], [], (am_sf (am_sa (am_sa (am_sa h (8 + 1) (upd (h.2.1 (8 + 1)) (Int32.toNatClampNeg (h.1 8 3)) a1)) (8 + 2) (upd (h.2.1 (8 + 2)) (Int32.toNatClampNeg (h.1 8 3)) a2)) (8 + 3) (upd (h.2.1 (8 + 3)) (Int32.toNatClampNeg (h.1 8 3)) a3)) 8 3 ((h.1 8 3) + 1)))) 6 rfl ?_
      obtain rfl := am_s1 hM
      exact Ev.ret rfl
    · have c2 := of_decide_eq_false c2
      rw [if_neg c2] at hM
      obtain rfl := am_s1 hM
      exact Ev.ret rfl
set_option maxRecDepth 10000 in
theorem E_B_X6_firstFault_95_7 (n : Nat) (vR : Int32) (hR : AH) (h : AH) (hM : B_X6_firstFault_95 n 7 h = some (vR, hR)) : Ev none mr_X6_firstFault (95, [(0, .ref 7)], [], h) (some (.int vR)) hR := by
  unfold B_X6_firstFault_95 at hM
  refine Ev.steps (B := (102, [(0, .ref 7)], [.int 3, .int ((h.1 7 4) - (h.1 7 4) / 4 * 4)], h)) 5 rfl ?_
  refine Ev.br (b := decide (¬ ((h.1 7 4) - (h.1 7 4) / 4 * 4) = 3)) rfl (fun c1 => ?_) (fun c1 => ?_)
  · have c1 := of_decide_eq_true c1
    rw [if_neg c1] at hM
    refine Ev.steps (B := (113, [(0, .ref 7)], [.int (h.1 7 4)], h)) 2 rfl ?_
    obtain ⟨rfl, rfl⟩ := am_sp hM
    exact Ev.ret rfl
  · have c1 := Decidable.of_not_not (of_decide_eq_false c1)
    rw [if_pos c1] at hM
    refine Ev.steps (B := (113, [(0, .ref 7)], [.int (-1)], h)) 2 rfl ?_
    obtain ⟨rfl, rfl⟩ := am_sp hM
    exact Ev.ret rfl
set_option maxRecDepth 10000 in
theorem E_L_X6_firstFault_2_7 (n : Nat) (vR : Int32) (hR : AH) : ∀ (m : Nat) (x1 : Int32) (h : AH), L_X6_firstFault_2 n 7 m x1 h = some (vR, hR) → Ev none mr_X6_firstFault (2, [(0, .ref 7), (1, .int x1)], [], h) (some (.int vR)) hR := by
  intro m
  induction m with
  | zero =>
    intro x1 h hM
    exact (am_no hM).elim
  | succ m ih =>
    intro x1 h hM
    rw [L_X6_firstFault_2] at hM
    refine Ev.steps (B := (7, [(0, .ref 7), (1, .int x1)], [.int (h.1 7 4), .int x1], h)) 3 rfl ?_
    refine Ev.br (b := decide ((h.1 7 4) ≤ x1)) rfl (fun c1 => ?_) (fun c1 => ?_)
    · have c1 := of_decide_eq_true c1
      rw [if_pos c1] at hM
      refine Ev.lv (lv := [(0, .ref 7)]) ⟨rfl, trivial⟩ rfl rfl ?_
      exact E_B_X6_firstFault_95_7 n vR hR h hM
    · have c1 := of_decide_eq_false c1
      rw [if_neg c1] at hM
      refine Ev.steps (B := (13, [(0, .ref 7), (1, .int x1)], [.int 31, .int x1], h)) 2 rfl ?_
      refine Ev.br (b := decide (31 ≤ x1)) rfl (fun c2 => ?_) (fun c2 => ?_)
      · have c2 := of_decide_eq_true c2
        rw [if_pos c2] at hM
        refine Ev.lv (lv := [(0, .ref 7)]) ⟨rfl, trivial⟩ rfl rfl ?_
        exact E_B_X6_firstFault_95_7 n vR hR h hM
      · have c2 := of_decide_eq_false c2
        rw [if_neg c2] at hM
        refine Ev.steps (B := (25, [(0, .ref 7), (1, .int x1)], [.int x1, .ref (7 + 5), .int (x1 - x1 / 4 * 4), .ref 7], h)) 7 rfl ?_
        obtain ⟨g3, hM⟩ := am_gS hM
        refine Ev.g (B := (26, [(0, .ref 7), (1, .int x1)], [.int ((h.2.1 (7 + 5)) (Int32.toNatClampNeg x1)), .int (x1 - x1 / 4 * 4), .ref 7], h)) g3 rfl ?_
        refine Ev.call (q := (mr_X6_fits, [.ref 7, .int (x1 - x1 / 4 * 4), .int ((h.2.1 (7 + 5)) (Int32.toNatClampNeg x1))], [])) rfl (E_X6_fits_7 (x1 - x1 / 4 * 4) ((h.2.1 (7 + 5)) (Int32.toNatClampNeg x1)) h) ?_
        refine Ev.br (b := decide (¬ (M_X6_fits 7 (x1 - x1 / 4 * 4) ((h.2.1 (7 + 5)) (Int32.toNatClampNeg x1)) h) = 0)) rfl (fun c4 => ?_) (fun c4 => ?_)
        · have c4 := of_decide_eq_true c4
          rw [if_neg c4] at hM
          refine Ev.steps (B := (38, [(0, .ref 7), (1, .int x1)], [.int 2, .int (x1 - x1 / 4 * 4)], h)) 4 rfl ?_
          refine Ev.br (b := decide (¬ (x1 - x1 / 4 * 4) = 2)) rfl (fun c5 => ?_) (fun c5 => ?_)
          · have c5 := of_decide_eq_true c5
            rw [if_neg c5] at hM
            refine Ev.steps (B := (2, [(1, .int (x1 + 1)), (0, .ref 7)], [], h)) 2 rfl ?_
            refine Ev.lv (lv := [(0, .ref 7), (1, .int (x1 + 1))]) ⟨rfl, rfl, trivial⟩ rfl rfl ?_
            exact ih (x1 + 1) h hM
          · have c5 := Decidable.of_not_not (of_decide_eq_false c5)
            rw [if_pos c5] at hM
            refine Ev.steps (B := (43, [(0, .ref 7), (1, .int x1)], [.int 2, .int x1], h)) 2 rfl ?_
            refine Ev.br (b := decide (x1 < 2)) rfl (fun c6 => ?_) (fun c6 => ?_)
            · have c6 := of_decide_eq_true c6
              rw [if_pos c6] at hM
              refine Ev.steps (B := (2, [(1, .int (x1 + 1)), (0, .ref 7)], [], h)) 2 rfl ?_
              refine Ev.lv (lv := [(0, .ref 7), (1, .int (x1 + 1))]) ⟨rfl, rfl, trivial⟩ rfl rfl ?_
              exact ih (x1 + 1) h hM
            · have c6 := of_decide_eq_false c6
              rw [if_neg c6] at hM
              refine Ev.steps (B := (57, [(0, .ref 7), (1, .int x1)], [.int (x1 - 2), .ref (7 + 5), .ref (7 + 1)], h)) 7 rfl ?_
              obtain ⟨g7, hM⟩ := am_gS hM
              refine Ev.g (B := (58, [(0, .ref 7), (1, .int x1)], [.int ((h.2.1 (7 + 5)) (Int32.toNatClampNeg (x1 - 2))), .ref (7 + 1)], h)) g7 rfl ?_
              refine Ev.steps (B := (72, [(0, .ref 7), (1, .int x1)], [.int (x1 - 1), .ref (7 + 5), .ref (tx_s 7), .int (((h.2.1 (7 + 5)) (Int32.toNatClampNeg (x1 - 2))) - 97), .ref (7 + 1)], h)) 9 rfl ?_
              obtain ⟨g8, hM⟩ := am_gS hM
              refine Ev.g (B := (73, [(0, .ref 7), (1, .int x1)], [.int ((h.2.1 (7 + 5)) (Int32.toNatClampNeg (x1 - 1))), .ref (tx_s 7), .int (((h.2.1 (7 + 5)) (Int32.toNatClampNeg (x1 - 2))) - 97), .ref (7 + 1)], h)) g8 rfl ?_
              refine Ev.steps (B := (74, [(0, .ref 7), (1, .int x1)], [.int ((Int32.toUInt32 ((h.2.1 (7 + 5)) (Int32.toNatClampNeg (x1 - 1))) % 65536).toInt32), .ref (tx_s 7), .int (((h.2.1 (7 + 5)) (Int32.toNatClampNeg (x1 - 2))) - 97), .ref (7 + 1)], h)) 1 rfl ?_
              refine Ev.call (q := (mr_J10_indexOf_1, [.ref (tx_s 7), .int ((Int32.toUInt32 ((h.2.1 (7 + 5)) (Int32.toNatClampNeg (x1 - 1))) % 65536).toInt32)], [.int (((h.2.1 (7 + 5)) (Int32.toNatClampNeg (x1 - 2))) - 97), .ref (7 + 1)])) rfl (E_indexOf_201 ((Int32.toUInt32 ((h.2.1 (7 + 5)) (Int32.toNatClampNeg (x1 - 1))) % 65536).toInt32) h) ?_
              refine Ev.steps (B := (82, [(0, .ref 7), (1, .int x1)], [.int x1, .ref (7 + 5), .int (kx (tx_s 7) ((Int32.toUInt32 ((h.2.1 (7 + 5)) (Int32.toNatClampNeg (x1 - 1))) % 65536).toInt32)), .int (((h.2.1 (7 + 5)) (Int32.toNatClampNeg (x1 - 2))) - 97), .ref (7 + 1)], h)) 3 rfl ?_
              obtain ⟨g9, hM⟩ := am_gS hM
              refine Ev.g (B := (83, [(0, .ref 7), (1, .int x1)], [.int ((h.2.1 (7 + 5)) (Int32.toNatClampNeg x1)), .int (kx (tx_s 7) ((Int32.toUInt32 ((h.2.1 (7 + 5)) (Int32.toNatClampNeg (x1 - 1))) % 65536).toInt32)), .int (((h.2.1 (7 + 5)) (Int32.toNatClampNeg (x1 - 2))) - 97), .ref (7 + 1)], h)) g9 rfl ?_
              refine Ev.steps (B := (86, [(0, .ref 7), (1, .int x1)], [.int (((h.2.1 (7 + 5)) (Int32.toNatClampNeg x1)) - 48), .int (kx (tx_s 7) ((Int32.toUInt32 ((h.2.1 (7 + 5)) (Int32.toNatClampNeg (x1 - 1))) % 65536).toInt32)), .int (((h.2.1 (7 + 5)) (Int32.toNatClampNeg (x1 - 2))) - 97), .ref (7 + 1)], h)) 2 rfl ?_
              obtain ⟨h1, e10, hM⟩ := am_vS hM
              refine Ev.call (q := (mr_X1_add, [.ref (7 + 1), .int (((h.2.1 (7 + 5)) (Int32.toNatClampNeg (x1 - 2))) - 97), .int (kx (tx_s 7) ((Int32.toUInt32 ((h.2.1 (7 + 5)) (Int32.toNatClampNeg (x1 - 1))) % 65536).toInt32)), .int (((h.2.1 (7 + 5)) (Int32.toNatClampNeg x1)) - 48)], [])) rfl (E_X1_add_8 (((h.2.1 (7 + 5)) (Int32.toNatClampNeg (x1 - 2))) - 97) (kx (tx_s 7) ((Int32.toUInt32 ((h.2.1 (7 + 5)) (Int32.toNatClampNeg (x1 - 1))) % 65536).toInt32)) (((h.2.1 (7 + 5)) (Int32.toNatClampNeg x1)) - 48) h h1 e10) ?_
              refine Ev.steps (B := (2, [(1, .int (x1 + 1)), (0, .ref 7)], [], h1)) 2 rfl ?_
              refine Ev.lv (lv := [(0, .ref 7), (1, .int (x1 + 1))]) ⟨rfl, rfl, trivial⟩ rfl rfl ?_
              exact ih (x1 + 1) h1 hM
        · have c4 := Decidable.of_not_not (of_decide_eq_false c4)
          rw [if_pos c4] at hM
          refine Ev.steps (B := (33, [(0, .ref 7), (1, .int x1)], [.int x1], h)) 1 rfl ?_
          obtain ⟨rfl, rfl⟩ := am_sp hM
          exact Ev.ret rfl
set_option maxRecDepth 10000 in
theorem E_X6_firstFault_7 (n : Nat) (h : AH) (vR : Int32) (hR : AH) (hM : M_X6_firstFault n 7 h = some (vR, hR)) : Ev none mr_X6_firstFault (0, [(0, .ref 7)], [], h) (some (.int vR)) hR := by
  unfold M_X6_firstFault at hM
  refine Ev.steps (B := (2, [(1, .int 0), (0, .ref 7)], [], h)) 2 rfl ?_
  refine Ev.lv (lv := [(0, .ref 7), (1, .int 0)]) ⟨rfl, rfl, trivial⟩ rfl rfl ?_
  exact E_L_X6_firstFault_2_7 n vR hR n 0 h hM
set_option maxRecDepth 10000 in
theorem E_B_X6_scan_24_7 (n : Nat) (hR : AH) (y0 : Int32) (h : AH) (hM : B_X6_scan_24 n 7 y0 h = some hR) : Ev none mr_X6_scan (24, [(0, .ref 7)], [.int y0, .ref 7], h) none hR := by
  unfold B_X6_scan_24 at hM
  refine Ev.steps (B := (32, [(0, .ref 7)], [.int (-1), .int y0], (am_sf h 7 5 y0))) 4 rfl ?_
  refine Ev.br (b := decide (y0 = (-1))) rfl (fun c1 => ?_) (fun c1 => ?_)
  · have c1 := of_decide_eq_true c1
    rw [if_pos c1] at hM
    obtain rfl := am_s1 hM
    exact Ev.ret rfl
  · have c1 := of_decide_eq_false c1
    rw [if_neg c1] at hM
    refine Ev.steps (B := (43, [(0, .ref 7)], [], (am_sf (am_sf h 7 5 y0) (7 + 1) 3 0))) 4 rfl ?_
    obtain rfl := am_s1 hM
    exact Ev.ret rfl
set_option maxRecDepth 10000 in
theorem E_X6_scan_7 (n : Nat) (h : AH) (hR : AH) (hM : M_X6_scan n 7 h = some hR) : Ev none mr_X6_scan (0, [(0, .ref 7)], [], h) none hR := by
  unfold M_X6_scan at hM
  refine Ev.steps (B := (13, [(0, .ref 7)], [.int (h.1 7 4), .ref 7], (am_sf h (7 + 1) 3 0))) 7 rfl ?_
  refine Ev.br (b := decide (¬ (h.1 7 4) = 0)) rfl (fun c1 => ?_) (fun c1 => ?_)
  · have c1 := of_decide_eq_true c1
    rw [if_neg c1] at hM
    refine Ev.steps (B := (21, [(0, .ref 7)], [.ref 7, .ref 7], (am_sf h (7 + 1) 3 0))) 1 rfl ?_
    obtain ⟨v2, h1, e2, hM⟩ := am_bS hM
    refine Ev.call (q := (mr_X6_firstFault, [.ref 7], [.ref 7])) rfl (E_X6_firstFault_7 n (am_sf h (7 + 1) 3 0) v2 h1 e2) ?_
    exact E_B_X6_scan_24_7 n hR v2 h1 hM
  · have c1 := Decidable.of_not_not (of_decide_eq_false c1)
    rw [if_pos c1] at hM
    refine Ev.steps (B := (24, [(0, .ref 7)], [.int (-1), .ref 7], (am_sf h (7 + 1) 3 0))) 2 rfl ?_
    exact E_B_X6_scan_24_7 n hR (-1) (am_sf h (7 + 1) 3 0) hM
set_option maxRecDepth 10000 in
theorem E_X6_append_7 (n : Nat) (a1 : Int32) (h : AH) (hR : AH) (hM : M_X6_append n 7 a1 h = some hR) : Ev none mr_X6_append (0, [(0, .ref 7), (1, .int a1)], [], h) none hR := by
  unfold M_X6_append at hM
  refine Ev.steps (B := (4, [(0, .ref 7), (1, .int a1)], [.int (h.1 7 4)], h)) 2 rfl ?_
  refine Ev.br (b := decide ((h.1 7 4) < 0)) rfl (fun c1 => ?_) (fun c1 => ?_)
  · have c1 := of_decide_eq_true c1
    rw [if_pos c1] at hM
    obtain rfl := am_s1 hM
    exact Ev.ret rfl
  · have c1 := of_decide_eq_false c1
    rw [if_neg c1] at hM
    refine Ev.steps (B := (13, [(0, .ref 7), (1, .int a1)], [.int 31, .int (h.1 7 4)], h)) 3 rfl ?_
    refine Ev.br (b := decide ((h.1 7 4) < 31)) rfl (fun c2 => ?_) (fun c2 => ?_)
    · have c2 := of_decide_eq_true c2
      rw [if_pos c2] at hM
      refine Ev.steps (B := (26, [(0, .ref 7), (1, .int a1)], [.int a1, .int (h.1 7 4), .ref (7 + 5)], h)) 5 rfl ?_
      obtain ⟨g3, hM⟩ := am_gS hM
      refine Ev.g (B := (27, [(0, .ref 7), (1, .int a1)], [], (am_sa h (7 + 5) (upd (h.2.1 (7 + 5)) (Int32.toNatClampNeg (h.1 7 4)) a1)))) g3 rfl ?_
      refine Ev.steps (B := (38, [(0, .ref 7), (1, .int a1)], [.ref 7], (am_sf (am_sa h (7 + 5) (upd (h.2.1 (7 + 5)) (Int32.toNatClampNeg (h.1 7 4)) a1)) 7 4 ((h.1 7 4) + 1)))) 7 rfl ?_
      obtain ⟨h1, e4, hM⟩ := am_vS hM
      refine Ev.call (q := (mr_X6_scan, [.ref 7], [])) rfl (E_X6_scan_7 n (am_sf (am_sa h (7 + 5) (upd (h.2.1 (7 + 5)) (Int32.toNatClampNeg (h.1 7 4)) a1)) 7 4 ((h.1 7 4) + 1)) h1 e4) ?_
      obtain rfl := am_s1 hM
      exact Ev.ret rfl
    · have c2 := of_decide_eq_false c2
      rw [if_neg c2] at hM
      obtain rfl := am_s1 hM
      exact Ev.ret rfl
set_option maxRecDepth 10000 in
theorem E_B_X8_type_6_7 (n : Nat) (vR : Int32) (hR : AH) (x2 : Int32) (h : AH) (hM : B_X8_type_6 n x2 7 h = some (vR, hR)) : Ev none mr_X8_type (6, [(0, .ref 0), (2, .int x2), (3, .ref 7)], [], h) (some (.int vR)) hR := by
  unfold B_X8_type_6 at hM
  refine Ev.steps (B := (14, [(0, .ref 0), (2, .int x2), (3, .ref 7)], [.int 255, .int x2], h)) 4 rfl ?_
  refine Ev.call (q := (mr_X8_within, [.int x2, .int 255], [])) rfl (E_X8_within x2 255 h) ?_
  refine Ev.br (b := decide (¬ (M_X8_within x2 255) = 0)) rfl (fun c1 => ?_) (fun c1 => ?_)
  · have c1 := of_decide_eq_true c1
    rw [if_neg c1] at hM
    refine Ev.steps (B := (29, [(0, .ref 0), (2, .int x2), (3, .ref 7)], [.int 31, .int (h.1 7 4)], h)) 3 rfl ?_
    refine Ev.br (b := decide ((h.1 7 4) < 31)) rfl (fun c2 => ?_) (fun c2 => ?_)
    · have c2 := of_decide_eq_true c2
      rw [if_pos c2] at hM
      refine Ev.steps (B := (37, [(0, .ref 0), (2, .int x2), (3, .ref 7)], [.int x2, .ref 7], h)) 2 rfl ?_
      obtain ⟨h1, e3, hM⟩ := am_vS hM
      refine Ev.call (q := (mr_X6_append, [.ref 7, .int x2], [])) rfl (E_X6_append_7 n x2 h h1 e3) ?_
      refine Ev.steps (B := (41, [(0, .ref 0), (2, .int x2), (3, .ref 7)], [.ref 0], h1)) 1 rfl ?_
      obtain ⟨h2, e4, hM⟩ := am_vS hM
      refine Ev.call (q := (mr_X8_changed, [.ref 0], [])) rfl (E_X8_changed_0 n h1 h2 e4) ?_
      refine Ev.steps (B := (48, [(0, .ref 0), (2, .int x2), (3, .ref 7)], [.int (h2.1 7 4)], h2)) 2 rfl ?_
      obtain ⟨rfl, rfl⟩ := am_sp hM
      exact Ev.ret rfl
    · have c2 := of_decide_eq_false c2
      rw [if_neg c2] at hM
      refine Ev.steps (B := (34, [(0, .ref 0), (2, .int x2), (3, .ref 7)], [.int (-4)], h)) 1 rfl ?_
      obtain ⟨rfl, rfl⟩ := am_sp hM
      exact Ev.ret rfl
  · have c1 := Decidable.of_not_not (of_decide_eq_false c1)
    rw [if_pos c1] at hM
    refine Ev.steps (B := (22, [(0, .ref 0), (2, .int x2), (3, .ref 7)], [.int (-2)], h)) 1 rfl ?_
    obtain ⟨rfl, rfl⟩ := am_sp hM
    exact Ev.ret rfl
def M_X8_type (n : Nat) (a1 : Int32) (a2 : Int32) (h : AH) : Option (Int32 × AH) :=
  if a1 = 0 then
    B_X8_type_6 n a2 1 h
  else
  if a1 = 1 then
    B_X8_type_6 n a2 7 h
  else
    some ((-2), h)
set_option maxRecDepth 10000 in
theorem E_X8_type_0 (n : Nat) (a1 : Int32) (a2 : Int32) (h : AH) (vR : Int32) (hR : AH) (hM : M_X8_type n a1 a2 h = some (vR, hR)) : Ev none mr_X8_type (0, [(0, .ref 0), (1, .int a1), (2, .int a2)], [], h) (some (.int vR)) hR := by
  unfold M_X8_type at hM
  refine Ev.steps (B := (2, [(0, .ref 0), (1, .int a1), (2, .int a2)], [.int a1, .ref 0], h)) 2 rfl ?_
  by_cases c1 : a1 = 0
  · rw [if_pos c1] at hM
    refine Ev.call (q := (mr_X8_textAt, [.ref 0, .int a1], [])) rfl (E_X8_textAt_1 a1 h c1) ?_
    refine Ev.steps (B := (6, [(3, .ref 1), (0, .ref 0), (1, .int a1), (2, .int a2)], [], h)) 1 rfl ?_
    refine Ev.lv (lv := [(0, .ref 0), (2, .int a2), (3, .ref 1)]) ⟨rfl, rfl, rfl, trivial⟩ rfl rfl ?_
    exact E_B_X8_type_6_1 n vR hR a2 h hM
  · rw [if_neg c1] at hM
    by_cases c2 : a1 = 1
    · rw [if_pos c2] at hM
      refine Ev.call (q := (mr_X8_textAt, [.ref 0, .int a1], [])) rfl (E_X8_textAt_7 a1 h c2) ?_
      refine Ev.steps (B := (6, [(3, .ref 7), (0, .ref 0), (1, .int a1), (2, .int a2)], [], h)) 1 rfl ?_
      refine Ev.lv (lv := [(0, .ref 0), (2, .int a2), (3, .ref 7)]) ⟨rfl, rfl, rfl, trivial⟩ rfl rfl ?_
      exact E_B_X8_type_6_7 n vR hR a2 h hM
    · rw [if_neg c2] at hM
      refine Ev.call (q := (mr_X8_textAt, [.ref 0, .int a1], [])) rfl (E_X8_textAt_d a1 h c1 c2) ?_
      refine Ev.steps (B := (22, [(3, .null), (0, .ref 0), (1, .int a1), (2, .int a2)], [.int (-2)], h)) 4 rfl ?_
      obtain ⟨rfl, rfl⟩ := am_sp hM
      exact Ev.ret rfl
def M_X9_in (a1 : Int32) (a2 : Int32) (a3 : Int32) : Int32 :=
  if a1 < a2 then
    0
  else
    if a3 < a1 then
      0
    else
      1
set_option maxRecDepth 10000 in
theorem E_X9_in (a1 : Int32) (a2 : Int32) (a3 : Int32) (h : AH) : Ev none mr_X9_in (0, [(0, .int a1), (1, .int a2), (2, .int a3)], [], h) (some (.int (M_X9_in a1 a2 a3))) h := by
  unfold M_X9_in
  refine Ev.steps (B := (2, [(0, .int a1), (1, .int a2), (2, .int a3)], [.int a2, .int a1], h)) 2 rfl ?_
  refine Ev.br (b := decide (a1 < a2)) rfl (fun c1 => ?_) (fun c1 => ?_)
  · have c1 := of_decide_eq_true c1
    rw [if_pos c1]
    refine Ev.steps (B := (15, [(0, .int a1), (1, .int a2), (2, .int a3)], [.int 0], h)) 1 rfl ?_
    exact Ev.ret rfl
  · have c1 := of_decide_eq_false c1
    rw [if_neg c1]
    refine Ev.steps (B := (7, [(0, .int a1), (1, .int a2), (2, .int a3)], [.int a3, .int a1], h)) 2 rfl ?_
    refine Ev.br (b := decide (a3 < a1)) rfl (fun c2 => ?_) (fun c2 => ?_)
    · have c2 := of_decide_eq_true c2
      rw [if_pos c2]
      refine Ev.steps (B := (15, [(0, .int a1), (1, .int a2), (2, .int a3)], [.int 0], h)) 1 rfl ?_
      exact Ev.ret rfl
    · have c2 := of_decide_eq_false c2
      rw [if_neg c2]
      refine Ev.steps (B := (15, [(0, .int a1), (1, .int a2), (2, .int a3)], [.int 1], h)) 2 rfl ?_
      exact Ev.ret rfl
set_option maxRecDepth 10000 in
theorem Z_X9_in (a1 : Int32) (a2 : Int32) (a3 : Int32) : am_b01 (M_X9_in a1 a2 a3) = true := by
  unfold M_X9_in
  split
  · rfl
  · split
    · rfl
    · rfl
def M_X9_isTwo (a1 : Int32) : Int32 :=
  (M_X9_in a1 0 1)
set_option maxRecDepth 10000 in
theorem E_X9_isTwo (a1 : Int32) (h : AH) : Ev none mr_X9_isTwo (0, [(0, .int a1)], [], h) (some (.int (M_X9_isTwo a1))) h := by
  unfold M_X9_isTwo
  refine Ev.steps (B := (3, [(0, .int a1)], [.int 1, .int 0, .int a1], h)) 3 rfl ?_
  refine Ev.call (q := (mr_X9_in, [.int a1, .int 0, .int 1], [])) rfl (E_X9_in a1 0 1 h) ?_
  exact Ev.retg (b := am_b01 (M_X9_in a1 0 1)) (by apply Z_X9_in) rfl
set_option maxRecDepth 10000 in
theorem Z_X9_isTwo (a1 : Int32) : am_b01 (M_X9_isTwo a1) = true := by
  unfold M_X9_isTwo
  apply Z_X9_in
def M_X9_type (a1 : Int32) (a2 : Int32) (h : AH) : Option (Int32 × AH) :=
  if (M_X9_isTwo a1) = 0 then
    some ((-2), h)
  else
    if (M_X9_in a2 0 255) = 0 then
      some ((-2), h)
    else
      bif (am_in a1 2) then
        if ((h.2.1 76) (Int32.toNatClampNeg a1)) = 31 then
          some ((-4), h)
        else
          bif (am_in a1 2) then
            bif (am_in ((31 * a1) + ((h.2.1 76) (Int32.toNatClampNeg a1))) 62) then
              bif (am_in a1 2) then
                bif (am_in a1 2) then
                  bif (am_in a1 2) then
                    some (((upd (h.2.1 76) (Int32.toNatClampNeg a1) (((h.2.1 76) (Int32.toNatClampNeg a1)) + 1)) (Int32.toNatClampNeg a1)), (am_sa (am_sa h 77 (upd (h.2.1 77) (Int32.toNatClampNeg ((31 * a1) + ((h.2.1 76) (Int32.toNatClampNeg a1)))) a2)) 76 (upd (h.2.1 76) (Int32.toNatClampNeg a1) (((h.2.1 76) (Int32.toNatClampNeg a1)) + 1))))
                  else none
                else none
              else none
            else none
          else none
      else none
set_option maxRecDepth 10000 in
theorem E_X9_type_75 (a1 : Int32) (a2 : Int32) (h : AH) (vR : Int32) (hR : AH) (hM : M_X9_type a1 a2 h = some (vR, hR)) : Ev none mr_X9_type (0, [(0, .ref 75), (1, .int a1), (2, .int a2)], [], h) (some (.int vR)) hR := by
  unfold M_X9_type at hM
  refine Ev.steps (B := (1, [(0, .ref 75), (1, .int a1), (2, .int a2)], [.int a1], h)) 1 rfl ?_
  refine Ev.call (q := (mr_X9_isTwo, [.int a1], [])) rfl (E_X9_isTwo a1 h) ?_
  refine Ev.br (b := decide ((M_X9_isTwo a1) = 0)) rfl (fun c1 => ?_) (fun c1 => ?_)
  · have c1 := of_decide_eq_true c1
    rw [if_pos c1] at hM
    refine Ev.steps (B := (20, [(0, .ref 75), (1, .int a1), (2, .int a2)], [.int (-2)], h)) 1 rfl ?_
    obtain ⟨rfl, rfl⟩ := am_sp hM
    exact Ev.ret rfl
  · have c1 := of_decide_eq_false c1
    rw [if_neg c1] at hM
    refine Ev.steps (B := (12, [(0, .ref 75), (1, .int a1), (2, .int a2)], [.int 255, .int 0, .int a2], h)) 3 rfl ?_
    refine Ev.call (q := (mr_X9_in, [.int a2, .int 0, .int 255], [])) rfl (E_X9_in a2 0 255 h) ?_
    refine Ev.br (b := decide (¬ (M_X9_in a2 0 255) = 0)) rfl (fun c2 => ?_) (fun c2 => ?_)
    · have c2 := of_decide_eq_true c2
      rw [if_neg c2] at hM
      refine Ev.steps (B := (26, [(0, .ref 75), (1, .int a1), (2, .int a2)], [.int a1, .ref 76], h)) 3 rfl ?_
      obtain ⟨g3, hM⟩ := am_gS hM
      refine Ev.g (B := (27, [(0, .ref 75), (1, .int a1), (2, .int a2)], [.int ((h.2.1 76) (Int32.toNatClampNeg a1))], h)) g3 rfl ?_
      refine Ev.steps (B := (29, [(0, .ref 75), (1, .int a1), (2, .int a2)], [.int 31, .int ((h.2.1 76) (Int32.toNatClampNeg a1))], h)) 1 rfl ?_
      refine Ev.br (b := decide (¬ ((h.2.1 76) (Int32.toNatClampNeg a1)) = 31)) rfl (fun c4 => ?_) (fun c4 => ?_)
      · have c4 := of_decide_eq_true c4
        rw [if_neg c4] at hM
        refine Ev.steps (B := (48, [(0, .ref 75), (1, .int a1), (2, .int a2)], [.int a1, .ref 76, .int (31 * a1), .ref 77], h)) 8 rfl ?_
        obtain ⟨g5, hM⟩ := am_gS hM
        refine Ev.g (B := (49, [(0, .ref 75), (1, .int a1), (2, .int a2)], [.int ((h.2.1 76) (Int32.toNatClampNeg a1)), .int (31 * a1), .ref 77], h)) g5 rfl ?_
        refine Ev.steps (B := (51, [(0, .ref 75), (1, .int a1), (2, .int a2)], [.int a2, .int ((31 * a1) + ((h.2.1 76) (Int32.toNatClampNeg a1))), .ref 77], h)) 2 rfl ?_
        obtain ⟨g6, hM⟩ := am_gS hM
        refine Ev.g (B := (52, [(0, .ref 75), (1, .int a1), (2, .int a2)], [], (am_sa h 77 (upd (h.2.1 77) (Int32.toNatClampNeg ((31 * a1) + ((h.2.1 76) (Int32.toNatClampNeg a1)))) a2)))) g6 rfl ?_
        refine Ev.steps (B := (58, [(0, .ref 75), (1, .int a1), (2, .int a2)], [.int a1, .ref 76, .int a1, .ref 76], (am_sa h 77 (upd (h.2.1 77) (Int32.toNatClampNeg ((31 * a1) + ((h.2.1 76) (Int32.toNatClampNeg a1)))) a2)))) 4 rfl ?_
        obtain ⟨g7, hM⟩ := am_gS hM
        refine Ev.g (B := (59, [(0, .ref 75), (1, .int a1), (2, .int a2)], [.int ((h.2.1 76) (Int32.toNatClampNeg a1)), .int a1, .ref 76], (am_sa h 77 (upd (h.2.1 77) (Int32.toNatClampNeg ((31 * a1) + ((h.2.1 76) (Int32.toNatClampNeg a1)))) a2)))) g7 rfl ?_
        refine Ev.steps (B := (61, [(0, .ref 75), (1, .int a1), (2, .int a2)], [.int (((h.2.1 76) (Int32.toNatClampNeg a1)) + 1), .int a1, .ref 76], (am_sa h 77 (upd (h.2.1 77) (Int32.toNatClampNeg ((31 * a1) + ((h.2.1 76) (Int32.toNatClampNeg a1)))) a2)))) 2 rfl ?_
        obtain ⟨g8, hM⟩ := am_gS hM
        refine Ev.g (B := (62, [(0, .ref 75), (1, .int a1), (2, .int a2)], [], (am_sa (am_sa h 77 (upd (h.2.1 77) (Int32.toNatClampNeg ((31 * a1) + ((h.2.1 76) (Int32.toNatClampNeg a1)))) a2)) 76 (upd (h.2.1 76) (Int32.toNatClampNeg a1) (((h.2.1 76) (Int32.toNatClampNeg a1)) + 1))))) g8 rfl ?_
        refine Ev.steps (B := (67, [(0, .ref 75), (1, .int a1), (2, .int a2)], [.int a1, .ref 76], (am_sa (am_sa h 77 (upd (h.2.1 77) (Int32.toNatClampNeg ((31 * a1) + ((h.2.1 76) (Int32.toNatClampNeg a1)))) a2)) 76 (upd (h.2.1 76) (Int32.toNatClampNeg a1) (((h.2.1 76) (Int32.toNatClampNeg a1)) + 1))))) 3 rfl ?_
        obtain ⟨g9, hM⟩ := am_gS hM
        refine Ev.g (B := (68, [(0, .ref 75), (1, .int a1), (2, .int a2)], [.int ((upd (h.2.1 76) (Int32.toNatClampNeg a1) (((h.2.1 76) (Int32.toNatClampNeg a1)) + 1)) (Int32.toNatClampNeg a1))], (am_sa (am_sa h 77 (upd (h.2.1 77) (Int32.toNatClampNeg ((31 * a1) + ((h.2.1 76) (Int32.toNatClampNeg a1)))) a2)) 76 (upd (h.2.1 76) (Int32.toNatClampNeg a1) (((h.2.1 76) (Int32.toNatClampNeg a1)) + 1))))) g9 rfl ?_
        obtain ⟨rfl, rfl⟩ := am_sp hM
        exact Ev.ret rfl
      · have c4 := Decidable.of_not_not (of_decide_eq_false c4)
        rw [if_pos c4] at hM
        refine Ev.steps (B := (34, [(0, .ref 75), (1, .int a1), (2, .int a2)], [.int (-4)], h)) 1 rfl ?_
        obtain ⟨rfl, rfl⟩ := am_sp hM
        exact Ev.ret rfl
    · have c2 := Decidable.of_not_not (of_decide_eq_false c2)
      rw [if_pos c2] at hM
      refine Ev.steps (B := (20, [(0, .ref 75), (1, .int a1), (2, .int a2)], [.int (-2)], h)) 1 rfl ?_
      obtain ⟨rfl, rfl⟩ := am_sp hM
      exact Ev.ret rfl
def M_X6_shorten (n : Nat) (r0 : Nat) (a1 : Int32) (h : AH) : Option AH :=
  am_v (M_X6_scan n r0 (am_sf h r0 4 a1)) fun h1 =>
  some h1
set_option maxRecDepth 10000 in
theorem E_X6_shorten_1 (n : Nat) (a1 : Int32) (h : AH) (hR : AH) (hM : M_X6_shorten n 1 a1 h = some hR) : Ev none mr_X6_shorten (0, [(0, .ref 1), (1, .int a1)], [], h) none hR := by
  unfold M_X6_shorten at hM
  refine Ev.steps (B := (6, [(0, .ref 1), (1, .int a1)], [.ref 1], (am_sf h 1 4 a1))) 4 rfl ?_
  obtain ⟨h1, e1, hM⟩ := am_vS hM
  refine Ev.call (q := (mr_X6_scan, [.ref 1], [])) rfl (E_X6_scan_1 n (am_sf h 1 4 a1) h1 e1) ?_
  obtain rfl := am_s1 hM
  exact Ev.ret rfl
def B_X8_wipe_6 (n : Nat) (q2 : Nat) (h : AH) : Option (Int32 × AH) :=
  am_v (M_X6_shorten n q2 0 h) fun h1 =>
  am_v (M_X8_changed n h1) fun h2 =>
  some ((h.1 q2 4), h2)
set_option maxRecDepth 10000 in
theorem E_B_X8_wipe_6_1 (n : Nat) (vR : Int32) (hR : AH) (h : AH) (hM : B_X8_wipe_6 n 1 h = some (vR, hR)) : Ev none mr_X8_wipe (6, [(0, .ref 0), (2, .ref 1)], [], h) (some (.int vR)) hR := by
  unfold B_X8_wipe_6 at hM
  refine Ev.steps (B := (20, [(3, .int (h.1 1 4)), (0, .ref 0), (2, .ref 1)], [.int 0, .ref 1], h)) 7 rfl ?_
  obtain ⟨h1, e1, hM⟩ := am_vS hM
  refine Ev.call (q := (mr_X6_shorten, [.ref 1, .int 0], [])) rfl (E_X6_shorten_1 n 0 h h1 e1) ?_
  refine Ev.steps (B := (24, [(3, .int (h.1 1 4)), (0, .ref 0), (2, .ref 1)], [.ref 0], h1)) 1 rfl ?_
  obtain ⟨h2, e2, hM⟩ := am_vS hM
  refine Ev.call (q := (mr_X8_changed, [.ref 0], [])) rfl (E_X8_changed_0 n h1 h2 e2) ?_
  refine Ev.steps (B := (28, [(3, .int (h.1 1 4)), (0, .ref 0), (2, .ref 1)], [.int (h.1 1 4)], h2)) 1 rfl ?_
  obtain ⟨rfl, rfl⟩ := am_sp hM
  exact Ev.ret rfl
set_option maxRecDepth 10000 in
theorem E_X6_shorten_7 (n : Nat) (a1 : Int32) (h : AH) (hR : AH) (hM : M_X6_shorten n 7 a1 h = some hR) : Ev none mr_X6_shorten (0, [(0, .ref 7), (1, .int a1)], [], h) none hR := by
  unfold M_X6_shorten at hM
  refine Ev.steps (B := (6, [(0, .ref 7), (1, .int a1)], [.ref 7], (am_sf h 7 4 a1))) 4 rfl ?_
  obtain ⟨h1, e1, hM⟩ := am_vS hM
  refine Ev.call (q := (mr_X6_scan, [.ref 7], [])) rfl (E_X6_scan_7 n (am_sf h 7 4 a1) h1 e1) ?_
  obtain rfl := am_s1 hM
  exact Ev.ret rfl
set_option maxRecDepth 10000 in
theorem E_B_X8_wipe_6_7 (n : Nat) (vR : Int32) (hR : AH) (h : AH) (hM : B_X8_wipe_6 n 7 h = some (vR, hR)) : Ev none mr_X8_wipe (6, [(0, .ref 0), (2, .ref 7)], [], h) (some (.int vR)) hR := by
  unfold B_X8_wipe_6 at hM
  refine Ev.steps (B := (20, [(3, .int (h.1 7 4)), (0, .ref 0), (2, .ref 7)], [.int 0, .ref 7], h)) 7 rfl ?_
  obtain ⟨h1, e1, hM⟩ := am_vS hM
  refine Ev.call (q := (mr_X6_shorten, [.ref 7, .int 0], [])) rfl (E_X6_shorten_7 n 0 h h1 e1) ?_
  refine Ev.steps (B := (24, [(3, .int (h.1 7 4)), (0, .ref 0), (2, .ref 7)], [.ref 0], h1)) 1 rfl ?_
  obtain ⟨h2, e2, hM⟩ := am_vS hM
  refine Ev.call (q := (mr_X8_changed, [.ref 0], [])) rfl (E_X8_changed_0 n h1 h2 e2) ?_
  refine Ev.steps (B := (28, [(3, .int (h.1 7 4)), (0, .ref 0), (2, .ref 7)], [.int (h.1 7 4)], h2)) 1 rfl ?_
  obtain ⟨rfl, rfl⟩ := am_sp hM
  exact Ev.ret rfl
def M_X8_wipe (n : Nat) (a1 : Int32) (h : AH) : Option (Int32 × AH) :=
  if a1 = 0 then
    B_X8_wipe_6 n 1 h
  else
  if a1 = 1 then
    B_X8_wipe_6 n 7 h
  else
    some ((-2), h)
set_option maxRecDepth 10000 in
theorem E_X8_wipe_0 (n : Nat) (a1 : Int32) (h : AH) (vR : Int32) (hR : AH) (hM : M_X8_wipe n a1 h = some (vR, hR)) : Ev none mr_X8_wipe (0, [(0, .ref 0), (1, .int a1)], [], h) (some (.int vR)) hR := by
  unfold M_X8_wipe at hM
  refine Ev.steps (B := (2, [(0, .ref 0), (1, .int a1)], [.int a1, .ref 0], h)) 2 rfl ?_
  by_cases c1 : a1 = 0
  · rw [if_pos c1] at hM
    refine Ev.call (q := (mr_X8_textAt, [.ref 0, .int a1], [])) rfl (E_X8_textAt_1 a1 h c1) ?_
    refine Ev.steps (B := (6, [(2, .ref 1), (0, .ref 0), (1, .int a1)], [], h)) 1 rfl ?_
    refine Ev.lv (lv := [(0, .ref 0), (2, .ref 1)]) ⟨rfl, rfl, trivial⟩ rfl rfl ?_
    exact E_B_X8_wipe_6_1 n vR hR h hM
  · rw [if_neg c1] at hM
    by_cases c2 : a1 = 1
    · rw [if_pos c2] at hM
      refine Ev.call (q := (mr_X8_textAt, [.ref 0, .int a1], [])) rfl (E_X8_textAt_7 a1 h c2) ?_
      refine Ev.steps (B := (6, [(2, .ref 7), (0, .ref 0), (1, .int a1)], [], h)) 1 rfl ?_
      refine Ev.lv (lv := [(0, .ref 0), (2, .ref 7)]) ⟨rfl, rfl, trivial⟩ rfl rfl ?_
      exact E_B_X8_wipe_6_7 n vR hR h hM
    · rw [if_neg c2] at hM
      refine Ev.call (q := (mr_X8_textAt, [.ref 0, .int a1], [])) rfl (E_X8_textAt_d a1 h c1 c2) ?_
      refine Ev.steps (B := (12, [(2, .null), (0, .ref 0), (1, .int a1)], [.int (-2)], h)) 4 rfl ?_
      obtain ⟨rfl, rfl⟩ := am_sp hM
      exact Ev.ret rfl
def M_X9_wipe (a1 : Int32) (h : AH) : Option (Int32 × AH) :=
  if (M_X9_isTwo a1) = 0 then
    some ((-2), h)
  else
    bif (am_in a1 2) then
      bif (am_in a1 2) then
        some (((h.2.1 76) (Int32.toNatClampNeg a1)), (am_sa h 76 (upd (h.2.1 76) (Int32.toNatClampNeg a1) 0)))
      else none
    else none
set_option maxRecDepth 10000 in
theorem E_X9_wipe_75 (a1 : Int32) (h : AH) (vR : Int32) (hR : AH) (hM : M_X9_wipe a1 h = some (vR, hR)) : Ev none mr_X9_wipe (0, [(0, .ref 75), (1, .int a1)], [], h) (some (.int vR)) hR := by
  unfold M_X9_wipe at hM
  refine Ev.steps (B := (1, [(0, .ref 75), (1, .int a1)], [.int a1], h)) 1 rfl ?_
  refine Ev.call (q := (mr_X9_isTwo, [.int a1], [])) rfl (E_X9_isTwo a1 h) ?_
  refine Ev.br (b := decide (¬ (M_X9_isTwo a1) = 0)) rfl (fun c1 => ?_) (fun c1 => ?_)
  · have c1 := of_decide_eq_true c1
    rw [if_neg c1] at hM
    refine Ev.steps (B := (15, [(0, .ref 75), (1, .int a1)], [.int a1, .ref 76], h)) 3 rfl ?_
    obtain ⟨g2, hM⟩ := am_gS hM
    refine Ev.g (B := (16, [(0, .ref 75), (1, .int a1)], [.int ((h.2.1 76) (Int32.toNatClampNeg a1))], h)) g2 rfl ?_
    refine Ev.steps (B := (23, [(2, .int ((h.2.1 76) (Int32.toNatClampNeg a1))), (0, .ref 75), (1, .int a1)], [.int 0, .int a1, .ref 76], h)) 5 rfl ?_
    obtain ⟨g3, hM⟩ := am_gS hM
    refine Ev.g (B := (24, [(2, .int ((h.2.1 76) (Int32.toNatClampNeg a1))), (0, .ref 75), (1, .int a1)], [], (am_sa h 76 (upd (h.2.1 76) (Int32.toNatClampNeg a1) 0)))) g3 rfl ?_
    refine Ev.steps (B := (25, [(2, .int ((h.2.1 76) (Int32.toNatClampNeg a1))), (0, .ref 75), (1, .int a1)], [.int ((h.2.1 76) (Int32.toNatClampNeg a1))], (am_sa h 76 (upd (h.2.1 76) (Int32.toNatClampNeg a1) 0)))) 1 rfl ?_
    obtain ⟨rfl, rfl⟩ := am_sp hM
    exact Ev.ret rfl
  · have c1 := Decidable.of_not_not (of_decide_eq_false c1)
    rw [if_pos c1] at hM
    refine Ev.steps (B := (9, [(0, .ref 75), (1, .int a1)], [.int (-2)], h)) 1 rfl ?_
    obtain ⟨rfl, rfl⟩ := am_sp hM
    exact Ev.ret rfl
def B_X8_undo_6 (n : Nat) (q2 : Nat) (h : AH) : Option (Int32 × AH) :=
  if 0 < (h.1 q2 4) then
    am_v (M_X6_shorten n q2 ((h.1 q2 4) - 1) h) fun h1 =>
    am_v (M_X8_changed n h1) fun h2 =>
    some ((h2.1 q2 4), h2)
  else
    some ((-3), h)
set_option maxRecDepth 10000 in
theorem E_B_X8_undo_6_1 (n : Nat) (vR : Int32) (hR : AH) (h : AH) (hM : B_X8_undo_6 n 1 h = some (vR, hR)) : Ev none mr_X8_undo (6, [(0, .ref 0), (2, .ref 1)], [], h) (some (.int vR)) hR := by
  unfold B_X8_undo_6 at hM
  refine Ev.steps (B := (17, [(0, .ref 0), (2, .ref 1)], [.int (h.1 1 4)], h)) 4 rfl ?_
  refine Ev.br (b := decide (0 < (h.1 1 4))) rfl (fun c1 => ?_) (fun c1 => ?_)
  · have c1 := of_decide_eq_true c1
    rw [if_pos c1] at hM
    refine Ev.steps (B := (30, [(0, .ref 0), (2, .ref 1)], [.int ((h.1 1 4) - 1), .ref 1], h)) 5 rfl ?_
    obtain ⟨h1, e2, hM⟩ := am_vS hM
    refine Ev.call (q := (mr_X6_shorten, [.ref 1, .int ((h.1 1 4) - 1)], [])) rfl (E_X6_shorten_1 n ((h.1 1 4) - 1) h h1 e2) ?_
    refine Ev.steps (B := (34, [(0, .ref 0), (2, .ref 1)], [.ref 0], h1)) 1 rfl ?_
    obtain ⟨h2, e3, hM⟩ := am_vS hM
    refine Ev.call (q := (mr_X8_changed, [.ref 0], [])) rfl (E_X8_changed_0 n h1 h2 e3) ?_
    refine Ev.steps (B := (41, [(0, .ref 0), (2, .ref 1)], [.int (h2.1 1 4)], h2)) 2 rfl ?_
    obtain ⟨rfl, rfl⟩ := am_sp hM
    exact Ev.ret rfl
  · have c1 := of_decide_eq_false c1
    rw [if_neg c1] at hM
    refine Ev.steps (B := (22, [(0, .ref 0), (2, .ref 1)], [.int (-3)], h)) 1 rfl ?_
    obtain ⟨rfl, rfl⟩ := am_sp hM
    exact Ev.ret rfl
set_option maxRecDepth 10000 in
theorem E_B_X8_undo_6_7 (n : Nat) (vR : Int32) (hR : AH) (h : AH) (hM : B_X8_undo_6 n 7 h = some (vR, hR)) : Ev none mr_X8_undo (6, [(0, .ref 0), (2, .ref 7)], [], h) (some (.int vR)) hR := by
  unfold B_X8_undo_6 at hM
  refine Ev.steps (B := (17, [(0, .ref 0), (2, .ref 7)], [.int (h.1 7 4)], h)) 4 rfl ?_
  refine Ev.br (b := decide (0 < (h.1 7 4))) rfl (fun c1 => ?_) (fun c1 => ?_)
  · have c1 := of_decide_eq_true c1
    rw [if_pos c1] at hM
    refine Ev.steps (B := (30, [(0, .ref 0), (2, .ref 7)], [.int ((h.1 7 4) - 1), .ref 7], h)) 5 rfl ?_
    obtain ⟨h1, e2, hM⟩ := am_vS hM
    refine Ev.call (q := (mr_X6_shorten, [.ref 7, .int ((h.1 7 4) - 1)], [])) rfl (E_X6_shorten_7 n ((h.1 7 4) - 1) h h1 e2) ?_
    refine Ev.steps (B := (34, [(0, .ref 0), (2, .ref 7)], [.ref 0], h1)) 1 rfl ?_
    obtain ⟨h2, e3, hM⟩ := am_vS hM
    refine Ev.call (q := (mr_X8_changed, [.ref 0], [])) rfl (E_X8_changed_0 n h1 h2 e3) ?_
    refine Ev.steps (B := (41, [(0, .ref 0), (2, .ref 7)], [.int (h2.1 7 4)], h2)) 2 rfl ?_
    obtain ⟨rfl, rfl⟩ := am_sp hM
    exact Ev.ret rfl
  · have c1 := of_decide_eq_false c1
    rw [if_neg c1] at hM
    refine Ev.steps (B := (22, [(0, .ref 0), (2, .ref 7)], [.int (-3)], h)) 1 rfl ?_
    obtain ⟨rfl, rfl⟩ := am_sp hM
    exact Ev.ret rfl
def M_X8_undo (n : Nat) (a1 : Int32) (h : AH) : Option (Int32 × AH) :=
  if a1 = 0 then
    B_X8_undo_6 n 1 h
  else
  if a1 = 1 then
    B_X8_undo_6 n 7 h
  else
    some ((-2), h)
set_option maxRecDepth 10000 in
theorem E_X8_undo_0 (n : Nat) (a1 : Int32) (h : AH) (vR : Int32) (hR : AH) (hM : M_X8_undo n a1 h = some (vR, hR)) : Ev none mr_X8_undo (0, [(0, .ref 0), (1, .int a1)], [], h) (some (.int vR)) hR := by
  unfold M_X8_undo at hM
  refine Ev.steps (B := (2, [(0, .ref 0), (1, .int a1)], [.int a1, .ref 0], h)) 2 rfl ?_
  by_cases c1 : a1 = 0
  · rw [if_pos c1] at hM
    refine Ev.call (q := (mr_X8_textAt, [.ref 0, .int a1], [])) rfl (E_X8_textAt_1 a1 h c1) ?_
    refine Ev.steps (B := (6, [(2, .ref 1), (0, .ref 0), (1, .int a1)], [], h)) 1 rfl ?_
    refine Ev.lv (lv := [(0, .ref 0), (2, .ref 1)]) ⟨rfl, rfl, trivial⟩ rfl rfl ?_
    exact E_B_X8_undo_6_1 n vR hR h hM
  · rw [if_neg c1] at hM
    by_cases c2 : a1 = 1
    · rw [if_pos c2] at hM
      refine Ev.call (q := (mr_X8_textAt, [.ref 0, .int a1], [])) rfl (E_X8_textAt_7 a1 h c2) ?_
      refine Ev.steps (B := (6, [(2, .ref 7), (0, .ref 0), (1, .int a1)], [], h)) 1 rfl ?_
      refine Ev.lv (lv := [(0, .ref 0), (2, .ref 7)]) ⟨rfl, rfl, trivial⟩ rfl rfl ?_
      exact E_B_X8_undo_6_7 n vR hR h hM
    · rw [if_neg c2] at hM
      refine Ev.call (q := (mr_X8_textAt, [.ref 0, .int a1], [])) rfl (E_X8_textAt_d a1 h c1 c2) ?_
      refine Ev.steps (B := (12, [(2, .null), (0, .ref 0), (1, .int a1)], [.int (-2)], h)) 4 rfl ?_
      obtain ⟨rfl, rfl⟩ := am_sp hM
      exact Ev.ret rfl
def M_X9_undo (a1 : Int32) (h : AH) : Option (Int32 × AH) :=
  if (M_X9_isTwo a1) = 0 then
    some ((-2), h)
  else
    bif (am_in a1 2) then
      if ((h.2.1 76) (Int32.toNatClampNeg a1)) = 0 then
        some ((-3), h)
      else
        bif (am_in a1 2) then
          bif (am_in a1 2) then
            bif (am_in a1 2) then
              some (((upd (h.2.1 76) (Int32.toNatClampNeg a1) (((h.2.1 76) (Int32.toNatClampNeg a1)) - 1)) (Int32.toNatClampNeg a1)), (am_sa h 76 (upd (h.2.1 76) (Int32.toNatClampNeg a1) (((h.2.1 76) (Int32.toNatClampNeg a1)) - 1))))
            else none
          else none
        else none
    else none
set_option maxRecDepth 10000 in
theorem E_X9_undo_75 (a1 : Int32) (h : AH) (vR : Int32) (hR : AH) (hM : M_X9_undo a1 h = some (vR, hR)) : Ev none mr_X9_undo (0, [(0, .ref 75), (1, .int a1)], [], h) (some (.int vR)) hR := by
  unfold M_X9_undo at hM
  refine Ev.steps (B := (1, [(0, .ref 75), (1, .int a1)], [.int a1], h)) 1 rfl ?_
  refine Ev.call (q := (mr_X9_isTwo, [.int a1], [])) rfl (E_X9_isTwo a1 h) ?_
  refine Ev.br (b := decide (¬ (M_X9_isTwo a1) = 0)) rfl (fun c1 => ?_) (fun c1 => ?_)
  · have c1 := of_decide_eq_true c1
    rw [if_neg c1] at hM
    refine Ev.steps (B := (15, [(0, .ref 75), (1, .int a1)], [.int a1, .ref 76], h)) 3 rfl ?_
    obtain ⟨g2, hM⟩ := am_gS hM
    refine Ev.g (B := (16, [(0, .ref 75), (1, .int a1)], [.int ((h.2.1 76) (Int32.toNatClampNeg a1))], h)) g2 rfl ?_
    refine Ev.br (b := decide (¬ ((h.2.1 76) (Int32.toNatClampNeg a1)) = 0)) rfl (fun c3 => ?_) (fun c3 => ?_)
    · have c3 := of_decide_eq_true c3
      rw [if_neg c3] at hM
      refine Ev.steps (B := (28, [(0, .ref 75), (1, .int a1)], [.int a1, .ref 76, .int a1, .ref 76], h)) 4 rfl ?_
      obtain ⟨g4, hM⟩ := am_gS hM
      refine Ev.g (B := (29, [(0, .ref 75), (1, .int a1)], [.int ((h.2.1 76) (Int32.toNatClampNeg a1)), .int a1, .ref 76], h)) g4 rfl ?_
      refine Ev.steps (B := (31, [(0, .ref 75), (1, .int a1)], [.int (((h.2.1 76) (Int32.toNatClampNeg a1)) - 1), .int a1, .ref 76], h)) 2 rfl ?_
      obtain ⟨g5, hM⟩ := am_gS hM
      refine Ev.g (B := (32, [(0, .ref 75), (1, .int a1)], [], (am_sa h 76 (upd (h.2.1 76) (Int32.toNatClampNeg a1) (((h.2.1 76) (Int32.toNatClampNeg a1)) - 1))))) g5 rfl ?_
      refine Ev.steps (B := (37, [(0, .ref 75), (1, .int a1)], [.int a1, .ref 76], (am_sa h 76 (upd (h.2.1 76) (Int32.toNatClampNeg a1) (((h.2.1 76) (Int32.toNatClampNeg a1)) - 1))))) 3 rfl ?_
      obtain ⟨g6, hM⟩ := am_gS hM
      refine Ev.g (B := (38, [(0, .ref 75), (1, .int a1)], [.int ((upd (h.2.1 76) (Int32.toNatClampNeg a1) (((h.2.1 76) (Int32.toNatClampNeg a1)) - 1)) (Int32.toNatClampNeg a1))], (am_sa h 76 (upd (h.2.1 76) (Int32.toNatClampNeg a1) (((h.2.1 76) (Int32.toNatClampNeg a1)) - 1))))) g6 rfl ?_
      obtain ⟨rfl, rfl⟩ := am_sp hM
      exact Ev.ret rfl
    · have c3 := Decidable.of_not_not (of_decide_eq_false c3)
      rw [if_pos c3] at hM
      refine Ev.steps (B := (21, [(0, .ref 75), (1, .int a1)], [.int (-3)], h)) 1 rfl ?_
      obtain ⟨rfl, rfl⟩ := am_sp hM
      exact Ev.ret rfl
  · have c1 := Decidable.of_not_not (of_decide_eq_false c1)
    rw [if_pos c1] at hM
    refine Ev.steps (B := (9, [(0, .ref 75), (1, .int a1)], [.int (-2)], h)) 1 rfl ?_
    obtain ⟨rfl, rfl⟩ := am_sp hM
    exact Ev.ret rfl
def B_X8_fault_6 (q2 : Nat) (h : AH) : Int32 :=
  (h.1 q2 5)
set_option maxRecDepth 10000 in
theorem E_B_X8_fault_6_1 (h : AH) : Ev none mr_X8_fault (6, [(2, .ref 1)], [], h) (some (.int (B_X8_fault_6 1 h))) h := by
  unfold B_X8_fault_6
  refine Ev.steps (B := (19, [(2, .ref 1)], [.int (h.1 1 5)], h)) 4 rfl ?_
  exact Ev.ret rfl
set_option maxRecDepth 10000 in
theorem E_B_X8_fault_6_7 (h : AH) : Ev none mr_X8_fault (6, [(2, .ref 7)], [], h) (some (.int (B_X8_fault_6 7 h))) h := by
  unfold B_X8_fault_6
  refine Ev.steps (B := (19, [(2, .ref 7)], [.int (h.1 7 5)], h)) 4 rfl ?_
  exact Ev.ret rfl
def M_X8_fault (a1 : Int32) (h : AH) : Int32 :=
  if a1 = 0 then
    B_X8_fault_6 1 h
  else
  if a1 = 1 then
    B_X8_fault_6 7 h
  else
    (-2)
set_option maxRecDepth 10000 in
theorem E_X8_fault_0 (a1 : Int32) (h : AH) : Ev none mr_X8_fault (0, [(0, .ref 0), (1, .int a1)], [], h) (some (.int (M_X8_fault a1 h))) h := by
  unfold M_X8_fault
  refine Ev.steps (B := (2, [(0, .ref 0), (1, .int a1)], [.int a1, .ref 0], h)) 2 rfl ?_
  by_cases c1 : a1 = 0
  · rw [if_pos c1]
    refine Ev.call (q := (mr_X8_textAt, [.ref 0, .int a1], [])) rfl (E_X8_textAt_1 a1 h c1) ?_
    refine Ev.steps (B := (6, [(2, .ref 1), (0, .ref 0), (1, .int a1)], [], h)) 1 rfl ?_
    refine Ev.lv (lv := [(2, .ref 1)]) ⟨rfl, trivial⟩ rfl rfl ?_
    exact E_B_X8_fault_6_1 h
  · rw [if_neg c1]
    by_cases c2 : a1 = 1
    · rw [if_pos c2]
      refine Ev.call (q := (mr_X8_textAt, [.ref 0, .int a1], [])) rfl (E_X8_textAt_7 a1 h c2) ?_
      refine Ev.steps (B := (6, [(2, .ref 7), (0, .ref 0), (1, .int a1)], [], h)) 1 rfl ?_
      refine Ev.lv (lv := [(2, .ref 7)]) ⟨rfl, trivial⟩ rfl rfl ?_
      exact E_B_X8_fault_6_7 h
    · rw [if_neg c2]
      refine Ev.call (q := (mr_X8_textAt, [.ref 0, .int a1], [])) rfl (E_X8_textAt_d a1 h c1 c2) ?_
      refine Ev.steps (B := (19, [(2, .null), (0, .ref 0), (1, .int a1)], [.int (-2)], h)) 5 rfl ?_
      exact Ev.ret rfl
def M_X9_byteAt (a1 : Int32) (a2 : Int32) (h : AH) : Option Int32 :=
  bif (am_in a1 2) then
    if ((h.2.1 76) (Int32.toNatClampNeg a1)) ≤ a2 then
      some (-1)
    else
      bif (am_in ((31 * a1) + a2) 62) then
        some ((h.2.1 77) (Int32.toNatClampNeg ((31 * a1) + a2)))
      else none
  else none
set_option maxRecDepth 10000 in
theorem E_X9_byteAt_75 (a1 : Int32) (a2 : Int32) (h : AH) (vR : Int32) (hM : M_X9_byteAt a1 a2 h = some vR) : Ev none mr_X9_byteAt (0, [(0, .ref 75), (1, .int a1), (2, .int a2)], [], h) (some (.int vR)) h := by
  unfold M_X9_byteAt at hM
  refine Ev.steps (B := (6, [(0, .ref 75), (1, .int a1), (2, .int a2)], [.int a1, .ref 76, .int a2], h)) 4 rfl ?_
  obtain ⟨g1, hM⟩ := am_gS hM
  refine Ev.g (B := (7, [(0, .ref 75), (1, .int a1), (2, .int a2)], [.int ((h.2.1 76) (Int32.toNatClampNeg a1)), .int a2], h)) g1 rfl ?_
  refine Ev.br (b := decide (((h.2.1 76) (Int32.toNatClampNeg a1)) ≤ a2)) rfl (fun c2 => ?_) (fun c2 => ?_)
  · have c2 := of_decide_eq_true c2
    rw [if_pos c2] at hM
    refine Ev.steps (B := (25, [(0, .ref 75), (1, .int a1), (2, .int a2)], [.int (-1)], h)) 1 rfl ?_
    obtain rfl := am_s1 hM
    exact Ev.ret rfl
  · have c2 := of_decide_eq_false c2
    rw [if_neg c2] at hM
    refine Ev.steps (B := (20, [(0, .ref 75), (1, .int a1), (2, .int a2)], [.int ((31 * a1) + a2), .ref 77], h)) 7 rfl ?_
    obtain ⟨g3, hM⟩ := am_gS hM
    refine Ev.g (B := (21, [(0, .ref 75), (1, .int a1), (2, .int a2)], [.int ((h.2.1 77) (Int32.toNatClampNeg ((31 * a1) + a2)))], h)) g3 rfl ?_
    refine Ev.steps (B := (25, [(0, .ref 75), (1, .int a1), (2, .int a2)], [.int ((h.2.1 77) (Int32.toNatClampNeg ((31 * a1) + a2)))], h)) 1 rfl ?_
    obtain rfl := am_s1 hM
    exact Ev.ret rfl
def M_X9_isMinute (a1 : Int32) : Int32 :=
  (M_X9_in a1 0 23)
set_option maxRecDepth 10000 in
theorem E_X9_isMinute (a1 : Int32) (h : AH) : Ev none mr_X9_isMinute (0, [(0, .int a1)], [], h) (some (.int (M_X9_isMinute a1))) h := by
  unfold M_X9_isMinute
  refine Ev.steps (B := (4, [(0, .int a1)], [.int 23, .int 0, .int a1], h)) 3 rfl ?_
  refine Ev.call (q := (mr_X9_in, [.int a1, .int 0, .int 23], [])) rfl (E_X9_in a1 0 23 h) ?_
  exact Ev.retg (b := am_b01 (M_X9_in a1 0 23)) (by apply Z_X9_in) rfl
set_option maxRecDepth 10000 in
theorem Z_X9_isMinute (a1 : Int32) : am_b01 (M_X9_isMinute a1) = true := by
  unfold M_X9_isMinute
  apply Z_X9_in
def B_X9_readsPart_136 (x1 : Int32) (x2 : Int32) (x4 : Int32) (x6 : Int32) (x7 : Int32) (y0 : Int32) (y1 : Int32) (y2 : Int32) (h : AH) : Option (Int32 × AH) :=
  if (M_X9_in y2 y1 y0) = 0 then
    some (2, h)
  else
    if x1 = 0 then
      bif (am_in x2 9) then
        bif (am_in x2 9) then
          bif (am_in x2 9) then
            some (3, (am_sa (am_sa (am_sa h 78 (upd (h.2.1 78) (Int32.toNatClampNeg x2) x4)) 79 (upd (h.2.1 79) (Int32.toNatClampNeg x2) x6)) 80 (upd (h.2.1 80) (Int32.toNatClampNeg x2) x7)))
          else none
        else none
      else none
    else
      bif (am_in x2 9) then
        bif (am_in x2 9) then
          bif (am_in x2 9) then
            some (3, (am_sa (am_sa (am_sa h 81 (upd (h.2.1 81) (Int32.toNatClampNeg x2) x4)) 82 (upd (h.2.1 82) (Int32.toNatClampNeg x2) x6)) 83 (upd (h.2.1 83) (Int32.toNatClampNeg x2) x7)))
          else none
        else none
      else none
set_option maxRecDepth 10000 in
theorem E_B_X9_readsPart_136 (vR : Int32) (hR : AH) (x1 : Int32) (x2 : Int32) (x4 : Int32) (x6 : Int32) (x7 : Int32) (y0 : Int32) (y1 : Int32) (y2 : Int32) (h : AH) (hM : B_X9_readsPart_136 x1 x2 x4 x6 x7 y0 y1 y2 h = some (vR, hR)) : Ev none mr_X9_readsPart (136, [(0, .ref 75), (1, .int x1), (2, .int x2), (4, .int x4), (6, .int x6), (7, .int x7)], [.int y0, .int y1, .int y2], h) (some (.int vR)) hR := by
  unfold B_X9_readsPart_136 at hM
  refine Ev.call (q := (mr_X9_in, [.int y2, .int y1, .int y0], [])) rfl (E_X9_in y2 y1 y0 h) ?_
  refine Ev.br (b := decide (¬ (M_X9_in y2 y1 y0) = 0)) rfl (fun c1 => ?_) (fun c1 => ?_)
  · have c1 := of_decide_eq_true c1
    rw [if_neg c1] at hM
    refine Ev.steps (B := (145, [(0, .ref 75), (1, .int x1), (2, .int x2), (4, .int x4), (6, .int x6), (7, .int x7)], [.int x1], h)) 1 rfl ?_
    refine Ev.br (b := decide (¬ x1 = 0)) rfl (fun c2 => ?_) (fun c2 => ?_)
    · have c2 := of_decide_eq_true c2
      rw [if_neg c2] at hM
      refine Ev.steps (B := (182, [(0, .ref 75), (1, .int x1), (2, .int x2), (4, .int x4), (6, .int x6), (7, .int x7)], [.int x4, .int x2, .ref 81], h)) 4 rfl ?_
      obtain ⟨g3, hM⟩ := am_gS hM
      refine Ev.g (B := (183, [(0, .ref 75), (1, .int x1), (2, .int x2), (4, .int x4), (6, .int x6), (7, .int x7)], [], (am_sa h 81 (upd (h.2.1 81) (Int32.toNatClampNeg x2) x4)))) g3 rfl ?_
      refine Ev.steps (B := (190, [(0, .ref 75), (1, .int x1), (2, .int x2), (4, .int x4), (6, .int x6), (7, .int x7)], [.int x6, .int x2, .ref 82], (am_sa h 81 (upd (h.2.1 81) (Int32.toNatClampNeg x2) x4)))) 4 rfl ?_
      obtain ⟨g4, hM⟩ := am_gS hM
      refine Ev.g (B := (191, [(0, .ref 75), (1, .int x1), (2, .int x2), (4, .int x4), (6, .int x6), (7, .int x7)], [], (am_sa (am_sa h 81 (upd (h.2.1 81) (Int32.toNatClampNeg x2) x4)) 82 (upd (h.2.1 82) (Int32.toNatClampNeg x2) x6)))) g4 rfl ?_
      refine Ev.steps (B := (198, [(0, .ref 75), (1, .int x1), (2, .int x2), (4, .int x4), (6, .int x6), (7, .int x7)], [.int x7, .int x2, .ref 83], (am_sa (am_sa h 81 (upd (h.2.1 81) (Int32.toNatClampNeg x2) x4)) 82 (upd (h.2.1 82) (Int32.toNatClampNeg x2) x6)))) 4 rfl ?_
      obtain ⟨g5, hM⟩ := am_gS hM
      refine Ev.g (B := (199, [(0, .ref 75), (1, .int x1), (2, .int x2), (4, .int x4), (6, .int x6), (7, .int x7)], [], (am_sa (am_sa (am_sa h 81 (upd (h.2.1 81) (Int32.toNatClampNeg x2) x4)) 82 (upd (h.2.1 82) (Int32.toNatClampNeg x2) x6)) 83 (upd (h.2.1 83) (Int32.toNatClampNeg x2) x7)))) g5 rfl ?_
      refine Ev.steps (B := (200, [(0, .ref 75), (1, .int x1), (2, .int x2), (4, .int x4), (6, .int x6), (7, .int x7)], [.int 3], (am_sa (am_sa (am_sa h 81 (upd (h.2.1 81) (Int32.toNatClampNeg x2) x4)) 82 (upd (h.2.1 82) (Int32.toNatClampNeg x2) x6)) 83 (upd (h.2.1 83) (Int32.toNatClampNeg x2) x7)))) 1 rfl ?_
      obtain ⟨rfl, rfl⟩ := am_sp hM
      exact Ev.ret rfl
    · have c2 := Decidable.of_not_not (of_decide_eq_false c2)
      rw [if_pos c2] at hM
      refine Ev.steps (B := (155, [(0, .ref 75), (1, .int x1), (2, .int x2), (4, .int x4), (6, .int x6), (7, .int x7)], [.int x4, .int x2, .ref 78], h)) 4 rfl ?_
      obtain ⟨g6, hM⟩ := am_gS hM
      refine Ev.g (B := (156, [(0, .ref 75), (1, .int x1), (2, .int x2), (4, .int x4), (6, .int x6), (7, .int x7)], [], (am_sa h 78 (upd (h.2.1 78) (Int32.toNatClampNeg x2) x4)))) g6 rfl ?_
      refine Ev.steps (B := (163, [(0, .ref 75), (1, .int x1), (2, .int x2), (4, .int x4), (6, .int x6), (7, .int x7)], [.int x6, .int x2, .ref 79], (am_sa h 78 (upd (h.2.1 78) (Int32.toNatClampNeg x2) x4)))) 4 rfl ?_
      obtain ⟨g7, hM⟩ := am_gS hM
      refine Ev.g (B := (164, [(0, .ref 75), (1, .int x1), (2, .int x2), (4, .int x4), (6, .int x6), (7, .int x7)], [], (am_sa (am_sa h 78 (upd (h.2.1 78) (Int32.toNatClampNeg x2) x4)) 79 (upd (h.2.1 79) (Int32.toNatClampNeg x2) x6)))) g7 rfl ?_
      refine Ev.steps (B := (171, [(0, .ref 75), (1, .int x1), (2, .int x2), (4, .int x4), (6, .int x6), (7, .int x7)], [.int x7, .int x2, .ref 80], (am_sa (am_sa h 78 (upd (h.2.1 78) (Int32.toNatClampNeg x2) x4)) 79 (upd (h.2.1 79) (Int32.toNatClampNeg x2) x6)))) 4 rfl ?_
      obtain ⟨g8, hM⟩ := am_gS hM
      refine Ev.g (B := (172, [(0, .ref 75), (1, .int x1), (2, .int x2), (4, .int x4), (6, .int x6), (7, .int x7)], [], (am_sa (am_sa (am_sa h 78 (upd (h.2.1 78) (Int32.toNatClampNeg x2) x4)) 79 (upd (h.2.1 79) (Int32.toNatClampNeg x2) x6)) 80 (upd (h.2.1 80) (Int32.toNatClampNeg x2) x7)))) g8 rfl ?_
      refine Ev.steps (B := (200, [(0, .ref 75), (1, .int x1), (2, .int x2), (4, .int x4), (6, .int x6), (7, .int x7)], [.int 3], (am_sa (am_sa (am_sa h 78 (upd (h.2.1 78) (Int32.toNatClampNeg x2) x4)) 79 (upd (h.2.1 79) (Int32.toNatClampNeg x2) x6)) 80 (upd (h.2.1 80) (Int32.toNatClampNeg x2) x7)))) 2 rfl ?_
      obtain ⟨rfl, rfl⟩ := am_sp hM
      exact Ev.ret rfl
  · have c1 := Decidable.of_not_not (of_decide_eq_false c1)
    rw [if_pos c1] at hM
    refine Ev.steps (B := (143, [(0, .ref 75), (1, .int x1), (2, .int x2), (4, .int x4), (6, .int x6), (7, .int x7)], [.int 2], h)) 1 rfl ?_
    obtain ⟨rfl, rfl⟩ := am_sp hM
    exact Ev.ret rfl
def B_X9_readsPart_85 (x1 : Int32) (x2 : Int32) (x3 : Int32) (x4 : Int32) (y0 : Int32) (h : AH) : Option (Int32 × AH) :=
  am_o (M_X9_byteAt x1 (x3 + 2) h) fun v1 =>
  if x2 = 8 then
    some (0, h)
  else
    if (M_X9_isMinute x4) = 0 then
      some (0, h)
    else
      if y0 = (-1) then
        some (1, h)
      else
        if x1 = 0 then
          B_X9_readsPart_136 x1 x2 x4 y0 (v1 - 48) 3 1 (v1 - 48) h
        else
          B_X9_readsPart_136 x1 x2 x4 y0 (v1 - 48) 4 1 (v1 - 48) h
set_option maxRecDepth 10000 in
theorem E_B_X9_readsPart_85 (vR : Int32) (hR : AH) (x1 : Int32) (x2 : Int32) (x3 : Int32) (x4 : Int32) (y0 : Int32) (h : AH) (hM : B_X9_readsPart_85 x1 x2 x3 x4 y0 h = some (vR, hR)) : Ev none mr_X9_readsPart (85, [(0, .ref 75), (1, .int x1), (2, .int x2), (3, .int x3), (4, .int x4)], [.int y0], h) (some (.int vR)) hR := by
  unfold B_X9_readsPart_85 at hM
  refine Ev.steps (B := (92, [(6, .int y0), (0, .ref 75), (1, .int x1), (2, .int x2), (3, .int x3), (4, .int x4)], [.int (x3 + 2), .int x1, .ref 75], h)) 6 rfl ?_
  obtain ⟨v1, e1, hM⟩ := am_oS hM
  refine Ev.call (q := (mr_X9_byteAt, [.ref 75, .int x1, .int (x3 + 2)], [])) rfl (E_X9_byteAt_75 x1 (x3 + 2) h v1 e1) ?_
  refine Ev.steps (B := (103, [(7, .int (v1 - 48)), (6, .int y0), (0, .ref 75), (1, .int x1), (2, .int x2), (3, .int x3), (4, .int x4)], [.int 8, .int x2], h)) 5 rfl ?_
  refine Ev.br (b := decide (x2 = 8)) rfl (fun c2 => ?_) (fun c2 => ?_)
  · have c2 := of_decide_eq_true c2
    rw [if_pos c2] at hM
    refine Ev.steps (B := (115, [(7, .int (v1 - 48)), (6, .int y0), (0, .ref 75), (1, .int x1), (2, .int x2), (3, .int x3), (4, .int x4)], [.int 0], h)) 1 rfl ?_
    obtain ⟨rfl, rfl⟩ := am_sp hM
    exact Ev.ret rfl
  · have c2 := of_decide_eq_false c2
    rw [if_neg c2] at hM
    refine Ev.steps (B := (108, [(7, .int (v1 - 48)), (6, .int y0), (0, .ref 75), (1, .int x1), (2, .int x2), (3, .int x3), (4, .int x4)], [.int x4], h)) 1 rfl ?_
    refine Ev.call (q := (mr_X9_isMinute, [.int x4], [])) rfl (E_X9_isMinute x4 h) ?_
    refine Ev.br (b := decide (¬ (M_X9_isMinute x4) = 0)) rfl (fun c3 => ?_) (fun c3 => ?_)
    · have c3 := of_decide_eq_true c3
      rw [if_neg c3] at hM
      refine Ev.steps (B := (119, [(7, .int (v1 - 48)), (6, .int y0), (0, .ref 75), (1, .int x1), (2, .int x2), (3, .int x3), (4, .int x4)], [.int (-1), .int y0], h)) 2 rfl ?_
      refine Ev.br (b := decide (¬ y0 = (-1))) rfl (fun c4 => ?_) (fun c4 => ?_)
      · have c4 := of_decide_eq_true c4
        rw [if_neg c4] at hM
        refine Ev.steps (B := (128, [(7, .int (v1 - 48)), (6, .int y0), (0, .ref 75), (1, .int x1), (2, .int x2), (3, .int x3), (4, .int x4)], [.int x1, .int 1, .int (v1 - 48)], h)) 3 rfl ?_
        refine Ev.br (b := decide (¬ x1 = 0)) rfl (fun c5 => ?_) (fun c5 => ?_)
        · have c5 := of_decide_eq_true c5
          rw [if_neg c5] at hM
          refine Ev.steps (B := (136, [(7, .int (v1 - 48)), (6, .int y0), (0, .ref 75), (1, .int x1), (2, .int x2), (3, .int x3), (4, .int x4)], [.int 4, .int 1, .int (v1 - 48)], h)) 1 rfl ?_
          refine Ev.lv (lv := [(0, .ref 75), (1, .int x1), (2, .int x2), (4, .int x4), (6, .int y0), (7, .int (v1 - 48))]) ⟨rfl, rfl, rfl, rfl, rfl, rfl, trivial⟩ rfl rfl ?_
          exact E_B_X9_readsPart_136 vR hR x1 x2 x4 y0 (v1 - 48) 4 1 (v1 - 48) h hM
        · have c5 := Decidable.of_not_not (of_decide_eq_false c5)
          rw [if_pos c5] at hM
          refine Ev.steps (B := (136, [(7, .int (v1 - 48)), (6, .int y0), (0, .ref 75), (1, .int x1), (2, .int x2), (3, .int x3), (4, .int x4)], [.int 3, .int 1, .int (v1 - 48)], h)) 2 rfl ?_
          refine Ev.lv (lv := [(0, .ref 75), (1, .int x1), (2, .int x2), (4, .int x4), (6, .int y0), (7, .int (v1 - 48))]) ⟨rfl, rfl, rfl, rfl, rfl, rfl, trivial⟩ rfl rfl ?_
          exact E_B_X9_readsPart_136 vR hR x1 x2 x4 y0 (v1 - 48) 3 1 (v1 - 48) h hM
      · have c4 := Decidable.of_not_not (of_decide_eq_false c4)
        rw [if_pos c4] at hM
        refine Ev.steps (B := (123, [(7, .int (v1 - 48)), (6, .int y0), (0, .ref 75), (1, .int x1), (2, .int x2), (3, .int x3), (4, .int x4)], [.int 1], h)) 1 rfl ?_
        obtain ⟨rfl, rfl⟩ := am_sp hM
        exact Ev.ret rfl
    · have c3 := Decidable.of_not_not (of_decide_eq_false c3)
      rw [if_pos c3] at hM
      refine Ev.steps (B := (115, [(7, .int (v1 - 48)), (6, .int y0), (0, .ref 75), (1, .int x1), (2, .int x2), (3, .int x3), (4, .int x4)], [.int 0], h)) 1 rfl ?_
      obtain ⟨rfl, rfl⟩ := am_sp hM
      exact Ev.ret rfl
