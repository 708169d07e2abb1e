def L_X8_digest_94 (n : Nat) : Nat → Int64 → Int32 → AH → Option (Int64 × AH)
  | 0, _, _, _ => none
  | m + 1, x1, x3, h =>
    if 8 ≤ x3 then
      L_X8_digest_129 n n x1 0 h
    else
      if (h.1 8 3) ≤ x3 then
        L_X8_digest_129 n n x1 0 h
      else
        am_b (M_X8_withGuest n x1 x3 h) fun v2 h1 =>
        L_X8_digest_94 n m v2 (x3 + 1) h1
set_option maxRecDepth 10000 in
theorem E_L_X8_digest_94 (n : Nat) (vR : Int64) (hR : AH) : ∀ (m : Nat) (x1 : Int64) (x3 : Int32) (h : AH), L_X8_digest_94 n m x1 x3 h = some (vR, hR) → Ev none mr_X8_digest (94, [(0, .ref 0), (1, .long x1), (3, .int x3)], [], h) (some (.long vR)) hR := by
  intro m
  induction m with
  | zero =>
    intro x1 x3 h hM
    exact (am_no hM).elim
  | succ m ih =>
    intro x1 x3 h hM
    rw [L_X8_digest_94] at hM
    refine Ev.steps (B := (97, [(0, .ref 0), (1, .long x1), (3, .int x3)], [.int 8, .int x3], h)) 2 rfl ?_
    refine Ev.br (b := decide (8 ≤ x3)) rfl (fun c1 => ?_) (fun c1 => ?_)
    · have c1 := of_decide_eq_true c1
      rw [if_pos c1] at hM
      refine Ev.steps (B := (129, [(3, .int 0), (0, .ref 0), (1, .long x1)], [], h)) 2 rfl ?_
      refine Ev.lv (lv := [(0, .ref 0), (1, .long x1), (3, .int 0)]) ⟨rfl, rfl, rfl, trivial⟩ rfl rfl ?_
      exact E_L_X8_digest_129 n vR hR n x1 0 h hM
    · have c1 := of_decide_eq_false c1
      rw [if_neg c1] at hM
      refine Ev.steps (B := (111, [(0, .ref 0), (1, .long x1), (3, .int x3)], [.int (h.1 8 3), .int x3], h)) 5 rfl ?_
      refine Ev.br (b := decide ((h.1 8 3) ≤ x3)) rfl (fun c2 => ?_) (fun c2 => ?_)
      · have c2 := of_decide_eq_true c2
        rw [if_pos c2] at hM
        refine Ev.steps (B := (129, [(3, .int 0), (0, .ref 0), (1, .long x1)], [], h)) 2 rfl ?_
        refine Ev.lv (lv := [(0, .ref 0), (1, .long x1), (3, .int 0)]) ⟨rfl, rfl, rfl, trivial⟩ rfl rfl ?_
        exact E_L_X8_digest_129 n vR hR n x1 0 h hM
      · have c2 := of_decide_eq_false c2
        rw [if_neg c2] at hM
        refine Ev.steps (B := (117, [(0, .ref 0), (1, .long x1), (3, .int x3)], [.int x3, .long x1, .ref 0], h)) 3 rfl ?_
        obtain ⟨v2, h1, e3, hM⟩ := am_bS hM
        refine Ev.call (q := (mr_X8_withGuest, [.ref 0, .long x1, .int x3], [])) rfl (E_X8_withGuest_0 n x1 x3 h v2 h1 e3) ?_
        refine Ev.steps (B := (94, [(3, .int (x3 + 1)), (1, .long v2), (0, .ref 0)], [], h1)) 3 rfl ?_
        refine Ev.lv (lv := [(0, .ref 0), (1, .long v2), (3, .int (x3 + 1))]) ⟨rfl, rfl, rfl, trivial⟩ rfl rfl ?_
        exact ih v2 (x3 + 1) h1 hM
def L_X8_digest_59 (n : Nat) : Nat → Int64 → Int32 → AH → Option (Int64 × AH)
  | 0, _, _, _ => none
  | m + 1, x1, x3, h =>
    if 8 ≤ x3 then
      L_X8_digest_94 n n x1 0 h
    else
      if (h.1 2 3) ≤ x3 then
        L_X8_digest_94 n n x1 0 h
      else
        am_b (M_X8_withPiece n x1 x3 h) fun v2 h1 =>
        L_X8_digest_59 n m v2 (x3 + 1) h1
set_option maxRecDepth 10000 in
theorem E_L_X8_digest_59 (n : Nat) (vR : Int64) (hR : AH) : ∀ (m : Nat) (x1 : Int64) (x3 : Int32) (h : AH), L_X8_digest_59 n m x1 x3 h = some (vR, hR) → Ev none mr_X8_digest (59, [(0, .ref 0), (1, .long x1), (3, .int x3)], [], h) (some (.long vR)) hR := by
  intro m
  induction m with
  | zero =>
    intro x1 x3 h hM
    exact (am_no hM).elim
  | succ m ih =>
    intro x1 x3 h hM
    rw [L_X8_digest_59] at hM
    refine Ev.steps (B := (62, [(0, .ref 0), (1, .long x1), (3, .int x3)], [.int 8, .int x3], h)) 2 rfl ?_
    refine Ev.br (b := decide (8 ≤ x3)) rfl (fun c1 => ?_) (fun c1 => ?_)
    · have c1 := of_decide_eq_true c1
      rw [if_pos c1] at hM
      refine Ev.steps (B := (94, [(3, .int 0), (0, .ref 0), (1, .long x1)], [], h)) 2 rfl ?_
      refine Ev.lv (lv := [(0, .ref 0), (1, .long x1), (3, .int 0)]) ⟨rfl, rfl, rfl, trivial⟩ rfl rfl ?_
      exact E_L_X8_digest_94 n vR hR n x1 0 h hM
    · have c1 := of_decide_eq_false c1
      rw [if_neg c1] at hM
      refine Ev.steps (B := (76, [(0, .ref 0), (1, .long x1), (3, .int x3)], [.int (h.1 2 3), .int x3], h)) 5 rfl ?_
      refine Ev.br (b := decide ((h.1 2 3) ≤ x3)) rfl (fun c2 => ?_) (fun c2 => ?_)
      · have c2 := of_decide_eq_true c2
        rw [if_pos c2] at hM
        refine Ev.steps (B := (94, [(3, .int 0), (0, .ref 0), (1, .long x1)], [], h)) 2 rfl ?_
        refine Ev.lv (lv := [(0, .ref 0), (1, .long x1), (3, .int 0)]) ⟨rfl, rfl, rfl, trivial⟩ rfl rfl ?_
        exact E_L_X8_digest_94 n vR hR n x1 0 h hM
      · have c2 := of_decide_eq_false c2
        rw [if_neg c2] at hM
        refine Ev.steps (B := (82, [(0, .ref 0), (1, .long x1), (3, .int x3)], [.int x3, .long x1, .ref 0], h)) 3 rfl ?_
        obtain ⟨v2, h1, e3, hM⟩ := am_bS hM
        refine Ev.call (q := (mr_X8_withPiece, [.ref 0, .long x1, .int x3], [])) rfl (E_X8_withPiece_0 n x1 x3 h v2 h1 e3) ?_
        refine Ev.steps (B := (59, [(3, .int (x3 + 1)), (1, .long v2), (0, .ref 0)], [], h1)) 3 rfl ?_
        refine Ev.lv (lv := [(0, .ref 0), (1, .long v2), (3, .int (x3 + 1))]) ⟨rfl, rfl, rfl, trivial⟩ rfl rfl ?_
        exact ih v2 (x3 + 1) h1 hM
def L_X8_digest_6 (n : Nat) : Nat → Int64 → Int32 → AH → Option (Int64 × AH)
  | 0, _, _, _ => none
  | m + 1, x1, x3, h =>
    if 7 < x3 then
      am_b (M_X8_withMinutes n (M_X8_joined (M_X8_joined x1 (Int32.toInt64 (M_X8_fault 0 h))) (Int32.toInt64 (M_X8_fault 1 h))) h) fun v2 h1 =>
      L_X8_digest_59 n n v2 0 h1
    else
      am_b (M_X8_count n x3 h) fun v4 h3 =>
      L_X8_digest_6 n m (M_X8_joined x1 (Int32.toInt64 v4)) (x3 + 1) h3
set_option maxRecDepth 10000 in
theorem E_L_X8_digest_6 (n : Nat) (vR : Int64) (hR : AH) : ∀ (m : Nat) (x1 : Int64) (x3 : Int32) (h : AH), L_X8_digest_6 n m x1 x3 h = some (vR, hR) → Ev none mr_X8_digest (6, [(0, .ref 0), (1, .long x1), (3, .int x3)], [], h) (some (.long vR)) hR := by
  intro m
  induction m with
  | zero =>
    intro x1 x3 h hM
    exact (am_no hM).elim
  | succ m ih =>
    intro x1 x3 h hM
    rw [L_X8_digest_6] at hM
    refine Ev.steps (B := (9, [(0, .ref 0), (1, .long x1), (3, .int x3)], [.int 7, .int x3], h)) 2 rfl ?_
    refine Ev.br (b := decide (7 < x3)) rfl (fun c1 => ?_) (fun c1 => ?_)
    · have c1 := of_decide_eq_true c1
      rw [if_pos c1] at hM
      refine Ev.steps (B := (32, [(0, .ref 0), (1, .long x1), (3, .int x3)], [.int 0, .ref 0, .long x1], h)) 3 rfl ?_
      refine Ev.call (q := (mr_X8_fault, [.ref 0, .int 0], [.long x1])) rfl (E_X8_fault_0 0 h) ?_
      refine Ev.steps (B := (36, [(0, .ref 0), (1, .long x1), (3, .int x3)], [.long (Int32.toInt64 (M_X8_fault 0 h)), .long x1], h)) 1 rfl ?_
      refine Ev.call (q := (mr_X8_joined, [.long x1, .long (Int32.toInt64 (M_X8_fault 0 h))], [])) rfl (E_X8_joined x1 (Int32.toInt64 (M_X8_fault 0 h)) h) ?_
      refine Ev.steps (B := (43, [(1, .long (M_X8_joined x1 (Int32.toInt64 (M_X8_fault 0 h)))), (0, .ref 0), (3, .int x3)], [.int 1, .ref 0, .long (M_X8_joined x1 (Int32.toInt64 (M_X8_fault 0 h)))], h)) 4 rfl ?_
      refine Ev.call (q := (mr_X8_fault, [.ref 0, .int 1], [.long (M_X8_joined x1 (Int32.toInt64 (M_X8_fault 0 h)))])) rfl (E_X8_fault_0 1 h) ?_
      refine Ev.steps (B := (47, [(1, .long (M_X8_joined x1 (Int32.toInt64 (M_X8_fault 0 h)))), (0, .ref 0), (3, .int x3)], [.long (Int32.toInt64 (M_X8_fault 1 h)), .long (M_X8_joined x1 (Int32.toInt64 (M_X8_fault 0 h)))], h)) 1 rfl ?_
      refine Ev.call (q := (mr_X8_joined, [.long (M_X8_joined x1 (Int32.toInt64 (M_X8_fault 0 h))), .long (Int32.toInt64 (M_X8_fault 1 h))], [])) rfl (E_X8_joined (M_X8_joined x1 (Int32.toInt64 (M_X8_fault 0 h))) (Int32.toInt64 (M_X8_fault 1 h)) h) ?_
      refine Ev.steps (B := (53, [(1, .long (M_X8_joined (M_X8_joined x1 (Int32.toInt64 (M_X8_fault 0 h))) (Int32.toInt64 (M_X8_fault 1 h)))), (0, .ref 0), (3, .int x3)], [.long (M_X8_joined (M_X8_joined x1 (Int32.toInt64 (M_X8_fault 0 h))) (Int32.toInt64 (M_X8_fault 1 h))), .ref 0], h)) 3 rfl ?_
      obtain ⟨v2, h1, e2, hM⟩ := am_bS hM
      refine Ev.call (q := (mr_X8_withMinutes, [.ref 0, .long (M_X8_joined (M_X8_joined x1 (Int32.toInt64 (M_X8_fault 0 h))) (Int32.toInt64 (M_X8_fault 1 h)))], [])) rfl (E_X8_withMinutes_0 n (M_X8_joined (M_X8_joined x1 (Int32.toInt64 (M_X8_fault 0 h))) (Int32.toInt64 (M_X8_fault 1 h))) h v2 h1 e2) ?_
      refine Ev.steps (B := (59, [(3, .int 0), (1, .long v2), (0, .ref 0)], [], h1)) 3 rfl ?_
      refine Ev.lv (lv := [(0, .ref 0), (1, .long v2), (3, .int 0)]) ⟨rfl, rfl, rfl, trivial⟩ rfl rfl ?_
      exact E_L_X8_digest_59 n vR hR n v2 0 h1 hM
    · have c1 := of_decide_eq_false c1
      rw [if_neg c1] at hM
      refine Ev.steps (B := (15, [(0, .ref 0), (1, .long x1), (3, .int x3)], [.int x3, .ref 0, .long x1], h)) 3 rfl ?_
      obtain ⟨v4, h3, e3, hM⟩ := am_bS hM
      refine Ev.call (q := (mr_X8_count, [.ref 0, .int x3], [.long x1])) rfl (E_X8_count_0 n x3 h v4 h3 e3) ?_
      refine Ev.steps (B := (19, [(0, .ref 0), (1, .long x1), (3, .int x3)], [.long (Int32.toInt64 v4), .long x1], h3)) 1 rfl ?_
      refine Ev.call (q := (mr_X8_joined, [.long x1, .long (Int32.toInt64 v4)], [])) rfl (E_X8_joined x1 (Int32.toInt64 v4) h3) ?_
      refine Ev.steps (B := (6, [(3, .int (x3 + 1)), (1, .long (M_X8_joined x1 (Int32.toInt64 v4))), (0, .ref 0)], [], h3)) 3 rfl ?_
      refine Ev.lv (lv := [(0, .ref 0), (1, .long (M_X8_joined x1 (Int32.toInt64 v4))), (3, .int (x3 + 1))]) ⟨rfl, rfl, rfl, trivial⟩ rfl rfl ?_
      exact ih (M_X8_joined x1 (Int32.toInt64 v4)) (x3 + 1) h3 hM
def M_X8_digest (n : Nat) (h : AH) : Option (Int64 × AH) :=
  L_X8_digest_6 n n 17 0 h
set_option maxRecDepth 10000 in
theorem E_X8_digest_0 (n : Nat) (h : AH) (vR : Int64) (hR : AH) (hM : M_X8_digest n h = some (vR, hR)) : Ev none mr_X8_digest (0, [(0, .ref 0)], [], h) (some (.long vR)) hR := by
  unfold M_X8_digest at hM
  refine Ev.steps (B := (6, [(3, .int 0), (1, .long 17), (0, .ref 0)], [], h)) 4 rfl ?_
  refine Ev.lv (lv := [(0, .ref 0), (1, .long 17), (3, .int 0)]) ⟨rfl, rfl, rfl, trivial⟩ rfl rfl ?_
  exact E_L_X8_digest_6 n vR hR n 17 0 h hM
def L_X9_pieceDigest_6 (n : Nat) : Nat → Int32 → Int64 → Int32 → AH → Option (Int64 × AH)
  | 0, _, _, _, _ => none
  | m + 1, x3, x4, x6, h =>
    if 3 ≤ x6 then
      am_b (M_X9_betterOf n x3 0 h) fun v2 h1 =>
      am_b (M_X9_betterOf n x3 1 h1) fun v4 h3 =>
      am_b (M_X9_kindsBy n x3 h3) fun v6 h5 =>
      some (((31 * ((31 * ((31 * x4) + (Int32.toInt64 v2))) + (Int32.toInt64 v4))) + (Int32.toInt64 v6)), h5)
    else
      am_o (M_X9_pieceOf x3 x6 h) fun v7 =>
      L_X9_pieceDigest_6 n m x3 ((31 * x4) + (Int32.toInt64 v7)) (x6 + 1) h
set_option maxRecDepth 10000 in
theorem E_L_X9_pieceDigest_6 (n : Nat) (vR : Int64) (hR : AH) : ∀ (m : Nat) (x3 : Int32) (x4 : Int64) (x6 : Int32) (h : AH), L_X9_pieceDigest_6 n m x3 x4 x6 h = some (vR, hR) → Ev none mr_X9_pieceDigest (6, [(0, .ref 75), (3, .int x3), (4, .long x4), (6, .int x6)], [], h) (some (.long vR)) hR := by
  intro m
  induction m with
  | zero =>
    intro x3 x4 x6 h hM
    exact (am_no hM).elim
  | succ m ih =>
    intro x3 x4 x6 h hM
    rw [L_X9_pieceDigest_6] at hM
    refine Ev.steps (B := (9, [(0, .ref 75), (3, .int x3), (4, .long x4), (6, .int x6)], [.int 3, .int x6], h)) 2 rfl ?_
    refine Ev.br (b := decide (3 ≤ x6)) rfl (fun c1 => ?_) (fun c1 => ?_)
    · have c1 := of_decide_eq_true c1
      rw [if_pos c1] at hM
      refine Ev.steps (B := (44, [(0, .ref 75), (3, .int x3), (4, .long x4), (6, .int x6)], [.int 0, .int x3, .ref 75, .long (31 * x4)], h)) 6 rfl ?_
      obtain ⟨v2, h1, e2, hM⟩ := am_bS hM
      refine Ev.call (q := (mr_X9_betterOf, [.ref 75, .int x3, .int 0], [.long (31 * x4)])) rfl (E_X9_betterOf_75 n x3 0 h v2 h1 e2) ?_
      refine Ev.steps (B := (60, [(4, .long ((31 * x4) + (Int32.toInt64 v2))), (0, .ref 75), (3, .int x3), (6, .int x6)], [.int 1, .int x3, .ref 75, .long (31 * ((31 * x4) + (Int32.toInt64 v2)))], h1)) 9 rfl ?_
      obtain ⟨v4, h3, e3, hM⟩ := am_bS hM
      refine Ev.call (q := (mr_X9_betterOf, [.ref 75, .int x3, .int 1], [.long (31 * ((31 * x4) + (Int32.toInt64 v2)))])) rfl (E_X9_betterOf_75 n x3 1 h1 v4 h3 e3) ?_
      refine Ev.steps (B := (75, [(4, .long ((31 * ((31 * x4) + (Int32.toInt64 v2))) + (Int32.toInt64 v4))), (0, .ref 75), (3, .int x3), (6, .int x6)], [.int x3, .ref 75, .long (31 * ((31 * ((31 * x4) + (Int32.toInt64 v2))) + (Int32.toInt64 v4)))], h3)) 8 rfl ?_
      obtain ⟨v6, h5, e4, hM⟩ := am_bS hM
      refine Ev.call (q := (mr_X9_kindsBy, [.ref 75, .int x3], [.long (31 * ((31 * ((31 * x4) + (Int32.toInt64 v2))) + (Int32.toInt64 v4)))])) rfl (E_X9_kindsBy_75 n x3 h3 v6 h5 e4) ?_
      refine Ev.steps (B := (80, [(4, .long ((31 * ((31 * x4) + (Int32.toInt64 v2))) + (Int32.toInt64 v4))), (0, .ref 75), (3, .int x3), (6, .int x6)], [.long ((31 * ((31 * ((31 * x4) + (Int32.toInt64 v2))) + (Int32.toInt64 v4))) + (Int32.toInt64 v6))], h5)) 2 rfl ?_
      obtain ⟨rfl, rfl⟩ := am_sp hM
      exact Ev.ret rfl
    · have c1 := of_decide_eq_false c1
      rw [if_neg c1] at hM
      refine Ev.steps (B := (22, [(0, .ref 75), (3, .int x3), (4, .long x4), (6, .int x6)], [.int x6, .int x3, .ref 75, .long (31 * x4)], h)) 6 rfl ?_
      obtain ⟨v7, e5, hM⟩ := am_oS hM
      refine Ev.call (q := (mr_X9_pieceOf, [.ref 75, .int x3, .int x6], [.long (31 * x4)])) rfl (E_X9_pieceOf_75 x3 x6 h v7 e5) ?_
      refine Ev.steps (B := (6, [(6, .int (x6 + 1)), (4, .long ((31 * x4) + (Int32.toInt64 v7))), (0, .ref 75), (3, .int x3)], [], h)) 5 rfl ?_
      refine Ev.lv (lv := [(0, .ref 75), (3, .int x3), (4, .long ((31 * x4) + (Int32.toInt64 v7))), (6, .int (x6 + 1))]) ⟨rfl, rfl, rfl, rfl, trivial⟩ rfl rfl ?_
      exact ih x3 ((31 * x4) + (Int32.toInt64 v7)) (x6 + 1) h hM
def M_X9_pieceDigest (n : Nat) (a1 : Int64) (a2 : Int32) (h : AH) : Option (Int64 × AH) :=
  L_X9_pieceDigest_6 n n a2 a1 0 h
set_option maxRecDepth 10000 in
theorem E_X9_pieceDigest_75 (n : Nat) (a1 : Int64) (a2 : Int32) (h : AH) (vR : Int64) (hR : AH) (hM : M_X9_pieceDigest n a1 a2 h = some (vR, hR)) : Ev none mr_X9_pieceDigest (0, [(0, .ref 75), (1, .long a1), (3, .int a2)], [], h) (some (.long vR)) hR := by
  unfold M_X9_pieceDigest at hM
  refine Ev.steps (B := (6, [(6, .int 0), (4, .long a1), (0, .ref 75), (1, .long a1), (3, .int a2)], [], h)) 4 rfl ?_
  refine Ev.lv (lv := [(0, .ref 75), (3, .int a2), (4, .long a1), (6, .int 0)]) ⟨rfl, rfl, rfl, rfl, trivial⟩ rfl rfl ?_
  exact E_L_X9_pieceDigest_6 n vR hR n a2 a1 0 h hM
def M_X9_isDigest (n : Nat) (a1 : Int64) (a2 : Int32) (a3 : Int32) (h : AH) : Option (Int64 × AH) :=
  am_b (M_X9_isOf n a2 a3 0 h) fun v2 h1 =>
  am_b (M_X9_isOf n a2 a3 1 h1) fun v4 h3 =>
  some (((31 * ((31 * a1) + (Int32.toInt64 v2))) + (Int32.toInt64 v4)), h3)
set_option maxRecDepth 10000 in
theorem E_X9_isDigest_75 (n : Nat) (a1 : Int64) (a2 : Int32) (a3 : Int32) (h : AH) (vR : Int64) (hR : AH) (hM : M_X9_isDigest n a1 a2 a3 h = some (vR, hR)) : Ev none mr_X9_isDigest (0, [(0, .ref 75), (1, .long a1), (3, .int a2), (4, .int a3)], [], h) (some (.long vR)) hR := by
  unfold M_X9_isDigest at hM
  refine Ev.steps (B := (10, [(0, .ref 75), (1, .long a1), (3, .int a2), (4, .int a3)], [.int 0, .int a3, .int a2, .ref 75, .long (31 * a1)], h)) 7 rfl ?_
  obtain ⟨v2, h1, e1, hM⟩ := am_bS hM
  refine Ev.call (q := (mr_X9_isOf, [.ref 75, .int a2, .int a3, .int 0], [.long (31 * a1)])) rfl (E_X9_isOf_75 n a2 a3 0 h v2 h1 e1) ?_
  refine Ev.steps (B := (28, [(5, .long ((31 * a1) + (Int32.toInt64 v2))), (0, .ref 75), (1, .long a1), (3, .int a2), (4, .int a3)], [.int 1, .int a3, .int a2, .ref 75, .long (31 * ((31 * a1) + (Int32.toInt64 v2)))], h1)) 10 rfl ?_
  obtain ⟨v4, h3, e2, hM⟩ := am_bS hM
  refine Ev.call (q := (mr_X9_isOf, [.ref 75, .int a2, .int a3, .int 1], [.long (31 * ((31 * a1) + (Int32.toInt64 v2)))])) rfl (E_X9_isOf_75 n a2 a3 1 h1 v4 h3 e2) ?_
  refine Ev.steps (B := (33, [(5, .long ((31 * a1) + (Int32.toInt64 v2))), (0, .ref 75), (1, .long a1), (3, .int a2), (4, .int a3)], [.long ((31 * ((31 * a1) + (Int32.toInt64 v2))) + (Int32.toInt64 v4))], h3)) 2 rfl ?_
  obtain ⟨rfl, rfl⟩ := am_sp hM
  exact Ev.ret rfl
def L_X9_guestDigest_6 (n : Nat) : Nat → Int32 → Int64 → Int32 → AH → Option (Int64 × AH)
  | 0, _, _, _, _ => none
  | m + 1, x3, x4, x6, h =>
    if 3 ≤ x6 then
      am_b (M_X9_isDigest n x4 4 x3 h) fun v2 h1 =>
      am_b (M_X9_isDigest n v2 11 x3 h1) fun v4 h3 =>
      am_b (M_X9_isDigest n v4 23 x3 h3) fun v6 h5 =>
      am_b (M_X9_waitedOf n x3 h5) fun v8 h7 =>
      am_b (M_X9_comeOf n x3 0 h7) fun v10 h9 =>
      am_b (M_X9_comeOf n x3 1 h9) fun v12 h11 =>
      am_b (M_X9_chanceOf n 5 x3 0 h11) fun v14 h13 =>
      am_b (M_X9_chanceOf n 5 x3 1 h13) fun v16 h15 =>
      some (((31 * ((31 * ((31 * ((31 * ((31 * v6) + (Int32.toInt64 v8))) + (Int32.toInt64 v10))) + (Int32.toInt64 v12))) + v14)) + v16), h15)
    else
      am_o (M_X9_guestOf x3 x6 h) fun v17 =>
      L_X9_guestDigest_6 n m x3 ((31 * x4) + (Int32.toInt64 v17)) (x6 + 1) h
set_option maxRecDepth 10000 in
theorem E_L_X9_guestDigest_6 (n : Nat) (vR : Int64) (hR : AH) : ∀ (m : Nat) (x3 : Int32) (x4 : Int64) (x6 : Int32) (h : AH), L_X9_guestDigest_6 n m x3 x4 x6 h = some (vR, hR) → Ev none mr_X9_guestDigest (6, [(0, .ref 75), (3, .int x3), (4, .long x4), (6, .int x6)], [], h) (some (.long vR)) hR := by
  intro m
  induction m with
  | zero =>
    intro x3 x4 x6 h hM
    exact (am_no hM).elim
  | succ m ih =>
    intro x3 x4 x6 h hM
    rw [L_X9_guestDigest_6] at hM
    refine Ev.steps (B := (9, [(0, .ref 75), (3, .int x3), (4, .long x4), (6, .int x6)], [.int 3, .int x6], h)) 2 rfl ?_
    refine Ev.br (b := decide (3 ≤ x6)) rfl (fun c1 => ?_) (fun c1 => ?_)
    · have c1 := of_decide_eq_true c1
      rw [if_pos c1] at hM
      refine Ev.steps (B := (40, [(0, .ref 75), (3, .int x3), (4, .long x4), (6, .int x6)], [.int x3, .int 4, .long x4, .ref 75], h)) 4 rfl ?_
      obtain ⟨v2, h1, e2, hM⟩ := am_bS hM
      refine Ev.call (q := (mr_X9_isDigest, [.ref 75, .long x4, .int 4, .int x3], [])) rfl (E_X9_isDigest_75 n x4 4 x3 h v2 h1 e2) ?_
      refine Ev.steps (B := (51, [(4, .long v2), (0, .ref 75), (3, .int x3), (6, .int x6)], [.int x3, .int 11, .long v2, .ref 75], h1)) 5 rfl ?_
      obtain ⟨v4, h3, e3, hM⟩ := am_bS hM
      refine Ev.call (q := (mr_X9_isDigest, [.ref 75, .long v2, .int 11, .int x3], [])) rfl (E_X9_isDigest_75 n v2 11 x3 h1 v4 h3 e3) ?_
      refine Ev.steps (B := (62, [(4, .long v4), (0, .ref 75), (3, .int x3), (6, .int x6)], [.int x3, .int 23, .long v4, .ref 75], h3)) 5 rfl ?_
      obtain ⟨v6, h5, e4, hM⟩ := am_bS hM
      refine Ev.call (q := (mr_X9_isDigest, [.ref 75, .long v4, .int 23, .int x3], [])) rfl (E_X9_isDigest_75 n v4 23 x3 h3 v6 h5 e4) ?_
      refine Ev.steps (B := (75, [(4, .long v6), (0, .ref 75), (3, .int x3), (6, .int x6)], [.int x3, .ref 75, .long (31 * v6)], h5)) 6 rfl ?_
      obtain ⟨v8, h7, e5, hM⟩ := am_bS hM
      refine Ev.call (q := (mr_X9_waitedOf, [.ref 75, .int x3], [.long (31 * v6)])) rfl (E_X9_waitedOf_75 n x3 h5 v8 h7 e5) ?_
      refine Ev.steps (B := (91, [(4, .long ((31 * v6) + (Int32.toInt64 v8))), (0, .ref 75), (3, .int x3), (6, .int x6)], [.int 0, .int x3, .ref 75, .long (31 * ((31 * v6) + (Int32.toInt64 v8)))], h7)) 9 rfl ?_
      obtain ⟨v10, h9, e6, hM⟩ := am_bS hM
      refine Ev.call (q := (mr_X9_comeOf, [.ref 75, .int x3, .int 0], [.long (31 * ((31 * v6) + (Int32.toInt64 v8)))])) rfl (E_X9_comeOf_75 n x3 0 h7 v10 h9 e6) ?_
      refine Ev.steps (B := (107, [(4, .long ((31 * ((31 * v6) + (Int32.toInt64 v8))) + (Int32.toInt64 v10))), (0, .ref 75), (3, .int x3), (6, .int x6)], [.int 1, .int x3, .ref 75, .long (31 * ((31 * ((31 * v6) + (Int32.toInt64 v8))) + (Int32.toInt64 v10)))], h9)) 9 rfl ?_
      obtain ⟨v12, h11, e7, hM⟩ := am_bS hM
      refine Ev.call (q := (mr_X9_comeOf, [.ref 75, .int x3, .int 1], [.long (31 * ((31 * ((31 * v6) + (Int32.toInt64 v8))) + (Int32.toInt64 v10)))])) rfl (E_X9_comeOf_75 n x3 1 h9 v12 h11 e7) ?_
      refine Ev.steps (B := (124, [(4, .long ((31 * ((31 * ((31 * v6) + (Int32.toInt64 v8))) + (Int32.toInt64 v10))) + (Int32.toInt64 v12))), (0, .ref 75), (3, .int x3), (6, .int x6)], [.int 0, .int x3, .int 5, .ref 75, .long (31 * ((31 * ((31 * ((31 * v6) + (Int32.toInt64 v8))) + (Int32.toInt64 v10))) + (Int32.toInt64 v12)))], h11)) 10 rfl ?_
      obtain ⟨v14, h13, e8, hM⟩ := am_bS hM
      refine Ev.call (q := (mr_X9_chanceOf, [.ref 75, .int 5, .int x3, .int 0], [.long (31 * ((31 * ((31 * ((31 * v6) + (Int32.toInt64 v8))) + (Int32.toInt64 v10))) + (Int32.toInt64 v12)))])) rfl (E_X9_chanceOf_75 n 5 x3 0 h11 v14 h13 e8) ?_
      refine Ev.steps (B := (140, [(4, .long ((31 * ((31 * ((31 * ((31 * v6) + (Int32.toInt64 v8))) + (Int32.toInt64 v10))) + (Int32.toInt64 v12))) + v14)), (0, .ref 75), (3, .int x3), (6, .int x6)], [.int 1, .int x3, .int 5, .ref 75, .long (31 * ((31 * ((31 * ((31 * ((31 * v6) + (Int32.toInt64 v8))) + (Int32.toInt64 v10))) + (Int32.toInt64 v12))) + v14))], h13)) 9 rfl ?_
      obtain ⟨v16, h15, e9, hM⟩ := am_bS hM
      refine Ev.call (q := (mr_X9_chanceOf, [.ref 75, .int 5, .int x3, .int 1], [.long (31 * ((31 * ((31 * ((31 * ((31 * v6) + (Int32.toInt64 v8))) + (Int32.toInt64 v10))) + (Int32.toInt64 v12))) + v14))])) rfl (E_X9_chanceOf_75 n 5 x3 1 h13 v16 h15 e9) ?_
      refine Ev.steps (B := (144, [(4, .long ((31 * ((31 * ((31 * ((31 * v6) + (Int32.toInt64 v8))) + (Int32.toInt64 v10))) + (Int32.toInt64 v12))) + v14)), (0, .ref 75), (3, .int x3), (6, .int x6)], [.long ((31 * ((31 * ((31 * ((31 * ((31 * v6) + (Int32.toInt64 v8))) + (Int32.toInt64 v10))) + (Int32.toInt64 v12))) + v14)) + v16)], h15)) 1 rfl ?_
      obtain ⟨rfl, rfl⟩ := am_sp hM
      exact Ev.ret rfl
    · have c1 := of_decide_eq_false c1
      rw [if_neg c1] at hM
      refine Ev.steps (B := (22, [(0, .ref 75), (3, .int x3), (4, .long x4), (6, .int x6)], [.int x6, .int x3, .ref 75, .long (31 * x4)], h)) 6 rfl ?_
      obtain ⟨v17, e10, hM⟩ := am_oS hM
      refine Ev.call (q := (mr_X9_guestOf, [.ref 75, .int x3, .int x6], [.long (31 * x4)])) rfl (E_X9_guestOf_75 x3 x6 h v17 e10) ?_
      refine Ev.steps (B := (6, [(6, .int (x6 + 1)), (4, .long ((31 * x4) + (Int32.toInt64 v17))), (0, .ref 75), (3, .int x3)], [], h)) 5 rfl ?_
      refine Ev.lv (lv := [(0, .ref 75), (3, .int x3), (4, .long ((31 * x4) + (Int32.toInt64 v17))), (6, .int (x6 + 1))]) ⟨rfl, rfl, rfl, rfl, trivial⟩ rfl rfl ?_
      exact ih x3 ((31 * x4) + (Int32.toInt64 v17)) (x6 + 1) h hM
def M_X9_guestDigest (n : Nat) (a1 : Int64) (a2 : Int32) (h : AH) : Option (Int64 × AH) :=
  L_X9_guestDigest_6 n n a2 a1 0 h
set_option maxRecDepth 10000 in
theorem E_X9_guestDigest_75 (n : Nat) (a1 : Int64) (a2 : Int32) (h : AH) (vR : Int64) (hR : AH) (hM : M_X9_guestDigest n a1 a2 h = some (vR, hR)) : Ev none mr_X9_guestDigest (0, [(0, .ref 75), (1, .long a1), (3, .int a2)], [], h) (some (.long vR)) hR := by
  unfold M_X9_guestDigest at hM
  refine Ev.steps (B := (6, [(6, .int 0), (4, .long a1), (0, .ref 75), (1, .long a1), (3, .int a2)], [], h)) 4 rfl ?_
  refine Ev.lv (lv := [(0, .ref 75), (3, .int a2), (4, .long a1), (6, .int 0)]) ⟨rfl, rfl, rfl, rfl, trivial⟩ rfl rfl ?_
  exact E_L_X9_guestDigest_6 n vR hR n a2 a1 0 h hM
def L_X9_digest_163 (n : Nat) : Nat → Int64 → Int32 → AH → Option (Int64 × AH)
  | 0, _, _, _ => none
  | m + 1, x1, x3, h =>
    if 5 ≤ x3 then
      am_b (M_X9_firstOf n h) fun v2 h1 =>
      am_b (M_X9_hottestOf n 0 h1) fun v4 h3 =>
      am_b (M_X9_hottestOf n 1 h3) fun v6 h5 =>
      am_b (M_X9_thirstOf n h5) fun v8 h7 =>
      am_b (M_X9_fillOf n 0 h7) fun v10 h9 =>
      am_b (M_X9_fillOf n 1 h9) fun v12 h11 =>
      am_b (M_X9_spareBy n h11) fun v14 h13 =>
      am_o (M_X9_ofRow v14 0 h13) fun v15 =>
      am_b (M_X9_neverNow n h13) fun v17 h16 =>
      am_b (M_X9_watersBy n h16) fun v19 h18 =>
      am_b (M_X9_askOf n h18) fun v21 h20 =>
      am_b (M_X9_eveningsOf n 7 6 0 h20) fun v23 h22 =>
      am_b (M_X9_eveningsOf n 7 6 1 h22) fun v25 h24 =>
      some (((31 * ((31 * ((31 * ((31 * ((31 * ((31 * ((31 * ((31 * ((31 * ((31 * ((31 * ((31 * ((31 * x1) + (Int32.toInt64 v2))) + (Int32.toInt64 v4))) + (Int32.toInt64 v6))) + (Int32.toInt64 v8))) + (Int32.toInt64 v10))) + (Int32.toInt64 v12))) + (Int32.toInt64 v14))) + (Int32.toInt64 v15))) + (Int32.toInt64 v17))) + (Int32.toInt64 v19))) + (Int32.toInt64 v21))) + (Int32.toInt64 v23))) + (Int32.toInt64 v25)), h24)
    else
      am_b (M_X9_sumOf n x3 h) fun v27 h26 =>
      L_X9_digest_163 n m ((31 * x1) + (Int32.toInt64 v27)) (x3 + 1) h26
set_option maxRecDepth 10000 in
theorem E_L_X9_digest_163 (n : Nat) (vR : Int64) (hR : AH) : ∀ (m : Nat) (x1 : Int64) (x3 : Int32) (h : AH), L_X9_digest_163 n m x1 x3 h = some (vR, hR) → Ev none mr_X9_digest (163, [(0, .ref 75), (1, .long x1), (3, .int x3)], [], h) (some (.long vR)) hR := by
  intro m
  induction m with
  | zero =>
    intro x1 x3 h hM
    exact (am_no hM).elim
  | succ m ih =>
    intro x1 x3 h hM
    rw [L_X9_digest_163] at hM
    refine Ev.steps (B := (165, [(0, .ref 75), (1, .long x1), (3, .int x3)], [.int 5, .int x3], h)) 2 rfl ?_
    refine Ev.br (b := decide (5 ≤ x3)) rfl (fun c1 => ?_) (fun c1 => ?_)
    · have c1 := of_decide_eq_true c1
      rw [if_pos c1] at hM
      refine Ev.steps (B := (193, [(0, .ref 75), (1, .long x1), (3, .int x3)], [.ref 75, .long (31 * x1)], h)) 4 rfl ?_
      obtain ⟨v2, h1, e2, hM⟩ := am_bS hM
      refine Ev.call (q := (mr_X9_firstOf, [.ref 75], [.long (31 * x1)])) rfl (E_X9_firstOf_75 n h v2 h1 e2) ?_
      refine Ev.steps (B := (206, [(1, .long ((31 * x1) + (Int32.toInt64 v2))), (0, .ref 75), (3, .int x3)], [.int 0, .ref 75, .long (31 * ((31 * x1) + (Int32.toInt64 v2)))], h1)) 8 rfl ?_
      obtain ⟨v4, h3, e3, hM⟩ := am_bS hM
      refine Ev.call (q := (mr_X9_hottestOf, [.ref 75, .int 0], [.long (31 * ((31 * x1) + (Int32.toInt64 v2)))])) rfl (E_X9_hottestOf_75 n 0 h1 v4 h3 e3) ?_
      refine Ev.steps (B := (219, [(1, .long ((31 * ((31 * x1) + (Int32.toInt64 v2))) + (Int32.toInt64 v4))), (0, .ref 75), (3, .int x3)], [.int 1, .ref 75, .long (31 * ((31 * ((31 * x1) + (Int32.toInt64 v2))) + (Int32.toInt64 v4)))], h3)) 8 rfl ?_
      obtain ⟨v6, h5, e4, hM⟩ := am_bS hM
      refine Ev.call (q := (mr_X9_hottestOf, [.ref 75, .int 1], [.long (31 * ((31 * ((31 * x1) + (Int32.toInt64 v2))) + (Int32.toInt64 v4)))])) rfl (E_X9_hottestOf_75 n 1 h3 v6 h5 e4) ?_
      refine Ev.steps (B := (231, [(1, .long ((31 * ((31 * ((31 * x1) + (Int32.toInt64 v2))) + (Int32.toInt64 v4))) + (Int32.toInt64 v6))), (0, .ref 75), (3, .int x3)], [.ref 75, .long (31 * ((31 * ((31 * ((31 * x1) + (Int32.toInt64 v2))) + (Int32.toInt64 v4))) + (Int32.toInt64 v6)))], h5)) 7 rfl ?_
      obtain ⟨v8, h7, e5, hM⟩ := am_bS hM
      refine Ev.call (q := (mr_X9_thirstOf, [.ref 75], [.long (31 * ((31 * ((31 * ((31 * x1) + (Int32.toInt64 v2))) + (Int32.toInt64 v4))) + (Int32.toInt64 v6)))])) rfl (E_X9_thirstOf_75 n h5 v8 h7 e5) ?_
      refine Ev.steps (B := (244, [(1, .long ((31 * ((31 * ((31 * ((31 * x1) + (Int32.toInt64 v2))) + (Int32.toInt64 v4))) + (Int32.toInt64 v6))) + (Int32.toInt64 v8))), (0, .ref 75), (3, .int x3)], [.int 0, .ref 75, .long (31 * ((31 * ((31 * ((31 * ((31 * x1) + (Int32.toInt64 v2))) + (Int32.toInt64 v4))) + (Int32.toInt64 v6))) + (Int32.toInt64 v8)))], h7)) 8 rfl ?_
      obtain ⟨v10, h9, e6, hM⟩ := am_bS hM
      refine Ev.call (q := (mr_X9_fillOf, [.ref 75, .int 0], [.long (31 * ((31 * ((31 * ((31 * ((31 * x1) + (Int32.toInt64 v2))) + (Int32.toInt64 v4))) + (Int32.toInt64 v6))) + (Int32.toInt64 v8)))])) rfl (E_X9_fillOf_75 n 0 h7 v10 h9 e6) ?_
      refine Ev.steps (B := (257, [(1, .long ((31 * ((31 * ((31 * ((31 * ((31 * x1) + (Int32.toInt64 v2))) + (Int32.toInt64 v4))) + (Int32.toInt64 v6))) + (Int32.toInt64 v8))) + (Int32.toInt64 v10))), (0, .ref 75), (3, .int x3)], [.int 1, .ref 75, .long (31 * ((31 * ((31 * ((31 * ((31 * ((31 * x1) + (Int32.toInt64 v2))) + (Int32.toInt64 v4))) + (Int32.toInt64 v6))) + (Int32.toInt64 v8))) + (Int32.toInt64 v10)))], h9)) 8 rfl ?_
      obtain ⟨v12, h11, e7, hM⟩ := am_bS hM
      refine Ev.call (q := (mr_X9_fillOf, [.ref 75, .int 1], [.long (31 * ((31 * ((31 * ((31 * ((31 * ((31 * x1) + (Int32.toInt64 v2))) + (Int32.toInt64 v4))) + (Int32.toInt64 v6))) + (Int32.toInt64 v8))) + (Int32.toInt64 v10)))])) rfl (E_X9_fillOf_75 n 1 h9 v12 h11 e7) ?_
      refine Ev.steps (B := (264, [(1, .long ((31 * ((31 * ((31 * ((31 * ((31 * ((31 * x1) + (Int32.toInt64 v2))) + (Int32.toInt64 v4))) + (Int32.toInt64 v6))) + (Int32.toInt64 v8))) + (Int32.toInt64 v10))) + (Int32.toInt64 v12))), (0, .ref 75), (3, .int x3)], [.ref 75], h11)) 4 rfl ?_
      obtain ⟨v14, h13, e8, hM⟩ := am_bS hM
      refine Ev.call (q := (mr_X9_spareBy, [.ref 75], [])) rfl (E_X9_spareBy_75 n h11 v14 h13 e8) ?_
      refine Ev.steps (B := (285, [(1, .long ((31 * ((31 * ((31 * ((31 * ((31 * ((31 * ((31 * x1) + (Int32.toInt64 v2))) + (Int32.toInt64 v4))) + (Int32.toInt64 v6))) + (Int32.toInt64 v8))) + (Int32.toInt64 v10))) + (Int32.toInt64 v12))) + (Int32.toInt64 v14))), (3, .int v14), (0, .ref 75)], [.int 0, .int v14, .ref 75, .long (31 * ((31 * ((31 * ((31 * ((31 * ((31 * ((31 * ((31 * x1) + (Int32.toInt64 v2))) + (Int32.toInt64 v4))) + (Int32.toInt64 v6))) + (Int32.toInt64 v8))) + (Int32.toInt64 v10))) + (Int32.toInt64 v12))) + (Int32.toInt64 v14)))], h13)) 14 rfl ?_
      obtain ⟨v15, e9, hM⟩ := am_oS hM
      refine Ev.call (q := (mr_X9_ofRow, [.ref 75, .int v14, .int 0], [.long (31 * ((31 * ((31 * ((31 * ((31 * ((31 * ((31 * ((31 * x1) + (Int32.toInt64 v2))) + (Int32.toInt64 v4))) + (Int32.toInt64 v6))) + (Int32.toInt64 v8))) + (Int32.toInt64 v10))) + (Int32.toInt64 v12))) + (Int32.toInt64 v14)))])) rfl (E_X9_ofRow_75 v14 0 h13 v15 e9) ?_
      refine Ev.steps (B := (297, [(1, .long ((31 * ((31 * ((31 * ((31 * ((31 * ((31 * ((31 * ((31 * x1) + (Int32.toInt64 v2))) + (Int32.toInt64 v4))) + (Int32.toInt64 v6))) + (Int32.toInt64 v8))) + (Int32.toInt64 v10))) + (Int32.toInt64 v12))) + (Int32.toInt64 v14))) + (Int32.toInt64 v15))), (3, .int v14), (0, .ref 75)], [.ref 75, .long (31 * ((31 * ((31 * ((31 * ((31 * ((31 * ((31 * ((31 * ((31 * x1) + (Int32.toInt64 v2))) + (Int32.toInt64 v4))) + (Int32.toInt64 v6))) + (Int32.toInt64 v8))) + (Int32.toInt64 v10))) + (Int32.toInt64 v12))) + (Int32.toInt64 v14))) + (Int32.toInt64 v15)))], h13)) 7 rfl ?_
      obtain ⟨v17, h16, e10, hM⟩ := am_bS hM
      refine Ev.call (q := (mr_X9_neverNow, [.ref 75], [.long (31 * ((31 * ((31 * ((31 * ((31 * ((31 * ((31 * ((31 * ((31 * x1) + (Int32.toInt64 v2))) + (Int32.toInt64 v4))) + (Int32.toInt64 v6))) + (Int32.toInt64 v8))) + (Int32.toInt64 v10))) + (Int32.toInt64 v12))) + (Int32.toInt64 v14))) + (Int32.toInt64 v15)))])) rfl (E_X9_neverNow_75 n h13 v17 h16 e10) ?_
      refine Ev.steps (B := (309, [(1, .long ((31 * ((31 * ((31 * ((31 * ((31 * ((31 * ((31 * ((31 * ((31 * x1) + (Int32.toInt64 v2))) + (Int32.toInt64 v4))) + (Int32.toInt64 v6))) + (Int32.toInt64 v8))) + (Int32.toInt64 v10))) + (Int32.toInt64 v12))) + (Int32.toInt64 v14))) + (Int32.toInt64 v15))) + (Int32.toInt64 v17))), (3, .int v14), (0, .ref 75)], [.ref 75, .long (31 * ((31 * ((31 * ((31 * ((31 * ((31 * ((31 * ((31 * ((31 * ((31 * x1) + (Int32.toInt64 v2))) + (Int32.toInt64 v4))) + (Int32.toInt64 v6))) + (Int32.toInt64 v8))) + (Int32.toInt64 v10))) + (Int32.toInt64 v12))) + (Int32.toInt64 v14))) + (Int32.toInt64 v15))) + (Int32.toInt64 v17)))], h16)) 7 rfl ?_
      obtain ⟨v19, h18, e11, hM⟩ := am_bS hM
      refine Ev.call (q := (mr_X9_watersBy, [.ref 75], [.long (31 * ((31 * ((31 * ((31 * ((31 * ((31 * ((31 * ((31 * ((31 * ((31 * x1) + (Int32.toInt64 v2))) + (Int32.toInt64 v4))) + (Int32.toInt64 v6))) + (Int32.toInt64 v8))) + (Int32.toInt64 v10))) + (Int32.toInt64 v12))) + (Int32.toInt64 v14))) + (Int32.toInt64 v15))) + (Int32.toInt64 v17)))])) rfl (E_X9_watersBy_75 n h16 v19 h18 e11) ?_
      refine Ev.steps (B := (321, [(1, .long ((31 * ((31 * ((31 * ((31 * ((31 * ((31 * ((31 * ((31 * ((31 * ((31 * x1) + (Int32.toInt64 v2))) + (Int32.toInt64 v4))) + (Int32.toInt64 v6))) + (Int32.toInt64 v8))) + (Int32.toInt64 v10))) + (Int32.toInt64 v12))) + (Int32.toInt64 v14))) + (Int32.toInt64 v15))) + (Int32.toInt64 v17))) + (Int32.toInt64 v19))), (3, .int v14), (0, .ref 75)], [.ref 75, .long (31 * ((31 * ((31 * ((31 * ((31 * ((31 * ((31 * ((31 * ((31 * ((31 * ((31 * x1) + (Int32.toInt64 v2))) + (Int32.toInt64 v4))) + (Int32.toInt64 v6))) + (Int32.toInt64 v8))) + (Int32.toInt64 v10))) + (Int32.toInt64 v12))) + (Int32.toInt64 v14))) + (Int32.toInt64 v15))) + (Int32.toInt64 v17))) + (Int32.toInt64 v19)))], h18)) 7 rfl ?_
      obtain ⟨v21, h20, e12, hM⟩ := am_bS hM
      refine Ev.call (q := (mr_X9_askOf, [.ref 75], [.long (31 * ((31 * ((31 * ((31 * ((31 * ((31 * ((31 * ((31 * ((31 * ((31 * ((31 * x1) + (Int32.toInt64 v2))) + (Int32.toInt64 v4))) + (Int32.toInt64 v6))) + (Int32.toInt64 v8))) + (Int32.toInt64 v10))) + (Int32.toInt64 v12))) + (Int32.toInt64 v14))) + (Int32.toInt64 v15))) + (Int32.toInt64 v17))) + (Int32.toInt64 v19)))])) rfl (E_X9_askOf_75 n h18 v21 h20 e12) ?_
      refine Ev.steps (B := (338, [(1, .long ((31 * ((31 * ((31 * ((31 * ((31 * ((31 * ((31 * ((31 * ((31 * ((31 * ((31 * x1) + (Int32.toInt64 v2))) + (Int32.toInt64 v4))) + (Int32.toInt64 v6))) + (Int32.toInt64 v8))) + (Int32.toInt64 v10))) + (Int32.toInt64 v12))) + (Int32.toInt64 v14))) + (Int32.toInt64 v15))) + (Int32.toInt64 v17))) + (Int32.toInt64 v19))) + (Int32.toInt64 v21))), (3, .int v14), (0, .ref 75)], [.int 0, .int 6, .int 7, .ref 75, .long (31 * ((31 * ((31 * ((31 * ((31 * ((31 * ((31 * ((31 * ((31 * ((31 * ((31 * ((31 * x1) + (Int32.toInt64 v2))) + (Int32.toInt64 v4))) + (Int32.toInt64 v6))) + (Int32.toInt64 v8))) + (Int32.toInt64 v10))) + (Int32.toInt64 v12))) + (Int32.toInt64 v14))) + (Int32.toInt64 v15))) + (Int32.toInt64 v17))) + (Int32.toInt64 v19))) + (Int32.toInt64 v21)))], h20)) 10 rfl ?_
      obtain ⟨v23, h22, e13, hM⟩ := am_bS hM
      refine Ev.call (q := (mr_X9_eveningsOf, [.ref 75, .int 7, .int 6, .int 0], [.long (31 * ((31 * ((31 * ((31 * ((31 * ((31 * ((31 * ((31 * ((31 * ((31 * ((31 * ((31 * x1) + (Int32.toInt64 v2))) + (Int32.toInt64 v4))) + (Int32.toInt64 v6))) + (Int32.toInt64 v8))) + (Int32.toInt64 v10))) + (Int32.toInt64 v12))) + (Int32.toInt64 v14))) + (Int32.toInt64 v15))) + (Int32.toInt64 v17))) + (Int32.toInt64 v19))) + (Int32.toInt64 v21)))])) rfl (E_X9_eveningsOf_75 n 7 6 0 h20 v23 h22 e13) ?_
      refine Ev.steps (B := (355, [(1, .long ((31 * ((31 * ((31 * ((31 * ((31 * ((31 * ((31 * ((31 * ((31 * ((31 * ((31 * ((31 * x1) + (Int32.toInt64 v2))) + (Int32.toInt64 v4))) + (Int32.toInt64 v6))) + (Int32.toInt64 v8))) + (Int32.toInt64 v10))) + (Int32.toInt64 v12))) + (Int32.toInt64 v14))) + (Int32.toInt64 v15))) + (Int32.toInt64 v17))) + (Int32.toInt64 v19))) + (Int32.toInt64 v21))) + (Int32.toInt64 v23))), (3, .int v14), (0, .ref 75)], [.int 1, .int 6, .int 7, .ref 75, .long (31 * ((31 * ((31 * ((31 * ((31 * ((31 * ((31 * ((31 * ((31 * ((31 * ((31 * ((31 * ((31 * x1) + (Int32.toInt64 v2))) + (Int32.toInt64 v4))) + (Int32.toInt64 v6))) + (Int32.toInt64 v8))) + (Int32.toInt64 v10))) + (Int32.toInt64 v12))) + (Int32.toInt64 v14))) + (Int32.toInt64 v15))) + (Int32.toInt64 v17))) + (Int32.toInt64 v19))) + (Int32.toInt64 v21))) + (Int32.toInt64 v23)))], h22)) 10 rfl ?_
      obtain ⟨v25, h24, e14, hM⟩ := am_bS hM
      refine Ev.call (q := (mr_X9_eveningsOf, [.ref 75, .int 7, .int 6, .int 1], [.long (31 * ((31 * ((31 * ((31 * ((31 * ((31 * ((31 * ((31 * ((31 * ((31 * ((31 * ((31 * ((31 * x1) + (Int32.toInt64 v2))) + (Int32.toInt64 v4))) + (Int32.toInt64 v6))) + (Int32.toInt64 v8))) + (Int32.toInt64 v10))) + (Int32.toInt64 v12))) + (Int32.toInt64 v14))) + (Int32.toInt64 v15))) + (Int32.toInt64 v17))) + (Int32.toInt64 v19))) + (Int32.toInt64 v21))) + (Int32.toInt64 v23)))])) rfl (E_X9_eveningsOf_75 n 7 6 1 h22 v25 h24 e14) ?_
      refine Ev.steps (B := (360, [(1, .long ((31 * ((31 * ((31 * ((31 * ((31 * ((31 * ((31 * ((31 * ((31 * ((31 * ((31 * ((31 * x1) + (Int32.toInt64 v2))) + (Int32.toInt64 v4))) + (Int32.toInt64 v6))) + (Int32.toInt64 v8))) + (Int32.toInt64 v10))) + (Int32.toInt64 v12))) + (Int32.toInt64 v14))) + (Int32.toInt64 v15))) + (Int32.toInt64 v17))) + (Int32.toInt64 v19))) + (Int32.toInt64 v21))) + (Int32.toInt64 v23))), (3, .int v14), (0, .ref 75)], [.long ((31 * ((31 * ((31 * ((31 * ((31 * ((31 * ((31 * ((31 * ((31 * ((31 * ((31 * ((31 * ((31 * x1) + (Int32.toInt64 v2))) + (Int32.toInt64 v4))) + (Int32.toInt64 v6))) + (Int32.toInt64 v8))) + (Int32.toInt64 v10))) + (Int32.toInt64 v12))) + (Int32.toInt64 v14))) + (Int32.toInt64 v15))) + (Int32.toInt64 v17))) + (Int32.toInt64 v19))) + (Int32.toInt64 v21))) + (Int32.toInt64 v23))) + (Int32.toInt64 v25))], h24)) 2 rfl ?_
      obtain ⟨rfl, rfl⟩ := am_sp hM
      exact Ev.ret rfl
    · have c1 := of_decide_eq_false c1
      rw [if_neg c1] at hM
      refine Ev.steps (B := (175, [(0, .ref 75), (1, .long x1), (3, .int x3)], [.int x3, .ref 75, .long (31 * x1)], h)) 5 rfl ?_
      obtain ⟨v27, h26, e15, hM⟩ := am_bS hM
      refine Ev.call (q := (mr_X9_sumOf, [.ref 75, .int x3], [.long (31 * x1)])) rfl (E_X9_sumOf_75 n x3 h v27 h26 e15) ?_
      refine Ev.steps (B := (163, [(3, .int (x3 + 1)), (1, .long ((31 * x1) + (Int32.toInt64 v27))), (0, .ref 75)], [], h26)) 5 rfl ?_
      refine Ev.lv (lv := [(0, .ref 75), (1, .long ((31 * x1) + (Int32.toInt64 v27))), (3, .int (x3 + 1))]) ⟨rfl, rfl, rfl, trivial⟩ rfl rfl ?_
      exact ih ((31 * x1) + (Int32.toInt64 v27)) (x3 + 1) h26 hM
def L_X9_digest_140 (n : Nat) : Nat → Int64 → Int32 → AH → Option (Int64 × AH)
  | 0, _, _, _ => none
  | m + 1, x1, x3, h =>
    if (h.1 75 6) ≤ x3 then
      L_X9_digest_163 n n x1 0 h
    else
      am_b (M_X9_guestDigest n x1 x3 h) fun v2 h1 =>
      L_X9_digest_140 n m v2 (x3 + 1) h1
set_option maxRecDepth 10000 in
theorem E_L_X9_digest_140 (n : Nat) (vR : Int64) (hR : AH) : ∀ (m : Nat) (x1 : Int64) (x3 : Int32) (h : AH), L_X9_digest_140 n m x1 x3 h = some (vR, hR) → Ev none mr_X9_digest (140, [(0, .ref 75), (1, .long x1), (3, .int x3)], [], h) (some (.long vR)) hR := by
  intro m
  induction m with
  | zero =>
    intro x1 x3 h hM
    exact (am_no hM).elim
  | succ m ih =>
    intro x1 x3 h hM
    rw [L_X9_digest_140] at hM
    refine Ev.steps (B := (145, [(0, .ref 75), (1, .long x1), (3, .int x3)], [.int (h.1 75 6), .int x3], h)) 3 rfl ?_
    refine Ev.br (b := decide ((h.1 75 6) ≤ x3)) rfl (fun c1 => ?_) (fun c1 => ?_)
    · have c1 := of_decide_eq_true c1
      rw [if_pos c1] at hM
      refine Ev.steps (B := (163, [(3, .int 0), (0, .ref 75), (1, .long x1)], [], h)) 2 rfl ?_
      refine Ev.lv (lv := [(0, .ref 75), (1, .long x1), (3, .int 0)]) ⟨rfl, rfl, rfl, trivial⟩ rfl rfl ?_
      exact E_L_X9_digest_163 n vR hR n x1 0 h hM
    · have c1 := of_decide_eq_false c1
      rw [if_neg c1] at hM
      refine Ev.steps (B := (151, [(0, .ref 75), (1, .long x1), (3, .int x3)], [.int x3, .long x1, .ref 75], h)) 3 rfl ?_
      obtain ⟨v2, h1, e2, hM⟩ := am_bS hM
      refine Ev.call (q := (mr_X9_guestDigest, [.ref 75, .long x1, .int x3], [])) rfl (E_X9_guestDigest_75 n x1 x3 h v2 h1 e2) ?_
      refine Ev.steps (B := (140, [(3, .int (x3 + 1)), (1, .long v2), (0, .ref 75)], [], h1)) 3 rfl ?_
      refine Ev.lv (lv := [(0, .ref 75), (1, .long v2), (3, .int (x3 + 1))]) ⟨rfl, rfl, rfl, trivial⟩ rfl rfl ?_
      exact ih v2 (x3 + 1) h1 hM
def L_X9_digest_117 (n : Nat) : Nat → Int64 → Int32 → AH → Option (Int64 × AH)
  | 0, _, _, _ => none
  | m + 1, x1, x3, h =>
    if (h.1 75 2) ≤ x3 then
      L_X9_digest_140 n n x1 0 h
    else
      am_b (M_X9_pieceDigest n x1 x3 h) fun v2 h1 =>
      L_X9_digest_117 n m v2 (x3 + 1) h1
set_option maxRecDepth 10000 in
theorem E_L_X9_digest_117 (n : Nat) (vR : Int64) (hR : AH) : ∀ (m : Nat) (x1 : Int64) (x3 : Int32) (h : AH), L_X9_digest_117 n m x1 x3 h = some (vR, hR) → Ev none mr_X9_digest (117, [(0, .ref 75), (1, .long x1), (3, .int x3)], [], h) (some (.long vR)) hR := by
  intro m
  induction m with
  | zero =>
    intro x1 x3 h hM
    exact (am_no hM).elim
  | succ m ih =>
    intro x1 x3 h hM
    rw [L_X9_digest_117] at hM
    refine Ev.steps (B := (122, [(0, .ref 75), (1, .long x1), (3, .int x3)], [.int (h.1 75 2), .int x3], h)) 3 rfl ?_
    refine Ev.br (b := decide ((h.1 75 2) ≤ x3)) rfl (fun c1 => ?_) (fun c1 => ?_)
    · have c1 := of_decide_eq_true c1
      rw [if_pos c1] at hM
      refine Ev.steps (B := (140, [(3, .int 0), (0, .ref 75), (1, .long x1)], [], h)) 2 rfl ?_
      refine Ev.lv (lv := [(0, .ref 75), (1, .long x1), (3, .int 0)]) ⟨rfl, rfl, rfl, trivial⟩ rfl rfl ?_
      exact E_L_X9_digest_140 n vR hR n x1 0 h hM
    · have c1 := of_decide_eq_false c1
      rw [if_neg c1] at hM
      refine Ev.steps (B := (128, [(0, .ref 75), (1, .long x1), (3, .int x3)], [.int x3, .long x1, .ref 75], h)) 3 rfl ?_
      obtain ⟨v2, h1, e2, hM⟩ := am_bS hM
      refine Ev.call (q := (mr_X9_pieceDigest, [.ref 75, .long x1, .int x3], [])) rfl (E_X9_pieceDigest_75 n x1 x3 h v2 h1 e2) ?_
      refine Ev.steps (B := (117, [(3, .int (x3 + 1)), (1, .long v2), (0, .ref 75)], [], h1)) 3 rfl ?_
      refine Ev.lv (lv := [(0, .ref 75), (1, .long v2), (3, .int (x3 + 1))]) ⟨rfl, rfl, rfl, trivial⟩ rfl rfl ?_
      exact ih v2 (x3 + 1) h1 hM
def L_X9_digest_68 (n : Nat) (k59 : Int64 → Int32 → AH → Option (Int64 × AH)) : Nat → Int64 → Int32 → Int32 → AH → Option (Int64 × AH)
  | 0, _, _, _, _ => none
  | m + 1, x1, x3, x4, h =>
    if 6 ≤ x4 then
      am_b (M_X9_lineOf n x3 h) fun v2 h1 =>
      k59 ((31 * x1) + (Int32.toInt64 v2)) (x3 + 1) h1
    else
      am_b (M_X9_atOf n x3 x4 h) fun v4 h3 =>
      L_X9_digest_68 n k59 m ((31 * x1) + (Int32.toInt64 v4)) x3 (x4 + 1) h3
set_option maxRecDepth 10000 in
theorem E_L_X9_digest_68 (n : Nat) (k59 : Int64 → Int32 → AH → Option (Int64 × AH)) (vR : Int64) (hR : AH) (hk59 : ∀ (x1 : Int64) (x3 : Int32) (h0 : AH), k59 x1 x3 h0 = some (vR, hR) → Ev none mr_X9_digest (59, [(0, .ref 75), (1, .long x1), (3, .int x3)], [], h0) (some (.long vR)) hR) : ∀ (m : Nat) (x1 : Int64) (x3 : Int32) (x4 : Int32) (h : AH), L_X9_digest_68 n k59 m x1 x3 x4 h = some (vR, hR) → Ev none mr_X9_digest (68, [(0, .ref 75), (1, .long x1), (3, .int x3), (4, .int x4)], [], h) (some (.long vR)) hR := by
  intro m
  induction m with
  | zero =>
    intro x1 x3 x4 h hM
    exact (am_no hM).elim
  | succ m ih =>
    intro x1 x3 x4 h hM
    rw [L_X9_digest_68] at hM
    refine Ev.steps (B := (72, [(0, .ref 75), (1, .long x1), (3, .int x3), (4, .int x4)], [.int 6, .int x4], h)) 2 rfl ?_
    refine Ev.br (b := decide (6 ≤ x4)) rfl (fun c1 => ?_) (fun c1 => ?_)
    · have c1 := of_decide_eq_true c1
      rw [if_pos c1] at hM
      refine Ev.steps (B := (103, [(0, .ref 75), (1, .long x1), (3, .int x3), (4, .int x4)], [.int x3, .ref 75, .long (31 * x1)], h)) 5 rfl ?_
      obtain ⟨v2, h1, e2, hM⟩ := am_bS hM
      refine Ev.call (q := (mr_X9_lineOf, [.ref 75, .int x3], [.long (31 * x1)])) rfl (E_X9_lineOf_75 n x3 h v2 h1 e2) ?_
      refine Ev.steps (B := (59, [(3, .int (x3 + 1)), (1, .long ((31 * x1) + (Int32.toInt64 v2))), (0, .ref 75), (4, .int x4)], [], h1)) 5 rfl ?_
      refine Ev.lv (lv := [(0, .ref 75), (1, .long ((31 * x1) + (Int32.toInt64 v2))), (3, .int (x3 + 1))]) ⟨rfl, rfl, rfl, trivial⟩ rfl rfl ?_
      exact hk59 ((31 * x1) + (Int32.toInt64 v2)) (x3 + 1) h1 hM
    · have c1 := of_decide_eq_false c1
      rw [if_neg c1] at hM
      refine Ev.steps (B := (84, [(0, .ref 75), (1, .long x1), (3, .int x3), (4, .int x4)], [.int x4, .int x3, .ref 75, .long (31 * x1)], h)) 6 rfl ?_
      obtain ⟨v4, h3, e3, hM⟩ := am_bS hM
      refine Ev.call (q := (mr_X9_atOf, [.ref 75, .int x3, .int x4], [.long (31 * x1)])) rfl (E_X9_atOf_75 n x3 x4 h v4 h3 e3) ?_
      refine Ev.steps (B := (68, [(4, .int (x4 + 1)), (1, .long ((31 * x1) + (Int32.toInt64 v4))), (0, .ref 75), (3, .int x3)], [], h3)) 5 rfl ?_
      refine Ev.lv (lv := [(0, .ref 75), (1, .long ((31 * x1) + (Int32.toInt64 v4))), (3, .int x3), (4, .int (x4 + 1))]) ⟨rfl, rfl, rfl, rfl, trivial⟩ rfl rfl ?_
      exact ih ((31 * x1) + (Int32.toInt64 v4)) x3 (x4 + 1) h3 hM
def L_X9_digest_59 (n : Nat) : Nat → Int64 → Int32 → AH → Option (Int64 × AH)
  | 0, _, _, _ => none
  | m + 1, x1, x3, h =>
    if 24 ≤ x3 then
      L_X9_digest_117 n n x1 0 h
    else
      L_X9_digest_68 n (L_X9_digest_59 n m) n x1 x3 0 h
set_option maxRecDepth 10000 in
theorem E_L_X9_digest_59 (n : Nat) (vR : Int64) (hR : AH) : ∀ (m : Nat) (x1 : Int64) (x3 : Int32) (h : AH), L_X9_digest_59 n m x1 x3 h = some (vR, hR) → Ev none mr_X9_digest (59, [(0, .ref 75), (1, .long x1), (3, .int x3)], [], h) (some (.long vR)) hR := by
  intro m
  induction m with
  | zero =>
    intro x1 x3 h hM
    exact (am_no hM).elim
  | succ m ih =>
    intro x1 x3 h hM
    rw [L_X9_digest_59] at hM
    refine Ev.steps (B := (62, [(0, .ref 75), (1, .long x1), (3, .int x3)], [.int 24, .int x3], h)) 2 rfl ?_
    refine Ev.br (b := decide (24 ≤ x3)) rfl (fun c1 => ?_) (fun c1 => ?_)
    · have c1 := of_decide_eq_true c1
      rw [if_pos c1] at hM
      refine Ev.steps (B := (117, [(3, .int 0), (0, .ref 75), (1, .long x1)], [], h)) 2 rfl ?_
      refine Ev.lv (lv := [(0, .ref 75), (1, .long x1), (3, .int 0)]) ⟨rfl, rfl, rfl, trivial⟩ rfl rfl ?_
      exact E_L_X9_digest_117 n vR hR n x1 0 h hM
    · have c1 := of_decide_eq_false c1
      rw [if_neg c1] at hM
      refine Ev.steps (B := (68, [(4, .int 0), (0, .ref 75), (1, .long x1), (3, .int x3)], [], h)) 2 rfl ?_
      refine Ev.lv (lv := [(0, .ref 75), (1, .long x1), (3, .int x3), (4, .int 0)]) ⟨rfl, rfl, rfl, rfl, trivial⟩ rfl rfl ?_
      exact E_L_X9_digest_68 n (L_X9_digest_59 n m) vR hR ih n x1 x3 0 h hM
def L_X9_digest_6 (n : Nat) : Nat → Int64 → Int32 → AH → Option (Int64 × AH)
  | 0, _, _, _ => none
  | m + 1, x1, x3, h =>
    if 8 ≤ x3 then
      am_b (M_X9_faultOf n 0 h) fun v2 h1 =>
      am_b (M_X9_faultOf n 1 h1) fun v4 h3 =>
      L_X9_digest_59 n n ((31 * ((31 * x1) + (Int32.toInt64 v2))) + (Int32.toInt64 v4)) 0 h3
    else
      am_b (M_X9_count n x3 h) fun v6 h5 =>
      L_X9_digest_6 n m ((31 * x1) + (Int32.toInt64 v6)) (x3 + 1) h5
set_option maxRecDepth 10000 in
theorem E_L_X9_digest_6 (n : Nat) (vR : Int64) (hR : AH) : ∀ (m : Nat) (x1 : Int64) (x3 : Int32) (h : AH), L_X9_digest_6 n m x1 x3 h = some (vR, hR) → Ev none mr_X9_digest (6, [(0, .ref 75), (1, .long x1), (3, .int x3)], [], h) (some (.long vR)) hR := by
  intro m
  induction m with
  | zero =>
    intro x1 x3 h hM
    exact (am_no hM).elim
  | succ m ih =>
    intro x1 x3 h hM
    rw [L_X9_digest_6] at hM
    refine Ev.steps (B := (9, [(0, .ref 75), (1, .long x1), (3, .int x3)], [.int 8, .int x3], h)) 2 rfl ?_
    refine Ev.br (b := decide (8 ≤ x3)) rfl (fun c1 => ?_) (fun c1 => ?_)
    · have c1 := of_decide_eq_true c1
      rw [if_pos c1] at hM
      refine Ev.steps (B := (38, [(0, .ref 75), (1, .long x1), (3, .int x3)], [.int 0, .ref 75, .long (31 * x1)], h)) 5 rfl ?_
      obtain ⟨v2, h1, e2, hM⟩ := am_bS hM
      refine Ev.call (q := (mr_X9_faultOf, [.ref 75, .int 0], [.long (31 * x1)])) rfl (E_X9_faultOf_75 n 0 h v2 h1 e2) ?_
      refine Ev.steps (B := (51, [(1, .long ((31 * x1) + (Int32.toInt64 v2))), (0, .ref 75), (3, .int x3)], [.int 1, .ref 75, .long (31 * ((31 * x1) + (Int32.toInt64 v2)))], h1)) 8 rfl ?_
      obtain ⟨v4, h3, e3, hM⟩ := am_bS hM
      refine Ev.call (q := (mr_X9_faultOf, [.ref 75, .int 1], [.long (31 * ((31 * x1) + (Int32.toInt64 v2)))])) rfl (E_X9_faultOf_75 n 1 h1 v4 h3 e3) ?_
      refine Ev.steps (B := (59, [(3, .int 0), (1, .long ((31 * ((31 * x1) + (Int32.toInt64 v2))) + (Int32.toInt64 v4))), (0, .ref 75)], [], h3)) 5 rfl ?_
      refine Ev.lv (lv := [(0, .ref 75), (1, .long ((31 * ((31 * x1) + (Int32.toInt64 v2))) + (Int32.toInt64 v4))), (3, .int 0)]) ⟨rfl, rfl, rfl, trivial⟩ rfl rfl ?_
      exact E_L_X9_digest_59 n vR hR n ((31 * ((31 * x1) + (Int32.toInt64 v2))) + (Int32.toInt64 v4)) 0 h3 hM
    · have c1 := of_decide_eq_false c1
      rw [if_neg c1] at hM
      refine Ev.steps (B := (19, [(0, .ref 75), (1, .long x1), (3, .int x3)], [.int x3, .ref 75, .long (31 * x1)], h)) 5 rfl ?_
      obtain ⟨v6, h5, e4, hM⟩ := am_bS hM
      refine Ev.call (q := (mr_X9_count, [.ref 75, .int x3], [.long (31 * x1)])) rfl (E_X9_count_75 n x3 h v6 h5 e4) ?_
      refine Ev.steps (B := (6, [(3, .int (x3 + 1)), (1, .long ((31 * x1) + (Int32.toInt64 v6))), (0, .ref 75)], [], h5)) 5 rfl ?_
      refine Ev.lv (lv := [(0, .ref 75), (1, .long ((31 * x1) + (Int32.toInt64 v6))), (3, .int (x3 + 1))]) ⟨rfl, rfl, rfl, trivial⟩ rfl rfl ?_
      exact ih ((31 * x1) + (Int32.toInt64 v6)) (x3 + 1) h5 hM
def M_X9_digest (n : Nat) (h : AH) : Option (Int64 × AH) :=
  L_X9_digest_6 n n 17 0 h
set_option maxRecDepth 10000 in
theorem E_X9_digest_75 (n : Nat) (h : AH) (vR : Int64) (hR : AH) (hM : M_X9_digest n h = some (vR, hR)) : Ev none mr_X9_digest (0, [(0, .ref 75)], [], h) (some (.long vR)) hR := by
  unfold M_X9_digest at hM
  refine Ev.steps (B := (6, [(3, .int 0), (1, .long 17), (0, .ref 75)], [], h)) 4 rfl ?_
  refine Ev.lv (lv := [(0, .ref 75), (1, .long 17), (3, .int 0)]) ⟨rfl, rfl, rfl, trivial⟩ rfl rfl ?_
  exact E_L_X9_digest_6 n vR hR n 17 0 h hM
