/-! the functions of the methods, and that the machine runs so: printed by program -/
def am_lna (a : Nat) : Nat := match am_shp[a]? with
  | some (.inl q) => q.2
  | _ => 0
def pl_f (r : Nat) : Nat := if r = 21 then 2 else 40
def pl_g (r : Nat) : Nat := if r = 21 then 8 else 44
def pl_e (r : Nat) : Nat := if r = 21 then 13 else 48
def tx_s (r : Nat) : Nat := if r = 1 then 200 else 201
theorem am_nzS {α : Type} {y : Int64} {x : Option α} {z : α} (h : (if y = 0 then none else x) = some z) : ¬ y = 0 ∧ x = some z := by
  by_cases c : y = 0
  · rw [if_pos c] at h
    cases h
  · rw [if_neg c] at h
    exact ⟨c, h⟩
theorem am_sp {α β : Type} {a c : α} {b d : β} (h : some (a, b) = some (c, d)) : a = c ∧ b = d := by
  injection h with h
  injection h with h1 h2
  exact ⟨h1, h2⟩
theorem am_s1 {α : Type} {a c : α} (h : some a = some c) : a = c := by
  injection h
theorem Ev.nz {sc : Option (Nat × (Nat → Int32))} {R : MR} {A B : AS} {v : Option Value} {h : AH} {y : Int64} (hy : ¬ y = 0) (hs : am_step sc R A = (if y = 0 then none else some (.inl B))) (k : Ev sc R B v h) : Ev sc R A v h := by
  rw [if_neg hy] at hs
  exact Ev.step hs k
theorem E_X8_textAt_1 (x : Int32) (h : AH) (c0 : x = 0) : Ev none mr_X8_textAt (0, [(0, .ref 0), (1, .int x)], [], h) (some (.ref 1)) h := by
  refine Ev.steps (B := (1, [(0, .ref 0), (1, .int x)], [.int x], h)) 1 rfl ?_
  refine Ev.step (B := (am_sel x [(0, 28), (1, 33)] 38, [(0, .ref 0), (1, .int x)], [], h)) rfl ?_
  refine Ev.sw (fun _ => ?_) (fun c => absurd c0 c)
  refine Ev.steps (B := (32, [(0, .ref 0), (1, .int x)], [.ref 1], h)) 2 rfl ?_
  exact Ev.ret rfl
theorem E_X8_textAt_7 (x : Int32) (h : AH) (c0 : x = 1) : Ev none mr_X8_textAt (0, [(0, .ref 0), (1, .int x)], [], h) (some (.ref 7)) h := by
  refine Ev.steps (B := (1, [(0, .ref 0), (1, .int x)], [.int x], h)) 1 rfl ?_
  refine Ev.step (B := (am_sel x [(0, 28), (1, 33)] 38, [(0, .ref 0), (1, .int x)], [], h)) rfl ?_
  refine Ev.sw (fun c => absurd (c.symm.trans c0) (by decide)) (fun _ => ?_)
  refine Ev.sw (fun _ => ?_) (fun c => absurd c0 c)
  refine Ev.steps (B := (37, [(0, .ref 0), (1, .int x)], [.ref 7], h)) 2 rfl ?_
  exact Ev.ret rfl
theorem E_X8_textAt_d (x : Int32) (h : AH) (c0 : ¬ x = 0) (c1 : ¬ x = 1) : Ev none mr_X8_textAt (0, [(0, .ref 0), (1, .int x)], [], h) (some .null) h := by
  refine Ev.steps (B := (1, [(0, .ref 0), (1, .int x)], [.int x], h)) 1 rfl ?_
  refine Ev.step (B := (am_sel x [(0, 28), (1, 33)] 38, [(0, .ref 0), (1, .int x)], [], h)) rfl ?_
  refine Ev.sw (fun c => absurd c c0) (fun _ => ?_)
  refine Ev.sw (fun c => absurd c c1) (fun _ => ?_)
  refine Ev.steps (B := (39, [(0, .ref 0), (1, .int x)], [.null], h)) 1 rfl ?_
  exact Ev.ret rfl
theorem E_X8_sheetAt_67 (x : Int32) (h : AH) (c0 : x = 0) : Ev none mr_X8_sheetAt (0, [(0, .ref 0), (1, .int x)], [], h) (some (.ref 67)) h := by
  refine Ev.steps (B := (1, [(0, .ref 0), (1, .int x)], [.int x], h)) 1 rfl ?_
  refine Ev.step (B := (am_sel x [(0, 32), (1, 37), (2, 42), (3, 47)] 52, [(0, .ref 0), (1, .int x)], [], h)) rfl ?_
  refine Ev.sw (fun _ => ?_) (fun c => absurd c0 c)
  refine Ev.steps (B := (36, [(0, .ref 0), (1, .int x)], [.ref 67], h)) 2 rfl ?_
  exact Ev.ret rfl
theorem E_X8_sheetAt_69 (x : Int32) (h : AH) (c0 : x = 1) : Ev none mr_X8_sheetAt (0, [(0, .ref 0), (1, .int x)], [], h) (some (.ref 69)) h := by
  refine Ev.steps (B := (1, [(0, .ref 0), (1, .int x)], [.int x], h)) 1 rfl ?_
  refine Ev.step (B := (am_sel x [(0, 32), (1, 37), (2, 42), (3, 47)] 52, [(0, .ref 0), (1, .int x)], [], h)) rfl ?_
  refine Ev.sw (fun c => absurd (c.symm.trans c0) (by decide)) (fun _ => ?_)
  refine Ev.sw (fun _ => ?_) (fun c => absurd c0 c)
  refine Ev.steps (B := (41, [(0, .ref 0), (1, .int x)], [.ref 69], h)) 2 rfl ?_
  exact Ev.ret rfl
theorem E_X8_sheetAt_71 (x : Int32) (h : AH) (c0 : x = 2) : Ev none mr_X8_sheetAt (0, [(0, .ref 0), (1, .int x)], [], h) (some (.ref 71)) h := by
  refine Ev.steps (B := (1, [(0, .ref 0), (1, .int x)], [.int x], h)) 1 rfl ?_
  refine Ev.step (B := (am_sel x [(0, 32), (1, 37), (2, 42), (3, 47)] 52, [(0, .ref 0), (1, .int x)], [], h)) rfl ?_
  refine Ev.sw (fun c => absurd (c.symm.trans c0) (by decide)) (fun _ => ?_)
  refine Ev.sw (fun c => absurd (c.symm.trans c0) (by decide)) (fun _ => ?_)
  refine Ev.sw (fun _ => ?_) (fun c => absurd c0 c)
  refine Ev.steps (B := (46, [(0, .ref 0), (1, .int x)], [.ref 71], h)) 2 rfl ?_
  exact Ev.ret rfl
theorem E_X8_sheetAt_73 (x : Int32) (h : AH) (c0 : x = 3) : Ev none mr_X8_sheetAt (0, [(0, .ref 0), (1, .int x)], [], h) (some (.ref 73)) h := by
  refine Ev.steps (B := (1, [(0, .ref 0), (1, .int x)], [.int x], h)) 1 rfl ?_
  refine Ev.step (B := (am_sel x [(0, 32), (1, 37), (2, 42), (3, 47)] 52, [(0, .ref 0), (1, .int x)], [], h)) rfl ?_
  refine Ev.sw (fun c => absurd (c.symm.trans c0) (by decide)) (fun _ => ?_)
  refine Ev.sw (fun c => absurd (c.symm.trans c0) (by decide)) (fun _ => ?_)
  refine Ev.sw (fun c => absurd (c.symm.trans c0) (by decide)) (fun _ => ?_)
  refine Ev.sw (fun _ => ?_) (fun c => absurd c0 c)
  refine Ev.steps (B := (51, [(0, .ref 0), (1, .int x)], [.ref 73], h)) 2 rfl ?_
  exact Ev.ret rfl
theorem E_X8_sheetAt_d (x : Int32) (h : AH) (c0 : ¬ x = 0) (c1 : ¬ x = 1) (c2 : ¬ x = 2) (c3 : ¬ x = 3) : Ev none mr_X8_sheetAt (0, [(0, .ref 0), (1, .int x)], [], h) (some .null) h := by
  refine Ev.steps (B := (1, [(0, .ref 0), (1, .int x)], [.int x], h)) 1 rfl ?_
  refine Ev.step (B := (am_sel x [(0, 32), (1, 37), (2, 42), (3, 47)] 52, [(0, .ref 0), (1, .int x)], [], h)) rfl ?_
  refine Ev.sw (fun c => absurd c c0) (fun _ => ?_)
  refine Ev.sw (fun c => absurd c c1) (fun _ => ?_)
  refine Ev.sw (fun c => absurd c c2) (fun _ => ?_)
  refine Ev.sw (fun c => absurd c c3) (fun _ => ?_)
  refine Ev.steps (B := (53, [(0, .ref 0), (1, .int x)], [.null], h)) 1 rfl ?_
  exact Ev.ret rfl
def M_J11_canEncode (a1 : Int32) : Int32 :=
  if a1 < 0 then
    0
  else
    if 255 < a1 then
      0
    else
      1
theorem E_J11_canEncode (a1 : Int32) (h : AH) : Ev none mr_J11_canEncode (0, [(0, .int a1)], [], h) (some (.int (M_J11_canEncode a1))) h := by
  unfold M_J11_canEncode
  refine Ev.steps (B := (1, [(0, .int a1)], [.int a1], h)) 1 rfl ?_
  refine Ev.br (b := decide (a1 < 0)) rfl (fun c1 => ?_) (fun c1 => ?_)
  · have c1 := of_decide_eq_true c1
    rw [if_pos c1]
    refine Ev.steps (B := (16, [(0, .int a1)], [.int 0], h)) 1 rfl ?_
    exact Ev.ret rfl
  · have c1 := of_decide_eq_false c1
    rw [if_neg c1]
    refine Ev.steps (B := (8, [(0, .int a1)], [.int 255, .int a1], h)) 2 rfl ?_
    refine Ev.br (b := decide (255 < a1)) rfl (fun c2 => ?_) (fun c2 => ?_)
    · have c2 := of_decide_eq_true c2
      rw [if_pos c2]
      refine Ev.steps (B := (16, [(0, .int a1)], [.int 0], h)) 1 rfl ?_
      exact Ev.ret rfl
    · have c2 := of_decide_eq_false c2
      rw [if_neg c2]
      refine Ev.steps (B := (16, [(0, .int a1)], [.int 1], h)) 2 rfl ?_
      exact Ev.ret rfl
theorem Z_J11_canEncode (a1 : Int32) : am_b01 (M_J11_canEncode a1) = true := by
  unfold M_J11_canEncode
  split
  · rfl
  · split
    · rfl
    · rfl
def kc_200 (c : Int32) : Int32 := if 107 = (Int32.toInt8 c).toInt32 then 0 else if 98 = (Int32.toInt8 c).toInt32 then 1 else if 99 = (Int32.toInt8 c).toInt32 then 2 else (-1)
def kc_201 (c : Int32) : Int32 := if 119 = (Int32.toInt8 c).toInt32 then 0 else if 100 = (Int32.toInt8 c).toInt32 then 1 else (-1)
def kx (s : Nat) (c : Int32) : Int32 := if M_J11_canEncode c = 0 then (-1) else if s = 200 then kc_200 c else kc_201 c
theorem E_isLatin1_200 (h : AH) : Ev none mr_J10_isLatin1 (0, [(0, .ref 200)], [], h) (some (.int 1)) h := by
  refine Ev.steps (B := (18, [(0, .ref 200)], [.int 1], h)) 7 rfl ?_
  exact Ev.ret rfl
theorem E_coder_200 (h : AH) : Ev none mr_J10_coder (0, [(0, .ref 200)], [], h) (some (.int 0)) h := by
  refine Ev.steps (B := (14, [(0, .ref 200)], [.int 0], h)) 5 rfl ?_
  exact Ev.ret rfl
theorem E_length_200 (h : AH) : Ev none mr_J10_length (0, [(0, .ref 200)], [], h) (some (.int 3)) h := by
  refine Ev.steps (B := (6, [(0, .ref 200)], [.ref 200, .int 3], h)) 4 rfl ?_
  refine Ev.call (q := (mr_J10_coder, [.ref 200], [.int 3])) rfl (E_coder_200 h) ?_
  refine Ev.steps (B := (10, [(0, .ref 200)], [.int 3], h)) 1 rfl ?_
  exact Ev.ret rfl
theorem E_indexOfChar_200 (c : Int32) (h : AH) : Ev none mr_J11_indexOfChar (0, [(0, .ref 204), (1, .int c), (2, .int 0), (3, .int 3)], [], h) (some (.int (kc_200 c))) h := by
  unfold kc_200
  refine Ev.steps (B := (19, [(5, .int 0), (4, .int (Int32.toInt8 c).toInt32), (0, .ref 204), (1, .int c), (2, .int 0), (3, .int 3)], [.int (Int32.toInt8 c).toInt32, .int 107], h)) 12 rfl ?_
  refine Ev.br (b := decide (¬ 107 = (Int32.toInt8 c).toInt32)) rfl (fun q => ?_) (fun q => ?_)
  case refine_2 =>
    rw [if_pos (Decidable.of_not_not (of_decide_eq_false q))]
    refine Ev.steps (B := (24, [(5, .int 0), (4, .int (Int32.toInt8 c).toInt32), (0, .ref 204), (1, .int c), (2, .int 0), (3, .int 3)], [.int 0], h)) 1 rfl ?_
    exact Ev.ret rfl
  case refine_1 =>
    rw [if_neg (of_decide_eq_true q)]
    refine Ev.steps (B := (19, [(5, .int 1), (4, .int (Int32.toInt8 c).toInt32), (0, .ref 204), (1, .int c), (2, .int 0), (3, .int 3)], [.int (Int32.toInt8 c).toInt32, .int 98], h)) 9 rfl ?_
    refine Ev.br (b := decide (¬ 98 = (Int32.toInt8 c).toInt32)) rfl (fun q => ?_) (fun q => ?_)
    case refine_2 =>
      rw [if_pos (Decidable.of_not_not (of_decide_eq_false q))]
      refine Ev.steps (B := (24, [(5, .int 1), (4, .int (Int32.toInt8 c).toInt32), (0, .ref 204), (1, .int c), (2, .int 0), (3, .int 3)], [.int 1], h)) 1 rfl ?_
      exact Ev.ret rfl
    case refine_1 =>
      rw [if_neg (of_decide_eq_true q)]
      refine Ev.steps (B := (19, [(5, .int 2), (4, .int (Int32.toInt8 c).toInt32), (0, .ref 204), (1, .int c), (2, .int 0), (3, .int 3)], [.int (Int32.toInt8 c).toInt32, .int 99], h)) 9 rfl ?_
      refine Ev.br (b := decide (¬ 99 = (Int32.toInt8 c).toInt32)) rfl (fun q => ?_) (fun q => ?_)
      case refine_2 =>
        rw [if_pos (Decidable.of_not_not (of_decide_eq_false q))]
        refine Ev.steps (B := (24, [(5, .int 2), (4, .int (Int32.toInt8 c).toInt32), (0, .ref 204), (1, .int c), (2, .int 0), (3, .int 3)], [.int 2], h)) 1 rfl ?_
        exact Ev.ret rfl
      case refine_1 =>
        rw [if_neg (of_decide_eq_true q)]
        refine Ev.steps (B := (32, [(5, .int 3), (4, .int (Int32.toInt8 c).toInt32), (0, .ref 204), (1, .int c), (2, .int 0), (3, .int 3)], [.int (-1)], h)) 6 rfl ?_
        exact Ev.ret rfl
theorem E_L1_200 (c : Int32) (h : AH) : Ev none mr_J11_indexOf (0, [(0, .ref 204), (1, .int c), (2, .int 0), (3, .int 3)], [], h) (some (.int (kx 200 c))) h := by
  unfold kx
  refine Ev.steps (B := (1, [(0, .ref 204), (1, .int c), (2, .int 0), (3, .int 3)], [.int c], h)) 1 rfl ?_
  refine Ev.call (q := (mr_J11_canEncode, [.int c], [])) rfl (E_J11_canEncode c h) ?_
  refine Ev.br (b := decide (¬ M_J11_canEncode c = 0)) rfl (fun q => ?_) (fun q => ?_)
  · rw [if_neg (of_decide_eq_true q)]
    refine Ev.steps (B := (33, [(3, .int 3), (2, .int 0), (0, .ref 204), (1, .int c)], [.int 3, .int 0, .int c, .ref 204], h)) 16 rfl ?_
    refine Ev.call (q := (mr_J11_indexOfChar, [.ref 204, .int c, .int 0, .int 3], [])) rfl (E_indexOfChar_200 c h) ?_
    exact Ev.ret rfl
  · rw [if_pos (Decidable.of_not_not (of_decide_eq_false q))]
    refine Ev.steps (B := (8, [(0, .ref 204), (1, .int c), (2, .int 0), (3, .int 3)], [.int (-1)], h)) 1 rfl ?_
    exact Ev.ret rfl
theorem E_IO2_200 (c : Int32) (h : AH) : Ev none mr_J10_indexOf_2 (0, [(0, .ref 200), (1, .int c), (2, .int 0)], [], h) (some (.int (kx 200 c))) h := by
  refine Ev.steps (B := (1, [(0, .ref 200), (1, .int c), (2, .int 0)], [.ref 200], h)) 1 rfl ?_
  refine Ev.call (q := (mr_J10_isLatin1, [.ref 200], [])) rfl (E_isLatin1_200 h) ?_
  refine Ev.steps (B := (14, [(0, .ref 200), (1, .int c), (2, .int 0)], [.ref 200, .int 0, .int c, .ref 204], h)) 6 rfl ?_
  refine Ev.call (q := (mr_J10_length, [.ref 200], [.int 0, .int c, .ref 204])) rfl (E_length_200 h) ?_
  refine Ev.call (q := (mr_J11_indexOf, [.ref 204, .int c, .int 0, .int 3], [])) rfl (E_L1_200 c h) ?_
  refine Ev.steps (B := (36, [(0, .ref 200), (1, .int c), (2, .int 0)], [.int (kx 200 c)], h)) 1 rfl ?_
  exact Ev.ret rfl
theorem E_indexOf_200 (c : Int32) (h : AH) : Ev none mr_J10_indexOf_1 (0, [(0, .ref 200), (1, .int c)], [], h) (some (.int (kx 200 c))) h := by
  refine Ev.steps (B := (3, [(0, .ref 200), (1, .int c)], [.int 0, .int c, .ref 200], h)) 3 rfl ?_
  refine Ev.call (q := (mr_J10_indexOf_2, [.ref 200, .int c, .int 0], [])) rfl (E_IO2_200 c h) ?_
  exact Ev.ret rfl
theorem E_isLatin1_201 (h : AH) : Ev none mr_J10_isLatin1 (0, [(0, .ref 201)], [], h) (some (.int 1)) h := by
  refine Ev.steps (B := (18, [(0, .ref 201)], [.int 1], h)) 7 rfl ?_
  exact Ev.ret rfl
theorem E_coder_201 (h : AH) : Ev none mr_J10_coder (0, [(0, .ref 201)], [], h) (some (.int 0)) h := by
  refine Ev.steps (B := (14, [(0, .ref 201)], [.int 0], h)) 5 rfl ?_
  exact Ev.ret rfl
theorem E_length_201 (h : AH) : Ev none mr_J10_length (0, [(0, .ref 201)], [], h) (some (.int 2)) h := by
  refine Ev.steps (B := (6, [(0, .ref 201)], [.ref 201, .int 2], h)) 4 rfl ?_
  refine Ev.call (q := (mr_J10_coder, [.ref 201], [.int 2])) rfl (E_coder_201 h) ?_
  refine Ev.steps (B := (10, [(0, .ref 201)], [.int 2], h)) 1 rfl ?_
  exact Ev.ret rfl
theorem E_indexOfChar_201 (c : Int32) (h : AH) : Ev none mr_J11_indexOfChar (0, [(0, .ref 205), (1, .int c), (2, .int 0), (3, .int 2)], [], h) (some (.int (kc_201 c))) h := by
  unfold kc_201
  refine Ev.steps (B := (19, [(5, .int 0), (4, .int (Int32.toInt8 c).toInt32), (0, .ref 205), (1, .int c), (2, .int 0), (3, .int 2)], [.int (Int32.toInt8 c).toInt32, .int 119], h)) 12 rfl ?_
  refine Ev.br (b := decide (¬ 119 = (Int32.toInt8 c).toInt32)) rfl (fun q => ?_) (fun q => ?_)
  case refine_2 =>
    rw [if_pos (Decidable.of_not_not (of_decide_eq_false q))]
    refine Ev.steps (B := (24, [(5, .int 0), (4, .int (Int32.toInt8 c).toInt32), (0, .ref 205), (1, .int c), (2, .int 0), (3, .int 2)], [.int 0], h)) 1 rfl ?_
    exact Ev.ret rfl
  case refine_1 =>
    rw [if_neg (of_decide_eq_true q)]
    refine Ev.steps (B := (19, [(5, .int 1), (4, .int (Int32.toInt8 c).toInt32), (0, .ref 205), (1, .int c), (2, .int 0), (3, .int 2)], [.int (Int32.toInt8 c).toInt32, .int 100], h)) 9 rfl ?_
    refine Ev.br (b := decide (¬ 100 = (Int32.toInt8 c).toInt32)) rfl (fun q => ?_) (fun q => ?_)
    case refine_2 =>
      rw [if_pos (Decidable.of_not_not (of_decide_eq_false q))]
      refine Ev.steps (B := (24, [(5, .int 1), (4, .int (Int32.toInt8 c).toInt32), (0, .ref 205), (1, .int c), (2, .int 0), (3, .int 2)], [.int 1], h)) 1 rfl ?_
      exact Ev.ret rfl
    case refine_1 =>
      rw [if_neg (of_decide_eq_true q)]
      refine Ev.steps (B := (32, [(5, .int 2), (4, .int (Int32.toInt8 c).toInt32), (0, .ref 205), (1, .int c), (2, .int 0), (3, .int 2)], [.int (-1)], h)) 6 rfl ?_
      exact Ev.ret rfl
theorem E_L1_201 (c : Int32) (h : AH) : Ev none mr_J11_indexOf (0, [(0, .ref 205), (1, .int c), (2, .int 0), (3, .int 2)], [], h) (some (.int (kx 201 c))) h := by
  unfold kx
  refine Ev.steps (B := (1, [(0, .ref 205), (1, .int c), (2, .int 0), (3, .int 2)], [.int c], h)) 1 rfl ?_
  refine Ev.call (q := (mr_J11_canEncode, [.int c], [])) rfl (E_J11_canEncode c h) ?_
  refine Ev.br (b := decide (¬ M_J11_canEncode c = 0)) rfl (fun q => ?_) (fun q => ?_)
  · rw [if_neg (of_decide_eq_true q)]
    refine Ev.steps (B := (33, [(3, .int 2), (2, .int 0), (0, .ref 205), (1, .int c)], [.int 2, .int 0, .int c, .ref 205], h)) 16 rfl ?_
    refine Ev.call (q := (mr_J11_indexOfChar, [.ref 205, .int c, .int 0, .int 2], [])) rfl (E_indexOfChar_201 c h) ?_
    exact Ev.ret rfl
  · rw [if_pos (Decidable.of_not_not (of_decide_eq_false q))]
    refine Ev.steps (B := (8, [(0, .ref 205), (1, .int c), (2, .int 0), (3, .int 2)], [.int (-1)], h)) 1 rfl ?_
    exact Ev.ret rfl
theorem E_IO2_201 (c : Int32) (h : AH) : Ev none mr_J10_indexOf_2 (0, [(0, .ref 201), (1, .int c), (2, .int 0)], [], h) (some (.int (kx 201 c))) h := by
  refine Ev.steps (B := (1, [(0, .ref 201), (1, .int c), (2, .int 0)], [.ref 201], h)) 1 rfl ?_
  refine Ev.call (q := (mr_J10_isLatin1, [.ref 201], [])) rfl (E_isLatin1_201 h) ?_
  refine Ev.steps (B := (14, [(0, .ref 201), (1, .int c), (2, .int 0)], [.ref 201, .int 0, .int c, .ref 205], h)) 6 rfl ?_
  refine Ev.call (q := (mr_J10_length, [.ref 201], [.int 0, .int c, .ref 205])) rfl (E_length_201 h) ?_
  refine Ev.call (q := (mr_J11_indexOf, [.ref 205, .int c, .int 0, .int 2], [])) rfl (E_L1_201 c h) ?_
  refine Ev.steps (B := (36, [(0, .ref 201), (1, .int c), (2, .int 0)], [.int (kx 201 c)], h)) 1 rfl ?_
  exact Ev.ret rfl
theorem E_indexOf_201 (c : Int32) (h : AH) : Ev none mr_J10_indexOf_1 (0, [(0, .ref 201), (1, .int c)], [], h) (some (.int (kx 201 c))) h := by
  refine Ev.steps (B := (3, [(0, .ref 201), (1, .int c)], [.int 0, .int c, .ref 201], h)) 3 rfl ?_
  refine Ev.call (q := (mr_J10_indexOf_2, [.ref 201, .int c, .int 0], [])) rfl (E_IO2_201 c h) ?_
  exact Ev.ret rfl
