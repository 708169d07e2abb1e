/-! THE ABSTRACT MACHINE. A world of a fixed shape: cells 0 .. 108 (their fields that are references never change behind the constructors), constants 200 .. 206 that nobody writes. What changes is AH: int fields by cell and slot, int arrays by cell, long arrays by cell. References are numbers of cells. -/
abbrev AH : Type := (Nat → Nat → Int32) × (Nat → Nat → Int32) × (Nat → Nat → Int64)
abbrev LV : Type := List (Nat × Value)
abbrev AS : Type := Nat × LV × List Value × AH
/-- a cell's shape: an array (kind 0 int, 1 long, 2 boolean; length), or an object (its kind, its fields that are references) -/
abbrev SP : Type := (Nat × Nat) ⊕ (Nat × List (Option Nat))
/-- a row of code: pc, instruction, target or place of a word, numbers, keys with targets, a long -/
abbrev RW : Type := Nat × Jvm.ClassFile.Instr × Nat × List Nat × List (Int32 × Nat) × Int64
/-- a method: whose it is, parameters, name, bytes, locals, return type, frames below, words of locals below, rows -/
abbrev MR : Type := Nat × Nat × MethodName × ByteArray × Nat × Option FieldType × Nat × Nat × List RW
abbrev mr_o (R : MR) : Nat := R.1
abbrev mr_n (R : MR) : Nat := R.2.1
abbrev mr_y (R : MR) : MethodName := R.2.2.1
abbrev mr_b (R : MR) : ByteArray := R.2.2.2.1
abbrev mr_L (R : MR) : Nat := R.2.2.2.2.1
abbrev mr_r (R : MR) : Option FieldType := R.2.2.2.2.2.1
abbrev mr_f (R : MR) : Nat := R.2.2.2.2.2.2.1
abbrev mr_w (R : MR) : Nat := R.2.2.2.2.2.2.2.1
abbrev mr_c (R : MR) : List RW := R.2.2.2.2.2.2.2.2
/-- what a step may be: the next state, a return, a call (callee, its arguments, what stays below) -/
abbrev ACT : Type := AS ⊕ (Option Value ⊕ (MR × List Value × List Value))
def am_sf (h : AH) (i k : Nat) (v : Int32) : AH := (fun a b => if a = i then (if b = k then v else h.1 a b) else h.1 a b, h.2)
def am_sa (h : AH) (i : Nat) (g : Nat → Int32) : AH := (h.1, fun a => if a = i then g else h.2.1 a, h.2.2)
def am_sl (h : AH) (i : Nat) (g : Nat → Int64) : AH := (h.1, h.2.1, fun a => if a = i then g else h.2.2 a)
def am_in (i : Int32) (n : Nat) : Bool := !(decide (i < 0)) && decide (i.toNatClampNeg < n)
theorem am_in_vp {i : Int32} {n : Nat} (h : am_in i n = true) : vp_in i n := by
  simp only [am_in, Bool.and_eq_true, Bool.not_eq_true', decide_eq_false_iff_not, decide_eq_true_eq] at h
  rintro (q | q)
  · exact h.1 q
  · omega
def am_get : LV → Nat → Option Value
  | [], _ => none
  | q :: l, i => bif Nat.beq q.1 i then some q.2 else am_get l i
theorem am_get_mem : ∀ {l : LV} {i : Nat} {v : Value}, am_get l i = some v → (i, v) ∈ l
  | [], _, _, h => by cases h
  | (j, w) :: l, i, v, h => by
    unfold am_get at h
    cases hq : Nat.beq j i with
    | true =>
      simp only [hq, cond_true, Option.some.injEq] at h
      rw [← Nat.eq_of_beq_eq_true hq, ← h]
      exact List.mem_cons_self
    | false =>
      simp only [hq, cond_false] at h
      exact List.mem_cons_of_mem _ (am_get_mem h)
def am_st1 (lv : LV) (i : Nat) (v : Value) : LV := (i, v) :: lv.filter (fun q => !(q.1 == i) && !(q.1 + 1 == i && q.2.category == 2))
def am_st2 (lv : LV) (i : Nat) (v : Value) : LV := (i, v) :: lv.filter (fun q => !(q.1 == i) && (!(q.1 == i + 1) && !(q.1 + 1 == i && q.2.category == 2)))
def am_row : List RW → Nat → Option (Jvm.ClassFile.Instr × Nat × List Nat × List (Int32 × Nat) × Int64)
  | [], _ => none
  | r :: l, pc => bif Nat.beq r.1 pc then some r.2 else am_row l pc
theorem am_row_mem : ∀ {c : List RW} {pc : Nat} {r : Jvm.ClassFile.Instr × Nat × List Nat × List (Int32 × Nat) × Int64}, am_row c pc = some r → (pc, r) ∈ c
  | [], _, _, h => by cases h
  | (j, w) :: l, i, v, h => by
    unfold am_row at h
    cases hq : Nat.beq j i with
    | true =>
      simp only [hq, cond_true, Option.some.injEq] at h
      rw [← Nat.eq_of_beq_eq_true hq, ← h]
      exact List.mem_cons_self
    | false =>
      simp only [hq, cond_false] at h
      exact List.mem_cons_of_mem _ (am_row_mem h)
/-- an instruction's length, but for the switches -/
def am_len : Jvm.ClassFile.Instr → Nat
  | .bipush _ | .iload _ | .istore _ | .aload _ | .astore _ | .lload _ | .lstore _ | .ldc _ => 2
  | .sipush _ | .iinc _ _ | .getfield _ | .putfield _ | .getstatic _ | .invokestatic _ | .invokevirtual _ | .goto _ | .if_icmp _ _ | .ifCond _ _ | .ifnull _ | .ifnonnull _ | .ldc_w _ | .ldc2_w _ => 3
  | _ => 1
def am_sel (x : Int32) : List (Int32 × Nat) → Nat → Nat
  | [], d => d
  | q :: l, d => if x = q.1 then q.2 else am_sel x l d
def am_cmp : Jvm.ClassFile.Cond → Int32 → Int32 → Bool
  | .eq, x, y => decide (x = y)
  | .ne, x, y => decide (¬ x = y)
  | .lt, x, y => decide (x < y)
  | .ge, x, y => decide (y ≤ x)
  | .gt, x, y => decide (y < x)
  | .le, x, y => decide (x ≤ y)
def am_isInt : Value → Bool | .int _ => true | _ => false
def am_isLong : Value → Bool | .long _ => true | _ => false
def am_isRef : Value → Bool | .ref _ => true | .null => true | _ => false
def am_cat (st : List Value) : Nat := (st.map fun v => v.category).sum
/-- constants that nobody writes -/
def am_roI (sc : Option (Nat × (Nat → Int32))) (a : Nat) : Option (Nat × (Nat → Int32)) := match a with
  | 202 => some (3, fun j => [3, 5, 9].getD j 0)
  | 203 => some (3, fun j => [3, 4, 3].getD j 0)
  | 206 => sc
  | _ => none
def am_roB (a : Nat) : Option (Nat × (Nat → Int32)) := match a with
  | 204 => some (3, fun j => [107, 98, 99].getD j 0)
  | 205 => some (2, fun j => [119, 100].getD j 0)
  | _ => none
