/-! what an instruction does -/
def am_cls (i : Nat) : Option Nat := match am_shp[i]? with
  | some (.inr q) => some q.1
  | some (.inl _) => none
  | none => if i = 200 ∨ i = 201 then some 10 else none
/-- the value of a field -/
def am_fv (h : AH) (i ci k : Nat) : Option Value := match am_shp[i]? with
  | some (.inr q) => if q.1 = ci then (match q.2[k]? with
      | some (some j) => some (.ref j)
      | some none => some (.int (h.1 i k))
      | none => none) else none
  | some (.inl _) => none
  | none => if ci = 100 ∧ (i = 200 ∨ i = 201) then (if k = 0 then some (.int 0) else some (.ref (i + 4))) else none
/-- a field that may be written -/
def am_wr (i ci k : Nat) : Bool := match am_shp[i]? with
  | some (.inr q) => decide (q.1 = ci) && decide (q.2[k]? = some none)
  | _ => false
/-- the length of an array of the world of that kind -/
def am_wa (a kind : Nat) : Option Nat := match am_shp[a]? with
  | some (.inl q) => if q.1 = kind then some q.2 else none
  | _ => none
def am_aI (sc : Option (Nat × (Nat → Int32))) (h : AH) (a : Nat) : Option (Nat × (Nat → Int32)) := match am_shp[a]? with
  | some (.inl q) => if q.1 = 0 then some (q.2, h.2.1 a) else none
  | some (.inr _) => none
  | none => am_roI sc a
def am_aB (h : AH) (a : Nat) : Option (Nat × (Nat → Int32)) := match am_shp[a]? with
  | some (.inl q) => if q.1 = 2 then some (q.2, h.2.1 a) else none
  | some (.inr _) => none
  | none => am_roB a
def am_alen (sc : Option (Nat × (Nat → Int32))) (a : Nat) : Option Nat := match am_shp[a]? with
  | some (.inl q) => some q.2
  | some (.inr _) => none
  | none => match am_roB a with
    | some q => some q.1
    | none => match am_roI sc a with
      | some q => some q.1
      | none => none
def am_cpok (sp dp n : Int32) (na nb : Nat) : Bool := !(decide (sp < 0)) && (!(decide (dp < 0)) && (!(decide (n < 0)) && (decide (sp.toNatClampNeg + n.toNatClampNeg ≤ na) && decide (dp.toNatClampNeg + n.toNatClampNeg ≤ nb))))
def am_retok (r : Option FieldType) (v : Int32) : Bool := match r with
  | some .int => true
  | some .boolean => decide (v = 0) || decide (v = 1)
  | some .byte => decide (v = 0)
  | _ => false
def am_refret (r : Option FieldType) : Bool := match r with
  | some (.object _) => true
  | some (.array _) => true
  | _ => false
def am_ii (pc : Nat) (lv : LV) (st : List Value) (h : AH) (f : Int32 → Int32 → Int32) : Option ACT := match st with
  | .int y :: .int x :: r => some (.inl (pc + 1, lv, .int (f x y) :: r, h))
  | _ => none
def am_ll (pc : Nat) (lv : LV) (st : List Value) (h : AH) (f : Int64 → Int64 → Int64) : Option ACT := match st with
  | .long y :: .long x :: r => some (.inl (pc + 1, lv, .long (f x y) :: r, h))
  | _ => none
def am_load (p : Value → Bool) (pc : Nat) (lv : LV) (st : List Value) (h : AH) (i : Nat) : Option ACT := match am_get lv i with
  | some v => bif p v then some (.inl (pc, lv, v :: st, h)) else none
  | none => none
def am_store (p : Value → Bool) (L pc : Nat) (lv : LV) (st : List Value) (h : AH) (i : Nat) : Option ACT := match st with
  | v :: r => bif p v && Nat.blt i L then some (.inl (pc, am_st1 lv i v, r, h)) else none
  | [] => none
def am_storeL (L pc : Nat) (lv : LV) (st : List Value) (h : AH) (i : Nat) : Option ACT := match st with
  | v :: r => bif am_isLong v && Nat.blt (i + 1) L then some (.inl (pc, am_st2 lv i v, r, h)) else none
  | [] => none
/-- a call's room -/
def am_fits (R R' : MR) (as rest : List Value) : Bool := Nat.ble (mr_f R' + 1) (mr_f R) && (Nat.ble (8 + (mr_L R' + 11) + mr_w R') (mr_w R) && (Nat.ble (am_cat as) (mr_L R') && Nat.ble (am_cat rest) 8))
def am_callS (R : MR) (idx : Nat) (st : List Value) : Option ACT := match am_ml (mr_o R) idx with
  | some (R', kd :: _) => bif !(Nat.beq kd 0) && (Nat.ble (mr_n R') st.length && am_fits R R' (st.take (mr_n R')).reverse (st.drop (mr_n R'))) then some (.inr (.inr (R', (st.take (mr_n R')).reverse, st.drop (mr_n R')))) else none
  | _ => none
def am_callV (R : MR) (idx : Nat) (st : List Value) : Option ACT := match am_ml (mr_o R) idx with
  | some (R', kd :: _) => match st.drop (mr_n R') with
    | .ref i :: rest => bif Nat.beq kd 0 && (Nat.ble (mr_n R') st.length && (decide (am_cls i = some (mr_o R')) && am_fits R R' (.ref i :: (st.take (mr_n R')).reverse) rest)) then some (.inr (.inr (R', .ref i :: (st.take (mr_n R')).reverse, rest))) else none
    | _ => none
  | _ => none
def am_copy (R : MR) (pc : Nat) (lv : LV) (st : List Value) (h : AH) : Option ACT := match st with
  | .int n :: .int dp :: .ref b :: .int sp :: .ref a :: r => match am_wa a 0, am_wa b 0 with
    | some na, some nb => bif Nat.ble 1 (mr_f R) && Nat.ble (am_cat r + 18) (mr_w R) then (bif am_cpok sp dp n na nb then some (.inl (pc + 3, lv, r, am_sa h b (va_cpy (h.2.1 a) (h.2.1 b) sp.toNatClampNeg dp.toNatClampNeg n.toNatClampNeg))) else none) else none
    | _, _ => none
  | _ => none
def am_mm (R : MR) (pc : Nat) (lv : LV) (st : List Value) (h : AH) (f : Int32 → Int32 → Int32) : Option ACT := match st with
  | .int y :: .int x :: r => bif Nat.ble 1 (mr_f R) && Nat.ble (am_cat r + 13) (mr_w R) then some (.inl (pc + 3, lv, .int (f x y) :: r, h)) else none
  | _ => none
def am_max (x y : Int32) : Int32 := if x < y then y else x
def am_min (x y : Int32) : Int32 := if y < x then y else x
def am_exec (sc : Option (Nat × (Nat → Int32))) (R : MR) (pc : Nat) (i : Jvm.ClassFile.Instr) (tg : Nat) (ex : List Nat) (sw : List (Int32 × Nat)) (lg : Int64) (lv : LV) (st : List Value) (h : AH) : Option ACT := match i with
  | .iconst _ => match sw with
    | q :: _ => some (.inl (pc + 1, lv, .int q.1 :: st, h))
    | [] => none
  | .bipush _ => match sw with
    | q :: _ => some (.inl (pc + 2, lv, .int q.1 :: st, h))
    | [] => none
  | .sipush _ => match sw with
    | q :: _ => some (.inl (pc + 3, lv, .int q.1 :: st, h))
    | [] => none
  | .ldc _ => match sw with
    | q :: _ => some (.inl (pc + 2, lv, .int q.1 :: st, h))
    | [] => none
  | .ldc_w _ => match sw with
    | q :: _ => some (.inl (pc + 3, lv, .int q.1 :: st, h))
    | [] => none
  | .lconst _ => some (.inl (pc + 1, lv, .long lg :: st, h))
  | .ldc2_w _ => some (.inl (pc + 3, lv, .long lg :: st, h))
  | .aconst_null => some (.inl (pc + 1, lv, .null :: st, h))
  | .iload_n k => am_load am_isInt (pc + 1) lv st h k
  | .iload k => am_load am_isInt (pc + 2) lv st h k
  | .lload_n k => am_load am_isLong (pc + 1) lv st h k
  | .lload k => am_load am_isLong (pc + 2) lv st h k
  | .aload_n k => am_load am_isRef (pc + 1) lv st h k
  | .aload k => am_load am_isRef (pc + 2) lv st h k
  | .istore_n k => am_store am_isInt (mr_L R) (pc + 1) lv st h k
  | .istore k => am_store am_isInt (mr_L R) (pc + 2) lv st h k
  | .astore_n k => am_store am_isRef (mr_L R) (pc + 1) lv st h k
  | .astore k => am_store am_isRef (mr_L R) (pc + 2) lv st h k
  | .lstore_n k => am_storeL (mr_L R) (pc + 1) lv st h k
  | .lstore k => am_storeL (mr_L R) (pc + 2) lv st h k
  | .iinc k _ => match am_get lv k, sw with
    | some (.int x), q :: _ => bif Nat.blt k (mr_L R) then some (.inl (pc + 3, am_st1 lv k (.int (x + q.1)), st, h)) else none
    | _, _ => none
  | .iadd => am_ii pc lv st h (fun x y => x + y)
  | .isub => am_ii pc lv st h (fun x y => x - y)
  | .imul => am_ii pc lv st h (fun x y => x * y)
  | .iand => am_ii pc lv st h (fun x y => x &&& y)
  | .ior => am_ii pc lv st h (fun x y => x ||| y)
  | .ixor => am_ii pc lv st h (fun x y => x ^^^ y)
  | .ishl => am_ii pc lv st h (fun x y => x <<< (y &&& 31))
  | .ishr => am_ii pc lv st h (fun x y => x >>> (y &&& 31))
  | .iushr => am_ii pc lv st h (fun x y => (x.toUInt32 >>> (y.toUInt32 &&& Int32.toUInt32 31)).toInt32)
  | .idiv => match st with
    | .int y :: .int x :: r => if y = 0 then none else some (.inl (pc + 1, lv, .int (x / y) :: r, h))
    | _ => none
  | .irem => match st with
    | .int y :: .int x :: r => if y = 0 then none else some (.inl (pc + 1, lv, .int (x - x / y * y) :: r, h))
    | _ => none
  | .ladd => am_ll pc lv st h (fun x y => x + y)
  | .lsub => am_ll pc lv st h (fun x y => x - y)
  | .lmul => am_ll pc lv st h (fun x y => x * y)
  | .land => am_ll pc lv st h (fun x y => x &&& y)
  | .lor => am_ll pc lv st h (fun x y => x ||| y)
  | .ldiv => match st with
    | .long y :: .long x :: r => if y = 0 then none else some (.inl (pc + 1, lv, .long (x / y) :: r, h))
    | _ => none
  | .lrem => match st with
    | .long y :: .long x :: r => if y = 0 then none else some (.inl (pc + 1, lv, .long (x - x / y * y) :: r, h))
    | _ => none
  | .lshl => match st with
    | .int y :: .long x :: r => some (.inl (pc + 1, lv, .long (x <<< (y.toInt64 &&& 63)) :: r, h))
    | _ => none
  | .lshr => match st with
    | .int y :: .long x :: r => some (.inl (pc + 1, lv, .long (x >>> (y.toInt64 &&& 63)) :: r, h))
    | _ => none
  | .lcmp => match st with
    | .long y :: .long x :: r => some (.inl (pc + 1, lv, .int (lg_cmp x y) :: r, h))
    | _ => none
  | .i2l => match st with
    | .int x :: r => some (.inl (pc + 1, lv, .long x.toInt64 :: r, h))
    | _ => none
  | .l2i => match st with
    | .long x :: r => some (.inl (pc + 1, lv, .int x.toInt32 :: r, h))
    | _ => none
  | .i2b => match st with
    | .int x :: r => some (.inl (pc + 1, lv, .int x.toInt8.toInt32 :: r, h))
    | _ => none
  | .i2s => match st with
    | .int x :: r => some (.inl (pc + 1, lv, .int x.toInt16.toInt32 :: r, h))
    | _ => none
  | .i2c => match st with
    | .int x :: r => some (.inl (pc + 1, lv, .int (x.toUInt32 % 65536).toInt32 :: r, h))
    | _ => none
  | .dup => match st with
    | v :: r => bif Nat.beq v.category 1 then some (.inl (pc + 1, lv, v :: v :: r, h)) else none
    | _ => none
  | .dup2 => match st with
    | v :: w :: r => bif Nat.beq v.category 1 && Nat.beq w.category 1 then some (.inl (pc + 1, lv, v :: w :: v :: w :: r, h)) else none
    | _ => none
  | .goto _ => some (.inl (tg, lv, st, h))
  | .if_icmp c _ => match st with
    | .int y :: .int x :: r => some (.inl (bif am_cmp c x y then tg else pc + 3, lv, r, h))
    | _ => none
  | .ifCond c _ => match st with
    | .int x :: r => some (.inl (bif am_cmp c x 0 then tg else pc + 3, lv, r, h))
    | _ => none
  | .ifnull _ => match st with
    | .ref _ :: r => some (.inl (pc + 3, lv, r, h))
    | .null :: r => some (.inl (tg, lv, r, h))
    | _ => none
  | .ifnonnull _ => match st with
    | .ref _ :: r => some (.inl (tg, lv, r, h))
    | .null :: r => some (.inl (pc + 3, lv, r, h))
    | _ => none
  | .tableswitch _ _ _ _ => match st with
    | .int x :: r => some (.inl (am_sel x sw tg, lv, r, h))
    | _ => none
  | .lookupswitch _ _ => match st with
    | .int x :: r => some (.inl (am_sel x sw tg, lv, r, h))
    | _ => none
  | .getfield _ => match st, ex with
    | .ref a :: r, ci :: k :: _ => match am_fv h a ci k with
      | some v => some (.inl (pc + 3, lv, v :: r, h))
      | none => none
    | _, _ => none
  | .putfield _ => match st, ex with
    | .int v :: .ref a :: r, [ci, k, _, b] => bif am_wr a ci k && (Nat.beq b 0 || (decide (v = 0) || decide (v = 1))) then some (.inl (pc + 3, lv, r, am_sf h a k v)) else none
    | _, _ => none
  | .getstatic _ => match ex with
    | [0, _] => some (.inl (pc + 3, lv, .int 1 :: st, h))
    | [1, _] => some (.inl (pc + 3, lv, .ref 202 :: st, h))
    | [2, _] => some (.inl (pc + 3, lv, .ref 203 :: st, h))
    | _ => none
  | .iaload => match st with
    | .int j :: .ref a :: r => match am_aI sc h a with
      | some q => bif am_in j q.1 then some (.inl (pc + 1, lv, .int (q.2 j.toNatClampNeg) :: r, h)) else none
      | none => none
    | _ => none
  | .baload => match st with
    | .int j :: .ref a :: r => match am_aB h a with
      | some q => bif am_in j q.1 then some (.inl (pc + 1, lv, .int (q.2 j.toNatClampNeg) :: r, h)) else none
      | none => none
    | _ => none
  | .laload => match st with
    | .int j :: .ref a :: r => match am_wa a 1 with
      | some n => bif am_in j n then some (.inl (pc + 1, lv, .long (h.2.2 a j.toNatClampNeg) :: r, h)) else none
      | none => none
    | _ => none
  | .iastore => match st with
    | .int x :: .int j :: .ref a :: r => match am_wa a 0 with
      | some n => bif am_in j n then some (.inl (pc + 1, lv, r, am_sa h a (upd (h.2.1 a) j.toNatClampNeg x))) else none
      | none => none
    | _ => none
  | .bastore => match st with
    | .int x :: .int j :: .ref a :: r => match am_wa a 2 with
      | some n => bif am_in j n then some (.inl (pc + 1, lv, r, am_sa h a (upd (h.2.1 a) j.toNatClampNeg (vp_nar .boolean x)))) else none
      | none => none
    | _ => none
  | .lastore => match st with
    | .long x :: .int j :: .ref a :: r => match am_wa a 1 with
      | some n => bif am_in j n then some (.inl (pc + 1, lv, r, am_sl h a (vp_updL (h.2.2 a) j.toNatClampNeg x))) else none
      | none => none
    | _ => none
  | .arraylength => match st with
    | .ref a :: r => match am_alen sc a with
      | some n => some (.inl (pc + 1, lv, .int (Int32.ofNat n) :: r, h))
      | none => none
    | _ => none
  | .invokestatic idx => match ex with
    | 0 :: _ => am_callS R idx st
    | 1 :: _ => am_copy R pc lv st h
    | 2 :: _ => am_mm R pc lv st h am_max
    | 3 :: _ => am_mm R pc lv st h am_min
    | _ => none
  | .invokevirtual idx => am_callV R idx st
  | .ireturn => match st with
    | [.int v] => bif am_retok (mr_r R) v then some (.inr (.inl (some (.int v)))) else none
    | _ => none
  | .lreturn => match st with
    | [.long v] => bif decide (mr_r R = some .long) then some (.inr (.inl (some (.long v)))) else none
    | _ => none
  | .areturn => match st with
    | [v] => bif am_isRef v && am_refret (mr_r R) then some (.inr (.inl (some v))) else none
    | _ => none
  | .return_ => match st with
    | [] => bif decide (mr_r R = none) then some (.inr (.inl none)) else none
    | _ => none
  | _ => none
def am_step (sc : Option (Nat × (Nat → Int32))) (R : MR) (A : AS) : Option ACT := match am_row (mr_c R) A.1 with
  | some q => am_exec sc R A.1 q.1 q.2.1 q.2.2.1 q.2.2.2.1 q.2.2.2.2 A.2.1 A.2.2.1 A.2.2.2
  | none => none
def am_run : Nat → Option (Nat × (Nat → Int32)) → MR → AS → Option (Option Value × AH)
  | 0, _, _, _ => none
  | n + 1, sc, R, A => match am_step sc R A with
    | some (.inl B) => am_run n sc R B
    | some (.inr (.inl v)) => some (v, A.2.2.2)
    | some (.inr (.inr q)) => match am_run n none q.1 (0, lv_args 0 q.2.1, [], A.2.2.2) with
      | some w => am_run n sc R (A.1 + 3, A.2.1, w.1.toList ++ q.2.2, w.2)
      | none => none
    | none => none
