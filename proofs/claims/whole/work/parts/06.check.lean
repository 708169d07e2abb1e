/-! what the rows must keep: decided by the kernel, a method at a time -/
def am_wd (p : Nat) (w : Jvm.Cond) : Bool := decide (lw_tbl[p]? = some w) && goodWord w
theorem am_wd_mem {p : Nat} {w : Jvm.Cond} (h : am_wd p w = true) : w ∈ am_all := by
  simp only [am_wd, Bool.and_eq_true, decide_eq_true_eq] at h
  exact am_mem p h.1 h.2
def am_isSw : Jvm.ClassFile.Instr → Bool
  | .tableswitch _ _ _ _ => true
  | .lookupswitch _ _ => true
  | _ => false
def am_tsw (pc : Nat) : Int → List Int → List (Int32 × Nat) → Bool
  | lo, o :: os, q :: qs => decide (q.1.toInt = lo) && (decide ((pc : Int) + o = (q.2 : Int)) && am_tsw pc (lo + 1) os qs)
  | _, [], [] => true
  | _, _, _ => false
def am_lsw (pc : Nat) : List (Int × Int) → List (Int32 × Nat) → Bool
  | a :: os, q :: qs => decide (q.1.toInt = a.1) && (decide ((pc : Int) + a.2 = (q.2 : Int)) && am_lsw pc os qs)
  | [], [] => true
  | _, _ => false
def am_fl (o idx : Nat) (ex : List Nat) : Bool := match ex with
  | ci :: k :: p :: _ => if ci = 100 then decide (k < 2) && am_wd p (.fieldLink (am_cn o) idx "java/lang/String" (if k = 0 then "coder" else "value") (if k = 0 then "B" else "[B")) else match am_cl[ci]? with
    | some q => decide (k < q.2.2) && am_wd p (.fieldLink (am_cn o) idx (q.2.1 k).1 (q.2.1 k).2.1 (q.2.1 k).2.2.1)
    | none => false
  | _ => false
def am_pl (o idx : Nat) (ex : List Nat) : Bool := match ex with
  | [ci, k, p, b] => match am_cl[ci]? with
    | some q => decide (k < q.2.2) && (am_wd p (.fieldLink (am_cn o) idx (q.2.1 k).1 (q.2.1 k).2.1 (q.2.1 k).2.2.1) && (!((q.2.1 k).2.2.2) && decide (parseFieldDescriptor (q.2.1 k).2.2.1 = some (if b = 0 then .int else .boolean))))
    | none => false
  | _ => false
def am_rowx (o : Nat) (r : RW) : Bool := match r.2.1 with
  | .iconst n => match r.2.2.2.2.1 with
    | q :: _ => decide (Int32.ofInt n = q.1)
    | [] => false
  | .bipush n => match r.2.2.2.2.1 with
    | q :: _ => decide ((Int8.ofInt n).toInt32 = q.1)
    | [] => false
  | .sipush n => match r.2.2.2.2.1 with
    | q :: _ => decide ((Int16.ofInt n).toInt32 = q.1)
    | [] => false
  | .iinc _ n => match r.2.2.2.2.1 with
    | q :: _ => decide (Int32.ofInt n = q.1)
    | [] => false
  | .lconst n => decide (Int64.ofNat n = r.2.2.2.2.2)
  | .goto off => decide ((r.1 : Int) + off = (r.2.2.1 : Int))
  | .if_icmp _ off => decide ((r.1 : Int) + off = (r.2.2.1 : Int))
  | .ifCond _ off => decide ((r.1 : Int) + off = (r.2.2.1 : Int))
  | .ifnull off => decide ((r.1 : Int) + off = (r.2.2.1 : Int))
  | .ifnonnull off => decide ((r.1 : Int) + off = (r.2.2.1 : Int))
  | .ldc idx => match r.2.2.2.2.1 with
    | q :: _ => am_wd r.2.2.1 (.constant (am_cn o) idx q.1)
    | [] => false
  | .ldc_w idx => match r.2.2.2.2.1 with
    | q :: _ => am_wd r.2.2.1 (.constant (am_cn o) idx q.1)
    | [] => false
  | .ldc2_w idx => am_wd r.2.2.1 (.constantLong (am_cn o) idx r.2.2.2.2.2)
  | .tableswitch d lo hi offs => am_tsw r.1 lo offs.toList r.2.2.2.2.1 && (decide (hi + 1 = lo + offs.toList.length) && decide ((r.1 : Int) + d = (r.2.2.1 : Int)))
  | .lookupswitch d ps => am_lsw r.1 ps.toList r.2.2.2.2.1 && ((ps.toList.zip (ps.toList.drop 1)).all (fun (a, next) => a.1 < next.1) && decide ((r.1 : Int) + d = (r.2.2.1 : Int)))
  | .getfield idx => am_fl o idx r.2.2.2.1
  | .putfield idx => am_pl o idx r.2.2.2.1
  | .getstatic idx => match r.2.2.2.1 with
    | [0, p] => am_wd p (.fieldLink (am_cn o) idx "java/lang/String" "COMPACT_STRINGS" "Z")
    | [1, _] => decide (o = 2 ∧ idx = am_gm)
    | [2, _] => decide (o = 2 ∧ idx = am_gf)
    | _ => false
  | .invokestatic idx => match r.2.2.2.1 with
    | 0 :: _ => true
    | [1, p] => am_wd p (.methodLink (am_cn o) idx arraycopyName)
    | [2, p] => am_wd p (.methodLink (am_cn o) idx Lib.Math.max.name)
    | [3, p] => am_wd p (.methodLink (am_cn o) idx Lib.Math.min.name)
    | _ => false
  | _ => true
def am_rowok (o : Nat) (b : ByteArray) (r : RW) : Bool := (match decode b r.1 with
    | .ok (j, n) => decide (j = r.2.1) && (am_isSw r.2.1 || Nat.beq n (am_len r.2.1))
    | .error _ => false) && am_rowx o r
/-- a method's own words -/
def am_nm (R : MR) : Bool := decide ((mr_y R).cls = am_cn (mr_o R)) && (Jvm.plainName (mr_y R).cls && (!(decide ((mr_y R).cls = "java/lang/invoke/MethodHandle")) && (!(decide ((mr_y R).cls = "java/lang/invoke/VarHandle")) && decide ((parseMethodDescriptor (mr_y R).desc).map (fun d => d.parameters.length) = some (mr_n R)))))
/-- a method that keeps its rows -/
def am_G (R : MR) : Prop := (mr_c R).all (am_rowok (mr_o R) (mr_b R)) = true ∧ am_nm R = true ∧ Jvm.Cond.code (mr_y R) (mr_b R) (mr_L R) (mr_r R) ∈ am_all
def am_mlk (o : Nat) (e : ML) : Bool := match e.2.2 with
  | [0, p1, p2, p3, p4, _] => am_wd p1 (.methodLink (am_cn o) e.1 (mr_y e.2.1)) && (am_wd p2 (.instanceMethod (mr_y e.2.1)) && (am_wd p3 (.selects (mr_y e.2.1).cls (mr_y e.2.1) (mr_y e.2.1)) && (am_wd p4 (.initialized (mr_y e.2.1).cls))))
  | [1, p1, p2, _, p4, _] => am_wd p1 (.methodLink (am_cn o) e.1 (mr_y e.2.1)) && (am_wd p2 (.static (mr_y e.2.1)) && (am_wd p4 (.initialized (mr_y e.2.1).cls)))
  | [2, _, p2, _, p4, _] => decide (o = 2 ∧ e.1 = am_gw ∧ mr_y e.2.1 = ⟨"Samovar", "within", "(II)Z"⟩) && (am_wd p2 (.static (mr_y e.2.1)) && (am_wd p4 (.initialized (mr_y e.2.1).cls)))
  | _ => false
/-- a link that keeps its words -/
def am_GL (o : Nat) (e : ML) : Prop := am_mlk o e = true ∧ am_G e.2.1
