/-! every step -/
section AMN
variable {p : Program} {l : Launch} {e : Env} {Rm : Room} {s : State} {m : MethodId} {args : Array Value} {below : List Frame} {meth : Method} {c : Code} {cells slots : Nat} {Q : State → Prop} {D : va_G} {tc : Nat → ClassId} {ad : Nat → Nat} {A : Nat → Prop} {R : MR} {sc : Option (Nat × (Nat → Int32))}
variable {pc : Nat} {lv : LV} {st : List Value} {h : AH} {B : AS}
theorem am_no {α : Type} {x : α} (z : (none : Option α) = some x) : False := by cases z
theorem am_ft (z : false = true) : False := by cases z
theorem am_bifI {b : Bool} {x : AS} (z : (bif b then some (Sum.inl x : ACT) else none) = some (.inl B)) : b = true ∧ x = B := by
  cases b with
  | false => cases z
  | true => cases z; exact ⟨rfl, rfl⟩
theorem am_bifR {b : Bool} {x : Option Value ⊕ (MR × List Value × List Value)} (z : (bif b then some (Sum.inr x : ACT) else none) = some (.inl B)) : False := by
  cases b with
  | false => cases z
  | true => cases z
set_option maxHeartbeats 4000000 in
theorem am_next (X : am_FX p s m args c Rm cells slots D tc ad A sc R) {i : Jvm.ClassFile.Instr} {tg : Nat} {ex : List Nat} {sw : List (Int32 × Nat)} {lg : Int64} (hr : am_row (mr_c R) pc = some (i, tg, ex, sw, lg)) (he : am_exec sc R pc i tg ex sw lg lv st h = some (.inl B)) (k : am_WA p l e Rm s m args below meth c cells slots Q D tc ad A R B) :
    am_WA p l e Rm s m args below meth c cells slots Q D tc ad A R (pc, lv, st, h) := by
  obtain ⟨⟨n, hd, hn⟩, hw⟩ := am_dec X hr
  have hx := X.1
  have hb := X.2.1
  have hown := X.2.2.2.1
  have hts := X.2.2.2.2.1
  cases i with
  | iconst z =>
    have hn : n = 1 := hn.resolve_left (fun q => am_ft q)
    subst hn
    cases sw with
    | nil => cases he
    | cons q sw =>
      cases he
      intro ls H locs hl hP hS
      exact lv_iconst hx hb hd (of_decide_eq_true hw) (k ls H locs hl hP hS)
  | bipush z =>
    have hn : n = 2 := hn.resolve_left (fun q => am_ft q)
    subst hn
    cases sw with
    | nil => cases he
    | cons q sw =>
      cases he
      intro ls H locs hl hP hS
      exact lv_bipush hx hb hd (of_decide_eq_true hw) (k ls H locs hl hP hS)
  | sipush z =>
    have hn : n = 3 := hn.resolve_left (fun q => am_ft q)
    subst hn
    cases sw with
    | nil => cases he
    | cons q sw =>
      cases he
      intro ls H locs hl hP hS
      exact lv_sipush hx hb hd (of_decide_eq_true hw) (k ls H locs hl hP hS)
  | ldc z =>
    have hn : n = 2 := hn.resolve_left (fun q => am_ft q)
    subst hn
    cases sw with
    | nil => cases he
    | cons q sw =>
      cases he
      intro ls H locs hl hP hS
      exact lv_ldc hx hb hown (hts _ (am_wd_mem hw)) hd (k ls H locs hl hP hS)
  | ldc_w z =>
    have hn : n = 3 := hn.resolve_left (fun q => am_ft q)
    subst hn
    cases sw with
    | nil => cases he
    | cons q sw =>
      cases he
      intro ls H locs hl hP hS
      exact lv_ldcw hx hb hown (hts _ (am_wd_mem hw)) hd (k ls H locs hl hP hS)
  | lconst z =>
    have hn : n = 1 := hn.resolve_left (fun q => am_ft q)
    subst hn
    cases he
    intro ls H locs hl hP hS
    exact lv_lconst hx hb hd (of_decide_eq_true hw) (k ls H locs hl hP hS)
  | ldc2_w z =>
    have hn : n = 3 := hn.resolve_left (fun q => am_ft q)
    subst hn
    cases he
    intro ls H locs hl hP hS
    exact lv_ldc2 hx hb hown (hts _ (am_wd_mem hw)) hd (k ls H locs hl hP hS)
  | aconst_null =>
    have hn : n = 1 := hn.resolve_left (fun q => am_ft q)
    subst hn
    cases he
    intro ls H locs hl hP hS
    exact lv_null hx hb hd (k ls H locs hl hP hS)
  | iload_n z =>
    have hn : n = 1 := hn.resolve_left (fun q => am_ft q)
    subst hn
    refine am_n_load he k (fun {ls H locs rest v} hv hl w => ?_)
    cases v with
    | int x => exact lv_iload_n hx hb hd rfl hl w
    | _ => cases hv
  | iload z =>
    have hn : n = 2 := hn.resolve_left (fun q => am_ft q)
    subst hn
    refine am_n_load he k (fun {ls H locs rest v} hv hl w => ?_)
    cases v with
    | int x => exact lv_iload hx hb hd hl w
    | _ => cases hv
  | lload_n z =>
    have hn : n = 1 := hn.resolve_left (fun q => am_ft q)
    subst hn
    refine am_n_load he k (fun {ls H locs rest v} hv hl w => ?_)
    cases v with
    | long x => exact lv_lload_n hx hb hd rfl hl w
    | _ => cases hv
  | lload z =>
    have hn : n = 2 := hn.resolve_left (fun q => am_ft q)
    subst hn
    refine am_n_load he k (fun {ls H locs rest v} hv hl w => ?_)
    cases v with
    | long x => exact lv_lload hx hb hd hl w
    | _ => cases hv
  | aload_n z =>
    have hn : n = 1 := hn.resolve_left (fun q => am_ft q)
    subst hn
    refine am_n_load he k (fun {ls H locs rest v} hv hl w => ?_)
    cases v with
    | ref x => exact lv_aload_n hx hb hd rfl hl w
    | null => exact lv_aload_nN hx hb hd rfl hl w
    | _ => cases hv
  | aload z =>
    have hn : n = 2 := hn.resolve_left (fun q => am_ft q)
    subst hn
    refine am_n_load he k (fun {ls H locs rest v} hv hl w => ?_)
    cases v with
    | ref x => exact lv_aload hx hb hd hl w
    | null => exact lv_aloadN hx hb hd hl w
    | _ => cases hv
  | istore_n z =>
    have hn : n = 1 := hn.resolve_left (fun q => am_ft q)
    subst hn
    refine am_n_store he k (fun {ls H locs rest v l0} hv hl hi w => ?_)
    cases v with
    | int x => exact lv_istore_n hx hb hd rfl hl hi rfl w
    | _ => cases hv
  | istore z =>
    have hn : n = 2 := hn.resolve_left (fun q => am_ft q)
    subst hn
    refine am_n_store he k (fun {ls H locs rest v l0} hv hl hi w => ?_)
    cases v with
    | int x => exact lv_istore hx hb hd hl hi rfl w
    | _ => cases hv
  | astore_n z =>
    have hn : n = 1 := hn.resolve_left (fun q => am_ft q)
    subst hn
    refine am_n_store he k (fun {ls H locs rest v l0} hv hl hi w => ?_)
    cases v with
    | ref x => exact lv_astore_n hx hb hd rfl hl hi rfl w
    | null => exact lv_astore_nN hx hb hd rfl hl hi rfl w
    | _ => cases hv
  | astore z =>
    have hn : n = 2 := hn.resolve_left (fun q => am_ft q)
    subst hn
    refine am_n_store he k (fun {ls H locs rest v l0} hv hl hi w => ?_)
    cases v with
    | ref x => exact lv_astore hx hb hd hl hi rfl w
    | null => exact lv_astoreN hx hb hd hl hi rfl w
    | _ => cases hv
  | lstore_n z =>
    have hn : n = 1 := hn.resolve_left (fun q => am_ft q)
    subst hn
    exact am_n_storeL he k (fun {ls H locs rest x l0} hl hi w => lv_lstore_n hx hb hd rfl hl hi rfl w)
  | lstore z =>
    have hn : n = 2 := hn.resolve_left (fun q => am_ft q)
    subst hn
    exact am_n_storeL he k (fun {ls H locs rest x l0} hl hi w => lv_lstore hx hb hd hl hi rfl w)
  | iinc z z2 =>
    have hn : n = 3 := hn.resolve_left (fun q => am_ft q)
    subst hn
    replace he : (match am_get lv z, sw with
      | some (.int x), q :: _ => bif Nat.blt z (mr_L R) then some (Sum.inl (pc + 3, am_st1 lv z (.int (x + q.1)), st, h) : ACT) else none
      | _, _ => none) = some (.inl B) := he
    split at he
    · rename_i x q sw hg
      obtain ⟨h1, rfl⟩ := am_bifI he
      have h1 := Nat.le_of_ble_eq_true h1
      intro ls H locs hl hP hS
      obtain ⟨kk, hkk⟩ := List.getElem?_of_mem (List.mem_map.mpr ⟨(z, Value.int x), am_get_mem hg, rfl⟩ : (z, am_cv ad (.int x)) ∈ am_lv ad lv)
      refine lv_iinc (k := kk) (v := x + q.1) hx hb hd hl hkk (by rw [of_decide_eq_true hw]) h1 (am_lv_st1 ad lv z (.int (x + q.1))) (fun ls' hl' => ?_)
      exact k ls' H locs hl' hP hS
    · cases he
  | iadd =>
    have hn : n = 1 := hn.resolve_left (fun q => am_ft q)
    subst hn
    exact am_n_ii (f := _) he k (fun w => lv_iadd hx hb hd w)
  | isub =>
    have hn : n = 1 := hn.resolve_left (fun q => am_ft q)
    subst hn
    exact am_n_ii (f := _) he k (fun w => lv_isub hx hb hd w)
  | imul =>
    have hn : n = 1 := hn.resolve_left (fun q => am_ft q)
    subst hn
    exact am_n_ii (f := _) he k (fun w => lv_imul hx hb hd w)
  | iand =>
    have hn : n = 1 := hn.resolve_left (fun q => am_ft q)
    subst hn
    exact am_n_ii (f := _) he k (fun w => lv_iand hx hb hd w)
  | ior =>
    have hn : n = 1 := hn.resolve_left (fun q => am_ft q)
    subst hn
    exact am_n_ii (f := _) he k (fun w => lv_ior hx hb hd w)
  | ixor =>
    have hn : n = 1 := hn.resolve_left (fun q => am_ft q)
    subst hn
    exact am_n_ii (f := _) he k (fun w => lv_ixor hx hb hd w)
  | ishl =>
    have hn : n = 1 := hn.resolve_left (fun q => am_ft q)
    subst hn
    exact am_n_ii (f := _) he k (fun w => lv_ishl hx hb hd w)
  | ishr =>
    have hn : n = 1 := hn.resolve_left (fun q => am_ft q)
    subst hn
    exact am_n_ii (f := _) he k (fun w => lv_ishr hx hb hd w)
  | iushr =>
    have hn : n = 1 := hn.resolve_left (fun q => am_ft q)
    subst hn
    exact am_n_ii (f := _) he k (fun w => lv_iushr hx hb hd rfl w)
  | ladd =>
    have hn : n = 1 := hn.resolve_left (fun q => am_ft q)
    subst hn
    exact am_n_ll (f := _) he k (fun w => lv_ladd hx hb hd w)
  | lsub =>
    have hn : n = 1 := hn.resolve_left (fun q => am_ft q)
    subst hn
    exact am_n_ll (f := _) he k (fun w => lv_lsub hx hb hd w)
  | lmul =>
    have hn : n = 1 := hn.resolve_left (fun q => am_ft q)
    subst hn
    exact am_n_ll (f := _) he k (fun w => lv_lmul hx hb hd w)
  | land =>
    have hn : n = 1 := hn.resolve_left (fun q => am_ft q)
    subst hn
    exact am_n_ll (f := _) he k (fun w => lv_land hx hb hd w)
  | lor =>
    have hn : n = 1 := hn.resolve_left (fun q => am_ft q)
    subst hn
    exact am_n_ll (f := _) he k (fun w => lv_lor hx hb hd w)
  | idiv =>
    have hn : n = 1 := hn.resolve_left (fun q => am_ft q)
    subst hn
    replace he : (match st with
      | .int y :: .int x :: r => if y = 0 then none else some (Sum.inl (pc + 1, lv, Value.int (x / y) :: r, h) : ACT)
      | _ => none) = some (.inl B) := he
    split at he
    · rename_i y x r
      by_cases hy : y = 0
      · rw [if_pos hy] at he
        cases he
      · rw [if_neg hy] at he
        cases he
        intro ls H locs hl hP hS
        exact lv_idiv hx hb hd hy (k ls H locs hl hP hS)
    · cases he
  | irem =>
    have hn : n = 1 := hn.resolve_left (fun q => am_ft q)
    subst hn
    replace he : (match st with
      | .int y :: .int x :: r => if y = 0 then none else some (Sum.inl (pc + 1, lv, Value.int (x - x / y * y) :: r, h) : ACT)
      | _ => none) = some (.inl B) := he
    split at he
    · rename_i y x r
      by_cases hy : y = 0
      · rw [if_pos hy] at he
        cases he
      · rw [if_neg hy] at he
        cases he
        intro ls H locs hl hP hS
        exact lv_irem hx hb hd hy (k ls H locs hl hP hS)
    · cases he
  | ldiv =>
    have hn : n = 1 := hn.resolve_left (fun q => am_ft q)
    subst hn
    replace he : (match st with
      | .long y :: .long x :: r => if y = 0 then none else some (Sum.inl (pc + 1, lv, Value.long (x / y) :: r, h) : ACT)
      | _ => none) = some (.inl B) := he
    split at he
    · rename_i y x r
      by_cases hy : y = 0
      · rw [if_pos hy] at he
        cases he
      · rw [if_neg hy] at he
        cases he
        intro ls H locs hl hP hS
        exact lv_ldiv hx hb hd hy (k ls H locs hl hP hS)
    · cases he
  | lrem =>
    have hn : n = 1 := hn.resolve_left (fun q => am_ft q)
    subst hn
    replace he : (match st with
      | .long y :: .long x :: r => if y = 0 then none else some (Sum.inl (pc + 1, lv, Value.long (x - x / y * y) :: r, h) : ACT)
      | _ => none) = some (.inl B) := he
    split at he
    · rename_i y x r
      by_cases hy : y = 0
      · rw [if_pos hy] at he
        cases he
      · rw [if_neg hy] at he
        cases he
        intro ls H locs hl hP hS
        exact lv_lrem hx hb hd hy (k ls H locs hl hP hS)
    · cases he
  | lshl =>
    have hn : n = 1 := hn.resolve_left (fun q => am_ft q)
    subst hn
    replace he : (match st with
      | .int y :: .long x :: r => some (Sum.inl (pc + 1, lv, Value.long (x <<< (y.toInt64 &&& 63)) :: r, h) : ACT)
      | _ => none) = some (.inl B) := he
    split at he
    · cases he
      intro ls H locs hl hP hS
      exact lv_lshl hx hb hd rfl (k ls H locs hl hP hS)
    · cases he
  | lshr =>
    have hn : n = 1 := hn.resolve_left (fun q => am_ft q)
    subst hn
    replace he : (match st with
      | .int y :: .long x :: r => some (Sum.inl (pc + 1, lv, Value.long (x >>> (y.toInt64 &&& 63)) :: r, h) : ACT)
      | _ => none) = some (.inl B) := he
    split at he
    · cases he
      intro ls H locs hl hP hS
      exact lv_lshr hx hb hd rfl (k ls H locs hl hP hS)
    · cases he
  | lcmp =>
    have hn : n = 1 := hn.resolve_left (fun q => am_ft q)
    subst hn
    replace he : (match st with
      | .long y :: .long x :: r => some (Sum.inl (pc + 1, lv, Value.int (lg_cmp x y) :: r, h) : ACT)
      | _ => none) = some (.inl B) := he
    split at he
    · cases he
      intro ls H locs hl hP hS
      exact W.lcmp hx hb hd (k ls H locs hl hP hS)
    · cases he
  | i2l =>
    have hn : n = 1 := hn.resolve_left (fun q => am_ft q)
    subst hn
    replace he : (match st with
      | .int x :: r => some (Sum.inl (pc + 1, lv, Value.long x.toInt64 :: r, h) : ACT)
      | _ => none) = some (.inl B) := he
    split at he
    · cases he
      intro ls H locs hl hP hS
      exact lv_i2l hx hb hd rfl (k ls H locs hl hP hS)
    · cases he
  | l2i =>
    have hn : n = 1 := hn.resolve_left (fun q => am_ft q)
    subst hn
    replace he : (match st with
      | .long x :: r => some (Sum.inl (pc + 1, lv, Value.int x.toInt32 :: r, h) : ACT)
      | _ => none) = some (.inl B) := he
    split at he
    · cases he
      intro ls H locs hl hP hS
      exact lv_l2i hx hb hd rfl (k ls H locs hl hP hS)
    · cases he
  | i2b =>
    have hn : n = 1 := hn.resolve_left (fun q => am_ft q)
    subst hn
    replace he : (match st with
      | .int x :: r => some (Sum.inl (pc + 1, lv, Value.int x.toInt8.toInt32 :: r, h) : ACT)
      | _ => none) = some (.inl B) := he
    split at he
    · cases he
      intro ls H locs hl hP hS
      exact lv_i2b hx hb hd rfl (k ls H locs hl hP hS)
    · cases he
  | i2s =>
    have hn : n = 1 := hn.resolve_left (fun q => am_ft q)
    subst hn
    replace he : (match st with
      | .int x :: r => some (Sum.inl (pc + 1, lv, Value.int x.toInt16.toInt32 :: r, h) : ACT)
      | _ => none) = some (.inl B) := he
    split at he
    · cases he
      intro ls H locs hl hP hS
      exact lv_i2s hx hb hd rfl (k ls H locs hl hP hS)
    · cases he
  | i2c =>
    have hn : n = 1 := hn.resolve_left (fun q => am_ft q)
    subst hn
    replace he : (match st with
      | .int x :: r => some (Sum.inl (pc + 1, lv, Value.int (x.toUInt32 % 65536).toInt32 :: r, h) : ACT)
      | _ => none) = some (.inl B) := he
    split at he
    · cases he
      intro ls H locs hl hP hS
      exact lv_i2c hx hb hd rfl (k ls H locs hl hP hS)
    · cases he
  | dup =>
    have hn : n = 1 := hn.resolve_left (fun q => am_ft q)
    subst hn
    replace he : (match st with
      | v :: r => bif Nat.beq v.category 1 then some (Sum.inl (pc + 1, lv, v :: v :: r, h) : ACT) else none
      | _ => none) = some (.inl B) := he
    split at he
    · obtain ⟨h1, rfl⟩ := am_bifI he
      intro ls H locs hl hP hS
      exact lv_dup hx hb hd (by rw [am_cv_cat]; exact Nat.eq_of_beq_eq_true h1) (k ls H locs hl hP hS)
    · cases he
  | dup2 =>
    have hn : n = 1 := hn.resolve_left (fun q => am_ft q)
    subst hn
    replace he : (match st with
      | v :: w :: r => bif Nat.beq v.category 1 && Nat.beq w.category 1 then some (Sum.inl (pc + 1, lv, v :: w :: v :: w :: r, h) : ACT) else none
      | _ => none) = some (.inl B) := he
    split at he
    · obtain ⟨h1, rfl⟩ := am_bifI he
      rw [Bool.and_eq_true] at h1
      intro ls H locs hl hP hS
      exact lv_dup2_11 hx hb hd (by rw [am_cv_cat]; exact Nat.eq_of_beq_eq_true h1.1) (by rw [am_cv_cat]; exact Nat.eq_of_beq_eq_true h1.2) (k ls H locs hl hP hS)
    · cases he
  | goto z =>
    have hn : n = 3 := hn.resolve_left (fun q => am_ft q)
    subst hn
    cases he
    intro ls H locs hl hP hS
    exact lv_goto hx hb hd (of_decide_eq_true hw) (k ls H locs hl hP hS)
  | if_icmp cd z =>
    have hn : n = 3 := hn.resolve_left (fun q => am_ft q)
    subst hn
    replace he : (match st with
      | .int y :: .int x :: r => some (Sum.inl (bif am_cmp cd x y then tg else pc + 3, lv, r, h) : ACT)
      | _ => none) = some (.inl B) := he
    split at he
    · cases he
      exact am_n_icmp X hd (of_decide_eq_true hw) k
    · cases he
  | ifCond cd z =>
    have hn : n = 3 := hn.resolve_left (fun q => am_ft q)
    subst hn
    replace he : (match st with
      | .int x :: r => some (Sum.inl (bif am_cmp cd x 0 then tg else pc + 3, lv, r, h) : ACT)
      | _ => none) = some (.inl B) := he
    split at he
    · cases he
      exact am_n_if X hd (of_decide_eq_true hw) k
    · cases he
  | ifnull z =>
    have hn : n = 3 := hn.resolve_left (fun q => am_ft q)
    subst hn
    replace he : (match st with
      | .ref _ :: r => some (Sum.inl (pc + 3, lv, r, h) : ACT)
      | .null :: r => some (Sum.inl (tg, lv, r, h) : ACT)
      | _ => none) = some (.inl B) := he
    split at he
    · cases he
      intro ls H locs hl hP hS
      exact lv_ifnull hx hb hd (k ls H locs hl hP hS)
    · cases he
      intro ls H locs hl hP hS
      exact lv_ifnullN hx hb hd (of_decide_eq_true hw) (k ls H locs hl hP hS)
    · cases he
  | ifnonnull z =>
    have hn : n = 3 := hn.resolve_left (fun q => am_ft q)
    subst hn
    replace he : (match st with
      | .ref _ :: r => some (Sum.inl (tg, lv, r, h) : ACT)
      | .null :: r => some (Sum.inl (pc + 3, lv, r, h) : ACT)
      | _ => none) = some (.inl B) := he
    split at he
    · cases he
      intro ls H locs hl hP hS
      exact lv_ifnonnull hx hb hd (of_decide_eq_true hw) (k ls H locs hl hP hS)
    · cases he
      intro ls H locs hl hP hS
      exact lv_ifnonnullN hx hb hd (k ls H locs hl hP hS)
    · cases he
  | tableswitch d lo hi offs =>
    replace he : (match st with
      | .int x :: r => some (Sum.inl (am_sel x sw tg, lv, r, h) : ACT)
      | _ => none) = some (.inl B) := he
    have hw : (am_tsw pc lo offs.toList sw && (decide (hi + 1 = lo + offs.toList.length) && decide ((pc : Int) + d = (tg : Int)))) = true := hw
    simp only [Bool.and_eq_true, decide_eq_true_eq] at hw
    obtain ⟨w1, w2, w3⟩ := hw
    split at he
    · cases he
      exact am_n_tsw X hd w1 w2 w3 k
    · cases he
  | lookupswitch d ps =>
    replace he : (match st with
      | .int x :: r => some (Sum.inl (am_sel x sw tg, lv, r, h) : ACT)
      | _ => none) = some (.inl B) := he
    have hw : (am_lsw pc ps.toList sw && ((ps.toList.zip (ps.toList.drop 1)).all (fun (a, next) => a.1 < next.1) && decide ((pc : Int) + d = (tg : Int)))) = true := hw
    rw [Bool.and_eq_true, Bool.and_eq_true, decide_eq_true_eq] at hw
    obtain ⟨w1, w2, w3⟩ := hw
    split at he
    · cases he
      exact am_n_lsw X hd w1 w2 w3 k
    · cases he
  | getfield idx =>
    have hn : n = 3 := hn.resolve_left (fun q => am_ft q)
    subst hn
    replace he : (match st, ex with
      | .ref a :: r, ci :: k :: _ => match am_fv h a ci k with
        | some v => some (Sum.inl (pc + 3, lv, v :: r, h) : ACT)
        | none => none
      | _, _ => none) = some (.inl B) := he
    split at he
    · split at he
      · rename_i hv
        cases he
        exact am_n_get X hd hw hv k
      · cases he
    · cases he
  | putfield idx =>
    have hn : n = 3 := hn.resolve_left (fun q => am_ft q)
    subst hn
    replace he : (match st, ex with
      | .int v :: .ref a :: r, [ci, k, _, b] => bif am_wr a ci k && (Nat.beq b 0 || (decide (v = 0) || decide (v = 1))) then some (Sum.inl (pc + 3, lv, r, am_sf h a k v) : ACT) else none
      | _, _ => none) = some (.inl B) := he
    split at he
    · obtain ⟨h1, rfl⟩ := am_bifI he
      simp only [Bool.and_eq_true, Bool.or_eq_true, decide_eq_true_eq] at h1
      exact am_n_put X hd hw h1.1 (h1.2.imp (fun z => Nat.eq_of_beq_eq_true z) id) k
    · cases he
  | getstatic idx =>
    have hn : n = 3 := hn.resolve_left (fun q => am_ft q)
    subst hn
    replace he : (match ex with
      | [0, _] => some (Sum.inl (pc + 3, lv, Value.int 1 :: st, h) : ACT)
      | [1, _] => some (Sum.inl (pc + 3, lv, Value.ref 202 :: st, h) : ACT)
      | [2, _] => some (Sum.inl (pc + 3, lv, Value.ref 203 :: st, h) : ACT)
      | _ => none) = some (.inl B) := he
    have hRO := X.2.2.2.2.2.2.1
    split at he
    · cases he
      intro ls H locs hl hP hS
      exact va_gets hx hb hRO.2.1 hS hown (hts _ (am_wd_mem hw)) (fun _ z => z) hd (k ls H locs hl hP hS)
    · cases he
      have hw := of_decide_eq_true hw
      have ho : am_cn (mr_o R) = "Samovar$Evening" := by rw [hw.1]; rfl
      rw [ho] at hown
      rw [hw.2] at hd
      intro ls H locs hl hP hS
      exact va_getsN hx hb hRO.2.2.1.1 hS hown (va_Nw.use rfl hRO.2.2.2.2.1) (fun _ z => z) hd (k ls H locs hl hP hS)
    · cases he
      have hw := of_decide_eq_true hw
      have ho : am_cn (mr_o R) = "Samovar$Evening" := by rw [hw.1]; rfl
      rw [ho] at hown
      rw [hw.2] at hd
      intro ls H locs hl hP hS
      exact va_getsN hx hb hRO.2.2.2.1.1 hS hown (va_Nw.use rfl hRO.2.2.2.2.2.1) (fun _ z => z) hd (k ls H locs hl hP hS)
    · cases he
  | iaload =>
    have hn : n = 1 := hn.resolve_left (fun q => am_ft q)
    subst hn
    replace he : (match st with
      | .int j :: .ref a :: r => match am_aI sc h a with
        | some q => bif am_in j q.1 then some (Sum.inl (pc + 1, lv, Value.int (q.2 j.toNatClampNeg) :: r, h) : ACT) else none
        | none => none
      | _ => none) = some (.inl B) := he
    split at he
    · split at he
      · rename_i hq
        obtain ⟨h1, rfl⟩ := am_bifI he
        exact am_n_iald X hd hq h1 k
      · cases he
    · cases he
  | baload =>
    have hn : n = 1 := hn.resolve_left (fun q => am_ft q)
    subst hn
    replace he : (match st with
      | .int j :: .ref a :: r => match am_aB h a with
        | some q => bif am_in j q.1 then some (Sum.inl (pc + 1, lv, Value.int (q.2 j.toNatClampNeg) :: r, h) : ACT) else none
        | none => none
      | _ => none) = some (.inl B) := he
    split at he
    · split at he
      · rename_i hq
        obtain ⟨h1, rfl⟩ := am_bifI he
        exact am_n_bald X hd hq h1 k
      · cases he
    · cases he
  | laload =>
    have hn : n = 1 := hn.resolve_left (fun q => am_ft q)
    subst hn
    replace he : (match st with
      | .int j :: .ref a :: r => match am_wa a 1 with
        | some n => bif am_in j n then some (Sum.inl (pc + 1, lv, Value.long (h.2.2 a j.toNatClampNeg) :: r, h) : ACT) else none
        | none => none
      | _ => none) = some (.inl B) := he
    split at he
    · split at he
      · rename_i hq
        obtain ⟨h1, rfl⟩ := am_bifI he
        exact am_n_lald X hd hq h1 k
      · cases he
    · cases he
  | iastore =>
    have hn : n = 1 := hn.resolve_left (fun q => am_ft q)
    subst hn
    replace he : (match st with
      | .int x :: .int j :: .ref a :: r => match am_wa a 0 with
        | some n => bif am_in j n then some (Sum.inl (pc + 1, lv, r, am_sa h a (upd (h.2.1 a) j.toNatClampNeg x)) : ACT) else none
        | none => none
      | _ => none) = some (.inl B) := he
    split at he
    · split at he
      · rename_i hq
        obtain ⟨h1, rfl⟩ := am_bifI he
        exact am_n_iast X hd hq h1 k
      · cases he
    · cases he
  | bastore =>
    have hn : n = 1 := hn.resolve_left (fun q => am_ft q)
    subst hn
    replace he : (match st with
      | .int x :: .int j :: .ref a :: r => match am_wa a 2 with
        | some n => bif am_in j n then some (Sum.inl (pc + 1, lv, r, am_sa h a (upd (h.2.1 a) j.toNatClampNeg (vp_nar .boolean x))) : ACT) else none
        | none => none
      | _ => none) = some (.inl B) := he
    split at he
    · split at he
      · rename_i hq
        obtain ⟨h1, rfl⟩ := am_bifI he
        exact am_n_bast X hd hq h1 k
      · cases he
    · cases he
  | lastore =>
    have hn : n = 1 := hn.resolve_left (fun q => am_ft q)
    subst hn
    replace he : (match st with
      | .long x :: .int j :: .ref a :: r => match am_wa a 1 with
        | some n => bif am_in j n then some (Sum.inl (pc + 1, lv, r, am_sl h a (vp_updL (h.2.2 a) j.toNatClampNeg x)) : ACT) else none
        | none => none
      | _ => none) = some (.inl B) := he
    split at he
    · split at he
      · rename_i hq
        obtain ⟨h1, rfl⟩ := am_bifI he
        exact am_n_last X hd hq h1 k
      · cases he
    · cases he
  | arraylength =>
    have hn : n = 1 := hn.resolve_left (fun q => am_ft q)
    subst hn
    replace he : (match st with
      | .ref a :: r => match am_alen sc a with
        | some n => some (Sum.inl (pc + 1, lv, Value.int (Int32.ofNat n) :: r, h) : ACT)
        | none => none
      | _ => none) = some (.inl B) := he
    split at he
    · split at he
      · rename_i hq
        cases he
        exact am_n_alen X hd hq k
      · cases he
    · cases he
  | invokestatic idx =>
    have hn : n = 3 := hn.resolve_left (fun q => am_ft q)
    subst hn
    replace he : (match ex with
      | 0 :: _ => am_callS R idx st
      | 1 :: _ => am_copy R pc lv st h
      | 2 :: _ => am_mm R pc lv st h am_max
      | 3 :: _ => am_mm R pc lv st h am_min
      | _ => none) = some (.inl B) := he
    have hc := X.2.2.2.2.2.2.2.2.2.1
    split at he
    · unfold am_callS at he
      split at he
      · exact (am_bifR he).elim
      · cases he
    · rename_i tl
      cases tl with
      | nil => exact (am_ft hw).elim
      | cons pp t => cases t with
        | nil => exact am_n_copy X hd hw he k
        | cons _ _ => exact (am_ft hw).elim
    · rename_i tl
      cases tl with
      | nil => exact (am_ft hw).elim
      | cons pp t => cases t with
        | nil => exact am_n_mm X he k (fun a1 a2 a3 w => va_mmax hx hb a1 hown (hts _ (am_wd_mem hw)) (hts _ w_mxS) (hts _ w_mI) (hts _ w_mxC) a2 a3 hc.2.2.1 hc.2.2.2 hd w)
        | cons _ _ => exact (am_ft hw).elim
    · rename_i tl
      cases tl with
      | nil => exact (am_ft hw).elim
      | cons pp t => cases t with
        | nil => exact am_n_mm X he k (fun a1 a2 a3 w => va_mmin hx hb a1 hown (hts _ (am_wd_mem hw)) (hts _ w_miS) (hts _ w_mI) (hts _ w_miC) a2 a3 hc.2.2.1 hc.2.2.2 hd w)
        | cons _ _ => exact (am_ft hw).elim
    · cases he
  | invokevirtual idx =>
    have he : am_callV R idx st = some (.inl B) := he
    unfold am_callV at he
    split at he
    · split at he
      · exact (am_bifR he).elim
      · cases he
    · cases he
  | ireturn =>
    replace he : (match st with
      | [.int v] => bif am_retok (mr_r R) v then some (Sum.inr (.inl (some (.int v))) : ACT) else none
      | _ => none) = some (.inl B) := he
    split at he
    · exact (am_bifR he).elim
    · cases he
  | lreturn =>
    replace he : (match st with
      | [.long v] => bif decide (mr_r R = some .long) then some (Sum.inr (.inl (some (.long v))) : ACT) else none
      | _ => none) = some (.inl B) := he
    split at he
    · exact (am_bifR he).elim
    · cases he
  | areturn =>
    replace he : (match st with
      | [v] => bif am_isRef v && am_refret (mr_r R) then some (Sum.inr (.inl (some v)) : ACT) else none
      | _ => none) = some (.inl B) := he
    split at he
    · exact (am_bifR he).elim
    · cases he
  | return_ =>
    replace he : (match st with
      | [] => bif decide (mr_r R = none) then some (Sum.inr (.inl none) : ACT) else none
      | _ => none) = some (.inl B) := he
    split at he
    · exact (am_bifR he).elim
    · cases he
  | _ => exact (am_no he).elim
end AMN
