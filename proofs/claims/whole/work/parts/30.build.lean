/-! THE CONSTRUCTORS: a machine whose world grows -/
abbrev BC : Type := (Nat × Nat) ⊕ (Nat × List Value)
abbrev BS : Type := Nat × LV × List Value × List BC
/-- the next state; or a return; or a call -/
abbrev BA : Type := BS ⊕ Option (MR × List Value × List Value)
def bm_ce (tc : Nat → ClassId) (ad : Nat → Nat) (i : Nat) (q : BC) : Nat × va_E := (ad i, match q with
  | .inl a => if a.1 = 1 then .inl (tc 1, a.2, .inr (.inl (fun _ => 0))) else .inl (tc a.1, a.2, .inl (fun _ => 0))
  | .inr a => .inr (a.1, a.2.map (am_cv ad)))
def bm_W (tc : Nat → ClassId) (ad : Nat → Nat) (w : List BC) : va_W := w.mapIdx (bm_ce tc ad)
def bm_cs : BC → Nat
  | .inl a => a.2
  | .inr a => a.2.length
def bm_sl (w : List BC) : Nat := (w.map bm_cs).sum
def bm_old (n : Nat) : Value → Bool
  | .ref r => Nat.blt r n || Nat.ble 200 r
  | _ => true
def bm_oldC (n : Nat) : BC → Bool
  | .inl _ => true
  | .inr a => a.2.all (bm_old n)
def bm_okw (lv : LV) (st : List Value) (w : List BC) : Bool := Nat.blt w.length 200 && (lv.all (fun q => bm_old w.length q.2) && (st.all (bm_old w.length) && w.all (bm_oldC w.length)))
def bm_ty (ci : Nat) : Nat → FieldType := match ci with
  | 0 => tyX0
  | 1 => tyX1
  | 2 => tyX2
  | 3 => tyX3
  | 4 => tyX4
  | 5 => tyX5
  | 6 => tyX6
  | 7 => tyX7
  | 8 => tyX8
  | _ => tyX9
theorem bm_tyok {ci : Nat} {q : vw_C} (h : am_cl[ci]? = some q) : ∀ k, k < q.2.2 → parseFieldDescriptor (q.2.1 k).2.2.1 = some (bm_ty ci k) := by
  match ci, h with
  | 0, h => cases h; exact tyX0_ok
  | 1, h => cases h; exact tyX1_ok
  | 2, h => cases h; exact tyX2_ok
  | 3, h => cases h; exact tyX3_ok
  | 4, h => cases h; exact tyX4_ok
  | 5, h => cases h; exact tyX5_ok
  | 6, h => cases h; exact tyX6_ok
  | 7, h => cases h; exact tyX7_ok
  | 8, h => cases h; exact tyX8_ok
  | 9, h => cases h; exact tyX9_ok
  | n + 10, h => simp [am_cl] at h
def bm_N (ci : Nat) : Nat := match am_cl[ci]? with
  | some q => q.2.2
  | none => 0
def bm_blank (ci : Nat) : List Value := (List.range (bm_N ci)).map (fun k => defaultValue (bm_ty ci k))
def bm_fit : FieldType → Value → Bool
  | .int, .int _ => true
  | .boolean, .int x => decide (x = 0) || decide (x = 1)
  | .object _, .ref _ => true
  | .array _, .ref _ => true
  | _, _ => false
/-- links of constructors: own kind, number, method, words' places -/
def bm_exec (ml : Nat → Nat → Option (MR × List Nat)) (R : MR) (i : Jvm.ClassFile.Instr) (ex : List Nat) (sw : List (Int32 × Nat)) (pc : Nat) (lv : LV) (st : List Value) (w : List BC) : Option BA := match i with
  | .aload_n k => match am_get lv k with
    | some v => bif am_isRef v then some (.inl (pc + 1, lv, v :: st, w)) else none
    | none => none
  | .iload_n k => match am_get lv k with
    | some v => bif am_isInt v then some (.inl (pc + 1, lv, v :: st, w)) else none
    | none => none
  | .astore_n k => match st with
    | v :: r => bif am_isRef v && Nat.blt k (mr_L R) then some (.inl (pc + 1, am_st1 lv k v, r, w)) else none
    | [] => none
  | .iconst _ => match sw with
    | q :: _ => some (.inl (pc + 1, lv, .int q.1 :: st, w))
    | [] => none
  | .bipush _ => match sw with
    | q :: _ => some (.inl (pc + 2, lv, .int q.1 :: st, w))
    | [] => none
  | .sipush _ => match sw with
    | q :: _ => some (.inl (pc + 3, lv, .int q.1 :: st, w))
    | [] => none
  | .ldc _ => match ex with
    | r :: _ => some (.inl (pc + 2, lv, .ref r :: st, w))
    | [] => none
  | .dup => match st with
    | v :: r => bif Nat.beq v.category 1 then some (.inl (pc + 1, lv, v :: v :: r, w)) else none
    | [] => none
  | .new _ => match ex with
    | ci :: _ => bif bm_okw lv st w then some (.inl (pc + 3, lv, .ref w.length :: st, w ++ [.inr (ci, bm_blank ci)])) else none
    | [] => none
  | .newarray _ => match st, ex with
    | .int n :: r, kind :: _ => bif bm_okw lv (.int n :: r) w && (!(decide (n < 0)) && Nat.ble n.toNatClampNeg 1000) then some (.inl (pc + 2, lv, .ref w.length :: r, w ++ [.inl (kind, n.toNatClampNeg)])) else none
    | _, _ => none
  | .getfield _ => match st, ex with
    | .ref a :: r, ci :: k :: _ => match w[a]? with
      | some (.inr q) => if q.1 = ci then (match q.2[k]? with
          | some v => some (.inl (pc + 3, lv, v :: r, w))
          | none => none) else none
      | _ => none
    | _, _ => none
  | .putfield _ => match st, ex with
    | v :: .ref a :: r, [ci, k, _, _] => match w[a]? with
      | some (.inr q) => bif decide (q.1 = ci) && (Nat.blt k q.2.length && bm_fit (bm_ty ci k) v) then some (.inl (pc + 3, lv, r, w.set a (.inr (q.1, q.2.set k v)))) else none
      | _ => none
    | _, _ => none
  | .invokespecial idx => match ex with
    | 0 :: _ => match st with
      | .ref _ :: r => bif Nat.ble 1 (mr_f R) && Nat.ble (am_cat r + 12) (mr_w R) then some (.inl (pc + 3, lv, r, w)) else none
      | _ => none
    | _ => match ml (mr_o R) idx with
      | some (R', _) => match st.drop (mr_n R') with
        | .ref a :: rest => bif Nat.ble (mr_n R') st.length && (am_fits R R' (.ref a :: (st.take (mr_n R')).reverse) rest && bm_okw lv st w) then some (.inr (some (R', .ref a :: (st.take (mr_n R')).reverse, rest))) else none
        | _ => none
      | none => none
  | .return_ => match st with
    | [] => some (.inr none)
    | _ => none
  | _ => none
def bm_step (ml : Nat → Nat → Option (MR × List Nat)) (R : MR) (B : BS) : Option BA := match am_row (mr_c R) B.1 with
  | some q => bm_exec ml R q.1 q.2.2.1 q.2.2.2.1 B.1 B.2.1 B.2.2.1 B.2.2.2
  | none => none
/-- runs to a return, or to the pc at which it stops -/
def bm_at (stop : Option Nat) (pc : Nat) : Bool := match stop with
  | some k => Nat.beq pc k
  | none => false
def bm_run (ml : Nat → Nat → Option (MR × List Nat)) : Nat → Option Nat → MR → BS → Option BS
  | 0, _, _, _ => none
  | n + 1, stop, R, B => bif bm_at stop B.1 then some B else match bm_step ml R B with
    | some (.inl C) => bm_run ml n stop R C
    | some (.inr none) => some B
    | some (.inr (some q)) => match bm_run ml n none q.1 (0, lv_args 0 q.2.1, [], B.2.2.2) with
      | some w => bm_run ml n stop R (B.1 + 3, B.2.1, q.2.2, w.2.2.2)
      | none => none
    | none => none
/-- two numberings that agree on what is old -/
def bm_agree (n : Nat) (ad ad' : Nat → Nat) : Prop := ∀ i, i < n ∨ 200 ≤ i → ad' i = ad i
theorem bm_cv_old {n : Nat} {ad ad' : Nat → Nat} (ha : bm_agree n ad ad') {v : Value} (hv : bm_old n v = true) : am_cv ad' v = am_cv ad v := by
  cases v with
  | ref r =>
    simp only [bm_old, Bool.or_eq_true] at hv
    show Value.ref _ = Value.ref _
    rw [ha r (hv.imp (fun z => Nat.le_of_ble_eq_true z) (fun z => Nat.le_of_ble_eq_true z))]
  | _ => rfl
theorem bm_lv_old {n : Nat} {ad ad' : Nat → Nat} (ha : bm_agree n ad ad') {lv : LV} (hv : lv.all (fun q => bm_old n q.2) = true) : am_lv ad' lv = am_lv ad lv := by
  unfold am_lv
  apply List.map_congr_left
  intro q hq
  rw [bm_cv_old ha (List.all_eq_true.mp hv q hq)]
theorem bm_st_old {n : Nat} {ad ad' : Nat → Nat} (ha : bm_agree n ad ad') {st : List Value} (hv : st.all (bm_old n) = true) : st.map (am_cv ad') = st.map (am_cv ad) := by
  apply List.map_congr_left
  intro q hq
  exact bm_cv_old ha (List.all_eq_true.mp hv q hq)
theorem bm_okw_spec {lv : LV} {st : List Value} {w : List BC} (h : bm_okw lv st w = true) : w.length < 200 ∧ lv.all (fun q => bm_old w.length q.2) = true ∧ st.all (bm_old w.length) = true ∧ w.all (bm_oldC w.length) = true := by
  simp only [bm_okw, Bool.and_eq_true] at h
  exact ⟨Nat.le_of_ble_eq_true h.1, h.2.1, h.2.2.1, h.2.2.2⟩
theorem bm_W_at {tc : Nat → ClassId} {ad : Nat → Nat} {w : List BC} {i : Nat} {q : BC} (hq : w[i]? = some q) : (bm_W tc ad w)[i]? = some (bm_ce tc ad i q) := by
  unfold bm_W
  rw [List.getElem?_mapIdx, hq]
  rfl
theorem bm_W_len {tc : Nat → ClassId} {ad : Nat → Nat} {w : List BC} : (bm_W tc ad w).length = w.length := by
  unfold bm_W
  rw [List.length_mapIdx]
/-- one more cell -/
def bm_ad (ad : Nat → Nat) (n q : Nat) : Nat → Nat := fun i => if i = n then q else ad i
theorem bm_ad_agree {ad : Nat → Nat} {n q : Nat} (hn : n < 200) : bm_agree n ad (bm_ad ad n q) := by
  intro i hi
  unfold bm_ad
  rw [if_neg (by omega)]
theorem bm_W_push {tc : Nat → ClassId} {ad : Nat → Nat} {w : List BC} {c : BC} {q : Nat} {e : va_E} (hn : w.length < 200) (hw : w.all (bm_oldC w.length) = true) (he : ∀ ad', (bm_ce tc ad' w.length c).2 = e) : bm_W tc ad w ++ [(q, e)] = bm_W tc (bm_ad ad w.length q) (w ++ [c]) := by
  apply List.ext_getElem?
  intro j
  unfold bm_W
  rw [List.getElem?_mapIdx]
  rcases Nat.lt_trichotomy j w.length with hj | hj | hj
  · rw [List.getElem?_append_left (by rw [List.length_mapIdx]; exact hj), List.getElem?_append_left hj, List.getElem?_mapIdx]
    cases hs : w[j]? with
    | none => rfl
    | some r =>
      show some _ = some _
      congr 1
      have hr := List.all_eq_true.mp hw r (List.mem_of_getElem? hs)
      have h1 : bm_ad ad w.length q j = ad j := bm_ad_agree hn j (Or.inl hj)
      unfold bm_ce
      rw [h1]
      cases r with
      | inl a => rfl
      | inr a =>
        have : a.2.map (am_cv (bm_ad ad w.length q)) = a.2.map (am_cv ad) := bm_st_old (bm_ad_agree hn) hr
        simp only [this]
  · subst hj
    rw [List.getElem?_append_right (by rw [List.length_mapIdx]; exact Nat.le_refl _), List.getElem?_append_right (Nat.le_refl _), List.length_mapIdx, Nat.sub_self]
    show some (q, e) = some (bm_ce tc (bm_ad ad w.length q) w.length c)
    congr 1
    have h2 := he (bm_ad ad w.length q)
    have h1 : (bm_ce tc (bm_ad ad w.length q) w.length c).1 = q := by
      show bm_ad ad w.length q w.length = q
      unfold bm_ad
      rw [if_pos rfl]
    exact Prod.ext h1.symm h2.symm
  · rw [List.getElem?_append_right (by rw [List.length_mapIdx]; omega), List.getElem?_append_right (by omega), List.length_mapIdx]
    rw [List.getElem?_eq_none (by simp; omega), List.getElem?_eq_none (by simp; omega)]
    rfl
theorem bm_W_set {tc : Nat → ClassId} {ad : Nat → Nat} {w : List BC} {a k : Nat} {q : Nat × List Value} (v : Value) (hq : w[a]? = some (.inr q)) : (bm_W tc ad w).set a (ad a, .inr (q.1, (q.2.map (am_cv ad)).set k (am_cv ad v))) = bm_W tc ad (w.set a (.inr (q.1, q.2.set k v))) := by
  have hlt : a < w.length := (List.getElem?_eq_some_iff.mp hq).1
  apply List.ext_getElem?
  intro j
  unfold bm_W
  by_cases hj : a = j
  · subst hj
    rw [List.getElem?_set_self (by rw [List.length_mapIdx]; exact hlt), List.getElem?_mapIdx, List.getElem?_set_self hlt]
    show some _ = some _
    unfold bm_ce
    dsimp only
    rw [List.map_set]
  · rw [List.getElem?_set_ne hj, List.getElem?_mapIdx, List.getElem?_mapIdx, List.getElem?_set_ne hj]
theorem bm_sl_app (w : List BC) (c : BC) : bm_sl (w ++ [c]) = bm_sl w + bm_cs c := by
  unfold bm_sl
  rw [List.map_append, List.sum_append]
  rfl
theorem bm_sl_set {w : List BC} {a : Nat} {q c : BC} (hq : w[a]? = some q) (hc : bm_cs c = bm_cs q) : bm_sl (w.set a c) = bm_sl w := by
  have hlt : a < w.length := (List.getElem?_eq_some_iff.mp hq).1
  unfold bm_sl
  congr 1
  apply List.ext_getElem?
  intro j
  rw [List.getElem?_map, List.getElem?_map]
  by_cases hj : a = j
  · subst hj
    rw [List.getElem?_set_self hlt, hq]
    show some _ = some _
    rw [hc]
  · rw [List.getElem?_set_ne hj]
theorem bm_default (ad : Nat → Nat) (t : FieldType) : am_cv ad (defaultValue t) = defaultValue t := by
  cases t <;> rfl
theorem bm_blank_cv (ad : Nat → Nat) (ci : Nat) : (bm_blank ci).map (am_cv ad) = bm_blank ci := by
  unfold bm_blank
  rw [List.map_map]
  apply List.map_congr_left
  intro k _
  exact bm_default ad _
theorem bm_fit_spec {t : FieldType} {v : Value} (ad : Nat → Nat) (h : bm_fit t v = true) : narrow t (am_cv ad v) = am_cv ad v ∧ fits t (am_cv ad v) = true := by
  unfold bm_fit at h
  split at h
  · exact ⟨rfl, rfl⟩
  · simp only [Bool.or_eq_true, decide_eq_true_eq] at h
    rcases h with rfl | rfl
    · exact ⟨(by decide : narrow FieldType.boolean (Value.int 0) = Value.int 0), (by decide : fits FieldType.boolean (Value.int 0) = true)⟩
    · exact ⟨(by decide : narrow FieldType.boolean (Value.int 1) = Value.int 1), (by decide : fits FieldType.boolean (Value.int 1) = true)⟩
  · exact ⟨rfl, rfl⟩
  · exact ⟨rfl, rfl⟩
  · cases h
