/-! a step of the abstract machine is a step of the machine -/
abbrev am_lv (ad : Nat → Nat) (lv : LV) : List (Nat × Value) := lv.map (fun q => (q.1, am_cv ad q.2))
/-- what a frame stands on -/
abbrev am_FX (p : Program) (s : State) (m : MethodId) (args : Array Value) (c : Code) (Rm : Room) (cells slots : Nat) (D : va_G) (tc : Nat → ClassId) (ad : Nat → Nat) (A : Nat → Prop) (sc : Option (Nat × (Nat → Int32))) (R : MR) : Prop :=
  p.tables.exec = Jvm.exec ∧ c.code = mr_b R ∧ c.maxLocals = mr_L R ∧ s.vm.findClass (am_cn (mr_o R)) = some m.cls ∧ (∀ w ∈ am_all, w.before args s = true) ∧ va_K D am_cl (am_tys tc) s ∧ am_RO ad A s s.heap ∧ (∀ h, va_D A (am_W tc ad h)) ∧ (∀ q : Nat, s.heap.size ≤ q → A q) ∧ (mr_f R ≤ Rm.frames ∧ mr_w R ≤ Rm.locals ∧ cells ≤ Rm.cells ∧ slots ≤ Rm.slots) ∧ (∀ (L : Nat) (xs : Nat → Int32), sc = some (L, xs) → va_X (ad 206) L xs s s.heap ∧ ad 206 < s.heap.size ∧ ¬ A (ad 206)) ∧ (mr_c R).all (am_rowok (mr_o R) (mr_b R)) = true
/-- from that state on the machine comes to Q -/
def am_WA (p : Program) (l : Launch) (e : Env) (Rm : Room) (s : State) (m : MethodId) (args : Array Value) (below : List Frame) (meth : Method) (c : Code) (cells slots : Nat) (Q : State → Prop) (D : va_G) (tc : Nat → ClassId) (ad : Nat → Nat) (A : Nat → Prop) (R : MR) (B : AS) : Prop :=
  ∀ (ls : Array Slot) (H : Heap) (locs : List Loc), lv_has ls (mr_L R) (am_lv ad B.2.1) → va_P D am_cl (am_W tc ad B.2.2.2) H → va_S A s.heap H locs → W p l e Rm s m args below meth c H locs cells slots Q (F0 m B.1 ls (B.2.2.1.map (am_cv ad)))
theorem am_lv_get {ad : Nat → Nat} {lv : LV} {ls : Array Slot} {n i : Nat} {v : Value} (hl : lv_has ls n (am_lv ad lv)) (h : am_get lv i = some v) : ls[i]? = some (.val (am_cv ad v)) := hl.2.2 (i, am_cv ad v) (List.mem_map.mpr ⟨(i, v), am_get_mem h, rfl⟩)
theorem am_lv_st1 (ad : Nat → Nat) (lv : LV) (i : Nat) (v : Value) : (i, am_cv ad v) :: (am_lv ad lv).filter (fun q => !(q.1 == i) && !(q.1 + 1 == i && q.2.category == 2)) = am_lv ad (am_st1 lv i v) := by
  unfold am_lv am_st1
  rw [List.map_cons, List.filter_map]
  congr 2
  apply List.filter_congr
  intro q _
  simp [am_cv_cat]
theorem am_lv_st2 (ad : Nat → Nat) (lv : LV) (i : Nat) (v : Value) : (i, am_cv ad v) :: (am_lv ad lv).filter (fun q => !(q.1 == i) && (!(q.1 == i + 1) && !(q.1 + 1 == i && q.2.category == 2))) = am_lv ad (am_st2 lv i v) := by
  unfold am_lv am_st2
  rw [List.map_cons, List.filter_map]
  congr 2
  apply List.filter_congr
  intro q _
  simp [am_cv_cat]
theorem am_cat_cv (ad : Nat → Nat) (st : List Value) : ((st.map (am_cv ad)).map fun v => v.category).sum = am_cat st := by
  unfold am_cat
  rw [List.map_map]
  congr 1
  apply List.map_congr_left
  intro v _
  exact am_cv_cat ad v
section AMS
variable {p : Program} {l : Launch} {e : Env} {Rm : Room} {s : State} {m : MethodId} {args : Array Value} {below : List Frame} {meth : Method} {c : Code} {cells slots : Nat} {Q : State → Prop} {D : va_G} {tc : Nat → ClassId} {ad : Nat → Nat} {A : Nat → Prop} {R : MR} {sc : Option (Nat × (Nat → Int32))}
variable {pc : Nat} {lv : LV} {st : List Value} {h : AH} {B : AS}
/-- a row's decoding, and what it keeps -/
theorem am_dec (X : am_FX p s m args c Rm cells slots D tc ad A sc R) {i : Jvm.ClassFile.Instr} {tg : Nat} {ex : List Nat} {sw : List (Int32 × Nat)} {lg : Int64} (hr : am_row (mr_c R) pc = some (i, tg, ex, sw, lg)) : (∃ n, decode (mr_b R) pc = .ok (i, n) ∧ (am_isSw i = true ∨ n = am_len i)) ∧ am_rowx (mr_o R) (pc, i, tg, ex, sw, lg) = true := by
  have h1 := List.all_eq_true.mp X.2.2.2.2.2.2.2.2.2.2.2 _ (am_row_mem hr)
  unfold am_rowok at h1
  rw [Bool.and_eq_true] at h1
  obtain ⟨h1, h2⟩ := h1
  refine ⟨?_, h2⟩
  dsimp only at h1
  split at h1
  · rename_i j n hd
    simp only [Bool.and_eq_true, decide_eq_true_eq, Bool.or_eq_true] at h1
    obtain ⟨rfl, h3⟩ := h1
    exact ⟨n, hd, h3.imp id (fun z => Nat.eq_of_beq_eq_true z)⟩
  · cases h1
theorem am_n_ii {f : Int32 → Int32 → Int32} (he : am_ii pc lv st h f = some (.inl B)) (k : am_WA p l e Rm s m args below meth c cells slots Q D tc ad A R B)
    (row : ∀ {ls : Array Slot} {H : Heap} {locs : List Loc} {rest : List Value} {x y : Int32}, W p l e Rm s m args below meth c H locs cells slots Q (F0 m (pc + 1) ls (.int (f x y) :: rest)) → W p l e Rm s m args below meth c H locs cells slots Q (F0 m pc ls (.int y :: .int x :: rest))) :
    am_WA p l e Rm s m args below meth c cells slots Q D tc ad A R (pc, lv, st, h) := by
  unfold am_ii at he
  split at he
  · cases he
    intro ls H locs hl hP hS
    exact row (k ls H locs hl hP hS)
  · cases he
theorem am_n_ll {f : Int64 → Int64 → Int64} (he : am_ll pc lv st h f = some (.inl B)) (k : am_WA p l e Rm s m args below meth c cells slots Q D tc ad A R B)
    (row : ∀ {ls : Array Slot} {H : Heap} {locs : List Loc} {rest : List Value} {x y : Int64}, W p l e Rm s m args below meth c H locs cells slots Q (F0 m (pc + 1) ls (.long (f x y) :: rest)) → W p l e Rm s m args below meth c H locs cells slots Q (F0 m pc ls (.long y :: .long x :: rest))) :
    am_WA p l e Rm s m args below meth c cells slots Q D tc ad A R (pc, lv, st, h) := by
  unfold am_ll at he
  split at he
  · cases he
    intro ls H locs hl hP hS
    exact row (k ls H locs hl hP hS)
  · cases he
theorem am_n_load {pv : Value → Bool} {pc' i : Nat} (he : am_load pv pc' lv st h i = some (.inl B)) (k : am_WA p l e Rm s m args below meth c cells slots Q D tc ad A R B)
    (row : ∀ {ls : Array Slot} {H : Heap} {locs : List Loc} {rest : List Value} {v : Value}, pv v = true → ls[i]? = some (.val (am_cv ad v)) → W p l e Rm s m args below meth c H locs cells slots Q (F0 m pc' ls (am_cv ad v :: rest)) → W p l e Rm s m args below meth c H locs cells slots Q (F0 m pc ls rest)) :
    am_WA p l e Rm s m args below meth c cells slots Q D tc ad A R (pc, lv, st, h) := by
  unfold am_load at he
  split at he
  · rename_i v hv
    cases hp : pv v with
    | false => rw [hp] at he; cases he
    | true =>
      rw [hp] at he
      cases he
      intro ls H locs hl hP hS
      exact row hp (am_lv_get hl hv) (k ls H locs hl hP hS)
  · cases he
theorem am_n_store {pv : Value → Bool} {pc' i : Nat} (he : am_store pv (mr_L R) pc' lv st h i = some (.inl B)) (k : am_WA p l e Rm s m args below meth c cells slots Q D tc ad A R B)
    (row : ∀ {ls : Array Slot} {H : Heap} {locs : List Loc} {rest : List Value} {v : Value} {l0 : List (Nat × Value)}, pv v = true → lv_has ls (mr_L R) l0 → i < mr_L R → (∀ ls' : Array Slot, lv_has ls' (mr_L R) ((i, am_cv ad v) :: l0.filter (fun q => !(q.1 == i) && !(q.1 + 1 == i && q.2.category == 2))) → W p l e Rm s m args below meth c H locs cells slots Q (F0 m pc' ls' rest)) → W p l e Rm s m args below meth c H locs cells slots Q (F0 m pc ls (am_cv ad v :: rest))) :
    am_WA p l e Rm s m args below meth c cells slots Q D tc ad A R (pc, lv, st, h) := by
  unfold am_store at he
  split at he
  · rename_i v r
    cases hp : pv v && Nat.blt i (mr_L R) with
    | false => rw [hp] at he; cases he
    | true =>
      rw [hp] at he
      cases he
      rw [Bool.and_eq_true] at hp
      intro ls H locs hl hP hS
      refine row hp.1 hl (Nat.le_of_ble_eq_true hp.2) (fun ls' hl' => ?_)
      rw [am_lv_st1] at hl'
      exact k ls' H locs hl' hP hS
  · cases he
theorem am_n_storeL {pc' i : Nat} (he : am_storeL (mr_L R) pc' lv st h i = some (.inl B)) (k : am_WA p l e Rm s m args below meth c cells slots Q D tc ad A R B)
    (row : ∀ {ls : Array Slot} {H : Heap} {locs : List Loc} {rest : List Value} {x : Int64} {l0 : List (Nat × Value)}, lv_has ls (mr_L R) l0 → i + 1 < mr_L R → (∀ ls' : Array Slot, lv_has ls' (mr_L R) ((i, .long x) :: l0.filter (fun q => !(q.1 == i) && (!(q.1 == i + 1) && !(q.1 + 1 == i && q.2.category == 2)))) → W p l e Rm s m args below meth c H locs cells slots Q (F0 m pc' ls' rest)) → W p l e Rm s m args below meth c H locs cells slots Q (F0 m pc ls (.long x :: rest))) :
    am_WA p l e Rm s m args below meth c cells slots Q D tc ad A R (pc, lv, st, h) := by
  unfold am_storeL at he
  split at he
  · rename_i v r
    cases hp : am_isLong v && Nat.blt (i + 1) (mr_L R) with
    | false => rw [hp] at he; cases he
    | true =>
      rw [hp] at he
      cases he
      rw [Bool.and_eq_true] at hp
      cases v with
      | long x =>
        intro ls H locs hl hP hS
        refine row hl (Nat.le_of_ble_eq_true hp.2) (fun ls' hl' => ?_)
        have e := am_lv_st2 ad lv i (.long x)
        rw [show am_cv ad (.long x) = .long x from rfl] at e
        rw [e] at hl'
        exact k ls' H locs hl' hP hS
      | _ => cases hp.1
  · cases he
/-- a branch -/
theorem am_n_br {b : Bool} {t1 t2 : Nat} {r : List Value} (k : am_WA p l e Rm s m args below meth c cells slots Q D tc ad A R (bif b then t1 else t2, lv, r, h)) : (b = true → am_WA p l e Rm s m args below meth c cells slots Q D tc ad A R (t1, lv, r, h)) ∧ (b = false → am_WA p l e Rm s m args below meth c cells slots Q D tc ad A R (t2, lv, r, h)) := by
  cases b with
  | true => exact ⟨fun _ => k, fun z => Bool.noConfusion z⟩
  | false => exact ⟨fun z => Bool.noConfusion z, fun _ => k⟩
theorem am_n_icmp (X : am_FX p s m args c Rm cells slots D tc ad A sc R) {cd : Jvm.ClassFile.Cond} {off : Int} {tg : Nat} {x y : Int32} {r : List Value} (hd : decode (mr_b R) pc = .ok (.if_icmp cd off, 3)) (ht : (pc : Int) + off = (tg : Int)) (k : am_WA p l e Rm s m args below meth c cells slots Q D tc ad A R (bif am_cmp cd x y then tg else pc + 3, lv, r, h)) :
    am_WA p l e Rm s m args below meth c cells slots Q D tc ad A R (pc, lv, .int y :: .int x :: r, h) := by
  obtain ⟨hx, hb, -⟩ := X
  obtain ⟨k1, k2⟩ := am_n_br k
  intro ls H locs hl hP hS
  cases cd with
  | eq => exact lv_icmp_eq hx hb hd ht (fun z => k1 (decide_eq_true z) ls H locs hl hP hS) (fun z => k2 (decide_eq_false z) ls H locs hl hP hS)
  | ne => exact lv_icmp_ne hx hb hd ht (fun z => k1 (decide_eq_true z) ls H locs hl hP hS) (fun z => k2 (decide_eq_false (fun q => q z)) ls H locs hl hP hS)
  | lt => exact lv_icmp_lt hx hb hd ht (fun z => k1 (decide_eq_true z) ls H locs hl hP hS) (fun z => k2 (decide_eq_false z) ls H locs hl hP hS)
  | ge => exact lv_icmp_ge hx hb hd ht (fun z => k1 (decide_eq_true z) ls H locs hl hP hS) (fun z => k2 (decide_eq_false z) ls H locs hl hP hS)
  | gt => exact lv_icmp_gt hx hb hd ht (fun z => k1 (decide_eq_true z) ls H locs hl hP hS) (fun z => k2 (decide_eq_false z) ls H locs hl hP hS)
  | le => exact lv_icmp_le hx hb hd ht (fun z => k1 (decide_eq_true z) ls H locs hl hP hS) (fun z => k2 (decide_eq_false z) ls H locs hl hP hS)
theorem am_n_if (X : am_FX p s m args c Rm cells slots D tc ad A sc R) {cd : Jvm.ClassFile.Cond} {off : Int} {tg : Nat} {x : Int32} {r : List Value} (hd : decode (mr_b R) pc = .ok (.ifCond cd off, 3)) (ht : (pc : Int) + off = (tg : Int)) (k : am_WA p l e Rm s m args below meth c cells slots Q D tc ad A R (bif am_cmp cd x 0 then tg else pc + 3, lv, r, h)) :
    am_WA p l e Rm s m args below meth c cells slots Q D tc ad A R (pc, lv, .int x :: r, h) := by
  obtain ⟨hx, hb, -⟩ := X
  obtain ⟨k1, k2⟩ := am_n_br k
  intro ls H locs hl hP hS
  cases cd with
  | eq => exact lv_if_eq hx hb hd ht (fun z => k1 (decide_eq_true z) ls H locs hl hP hS) (fun z => k2 (decide_eq_false z) ls H locs hl hP hS)
  | ne => exact lv_if_ne hx hb hd ht (fun z => k1 (decide_eq_true z) ls H locs hl hP hS) (fun z => k2 (decide_eq_false (fun q => q z)) ls H locs hl hP hS)
  | lt => exact lv_if_lt hx hb hd ht (fun z => k1 (decide_eq_true z) ls H locs hl hP hS) (fun z => k2 (decide_eq_false z) ls H locs hl hP hS)
  | ge => exact lv_if_ge hx hb hd ht (fun z => k1 (decide_eq_true z) ls H locs hl hP hS) (fun z => k2 (decide_eq_false z) ls H locs hl hP hS)
  | gt => exact lv_if_gt hx hb hd ht (fun z => k1 (decide_eq_true z) ls H locs hl hP hS) (fun z => k2 (decide_eq_false z) ls H locs hl hP hS)
  | le => exact lv_if_le hx hb hd ht (fun z => k1 (decide_eq_true z) ls H locs hl hP hS) (fun z => k2 (decide_eq_false z) ls H locs hl hP hS)
/-- switches -/
theorem am_tsw_in {pc : Nat} {x : Int32} {d : Nat} : ∀ (os : List Int) (qs : List (Int32 × Nat)) (lo : Int), am_tsw pc lo os qs = true → ((x.toInt < lo ∨ lo + os.length ≤ x.toInt) ∧ am_sel x qs d = d) ∨ (lo ≤ x.toInt ∧ x.toInt < lo + os.length ∧ ∃ off : Int, os[(x.toInt - lo).toNat]? = some off ∧ (pc : Int) + off = (am_sel x qs d : Int)) := by
  intro os
  induction os with
  | nil =>
    intro qs lo ht
    cases qs with
    | nil =>
      refine Or.inl ⟨?_, rfl⟩
      simp only [List.length_nil]
      omega
    | cons q qs => cases ht
  | cons o os ih =>
    intro qs lo ht
    cases qs with
    | nil => cases ht
    | cons q qs =>
      simp only [am_tsw, Bool.and_eq_true, decide_eq_true_eq] at ht
      obtain ⟨h1, h2, h3⟩ := ht
      by_cases hx : x = q.1
      · refine Or.inr ⟨by rw [hx, h1]; omega, by rw [hx, h1, List.length_cons]; omega, o, ?_, ?_⟩
        · rw [hx, h1, Int.sub_self]
          rfl
        · rw [am_sel, if_pos hx]
          exact h2
      · have hne : ¬ x.toInt = lo := fun z => hx (Int32.toInt_inj.mp (by rw [h1]; exact z))
        rcases ih qs (lo + 1) h3 with ⟨g1, g2⟩ | ⟨g1, g2, off, g3, g4⟩
        · refine Or.inl ⟨?_, by rw [am_sel, if_neg hx]; exact g2⟩
          rw [List.length_cons]
          omega
        · refine Or.inr ⟨by omega, by rw [List.length_cons]; omega, off, ?_, by rw [am_sel, if_neg hx]; exact g4⟩
          rw [show (x.toInt - lo).toNat = (x.toInt - (lo + 1)).toNat + 1 by omega, List.getElem?_cons_succ]
          exact g3
theorem am_lsw_in {pc : Nat} {x : Int32} {d : Nat} {df : Int} (hd : (pc : Int) + df = (d : Int)) : ∀ (os : List (Int × Int)) (qs : List (Int32 × Nat)), am_lsw pc os qs = true → (pc : Int) + Op.lookupswitch.offset os df x.toInt = (am_sel x qs d : Int) := by
  intro os
  induction os with
  | nil =>
    intro qs ht
    cases qs with
    | nil => exact hd
    | cons q qs => cases ht
  | cons o os ih =>
    intro qs ht
    cases qs with
    | nil => cases ht
    | cons q qs =>
      simp only [am_lsw, Bool.and_eq_true, decide_eq_true_eq] at ht
      obtain ⟨h1, h2, h3⟩ := ht
      obtain ⟨a, b⟩ := o
      rw [Op.lookupswitch.offset_cons]
      by_cases hx : x = q.1
      · rw [if_pos (by rw [hx, h1]), am_sel, if_pos hx]
        exact h2
      · rw [if_neg (fun z => hx (Int32.toInt_inj.mp (by rw [h1]; exact z.symm))), am_sel, if_neg hx]
        exact ih qs h3
theorem am_n_tsw (X : am_FX p s m args c Rm cells slots D tc ad A sc R) {d lo hi : Int} {offs : Array Int} {n tg : Nat} {sw : List (Int32 × Nat)} {x : Int32} {r : List Value} (hd : decode (mr_b R) pc = .ok (.tableswitch d lo hi offs, n)) (h1 : am_tsw pc lo offs.toList sw = true) (h2 : hi + 1 = lo + offs.toList.length) (h3 : (pc : Int) + d = (tg : Int)) (k : am_WA p l e Rm s m args below meth c cells slots Q D tc ad A R (am_sel x sw tg, lv, r, h)) :
    am_WA p l e Rm s m args below meth c cells slots Q D tc ad A R (pc, lv, .int x :: r, h) := by
  obtain ⟨hx, hb, -⟩ := X
  intro ls H locs hl hP hS
  rcases am_tsw_in (x := x) (d := tg) _ _ _ h1 with ⟨g1, g2⟩ | ⟨g1, g2, off, g3, g4⟩
  · rw [g2] at k
    exact lv_tableOut hx hb hd (by omega) h3 (k ls H locs hl hP hS)
  · exact lv_tableIn hx hb hd (by omega) (by omega) (by rw [← Array.getElem?_toList]; exact g3) g4 (k ls H locs hl hP hS)
theorem am_n_lsw (X : am_FX p s m args c Rm cells slots D tc ad A sc R) {d : Int} {ps : Array (Int × Int)} {n tg : Nat} {sw : List (Int32 × Nat)} {x : Int32} {r : List Value} (hd : decode (mr_b R) pc = .ok (.lookupswitch d ps, n)) (h1 : am_lsw pc ps.toList sw = true) (h2 : (ps.toList.zip (ps.toList.drop 1)).all (fun (a, next) => a.1 < next.1) = true) (h3 : (pc : Int) + d = (tg : Int)) (k : am_WA p l e Rm s m args below meth c cells slots Q D tc ad A R (am_sel x sw tg, lv, r, h)) :
    am_WA p l e Rm s m args below meth c cells slots Q D tc ad A R (pc, lv, .int x :: r, h) := by
  obtain ⟨hx, hb, -⟩ := X
  intro ls H locs hl hP hS
  exact lv_lookup hx hb hd h2 rfl (am_lsw_in h3 _ _ h1) (k ls H locs hl hP hS)
end AMS
