/-! calls, returns, and the whole -/
def am_Pc (D : va_G) (tc : Nat → ClassId) (ad : Nat → Nat) (h : AH) (sz : Nat) (as : List Value) : Array Value → State → Prop := va_Pc (as.map (am_cv ad)) (fun U => U.heap.size = sz ∧ va_P D am_cl (am_W tc ad h) U.heap ∧ va_K D am_cl (am_tys tc) U ∧ va_D (fun _ => True) (am_W tc ad h) ∧ am_RO ad (va_A (am_W tc ad h) sz) U U.heap)
def am_Qc (D : va_G) (tc : Nat → ClassId) (ad : Nat → Nat) (h h' : AH) (sz : Nat) (v : Option Value) : Array Value → State → Outcome → State → Prop := fun _ st oc t => oc = .returned (v.map (am_cv ad)) ∧ va_P D am_cl (am_W tc ad h') t.heap ∧ va_K D am_cl (am_tys tc) t ∧ va_F (va_A (am_W tc ad h) sz) st t
def am_ws (R : MR) : List Jvm.Cond := Jvm.Cond.code (mr_y R) (mr_b R) (mr_L R) (mr_r R) :: am_all
def am_rm (R : MR) : Room := { frames := mr_f R, cells := 0, slots := 0, locals := mr_w R }
/-- the contract of a method at these arguments and this heap -/
def am_C (l : Launch) (R : MR) (as : List Value) (h : AH) (v : Option Value) (h' : AH) : Prop := ∀ (D : va_G) (tc : Nat → ClassId) (ad : Nat → Nat) (sz : Nat), Met l (mr_y R) (am_ws R) (am_rm R) (am_Pc D tc ad h sz as) (am_Qc D tc ad h h' sz v) 0 0 (va_A (am_W tc ad h) sz)
theorem am_bifW {b : Bool} {x : Option ACT} {y : ACT} (z : (bif b then x else none) = some y) : b = true ∧ x = some y := by
  cases b with
  | false => cases z
  | true => exact ⟨rfl, z⟩
theorem am_lv_args (ad : Nat → Nat) : ∀ (as : List Value) (i : Nat), lv_args i (as.map (am_cv ad)) = am_lv ad (lv_args i as)
  | [], _ => rfl
  | v :: vs, i => by
    rw [List.map_cons, lv_args, am_lv_args ad vs, lv_args, am_cv_cat]
    rfl
theorem am_lgsl : ∀ (vs : List Value), (lg_sl vs).length = am_cat vs
  | [] => rfl
  | v :: vs => by
    have ih := am_lgsl vs
    unfold lg_sl am_cat at *
    rw [List.flatMap_cons, List.length_append, ih, List.map_cons, List.sum_cons]
    rcases lv_cat v with hc | hc
    · rw [if_neg (by omega), hc]
      rfl
    · rw [if_pos hc, hc]
      rfl
theorem am_cat_map (ad : Nat → Nat) (st : List Value) : am_cat (st.map (am_cv ad)) = am_cat st := by
  unfold am_cat
  rw [List.map_map]
  congr 1
  apply List.map_congr_left
  intro v _
  exact am_cv_cat ad v
section AMC
variable {p : Program} {l : Launch} {e : Env} {Rm : Room} {s : State} {m : MethodId} {args : Array Value} {below : List Frame} {meth : Method} {c : Code} {cells slots : Nat} {Q : State → Prop} {D : va_G} {tc : Nat → ClassId} {ad : Nat → Nat} {A : Nat → Prop} {R : MR} {sc : Option (Nat × (Nat → Int32))}
variable {pc : Nat} {lv : LV} {st : List Value} {h : AH} {B : AS}
set_option maxHeartbeats 4000000 in
theorem am_exec_call {i : Jvm.ClassFile.Instr} {tg : Nat} {ex : List Nat} {sw : List (Int32 × Nat)} {lg : Int64} {q : MR × List Value × List Value} (he : am_exec sc R pc i tg ex sw lg lv st h = some (.inr (.inr q))) : (∃ idx, i = .invokestatic idx ∧ am_callS R idx st = some (.inr (.inr q))) ∨ (∃ idx, i = .invokevirtual idx ∧ am_callV R idx st = some (.inr (.inr q))) := by
  cases i with
  | invokestatic idx =>
    replace he : (match ex with
      | 0 :: _ => am_callS R idx st
      | 1 :: _ => am_copy R pc lv st h
      | 2 :: _ => am_mm R pc lv st h am_max
      | 3 :: _ => am_mm R pc lv st h am_min
      | _ => none) = some (.inr (.inr q)) := he
    split at he
    · exact Or.inl ⟨idx, rfl, he⟩
    · exfalso
      unfold am_copy at he
      split at he
      · split at he
        · have he := (am_bifW (am_bifW he).2).2
          cases he
        · cases he
      · cases he
    · exfalso
      unfold am_mm at he
      split at he
      · have he := (am_bifW he).2
        cases he
      · cases he
    · exfalso
      unfold am_mm at he
      split at he
      · have he := (am_bifW he).2
        cases he
      · cases he
    · cases he
  | invokevirtual idx => exact Or.inr ⟨idx, rfl, he⟩
  | _ =>
    exfalso
    first
    | exact am_no he
    | (unfold am_exec at he
       dsimp only at he
       (try unfold am_ii at he)
       (try unfold am_ll at he)
       (try unfold am_load at he)
       (try unfold am_store at he)
       (try unfold am_storeL at he)
       repeat' (first | (cases he; done) | (have he' := (am_bifW he).2; cases he'; done) | (split at he)))
theorem am_blind (D : va_G) (tc : Nat → ClassId) (ad : Nat → Nat) (h : AH) (sz : Nat) (as : List Value) : FrameBlind (am_Pc D tc ad h sz as) := by
  intro a U g mk q
  obtain ⟨q1, q2, q3, q4, q5, q6⟩ := q
  exact ⟨q1, q2, q3, va_K.moved (u := U) (U := U.calling g mk a) (Vm.Alike.refl U.vm) q4, q5, am_RO.same (u := U) (U := U.calling g mk a) rfl q6⟩
/-- behind a call -/
theorem am_cont {H : Heap} {locs : List Loc} {ls : Array Slot} {st0 : List Value} {h1 : AH} {v1 : Option Value} {rest : List Value} {a : Array Value} (hA : ∀ q : Nat, s.heap.size ≤ q → A q) (hD : ∀ h, va_D A (am_W tc ad h)) (hS : va_S A s.heap H locs) (hl : lv_has ls (mr_L R) (am_lv ad lv))
    (hr : va_Run p l e Rm s m args below meth c H locs cells slots 0 0 (F0 m pc ls st0) (rest.map (am_cv ad)) (am_Qc D tc ad h h1 H.size v1 a) (va_A (am_W tc ad h) H.size)) (k : am_WA p l e Rm s m args below meth c cells slots Q D tc ad A R (pc + 3, lv, v1.toList ++ rest, h1)) :
    W p l e Rm s m args below meth c H locs cells slots Q (F0 m pc ls st0) := by
  have hF : ∀ q, va_A (am_W tc ad h) H.size q → A q := by
    rintro q (⟨k, e, hk⟩ | hq)
    · exact (hD h).2 k _ hk
    · exact hA q (Nat.le_trans hS.1 hq)
  intro T hT X
  obtain ⟨v, st₀, t, T', L, h0, X', hL, e1, e2, ⟨hv, hP1, hK1, hz, hk⟩, st⟩ := hr T hT X
  have hv : v = v1.map (am_cv ad) := by
    injection hv
  subst hv
  rw [h0] at hz hk
  have hS' : va_S A s.heap T'.heap (locs ++ L) := by
    refine ⟨Nat.le_trans hS.1 (by rw [e1]; exact hz), fun q h1 h2 => ?_, fun q hq => ?_⟩
    · rw [e1, hk q (Nat.lt_of_lt_of_le h1 hS.1) (fun z => h2 (hF q z))]
      exact hS.2.1 q h1 h2
    · rcases List.mem_append.mp hq with h | h
      · exact hS.2.2 q h
      · exact hF _ (hL q h)
  obtain ⟨t2, a1, b1⟩ := k ls T'.heap (locs ++ L) hl (by rw [e1]; exact hP1) hS' T' rfl X'
  refine ⟨t2, st t2 ?_, b1⟩
  have es : (v1.map (am_cv ad)).toList ++ rest.map (am_cv ad) = (v1.toList ++ rest).map (am_cv ad) := by
    cases v1 <;> simp
  rw [es]
  exact a1
theorem am_okws {R' : MR} (hG : am_G R') (hts : ∀ w ∈ am_all, w.before args s = true) : ∀ w ∈ am_ws R', ∀ (a' : Array Value) (U : State), s.WarmedH U.vm → w.before a' U = true := by
  intro w hw a' U hW
  have hm : w ∈ am_all := by
    rcases List.mem_cons.mp hw with rfl | h
    · exact hG.2.2
    · exact h
  exact word_at hW (am_good hm) (hts w hm)
theorem am_nm_spec {R' : MR} (hn : am_nm R' = true) : (mr_y R').cls = am_cn (mr_o R') ∧ Jvm.plainName (mr_y R').cls = true ∧ (mr_y R').cls ≠ "java/lang/invoke/MethodHandle" ∧ (mr_y R').cls ≠ "java/lang/invoke/VarHandle" ∧ (∀ sig, parseMethodDescriptor (mr_y R').desc = some sig → mr_n R' = sig.parameters.length) := by
  simp only [am_nm, Bool.and_eq_true, decide_eq_true_eq, Bool.not_eq_true', decide_eq_false_iff_not] at hn
  obtain ⟨h1, h2, h3, h4, h5⟩ := hn
  refine ⟨h1, h2, h3, h4, fun sig hs => ?_⟩
  rw [hs] at h5
  exact (Option.some.inj h5).symm
theorem am_fits_spec {R R' : MR} {as rest : List Value} (hf : am_fits R R' as rest = true) : mr_f R' + 1 ≤ mr_f R ∧ 8 + (mr_L R' + 11) + mr_w R' ≤ mr_w R ∧ am_cat as ≤ mr_L R' ∧ am_cat rest ≤ 8 := by
  simp only [am_fits, Bool.and_eq_true] at hf
  exact ⟨Nat.le_of_ble_eq_true hf.1, Nat.le_of_ble_eq_true hf.2.1, Nat.le_of_ble_eq_true hf.2.2.1, Nat.le_of_ble_eq_true hf.2.2.2⟩
theorem am_clname {ci : Nat} (h : ci < 10) : ∃ q : vw_C, am_cl[ci]? = some q ∧ q.1 = am_cn ci := by
  match ci, h with
  | 0, _ => exact ⟨_, rfl, rfl⟩
  | 1, _ => exact ⟨_, rfl, rfl⟩
  | 2, _ => exact ⟨_, rfl, rfl⟩
  | 3, _ => exact ⟨_, rfl, rfl⟩
  | 4, _ => exact ⟨_, rfl, rfl⟩
  | 5, _ => exact ⟨_, rfl, rfl⟩
  | 6, _ => exact ⟨_, rfl, rfl⟩
  | 7, _ => exact ⟨_, rfl, rfl⟩
  | 8, _ => exact ⟨_, rfl, rfl⟩
  | 9, _ => exact ⟨_, rfl, rfl⟩
theorem am_shp_cls {a : Nat} {q : Nat × List (Option Nat)} (hq : am_shp[a]? = some (.inr q)) : q.1 < 10 := by
  have hb2 : am_shp.all (fun z => match z with | .inr q => decide (q.1 < 10) | .inl _ => true) = true := by decide +kernel
  have h3 := List.all_eq_true.mp hb2 _ (List.mem_of_getElem? hq)
  simpa only [decide_eq_true_eq] using h3
set_option maxHeartbeats 4000000 in
theorem am_call (X : am_FX p s m args c Rm cells slots D tc ad A sc R) {v1 : Option Value} {h1 : AH} {q : MR × List Value × List Value} (hst : am_step sc R (pc, lv, st, h) = some (.inr (.inr q))) (hM : am_C l q.1 q.2.1 h v1 h1) (k : am_WA p l e Rm s m args below meth c cells slots Q D tc ad A R (pc + 3, lv, v1.toList ++ q.2.2, h1)) :
    am_WA p l e Rm s m args below meth c cells slots Q D tc ad A R (pc, lv, st, h) := by
  unfold am_step at hst
  split at hst
  case h_2 => cases hst
  rename_i rw hrow
  obtain ⟨i, tg, ex, sw, lg⟩ := rw
  obtain ⟨⟨n, hd, hn⟩, hw⟩ := am_dec X hrow
  obtain ⟨hx, hb, hml, hown, hts, hK, hRO, hD, hA, ⟨hm1, hm2, hm3, hm4⟩, hsc, hall⟩ := id X
  intro ls H locs hl hP hS
  have hROH : ∀ U : State, U.heap = H → s.WarmedH U.vm → am_RO ad (va_A (am_W tc ad h) H.size) U U.heap := by
    intro U hU hW
    have g1 := (hRO.kept hS.2.1).warm hW
    rw [hU]
    refine g1.narrow ?_
    rintro q (⟨k, e, hk⟩ | hq)
    · exact (hD h).2 k _ hk
    · exact hA q (Nat.le_trans hS.1 hq)
  have hDT : va_D (fun _ => True) (am_W tc ad h) := (hD h).weaken (fun _ _ _ _ => trivial)
  rcases am_exec_call hst with ⟨idx, rfl, hc⟩ | ⟨idx, rfl, hc⟩
  · have hn : n = 3 := hn.resolve_left (fun q => am_ft q)
    subst hn
    unfold am_callS at hc
    split at hc
    case h_2 => cases hc
    rename_i R' kd tl hml2
    obtain ⟨hcond, hq⟩ := am_bifW hc
    cases hq
    rw [Bool.and_eq_true, Bool.and_eq_true] at hcond
    obtain ⟨hkd, hlen, hfit⟩ := hcond
    have hlen := Nat.le_of_ble_eq_true hlen
    obtain ⟨f1, f2, f3, f4⟩ := am_fits_spec hfit
    obtain ⟨hlk, hG⟩ := am_links _ _ (am_mfind_mem hml2)
    obtain ⟨n1, n2, n3, n4, n5⟩ := am_nm_spec hG.2.1
    have hcode := hG.2.2
    have hstack : (st.map (am_cv ad)) = ((((st.take (mr_n R')).reverse).map (am_cv ad))).reverse ++ (st.drop (mr_n R')).map (am_cv ad) := by
      rw [List.map_reverse, List.reverse_reverse, ← List.map_append, List.take_append_drop]
    have hAl : (((st.take (mr_n R')).reverse).map (am_cv ad)).length = mr_n R' := by
      rw [List.length_map, List.length_reverse, List.length_take, Nat.min_eq_left hlen]
    have hp : PreS s H (am_Pc D tc ad h H.size ((st.take (mr_n R')).reverse)) (((st.take (mr_n R')).reverse).map (am_cv ad)) := ⟨am_blind _ _ _ _ _ _, fun U hU hW => ⟨rfl, by rw [hU], by rw [hU]; exact hP, va_K.moved hW.alike hK, hDT, hROH U hU hW⟩⟩
    have hroom : 2 * (F0 m pc ls (st.map (am_cv ad))).monitorRoom + (((st.drop (mr_n R')).map (am_cv ad)).map fun v => v.category).sum ≤ 8 := lv_room (by rw [am_cat_cv]; exact f4)
    refine am_cont (h := h) hA hD hS hl (a := (((st.take (mr_n R')).reverse).map (am_cv ad)).toArray) ?_ k
    unfold am_mlk at hlk
    split at hlk
    · rename_i h9
      simp only [List.cons.injEq] at h9
      rw [h9.1] at hkd
      cases hkd
    · rename_i p1 p2 p4 _ h9
      simp only [Bool.and_eq_true] at hlk
      have e1 := hts _ (am_wd_mem hlk.1)
      have e2 := hts _ (am_wd_mem hlk.2.1)
      have e4 := hts _ (am_wd_mem hlk.2.2)
      exact va_runS (As := ((st.take (mr_n R')).reverse).map (am_cv ad)) (n := mr_n R') (nL := mr_L R) (bytes := mr_b R') (maxL := mr_L R') (ret := mr_r R') ⟨hx, hb, hml, hown, hts⟩ (hM D tc ad H.size) ⟨⟨rfl, rfl, Nat.le_trans f1 hm1, Nat.le_trans f2 hm2, am_okws hG hts, List.mem_cons_self, hts _ hcode, e4, ⟨n3, n4⟩, n5, e1⟩, e2⟩ hp rfl hAl hl.1 hstack hroom hd ⟨hm3, hm4⟩
    · rename_i p2 p4 _ h9
      rw [Bool.and_eq_true, Bool.and_eq_true, decide_eq_true_eq] at hlk
      obtain ⟨⟨o1, o2, o3⟩, w2, w4⟩ := hlk
      have e2 := hts _ (am_wd_mem w2)
      have e4 := hts _ (am_wd_mem w4)
      have e1 : (Cond.methodLinkNest (am_cn (mr_o R)) idx (mr_y R') "Samovar").before args s = true := by
        rw [show am_cn (mr_o R) = "Samovar$Evening" by rw [o1]; rfl, show idx = am_gw from o2, show mr_y R' = _ from o3]
        exact va_Nw.use rfl hRO.2.2.2.2.2.2
      exact va_runSN (As := ((st.take (mr_n R')).reverse).map (am_cv ad)) (n := mr_n R') (nL := mr_L R) (bytes := mr_b R') (maxL := mr_L R') (ret := mr_r R') (host := "Samovar") ⟨hx, hb, hml, hown, hts⟩ (hM D tc ad H.size) ⟨⟨⟨rfl, rfl, Nat.le_trans f1 hm1, Nat.le_trans f2 hm2, am_okws hG hts, List.mem_cons_self⟩, hts _ hcode, e4, ⟨n3, n4⟩, n5, e1⟩, e2, trivial⟩ hp rfl hAl hl.1 hstack hroom hd ⟨hm3, hm4⟩
    · cases hlk
  · have hn : n = 3 := hn.resolve_left (fun q => am_ft q)
    subst hn
    unfold am_callV at hc
    split at hc
    case h_2 => cases hc
    rename_i R' kd tl hml2
    split at hc
    case h_2 => cases hc
    rename_i a rest hdrop
    obtain ⟨hcond, hq⟩ := am_bifW hc
    cases hq
    rw [Bool.and_eq_true, Bool.and_eq_true, Bool.and_eq_true, decide_eq_true_eq] at hcond
    obtain ⟨hkd, hlen, hcls, hfit⟩ := hcond
    have hlen := Nat.le_of_ble_eq_true hlen
    obtain ⟨f1, f2, f3, f4⟩ := am_fits_spec hfit
    obtain ⟨hlk, hG⟩ := am_links _ _ (am_mfind_mem hml2)
    obtain ⟨n1, n2, n3, n4, n5⟩ := am_nm_spec hG.2.1
    have hcode := hG.2.2
    have hstack : (st.map (am_cv ad)) = ((((st.take (mr_n R')).reverse).map (am_cv ad))).reverse ++ .ref (ad a) :: rest.map (am_cv ad) := by
      rw [List.map_reverse, List.reverse_reverse]
      have e0 : Value.ref (ad a) :: rest.map (am_cv ad) = (st.drop (mr_n R')).map (am_cv ad) := by rw [hdrop]; rfl
      rw [e0, ← List.map_append, List.take_append_drop]
    have hAl : (((st.take (mr_n R')).reverse).map (am_cv ad)).length = mr_n R' := by
      rw [List.length_map, List.length_reverse, List.length_take, Nat.min_eq_left hlen]
    have hrecv : ∃ cellB : Cell, H[ad a]? = some cellB ∧ cellB.vm.isStatics = false ∧ s.vm.findClass (mr_y R').cls = some cellB.cls := by
      unfold am_cls at hcls
      split at hcls
      · rename_i q hq
        have hcls := Option.some.inj hcls
        obtain ⟨qq, g1, g2⟩ := am_clname (am_shp_cls hq)
        have he := am_W_at (tc := tc) (ad := ad) (h := h) hq
        have g3 := va_recv hK hP g1 he
        rw [g2, hcls] at g3
        rw [n1]
        exact g3
      · cases hcls
      · split at hcls
        · rename_i hi
          have hcls := Option.some.inj hcls
          have hi2 : ∃ i : Nat, i < 2 ∧ a = 200 + i := by
            rcases hi with rfl | rfl
            · exact ⟨0, by omega, rfl⟩
            · exact ⟨1, by omega, rfl⟩
          obtain ⟨i, hi2, rfl⟩ := hi2
          rw [n1, ← hcls]
          exact vk_recv (adK := fun i => ad (200 + i)) (adV := fun i => ad (204 + i)) (i := i) hRO.1 hi2 hS
        · cases hcls
    have hp : PreV s H (mr_y R').cls (ad a) (am_Pc D tc ad h H.size (.ref a :: (st.take (mr_n R')).reverse)) (((st.take (mr_n R')).reverse).map (am_cv ad)) := ⟨am_blind _ _ _ _ _ _, hrecv, fun U hU hW => ⟨rfl, by rw [hU], by rw [hU]; exact hP, va_K.moved hW.alike hK, hDT, hROH U hU hW⟩⟩
    have hroom : 2 * (F0 m pc ls (st.map (am_cv ad))).monitorRoom + ((rest.map (am_cv ad)).map fun v => v.category).sum ≤ 8 := lv_room (by rw [am_cat_cv]; exact f4)
    refine am_cont (h := h) hA hD hS hl (a := (Value.ref (ad a) :: ((st.take (mr_n R')).reverse).map (am_cv ad)).toArray) ?_ k
    unfold am_mlk at hlk
    split at hlk
    · rename_i p1 p2 p3 p4 _ h9
      simp only [Bool.and_eq_true] at hlk
      have e1 := hts _ (am_wd_mem hlk.1)
      have e2 := hts _ (am_wd_mem hlk.2.1)
      have e3 := hts _ (am_wd_mem hlk.2.2.1)
      have e4 := hts _ (am_wd_mem hlk.2.2.2)
      exact va_runV (As := ((st.take (mr_n R')).reverse).map (am_cv ad)) (n := mr_n R') (nL := mr_L R) (bytes := mr_b R') (maxL := mr_L R') (ret := mr_r R') (C := (mr_y R').cls) ⟨hx, hb, hml, hown, hts⟩ (hM D tc ad H.size) ⟨⟨rfl, rfl, Nat.le_trans f1 hm1, Nat.le_trans f2 hm2, am_okws hG hts, List.mem_cons_self, hts _ hcode, e4, ⟨n3, n4⟩, n5, e1⟩, e2, e3⟩ hp rfl hAl hl.1 hstack hroom hd ⟨hm3, hm4⟩
    · rename_i p1 p2 p4 _ h9
      simp only [List.cons.injEq] at h9
      rw [h9.1] at hkd
      cases hkd
    · rename_i p2 p4 _ h9
      simp only [List.cons.injEq] at h9
      rw [h9.1] at hkd
      cases hkd
    · cases hlk
end AMC
