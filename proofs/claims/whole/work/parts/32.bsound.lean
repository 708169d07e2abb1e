/-! the growing machine's steps are the machine's -/
def bm_RO (ad : Nat → Nat) (U : State) : Prop := vk_R "Samovar" bm_s0 "kbc" (ad 200) U ∧ vk_R "Samovar" bm_s1 "wd" (ad 201) U ∧ ∀ (j : Nat) (q : String × Nat × MethodName), bm_nest[j]? = some q → va_Nw (.methodLinkNest q.1 q.2.1 q.2.2 "Samovar") U
theorem bm_RO.warm {ad : Nat → Nat} {u U : State} (hW : u.WarmedH U.vm) (h : bm_RO ad u) : bm_RO ad U := ⟨h.1.warm hW, h.2.1.warm hW, fun j q hq => (h.2.2 j q hq).warmM hW⟩
theorem bm_RO.same {ad : Nat → Nat} {u U : State} (hv : U.vm = u.vm) (h : bm_RO ad u) : bm_RO ad U := ⟨h.1.same hv, h.2.1.same hv, fun j q hq => va_Nw.same rfl hv.symm (h.2.2 j q hq)⟩
theorem bm_RO.agree {n : Nat} {ad ad' : Nat → Nat} {U : State} (ha : bm_agree n ad ad') (h : bm_RO ad U) : bm_RO ad' U := ⟨by rw [ha 200 (Or.inr (by omega))]; exact h.1, by rw [ha 201 (Or.inr (by omega))]; exact h.2.1, h.2.2⟩
abbrev bm_FX (p : Program) (s : State) (m : MethodId) (args : Array Value) (meth : Method) (c : Code) (Rm : Room) (D : va_G) (tc : Nat → ClassId) (A : Nat → Prop) (R : MR) : Prop :=
  p.tables.exec = Jvm.exec ∧ c.code = mr_b R ∧ c.maxLocals = mr_L R ∧ s.vm.findClass (am_cn (mr_o R)) = some m.cls ∧ (∀ w ∈ am_all, w.before args s = true) ∧ va_K D am_cl (am_tys tc) s ∧ (∀ q : Nat, s.heap.size ≤ q → A q) ∧ (mr_f R ≤ Rm.frames ∧ mr_w R ≤ Rm.locals) ∧ (mr_c R).all (bm_rowok (mr_o R) (mr_b R)) = true ∧ ((mr_o R < 10) → meth.name = "<init>")
def bm_WB (p : Program) (l : Launch) (e : Env) (Rm : Room) (s : State) (m : MethodId) (args : Array Value) (below : List Frame) (meth : Method) (c : Code) (Q : State → Prop) (D : va_G) (tc : Nat → ClassId) (A : Nat → Prop) (R : MR) (c0 s0 : Nat) (ad : Nat → Nat) (B : BS) : Prop :=
  ∀ (ls : Array Slot) (H : Heap) (locs : List Loc), lv_has ls (mr_L R) (am_lv ad B.2.1) → va_P D am_cl (bm_W tc ad B.2.2.2) H → va_D A (bm_W tc ad B.2.2.2) → va_S A s.heap H locs → W p l e Rm s m args below meth c H locs (B.2.2.2.length - c0) (bm_sl B.2.2.2 - s0) Q (F0 m B.1 ls (B.2.2.1.map (am_cv ad)))
theorem bm_agree.rf {n : Nat} {ad : Nat → Nat} : bm_agree n ad ad := fun _ _ => rfl
theorem bm_bif {α : Type} {b : Bool} {x : Option α} {y : α} (z : (bif b then x else none) = some y) : b = true ∧ x = some y := am_gS z
section BMS
variable {p : Program} {l : Launch} {e : Env} {Rm : Room} {s : State} {m : MethodId} {args : Array Value} {below : List Frame} {meth : Method} {c : Code} {Q : State → Prop} {D : va_G} {tc : Nat → ClassId} {ad : Nat → Nat} {A : Nat → Prop} {R : MR} {c0 s0 : Nat}
variable {pc : Nat} {lv : LV} {st : List Value} {w : List BC} {C : BS}
theorem bm_dec (X : bm_FX p s m args meth c Rm D tc A R) {i : Jvm.ClassFile.Instr} {tg : Nat} {ex : List Nat} {sw : List (Int32 × Nat)} {lg : Int64} (hr : am_row (mr_c R) pc = some (i, tg, ex, sw, lg)) : decode (mr_b R) pc = .ok (i, bm_len i) ∧ bm_rowx (mr_o R) (pc, i, tg, ex, sw, lg) = true := by
  have h1 := List.all_eq_true.mp X.2.2.2.2.2.2.2.2.1 _ (am_row_mem hr)
  unfold bm_rowok at h1
  rw [Bool.and_eq_true] at h1
  obtain ⟨h1, h2⟩ := h1
  refine ⟨?_, h2⟩
  dsimp only at h1
  split at h1
  · rename_i j n hd
    simp only [Bool.and_eq_true, decide_eq_true_eq] at h1
    obtain ⟨rfl, h3⟩ := h1
    rw [hd, Nat.eq_of_beq_eq_true h3]
  · cases h1
theorem bm_K_tc {D : va_G} {s : State} (hK : va_K D am_cl (am_tys tc) s) {kd : Nat} (hk : kd < 3) : ArrOfT s (tc kd) (bm_kt kd) ∧ s.vm.findClass ("[" ++ (bm_kt kd).toString) = some (tc kd) := by
  have h3 : kd = 0 ∨ kd = 1 ∨ kd = 2 := by omega
  rcases h3 with rfl | rfl | rfl
  · exact hK.2 0 _ rfl
  · exact hK.2 1 _ rfl
  · exact hK.2 2 _ rfl
set_option maxHeartbeats 4000000 in
theorem bm_next (X : bm_FX p s m args meth c Rm D tc A R) (hRO : bm_RO ad s) {i : Jvm.ClassFile.Instr} {tg : Nat} {ex : List Nat} {sw : List (Int32 × Nat)} {lg : Int64} (hr : am_row (mr_c R) pc = some (i, tg, ex, sw, lg)) (he : bm_exec bm_ml R i ex sw pc lv st w = some (.inl C)) (hc0 : c0 ≤ w.length) (hs0 : s0 ≤ bm_sl w) (hroom : C.2.2.2.length - c0 ≤ Rm.cells ∧ bm_sl C.2.2.2 - s0 ≤ Rm.slots)
    (k : ∀ ad', bm_agree w.length ad ad' → bm_WB p l e Rm s m args below meth c Q D tc A R c0 s0 ad' C) :
    bm_WB p l e Rm s m args below meth c Q D tc A R c0 s0 ad (pc, lv, st, w) := by
  obtain ⟨hd, hw⟩ := bm_dec X hr
  obtain ⟨hx, hb, hml, hown, hts, hK, hA, ⟨hm1, hm2⟩, hall, hin⟩ := id X
  intro ls H locs hl hP hD hS
  have k0 := k ad bm_agree.rf
  cases i with
  | aload_n z =>
    unfold bm_exec at he
    dsimp only at he
    split at he
    · rename_i v hv
      obtain ⟨h1, he⟩ := bm_bif he
      cases he
      have hg := am_lv_get hl hv
      cases v with
      | ref x => exact lv_aload_n hx hb hd rfl hg (k0 ls H locs hl hP hD hS)
      | null => exact lv_aload_nN hx hb hd rfl hg (k0 ls H locs hl hP hD hS)
      | _ => cases h1
    · cases he
  | iload_n z =>
    unfold bm_exec at he
    dsimp only at he
    split at he
    · rename_i v hv
      obtain ⟨h1, he⟩ := bm_bif he
      cases he
      have hg := am_lv_get hl hv
      cases v with
      | int x => exact lv_iload_n hx hb hd rfl hg (k0 ls H locs hl hP hD hS)
      | _ => cases h1
    · cases he
  | astore_n z =>
    unfold bm_exec at he
    dsimp only at he
    split at he
    · rename_i v r
      obtain ⟨h1, he⟩ := bm_bif he
      cases he
      rw [Bool.and_eq_true] at h1
      cases v with
      | ref x => exact lv_astore_n hx hb hd rfl hl (Nat.le_of_ble_eq_true h1.2) rfl (fun ls' hl' => k0 ls' H locs (by rw [← am_lv_st1]; exact hl') hP hD hS)
      | null => exact lv_astore_nN hx hb hd rfl hl (Nat.le_of_ble_eq_true h1.2) rfl (fun ls' hl' => k0 ls' H locs (by rw [← am_lv_st1]; exact hl') hP hD hS)
      | _ => cases h1.1
    · cases he
  | iconst z =>
    cases sw with
    | nil => cases he
    | cons q sw =>
      cases he
      exact lv_iconst hx hb hd (of_decide_eq_true hw) (k0 ls H locs hl hP hD hS)
  | bipush z =>
    cases sw with
    | nil => cases he
    | cons q sw =>
      cases he
      exact lv_bipush hx hb hd (of_decide_eq_true hw) (k0 ls H locs hl hP hD hS)
  | sipush z =>
    cases sw with
    | nil => cases he
    | cons q sw =>
      cases he
      exact lv_sipush hx hb hd (of_decide_eq_true hw) (k0 ls H locs hl hP hD hS)
  | ldc z =>
    cases ex with
    | nil => cases he
    | cons r ex =>
      cases he
      unfold bm_rowx at hw
      dsimp only at hw
      split at hw
      · rename_i a b h9
        cases h9
        simp only [Bool.and_eq_true, Bool.or_eq_true, decide_eq_true_eq] at hw
        obtain ⟨ho, hw⟩ := hw
        have ho2 : am_cn (mr_o R) = "Samovar" := by rw [ho]; rfl
        rw [ho2] at hown
        rcases hw with ⟨h1, h2⟩ | ⟨h1, h2⟩
        · subst h1
          rw [h2] at hd
          exact va_ldcS hx hb hown hRO.1 hd (k0 ls H locs hl hP hD hS)
        · subst h1
          rw [h2] at hd
          exact va_ldcS hx hb hown hRO.2.1 hd (k0 ls H locs hl hP hD hS)
      · cases hw
  | dup =>
    unfold bm_exec at he
    dsimp only at he
    split at he
    · obtain ⟨h1, he⟩ := bm_bif he
      cases he
      exact lv_dup hx hb hd (by rw [am_cv_cat]; exact Nat.eq_of_beq_eq_true h1) (k0 ls H locs hl hP hD hS)
    · cases he
  | new idx =>
    cases ex with
    | nil => cases he
    | cons ci ex =>
      unfold bm_exec at he
      dsimp only at he
      obtain ⟨h1, he⟩ := bm_bif he
      cases he
      obtain ⟨o1, o2, o3, o4⟩ := bm_okw_spec h1
      unfold bm_rowx at hw
      dsimp only at hw
      split at hw
      · rename_i ci' p1 p2 p3 h9
        cases h9
        split at hw
        · rename_i q hq
          simp only [Bool.and_eq_true] at hw
          obtain ⟨w1, w2, w3⟩ := hw
          have hN : bm_N ci = q.2.2 := by unfold bm_N; rw [hq]
          have hlen : (bm_blank ci).length = q.2.2 := by unfold bm_blank; rw [List.length_map, List.length_range, hN]
          have ec : (w ++ [(.inr (ci, bm_blank ci) : BC)]).length - c0 = (w.length - c0) + 1 := by rw [List.length_append]; show w.length + 1 - c0 = _; omega
          have es : bm_sl (w ++ [(.inr (ci, bm_blank ci) : BC)]) - s0 = (bm_sl w - s0) + q.2.2 := by rw [bm_sl_app]; show bm_sl w + (bm_blank ci).length - s0 = _; rw [hlen]; omega
          have hr1 := hroom.1
          have hr2 := hroom.2
          dsimp only at hr1 hr2
          rw [ec] at hr1
          rw [es] at hr2
          refine va_new (ci := ci) (fs := bm_blank ci) (C := q.1) (T := q.2.1) (N := q.2.2) hx hb hts (am_inc hq) (bm_ty ci) (bm_tyok hq) hown (hts _ (am_wd_mem w1)) (hts _ (am_wd_mem w2)) (hts _ (am_wd_mem w3)) hK hP hD hS hA hq (fun j hj => ?_) hr1 hr2 hd (fun a H1 hP1 hD1 hS1 => ?_)
          · unfold vp_V bm_blank
            rw [List.getD_eq_getElem?_getD, List.getElem?_map, List.getElem?_range (by rw [hN]; exact hj)]
            rfl
          · have hag := bm_ad_agree (ad := ad) (q := a) o1
            have e1 := bm_W_push (tc := tc) (ad := ad) (w := w) (c := .inr (ci, bm_blank ci)) (q := a) (e := .inr (ci, bm_blank ci)) o1 o4 (fun ad' => by show Sum.inr _ = _; rw [bm_blank_cv])
            rw [e1] at hP1 hD1
            have g := k _ hag ls H1 locs (by dsimp only; rw [bm_lv_old hag o2]; exact hl) hP1 hD1 hS1
            dsimp only at g
            rw [ec, es] at g
            rw [List.map_cons, bm_st_old hag o3] at g
            have e2 : am_cv (bm_ad ad w.length a) (.ref w.length) = .ref a := by
              show Value.ref _ = Value.ref _
              unfold bm_ad
              rw [if_pos rfl]
            rw [e2] at g
            exact g
        · cases hw
      · cases hw
  | newarray t =>
    unfold bm_exec at he
    dsimp only at he
    split at he
    · rename_i n r kd ex'
      obtain ⟨h1, he⟩ := bm_bif he
      cases he
      simp only [Bool.and_eq_true, Bool.not_eq_true', decide_eq_false_iff_not] at h1
      obtain ⟨h1, h2, h3⟩ := h1
      have h3 := Nat.le_of_ble_eq_true h3
      obtain ⟨o1, o2, o3, o4⟩ := bm_okw_spec h1
      unfold bm_rowx at hw
      dsimp only at hw
      split at hw
      · rename_i kd' p1 h9
        cases h9
        simp only [Bool.and_eq_true, decide_eq_true_eq] at hw
        obtain ⟨w0, w1, w2⟩ := hw
        obtain ⟨g1, g2⟩ := bm_K_tc hK w0
        have ec : (w ++ [(.inl (kd, n.toNatClampNeg) : BC)]).length - c0 = (w.length - c0) + 1 := by rw [List.length_append]; show w.length + 1 - c0 = _; omega
        have es : bm_sl (w ++ [(.inl (kd, n.toNatClampNeg) : BC)]) - s0 = (bm_sl w - s0) + n.toNatClampNeg := by rw [bm_sl_app]; show bm_sl w + n.toNatClampNeg - s0 = _; omega
        have hr1 := hroom.1
        have hr2 := hroom.2
        dsimp only at hr1 hr2
        rw [ec] at hr1
        rw [es] at hr2
        have hbytes : n.toNatClampNeg * componentBytes (newarray.typeOf t) ≤ 536870912 := by
          have hcb : componentBytes (newarray.typeOf t) ≤ 8 := by cases t <;> decide
          calc n.toNatClampNeg * componentBytes (newarray.typeOf t) ≤ 1000 * 8 := Nat.mul_le_mul h3 hcb
            _ ≤ 536870912 := by decide
        refine va_newaK hx hb (by rw [w1]; exact hts _ (am_wd_mem w2)) rfl hd rfl h2 rfl hbytes hr1 hr2 rfl (fun H1 cA e1 z1 q1 hAr hNm => ?_)
        have hcA : cA = tc kd := by
          have z := hNm
          rw [w1, g2] at z
          exact (Option.some.inj z).symm
        subst hcA
        have hk : ∀ (k : Nat) (x : Nat × va_E), (bm_W tc ad w)[k]? = some x → H1[x.1]? = H[x.1]? := fun k x hx => q1 x.1 ((hP k x hx).lt)
        have hag := bm_ad_agree (ad := ad) (q := H.size) o1
        have hcell : (bm_ce tc ad w.length (.inl (kd, n.toNatClampNeg))).2 = (bm_ce tc (bm_ad ad w.length H.size) w.length (.inl (kd, n.toNatClampNeg))).2 := rfl
        have e9 := bm_W_push (tc := tc) (ad := ad) (w := w) (c := .inl (kd, n.toNatClampNeg)) (q := H.size) (e := (bm_ce tc ad w.length (.inl (kd, n.toNatClampNeg))).2) o1 o4 (fun ad' => rfl)
        have hat : va_at D am_cl (H.size, (bm_ce tc ad w.length (.inl (kd, n.toNatClampNeg))).2) H1 := by
          have hz : kd = 0 ∨ kd = 1 ∨ kd = 2 := by omega
          rw [w1] at e1
          rcases hz with rfl | rfl | rfl
          · exact e1
          · exact e1
          · exact e1
        have hP1 : va_P D am_cl (bm_W tc ad w ++ [(H.size, (bm_ce tc ad w.length (.inl (kd, n.toNatClampNeg))).2)]) H1 := (hP.kept hk).app (fun k x hx => by
          have hz : k < 1 := (List.getElem?_eq_some_iff.mp hx).1
          rw [show k = 0 by omega] at hx
          cases hx
          exact hat)
        have hD1 : va_D A (bm_W tc ad w ++ [(H.size, (bm_ce tc ad w.length (.inl (kd, n.toNatClampNeg))).2)]) := hD.push hP rfl (hA _ hS.1)
        have hS1 : va_S A s.heap H1 locs := ⟨Nat.le_trans hS.1 (by omega), fun x h1 h2 => (q1 x (Nat.lt_of_lt_of_le h1 hS.1)).trans (hS.2.1 x h1 h2), hS.2.2⟩
        rw [e9] at hP1 hD1
        have g := k _ hag ls H1 locs (by dsimp only; rw [bm_lv_old hag o2]; exact hl) hP1 hD1 hS1
        dsimp only at g
        rw [ec, es] at g
        have o3' : r.all (bm_old w.length) = true := by
          rw [List.all_cons, Bool.and_eq_true] at o3
          exact o3.2
        rw [List.map_cons, bm_st_old hag o3'] at g
        have e2 : am_cv (bm_ad ad w.length H.size) (.ref w.length) = .ref H.size := by
          show Value.ref _ = Value.ref _
          unfold bm_ad
          rw [if_pos rfl]
        rw [e2] at g
        exact g
      · cases hw
    · cases he
  | getfield idx =>
    unfold bm_exec at he
    dsimp only at he
    split at he
    · rename_i a r ci kf ex'
      split at he
      · rename_i q hq
        split at he
        · rename_i hci
          split at he
          · rename_i v hv
            cases he
            unfold bm_rowx at hw
            dsimp only at hw
            rw [Bool.and_eq_true, Bool.not_eq_true', decide_eq_false_iff_not] at hw
            obtain ⟨hne, hw⟩ := hw
            unfold am_fl at hw
            cases ex' with
            | nil => cases hw
            | cons pp ex' =>
              dsimp only at hw
              rw [if_neg hne] at hw
              split at hw
              · rename_i qq hqq
                simp only [Bool.and_eq_true, decide_eq_true_eq] at hw
                have hat := bm_W_at (tc := tc) (ad := ad) hq
                rw [← hci] at hqq
                exact va_get (D := D) (ci := q.1) (v := am_cv ad v) (C := qq.1) (T := qq.2.1) (N := qq.2.2) hx hb hts (am_inc hqq) hown hK hP a hat hqq kf hw.1 (hts _ (am_wd_mem hw.2)) (fun _ z => z) (by rw [List.getElem?_map, hv]; rfl) hd (k0 ls H locs hl hP hD hS)
              · cases hw
          · cases he
        · cases he
      · cases he
    · cases he
  | putfield idx =>
    unfold bm_exec at he
    dsimp only at he
    split at he
    · rename_i v a r ci kf pp fin
      split at he
      · rename_i q hq
        obtain ⟨h1, he⟩ := bm_bif he
        cases he
        simp only [Bool.and_eq_true, decide_eq_true_eq] at h1
        obtain ⟨hci, hkl, hfit⟩ := h1
        have hkl := Nat.le_of_ble_eq_true hkl
        unfold bm_rowx at hw
        dsimp only at hw
        split at hw
        · rename_i qq hqq
          rw [Bool.and_eq_true, Bool.and_eq_true, decide_eq_true_eq] at hw
          obtain ⟨hk, hwd, hf⟩ := hw
          have hat := bm_W_at (tc := tc) (ad := ad) hq
          have htk := bm_tyok hqq kf hk
          obtain ⟨-, hnm⟩ := am_tyc hqq
          have hty := bm_tyok hqq
          obtain ⟨f1, f2⟩ := bm_fit_spec ad hfit
          subst hci
          have hlen : kf < (q.2.map (am_cv ad)).length := by rw [List.length_map]; exact hkl
          have ec : (w.set a (.inr (q.1, q.2.set kf v))).length - c0 = w.length - c0 := by rw [List.length_set]
          have es : bm_sl (w.set a (.inr (q.1, q.2.set kf v))) - s0 = bm_sl w - s0 := by
            rw [bm_sl_set hq]
            show (q.2.set kf v).length = q.2.length
            rw [List.length_set]
          have fin_ : ∀ (H1 : Heap) (locs1 : List Loc), va_P D am_cl ((bm_W tc ad w).set a (ad a, .inr (q.1, (q.2.map (am_cv ad)).set kf (am_cv ad v)))) H1 → va_D A ((bm_W tc ad w).set a (ad a, .inr (q.1, (q.2.map (am_cv ad)).set kf (am_cv ad v)))) → va_S A s.heap H1 locs1 → W p l e Rm s m args below meth c H1 locs1 (w.length - c0) (bm_sl w - s0) Q (F0 m (pc + 3) ls (r.map (am_cv ad))) := by
            intro H1 locs1 hP1 hD1 hS1
            rw [bm_W_set v hq] at hP1 hD1
            have g := k0 ls H1 locs1 hl hP1 hD1 hS1
            dsimp only at g
            rw [ec, es] at g
            exact g
          by_cases hfz : fin = 0
          · rw [if_pos hfz, Bool.not_eq_true'] at hf
            exact va_put (D := D) (ci := q.1) (v := am_cv ad v) (ty := bm_ty q.1 kf) (C := qq.1) (T := qq.2.1) (N := qq.2.2) hx hb hts (am_inc hqq) (bm_ty q.1) hty hnm hown hK hP hD hS a hat hqq kf hk (hts _ (am_wd_mem hwd)) (fun _ z => z) hf htk f1 f2 hlen hd fin_
          · rw [if_neg hfz, Bool.and_eq_true, decide_eq_true_eq] at hf
            have ho : mr_o R < 10 := by
              have hlt : ∀ q : Nat, q < 10 ∨ 10 ≤ q := fun q => Nat.lt_or_ge q 10
              rcases hlt (mr_o R) with z | z
              · exact z
              · exfalso
                have hb3 : am_cl.all (fun q => (List.range q.2.2).all (fun k => decide ((q.2.1 k).1 = q.1) && !(decide ((q.2.1 k).1 = "" ∨ (q.2.1 k).1 = "java/lang/String" ∨ (q.2.1 k).1 = "java/lang/StringLatin1" ∨ (q.2.1 k).1 = "java/lang/Math" ∨ (q.2.1 k).1 = "java/lang/Integer" ∨ (q.2.1 k).1 = "java/util/Arrays" ∨ (q.2.1 k).1 = "SamovarLaw")))) = true := by decide +kernel
                have h5 := List.all_eq_true.mp (List.all_eq_true.mp hb3 _ (List.mem_of_getElem? hqq)) kf (List.mem_range.mpr hk)
                simp only [Bool.and_eq_true, Bool.not_eq_true', decide_eq_false_iff_not, decide_eq_true_eq] at h5
                apply h5.2
                rw [hf.2]
                unfold am_cn
                rcases (show mr_o R = 10 ∨ mr_o R = 11 ∨ mr_o R = 12 ∨ mr_o R = 13 ∨ mr_o R = 14 ∨ mr_o R = 15 ∨ 16 ≤ mr_o R by omega) with z | z | z | z | z | z | z
                · rw [z]; decide
                · rw [z]; decide
                · rw [z]; decide
                · rw [z]; decide
                · rw [z]; decide
                · rw [z]; decide
                · left
                  rw [List.getD_eq_getElem?_getD, List.getElem?_eq_none (by simpa using z)]
                  rfl
            exact va_putF (D := D) (ci := q.1) (v := am_cv ad v) (ty := bm_ty q.1 kf) (C := qq.1) (T := qq.2.1) (N := qq.2.2) hx hb hts (am_inc hqq) (bm_ty q.1) hty hnm hown hK hP hD hS a hat hqq kf hk (hts _ (am_wd_mem hwd)) (fun _ z => z) hf.1 (hin ho) hf.2 htk f1 f2 hlen hd fin_
        · cases hw
      · cases he
    · cases he
  | invokespecial idx =>
    unfold bm_exec at he
    dsimp only at he
    split at he
    · rename_i ex'
      split at he
      · rename_i a r
        obtain ⟨h1, he⟩ := bm_bif he
        cases he
        rw [Bool.and_eq_true] at h1
        have r1 := Nat.le_of_ble_eq_true h1.1
        have r2 := Nat.le_of_ble_eq_true h1.2
        unfold bm_rowx at hw
        dsimp only at hw
        cases ex' with
        | nil => cases hw
        | cons pp ex' =>
          refine W.objInit hx hb hown (hts _ (am_wd_mem hw)) (hts _ w_oiI) (hts _ w_oiC) rfl (by rw [hml]; exact hl.1) rfl hd (by omega) (by show 2 * 0 + _ + 12 ≤ _; rw [am_cat_cv]; omega) ?_
          exact k0 ls H locs hl hP hD hS
      · cases he
    · exfalso
      split at he
      · split at he
        · have he := (bm_bif he).2
          cases he
        · cases he
      · cases he
  | return_ =>
    exfalso
    unfold bm_exec at he
    dsimp only at he
    split at he
    · cases he
    · cases he
  | _ => exact (am_no he).elim
end BMS
