/-! calls of constructors, and the whole of it -/
def bm_Pc (D : va_G) (tc : Nat → ClassId) (ad : Nat → Nat) (w : List BC) (sz : Nat) (as : List Value) : Array Value → State → Prop := va_Pc (as.map (am_cv ad)) (fun U => U.heap.size = sz ∧ va_P D am_cl (bm_W tc ad w) U.heap ∧ va_K D am_cl (am_tys tc) U ∧ va_D (fun _ => True) (bm_W tc ad w) ∧ bm_RO ad U)
def bm_Qc (D : va_G) (tc : Nat → ClassId) (ad : Nat → Nat) (w w' : List BC) (sz : Nat) : Array Value → State → Outcome → State → Prop := fun _ st oc t => oc = .returned none ∧ (∃ ad' : Nat → Nat, bm_agree w.length ad ad' ∧ va_P D am_cl (bm_W tc ad' w') t.heap ∧ va_D (va_A (bm_W tc ad w) sz) (bm_W tc ad' w')) ∧ va_F (va_A (bm_W tc ad w) sz) st t
def bm_rm (R : MR) (mc ms : Nat) : Room := { frames := mr_f R, cells := mc, slots := ms, locals := mr_w R }
def bm_C (l : Launch) (R : MR) (as : List Value) (w w' : List BC) : Prop := ∀ (D : va_G) (tc : Nat → ClassId) (ad : Nat → Nat) (sz : Nat), Met l (mr_y R) (am_ws R) (bm_rm R (w'.length - w.length) (bm_sl w' - bm_sl w)) (bm_Pc D tc ad w sz as) (bm_Qc D tc ad w w' sz) (w'.length - w.length) (bm_sl w' - bm_sl w) (va_A (bm_W tc ad w) sz)
theorem bm_exec_mono {R : MR} {i : Jvm.ClassFile.Instr} {ex : List Nat} {sw : List (Int32 × Nat)} {pc : Nat} {lv : LV} {st : List Value} {w : List BC} {C : BS} (he : bm_exec bm_ml R i ex sw pc lv st w = some (.inl C)) : w.length ≤ C.2.2.2.length ∧ bm_sl w ≤ bm_sl C.2.2.2 := by
  cases i with
  | new idx =>
    cases ex with
    | nil => cases he
    | cons ci ex =>
      unfold bm_exec at he
      dsimp only at he
      obtain ⟨-, he⟩ := bm_bif he
      cases he
      dsimp only
      rw [bm_sl_app, List.length_append]
      omega
  | newarray t =>
    unfold bm_exec at he
    dsimp only at he
    split at he
    · obtain ⟨-, he⟩ := bm_bif he
      cases he
      dsimp only
      rw [bm_sl_app, List.length_append]
      omega
    · cases he
  | putfield idx =>
    unfold bm_exec at he
    dsimp only at he
    split at he
    · split at he
      · rename_i q hq
        obtain ⟨-, he⟩ := bm_bif he
        cases he
        dsimp only
        rw [List.length_set, bm_sl_set hq (by show (List.set _ _ _).length = _; rw [List.length_set]; rfl)]
        omega
      · cases he
    · cases he
  | getfield idx =>
    unfold bm_exec at he
    dsimp only at he
    split at he
    · split at he
      · split at he
        · split at he
          · cases he
            exact ⟨Nat.le_refl _, Nat.le_refl _⟩
          · cases he
        · cases he
      · cases he
    · cases he
  | invokespecial idx =>
    unfold bm_exec at he
    dsimp only at he
    split at he
    · split at he
      · obtain ⟨-, he⟩ := bm_bif he
        cases he
        exact ⟨Nat.le_refl _, Nat.le_refl _⟩
      · cases he
    · split at he
      · split at he
        · obtain ⟨-, he⟩ := bm_bif he
          cases he
        · cases he
      · cases he
  | _ =>
    first
    | exact (am_no he).elim
    | (unfold bm_exec at he
       dsimp only at he
       repeat' (first
         | exact (am_no he).elim
         | (cases he; exact ⟨Nat.le_refl _, Nat.le_refl _⟩)
         | (obtain ⟨-, he'⟩ := bm_bif he; cases he'; exact ⟨Nat.le_refl _, Nat.le_refl _⟩)
         | (cases he; done)
         | (split at he)))
theorem bm_step_mono {R : MR} {B C : BS} (he : bm_step bm_ml R B = some (.inl C)) : B.2.2.2.length ≤ C.2.2.2.length ∧ bm_sl B.2.2.2 ≤ bm_sl C.2.2.2 := by
  unfold bm_step at he
  split at he
  · exact bm_exec_mono he
  · cases he
theorem bm_run_mono : ∀ (n : Nat) (stop : Option Nat) (R : MR) (B E : BS), bm_run bm_ml n stop R B = some E → B.2.2.2.length ≤ E.2.2.2.length ∧ bm_sl B.2.2.2 ≤ bm_sl E.2.2.2
  | 0, _, _, _, _, h => by cases h
  | n + 1, stop, R, B, E, h => by
    rw [bm_run] at h
    cases hb : bm_at stop B.1 with
    | true =>
      rw [hb] at h
      cases h
      exact ⟨Nat.le_refl _, Nat.le_refl _⟩
    | false =>
      rw [hb] at h
      dsimp only [cond_false] at h
      split at h
      · rename_i C hC
        have h1 := bm_step_mono hC
        have h2 := bm_run_mono n stop R C E h
        omega
      · cases h
        exact ⟨Nat.le_refl _, Nat.le_refl _⟩
      · rename_i q hq
        split at h
        · rename_i F hF
          have h1 := bm_run_mono n _ _ _ _ hF
          have h2 := bm_run_mono n _ _ _ _ h
          dsimp only at h1 h2
          omega
        · cases h
      · cases h
section BMC
variable {p : Program} {l : Launch} {e : Env} {Rm : Room} {s : State} {m : MethodId} {args : Array Value} {below : List Frame} {meth : Method} {c : Code} {Q : State → Prop} {D : va_G} {tc : Nat → ClassId} {ad : Nat → Nat} {A : Nat → Prop} {R : MR} {c0 s0 : Nat}
variable {pc : Nat} {lv : LV} {st : List Value} {w : List BC} {C : BS}
theorem bm_blind (D : va_G) (tc : Nat → ClassId) (ad : Nat → Nat) (w : List BC) (sz : Nat) (as : List Value) : FrameBlind (bm_Pc D tc ad w sz as) := by
  intro a U g mk q
  obtain ⟨q1, q2, q3, q4, q5, q6⟩ := q
  exact ⟨q1, q2, q3, va_K.moved (u := U) (U := U.calling g mk a) (Vm.Alike.refl U.vm) q4, q5, bm_RO.same (u := U) (U := U.calling g mk a) rfl q6⟩
/-- behind a call -/
theorem bm_cont {H : Heap} {locs : List Loc} {ls : Array Slot} {st0 : List Value} {w' : List BC} {rest : List Value} {a : Array Value} (hA : ∀ q : Nat, s.heap.size ≤ q → A q) (hD : va_D A (bm_W tc ad w)) (hS : va_S A s.heap H locs) (hl : lv_has ls (mr_L R) (am_lv ad lv)) (hlo : lv.all (fun q => bm_old w.length q.2) = true) (hro : rest.all (bm_old w.length) = true) (hc0 : c0 ≤ w.length) (hs0 : s0 ≤ bm_sl w) (hm1 : w.length ≤ w'.length) (hm2 : bm_sl w ≤ bm_sl w')
    (hr : va_Run p l e Rm s m args below meth c H locs (w.length - c0) (bm_sl w - s0) (w'.length - w.length) (bm_sl w' - bm_sl w) (F0 m pc ls st0) (rest.map (am_cv ad)) (bm_Qc D tc ad w w' H.size a) (va_A (bm_W tc ad w) H.size)) (k : ∀ ad', bm_agree w.length ad ad' → bm_WB p l e Rm s m args below meth c Q D tc A R c0 s0 ad' (pc + 3, lv, rest, w')) :
    W p l e Rm s m args below meth c H locs (w.length - c0) (bm_sl w - s0) Q (F0 m pc ls st0) := by
  have hF : ∀ q, va_A (bm_W tc ad w) H.size q → A q := by
    rintro q (⟨k, e, hk⟩ | hq)
    · exact hD.2 k _ hk
    · exact hA q (Nat.le_trans hS.1 hq)
  intro T hT X
  obtain ⟨v, st₀, t, T', L, h0, X', hL, e1, e2, ⟨hv, ⟨ad', hag, hP1, hD1⟩, hz, hk⟩, st⟩ := hr T hT X
  have hv : v = none := by
    injection hv
  subst hv
  rw [h0] at hz hk
  have hS' : va_S A s.heap T'.heap (locs ++ L) := by
    refine ⟨Nat.le_trans hS.1 (by rw [e1]; exact hz), fun q h1 h2 => ?_, fun q hq => ?_⟩
    · rw [e1, hk q (Nat.lt_of_lt_of_le h1 hS.1) (fun z => h2 (hF q z))]
      exact hS.2.1 q h1 h2
    · rcases List.mem_append.mp hq with h | h
      · exact hS.2.2 q h
      · exact hF _ (hL q h)
  have g := k ad' hag ls T'.heap (locs ++ L) (by dsimp only; rw [bm_lv_old hag hlo]; exact hl) (by rw [e1]; exact hP1) (hD1.weaken (fun _ q _ z => hF q.1 z)) hS'
  dsimp only at g
  have ec : w'.length - c0 = (w.length - c0) + (w'.length - w.length) := by omega
  have es : bm_sl w' - s0 = (bm_sl w - s0) + (bm_sl w' - bm_sl w) := by omega
  rw [ec, es, bm_st_old hag hro] at g
  obtain ⟨t2, a1, b1⟩ := g T' rfl X'
  exact ⟨t2, st t2 a1, b1⟩
theorem bm_callq {q : MR × List Value × List Value} (hst : bm_step bm_ml R (pc, lv, st, w) = some (.inr (some q))) : am_cat q.2.1 ≤ mr_L q.1 ∧ bm_G q.1 := by
  unfold bm_step at hst
  split at hst
  case h_2 => cases hst
  rename_i rw hrow
  obtain ⟨i, tg, ex, sw, lg⟩ := rw
  cases i with
  | invokespecial idx =>
    dsimp only at hst
    unfold bm_exec at hst
    dsimp only at hst
    split at hst
    · exfalso
      split at hst
      · have hst := (bm_bif hst).2
        cases hst
      · cases hst
    · split at hst
      case h_2 => cases hst
      rename_i R' ps hml2
      split at hst
      case h_2 => cases hst
      rename_i a rest hdrop
      obtain ⟨hcond, hq⟩ := bm_bif hst
      cases hq
      rw [Bool.and_eq_true, Bool.and_eq_true] at hcond
      exact ⟨(am_fits_spec hcond.2.1).2.2.1, (bm_links _ _ (am_mfind_mem hml2)).2⟩
  | _ =>
    exfalso
    dsimp only at hst
    first
    | exact am_no hst
    | (unfold bm_exec at hst
       dsimp only at hst
       repeat' (first
         | exact am_no hst
         | (cases hst; done)
         | (have hst' := (bm_bif hst).2; cases hst'; done)
         | (split at hst)))
set_option maxHeartbeats 4000000 in
theorem bm_call (X : bm_FX p s m args meth c Rm D tc A R) (hRO : bm_RO ad s) {w' : List BC} {q : MR × List Value × List Value} (hst : bm_step bm_ml R (pc, lv, st, w) = some (.inr (some q))) (hM : bm_C l q.1 q.2.1 w w') (hc0 : c0 ≤ w.length) (hs0 : s0 ≤ bm_sl w) (hm1 : w.length ≤ w'.length) (hm2 : bm_sl w ≤ bm_sl w') (hroom : w'.length - c0 ≤ Rm.cells ∧ bm_sl w' - s0 ≤ Rm.slots)
    (k : ∀ ad', bm_agree w.length ad ad' → bm_WB p l e Rm s m args below meth c Q D tc A R c0 s0 ad' (pc + 3, lv, q.2.2, w')) :
    bm_WB p l e Rm s m args below meth c Q D tc A R c0 s0 ad (pc, lv, st, w) := by
  unfold bm_step at hst
  split at hst
  case h_2 => cases hst
  rename_i rw hrow
  obtain ⟨i, tg, ex, sw, lg⟩ := rw
  obtain ⟨hd, hw⟩ := bm_dec X hrow
  obtain ⟨hx, hb, hml, hown, hts, hK, hA, ⟨hm3, hm4⟩, hall, hin⟩ := id X
  cases i with
  | invokespecial idx =>
    dsimp only at hst
    unfold bm_exec at hst
    dsimp only at hst
    split at hst
    · exfalso
      split at hst
      · have hst := (bm_bif hst).2
        cases hst
      · cases hst
    · split at hst
      case h_2 => cases hst
      rename_i R' ps hml2
      split at hst
      case h_2 => cases hst
      rename_i a rest hdrop
      obtain ⟨hcond, hq⟩ := bm_bif hst
      cases hq
      rw [Bool.and_eq_true, Bool.and_eq_true] at hcond
      obtain ⟨hlen, hfit, hok⟩ := hcond
      have hlen := Nat.le_of_ble_eq_true hlen
      obtain ⟨f1, f2, f3, f4⟩ := am_fits_spec hfit
      obtain ⟨o1, o2, o3, o4⟩ := bm_okw_spec hok
      obtain ⟨hlk, hG⟩ := bm_links _ _ (am_mfind_mem hml2)
      obtain ⟨n1, n2, n3, n4, n5⟩ := am_nm_spec hG.2.1
      have hcode := hG.2.2.1
      have hret : mr_r R' = none := hG.2.2.2.2
      intro ls H locs hl hP hD hS
      have hDT : va_D (fun _ => True) (bm_W tc ad w) := hD.weaken (fun _ _ _ _ => trivial)
      have hstack : (st.map (am_cv ad)) = ((((st.take (mr_n R')).reverse).map (am_cv ad))).reverse ++ .ref (ad a) :: rest.map (am_cv ad) := by
        rw [List.map_reverse, List.reverse_reverse]
        have e0 : Value.ref (ad a) :: rest.map (am_cv ad) = (st.drop (mr_n R')).map (am_cv ad) := by rw [hdrop]; rfl
        rw [e0, ← List.map_append, List.take_append_drop]
      have hAl : (((st.take (mr_n R')).reverse).map (am_cv ad)).length = mr_n R' := by
        rw [List.length_map, List.length_reverse, List.length_take, Nat.min_eq_left hlen]
      have hro : rest.all (bm_old w.length) = true := by
        rw [List.all_eq_true]
        intro x hx
        refine List.all_eq_true.mp o3 x ?_
        have : x ∈ st.drop (mr_n R') := by rw [hdrop]; exact List.mem_cons_of_mem _ hx
        exact List.mem_of_mem_drop this
      have hp : PreS s H (bm_Pc D tc ad w H.size (.ref a :: (st.take (mr_n R')).reverse)) (.ref (ad a) :: ((st.take (mr_n R')).reverse).map (am_cv ad)) := ⟨bm_blind _ _ _ _ _ _, fun U hU hW => ⟨rfl, by rw [hU], by rw [hU]; exact hP, va_K.moved hW.alike hK, hDT, hRO.warm hW⟩⟩
      have hrm : 2 * (F0 m pc ls (st.map (am_cv ad))).monitorRoom + ((rest.map (am_cv ad)).map fun v => v.category).sum ≤ 8 := lv_room (by rw [am_cat_cv]; exact f4)
      refine bm_cont hA hD hS hl o2 hro hc0 hs0 hm1 hm2 (a := (Value.ref (ad a) :: ((st.take (mr_n R')).reverse).map (am_cv ad)).toArray) ?_ k
      have hfit2 : (w.length - c0) + (w'.length - w.length) ≤ Rm.cells ∧ (bm_sl w - s0) + (bm_sl w' - bm_sl w) ≤ Rm.slots := by omega
      have hws : ∀ x ∈ am_ws R', ∀ (a' : Array Value) (U : State), s.WarmedH U.vm → x.before a' U = true := by
        intro x hx a' U hW
        have hm : x ∈ am_all := by
          rcases List.mem_cons.mp hx with rfl | h
          · exact hcode
          · exact h
        exact word_at hW (am_good hm) (hts x hm)
      have hcin : Cond.code (mr_y R') (mr_b R') (mr_L R') none ∈ am_ws R' := by
        unfold am_ws
        rw [hret]
        exact List.mem_cons_self
      have hcb : (Cond.code (mr_y R') (mr_b R') (mr_L R') none).before args s = true := by
        have z := hts _ hcode
        rw [hret] at z
        exact z
      unfold bm_mlk at hlk
      split at hlk
      · rename_i p1 p2 p4 h9
        simp only [Bool.and_eq_true] at hlk
        exact va_runI (As := ((st.take (mr_n R')).reverse).map (am_cv ad)) (n := mr_n R') (nL := mr_L R) (bytes := mr_b R') (maxL := mr_L R') ⟨hx, hb, hml, hown, hts⟩ (hM D tc ad H.size) ⟨⟨rfl, rfl, Nat.le_trans f1 hm3, Nat.le_trans f2 hm4, hws, hcin, hcb, hts _ (am_wd_mem hlk.2.2), ⟨n3, n4⟩, n5, hts _ (am_wd_mem hlk.1)⟩, hG.2.2.2.1, hts _ (am_wd_mem hlk.2.1)⟩ hp rfl hAl hl.1 hstack hrm hd hfit2
      · rename_i j p2 p4 h9
        rw [Bool.and_eq_true, Bool.and_eq_true, decide_eq_true_eq] at hlk
        have e1 := hRO.2.2 _ _ hlk.1
        exact va_runIN (As := ((st.take (mr_n R')).reverse).map (am_cv ad)) (n := mr_n R') (nL := mr_L R) (bytes := mr_b R') (maxL := mr_L R') (host := "Samovar") ⟨hx, hb, hml, hown, hts⟩ (hM D tc ad H.size) ⟨⟨⟨rfl, rfl, Nat.le_trans f1 hm3, Nat.le_trans f2 hm4, hws, hcin⟩, hcb, hts _ (am_wd_mem hlk.2.2), ⟨n3, n4⟩, n5, va_Nw.use rfl e1⟩, hG.2.2.2.1, hts _ (am_wd_mem hlk.2.1)⟩ hp rfl hAl hl.1 hstack hrm hd hfit2
      · cases hlk
  | _ =>
    exfalso
    dsimp only at hst
    first
    | exact am_no hst
    | (unfold bm_exec at hst
       dsimp only at hst
       repeat' (first
         | exact am_no hst
         | (cases hst; done)
         | (have hst' := (bm_bif hst).2; cases hst'; done)
         | (split at hst)))
end BMC
def bm_S (l : Launch) (n : Nat) : Prop := ∀ (p : Program) (e : Env) (Rm : Room) (s : State) (m : MethodId) (args : Array Value) (below : List Frame) (meth : Method) (c : Code) (Q : State → Prop) (D : va_G) (tc : Nat → ClassId) (ad : Nat → Nat) (A : Nat → Prop) (R : MR) (c0 s0 : Nat) (stop : Option Nat) (B E : BS),
  bm_FX p s m args meth c Rm D tc A R → bm_RO ad s → bm_run bm_ml n stop R B = some E → c0 ≤ B.2.2.2.length → s0 ≤ bm_sl B.2.2.2 → (E.2.2.2.length - c0 ≤ Rm.cells ∧ bm_sl E.2.2.2 - s0 ≤ Rm.slots) → (∀ ad', bm_agree B.2.2.2.length ad ad' → (bm_at stop E.1 = true ∨ bm_step bm_ml R E = some (.inr none)) → bm_WB p l e Rm s m args below meth c Q D tc A R c0 s0 ad' E) → bm_WB p l e Rm s m args below meth c Q D tc A R c0 s0 ad B
theorem bm_agree.trans {n k : Nat} {a b d : Nat → Nat} (h1 : bm_agree n a b) (h2 : bm_agree k b d) (hk : n ≤ k) : bm_agree n a d := fun i hi => (h2 i (by omega)).trans (h1 i hi)
theorem bm_met {l : Launch} {n : Nat} (ih : bm_S l n) {R : MR} (hG : bm_G R) {as : List Value} {w : List BC} {E : BS} (hcat : am_cat as ≤ mr_L R) (hrun : bm_run bm_ml n none R (0, lv_args 0 as, [], w) = some E) : bm_C l R as w E.2.2.2 := by
  intro D tc ad sz
  obtain ⟨n1, n2, -⟩ := am_nm_spec hG.2.1
  have hret : mr_r R = none := hG.2.2.2.2
  refine Met.ofW (cc := mr_b R) (maxL := mr_L R) (ret := mr_r R) n2 rfl ?_
  intro p e s m args below meth c s₁ B hml hv
  obtain ⟨rfl, hsz, hP, hK, hD0, hRO⟩ := hv
  subst hsz
  have hts := atoms_spec (ws := am_ws R) B.pre
  have hown : s.vm.findClass (mr_y R).cls = some m.cls := findClass_of_methodNamed B.named
  rw [n1] at hown
  have hD := hD0.self (sz := s.heap.size)
  have hnm : meth.name = "<init>" := by
    have z := (name_of_methodNamed B.named B.method).1
    rw [z]
    exact hG.2.2.2.1
  have X : bm_FX p s m (as.map (am_cv ad)).toArray meth c (bm_rm R (E.2.2.2.length - w.length) (bm_sl E.2.2.2 - bm_sl w)) D tc (va_A (bm_W tc ad w) s.heap.size) R := ⟨B.exec, B.bytes, hml, hown, fun x hx => hts x (List.mem_cons_of_mem _ hx), hK, fun q hq => Or.inr hq, ⟨Nat.le_refl _, Nat.le_refl _⟩, hG.1, fun _ => hnm⟩
  rw [lg_entry_eq]
  have hl := lv_entry (as.map (am_cv ad)) (n := mr_L R) (by rw [am_lgsl, am_cat_map]; exact hcat)
  rw [am_lv_args] at hl
  have main := ih p e (bm_rm R (E.2.2.2.length - w.length) (bm_sl E.2.2.2 - bm_sl w)) s m (as.map (am_cv ad)).toArray below meth c (MQ below (bm_Qc D tc ad w E.2.2.2 s.heap.size) (as.map (am_cv ad)).toArray s (E.2.2.2.length - w.length) (bm_sl E.2.2.2 - bm_sl w) (va_A (bm_W tc ad w) s.heap.size)) D tc ad (va_A (bm_W tc ad w) s.heap.size) R w.length (bm_sl w) none (0, lv_args 0 as, [], w) E X hRO hrun (Nat.le_refl _) (Nat.le_refl _) ⟨Nat.le_refl _, Nat.le_refl _⟩ (fun ad' hag hend => ?_)
  · have g := main _ s.heap [] hl hP hD va_S.rf
    dsimp only at g
    rw [Nat.sub_self, Nat.sub_self] at g
    exact g
  · obtain ⟨epc, elv, est, ew⟩ := E
    intro ls H locs hl hP hD hS
    have hend : bm_step bm_ml R (epc, elv, est, ew) = some (.inr none) ∧ ∃ r, am_row (mr_c R) epc = some r := by
      rcases hend with z | z
      · cases z
      · refine ⟨z, ?_⟩
        unfold bm_step at z
        split at z
        · rename_i r hr
          exact ⟨r, hr⟩
        · cases z
    obtain ⟨hst, ⟨i, tg, ex, sw, lg⟩, hrow⟩ := hend
    obtain ⟨hd, hw⟩ := bm_dec X hrow
    unfold bm_step at hst
    dsimp only at hst
    rw [hrow] at hst
    have hi : i = .return_ ∧ est = [] := by
      cases i with
      | return_ =>
        refine ⟨rfl, ?_⟩
        unfold bm_exec at hst
        dsimp only at hst
        split at hst
        · rfl
        · cases hst
      | invokespecial idx =>
        exfalso
        unfold bm_exec at hst
        dsimp only at hst
        split at hst
        · split at hst
          · have hst := (bm_bif hst).2
            cases hst
          · cases hst
        · split at hst
          · split at hst
            · have hst := (bm_bif hst).2
              cases hst
            · cases hst
          · cases hst
      | _ =>
        exfalso
        first
        | exact am_no hst
        | (unfold bm_exec at hst
           dsimp only at hst
           repeat' (first
             | exact am_no hst
             | (cases hst; done)
             | (have hst' := (bm_bif hst).2; cases hst'; done)
             | (split at hst)))
    obtain ⟨rfl, rfl⟩ := hi
    exact W.vret X.1 X.2.1 (by rw [B.returns, hret]) (fun t ht hW => ⟨rfl, ⟨ad', hag, by rw [ht]; exact hP, hD⟩, hS.F ht⟩) hS.2.2 hd B.notSynchronized
theorem bm_sound (l : Launch) : ∀ n : Nat, bm_S l n
  | 0 => by
    intro p e Rm s m args below meth c Q D tc ad A R c0 s0 stop B E X hRO hrun
    cases hrun
  | n + 1 => by
    have ih := bm_sound l n
    intro p e Rm s m args below meth c Q D tc ad A R c0 s0 stop B E X hRO hrun hc0 hs0 hroom hfin
    obtain ⟨pc, lv, st, w⟩ := B
    rw [bm_run] at hrun
    cases hb : bm_at stop pc with
    | true =>
      dsimp only at hrun
      rw [hb] at hrun
      cases hrun
      exact hfin ad bm_agree.rf (Or.inl hb)
    | false =>
      dsimp only at hrun
      rw [hb] at hrun
      dsimp only [cond_false] at hrun
      split at hrun
      · rename_i C hst
        have hm := bm_step_mono hst
        have hm2 := bm_run_mono n stop R C E hrun
        dsimp only at hc0 hs0 hm
        have hW : ∀ ad', bm_agree w.length ad ad' → bm_WB p l e Rm s m args below meth c Q D tc A R c0 s0 ad' C := fun ad' hag => ih p e Rm s m args below meth c Q D tc ad' A R c0 s0 stop C E X (hRO.agree hag) hrun (by omega) (by omega) hroom (fun ad2 hag2 hend => hfin ad2 (hag.trans hag2 hm.1) hend)
        unfold bm_step at hst
        split at hst
        · rename_i rw hrow
          obtain ⟨i, tg, ex, sw, lg⟩ := rw
          exact bm_next X hRO hrow hst hc0 hs0 (by omega) hW
        · cases hst
      · rename_i hst
        cases hrun
        exact hfin ad bm_agree.rf (Or.inr hst)
      · rename_i q hst
        split at hrun
        · rename_i F hF
          have hm1 := bm_run_mono n _ _ _ _ hF
          have hm2 := bm_run_mono n _ _ _ _ hrun
          dsimp only at hc0 hs0 hm1 hm2
          have hW : ∀ ad', bm_agree w.length ad ad' → bm_WB p l e Rm s m args below meth c Q D tc A R c0 s0 ad' (pc + 3, lv, q.2.2, F.2.2.2) := fun ad' hag => ih p e Rm s m args below meth c Q D tc ad' A R c0 s0 stop (pc + 3, lv, q.2.2, F.2.2.2) E X (hRO.agree hag) hrun (by dsimp only; omega) (by dsimp only; omega) hroom (fun ad2 hag2 hend => hfin ad2 (hag.trans hag2 hm1.1) hend)
          have hq : am_cat q.2.1 ≤ mr_L q.1 ∧ bm_G q.1 := bm_callq hst
          exact bm_call X hRO hst (bm_met ih hq.2 hq.1 hF) hc0 hs0 hm1.1 hm1.2 (by omega) hW
        · cases hrun
      · cases hrun
