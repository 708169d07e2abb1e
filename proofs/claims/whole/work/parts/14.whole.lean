/-! the abstract machine's runs are the machine's -/
section AMW
variable {p : Program} {l : Launch} {e : Env} {Rm : Room} {s : State} {m : MethodId} {args : Array Value} {below : List Frame} {meth : Method} {c : Code} {cells slots : Nat} {Q : State → Prop} {D : va_G} {tc : Nat → ClassId} {ad : Nat → Nat} {A : Nat → Prop} {R : MR} {sc : Option (Nat × (Nat → Int32))}
variable {pc : Nat} {lv : LV} {st : List Value} {h : AH} {B : AS}
set_option maxHeartbeats 4000000 in
theorem am_exec_ret {i : Jvm.ClassFile.Instr} {tg : Nat} {ex : List Nat} {sw : List (Int32 × Nat)} {lg : Int64} {v : Option Value} (he : am_exec sc R pc i tg ex sw lg lv st h = some (.inr (.inl v))) : (i = .ireturn ∧ ∃ x : Int32, st = [.int x] ∧ v = some (.int x) ∧ am_retok (mr_r R) x = true) ∨ (i = .lreturn ∧ ∃ x : Int64, st = [.long x] ∧ v = some (.long x) ∧ mr_r R = some .long) ∨ (i = .areturn ∧ ∃ x : Value, st = [x] ∧ v = some x ∧ am_isRef x = true ∧ am_refret (mr_r R) = true) ∨ (i = .return_ ∧ st = [] ∧ v = none ∧ mr_r R = none) := by
  cases i with
  | ireturn =>
    replace he : (match st with
      | [.int v] => bif am_retok (mr_r R) v then some (Sum.inr (.inl (some (.int v))) : ACT) else none
      | _ => none) = some (.inr (.inl v)) := he
    split at he
    · obtain ⟨h1, h2⟩ := am_bifW he
      cases h2
      exact Or.inl ⟨rfl, _, rfl, rfl, h1⟩
    · cases he
  | lreturn =>
    replace he : (match st with
      | [.long v] => bif decide (mr_r R = some .long) then some (Sum.inr (.inl (some (.long v))) : ACT) else none
      | _ => none) = some (.inr (.inl v)) := he
    split at he
    · obtain ⟨h1, h2⟩ := am_bifW he
      cases h2
      exact Or.inr (Or.inl ⟨rfl, _, rfl, rfl, of_decide_eq_true h1⟩)
    · cases he
  | areturn =>
    replace he : (match st with
      | [v] => bif am_isRef v && am_refret (mr_r R) then some (Sum.inr (.inl (some v)) : ACT) else none
      | _ => none) = some (.inr (.inl v)) := he
    split at he
    · obtain ⟨h1, h2⟩ := am_bifW he
      cases h2
      rw [Bool.and_eq_true] at h1
      exact Or.inr (Or.inr (Or.inl ⟨rfl, _, rfl, rfl, h1.1, h1.2⟩))
    · cases he
  | return_ =>
    replace he : (match st with
      | [] => bif decide (mr_r R = none) then some (Sum.inr (.inl none) : ACT) else none
      | _ => none) = some (.inr (.inl v)) := he
    split at he
    · obtain ⟨h1, h2⟩ := am_bifW he
      cases h2
      exact Or.inr (Or.inr (Or.inr ⟨rfl, rfl, rfl, of_decide_eq_true h1⟩))
    · cases he
  | invokestatic idx =>
    exfalso
    replace he : (match ex with
      | 0 :: _ => am_callS R idx st
      | 1 :: _ => am_copy R pc lv st h
      | 2 :: _ => am_mm R pc lv st h am_max
      | 3 :: _ => am_mm R pc lv st h am_min
      | _ => none) = some (.inr (.inl v)) := he
    split at he
    · unfold am_callS at he
      split at he
      · have he := (am_bifW he).2
        cases he
      · cases he
    · unfold am_copy at he
      split at he
      · split at he
        · have he := (am_bifW (am_bifW he).2).2
          cases he
        · cases he
      · cases he
    · unfold am_mm at he
      split at he
      · have he := (am_bifW he).2
        cases he
      · cases he
    · unfold am_mm at he
      split at he
      · have he := (am_bifW he).2
        cases he
      · cases he
    · cases he
  | invokevirtual idx =>
    exfalso
    replace he : am_callV R idx st = some (.inr (.inl v)) := he
    unfold am_callV at he
    split at he
    · split at he
      · have he := (am_bifW he).2
        cases he
      · cases he
    · cases he
  | _ =>
    exfalso
    first
    | exact am_no he
    | (unfold am_exec at he
       dsimp only at he
       (try unfold am_ii at he)
       (try unfold am_ll at he)
       (try unfold am_load at he)
       (try unfold am_store at he)
       (try unfold am_storeL at he)
       repeat' (first | (cases he; done) | (have he' := (am_bifW he).2; cases he'; done) | (split at he)))
/-- a method's end -/
theorem am_fin (X : am_FX p s m args c Rm 0 0 D tc ad A none R) (hret : meth.sig.returnType = mr_r R) (hlocks : meth.locks = false) {h0 h' : AH} {sz : Nat} (hA : A = va_A (am_W tc ad h0) sz) {v : Option Value} (hst : am_step none R (pc, lv, st, h') = some (.inr (.inl v))) :
    am_WA p l e Rm s m args below meth c 0 0 (MQ below (am_Qc D tc ad h0 h' sz v) args s 0 0 A) D tc ad A R (pc, lv, st, h') := by
  unfold am_step at hst
  split at hst
  case h_2 => cases hst
  rename_i rw hrow
  obtain ⟨i, tg, ex, sw, lg⟩ := rw
  obtain ⟨⟨n, hd, hn⟩, hw⟩ := am_dec X hrow
  obtain ⟨hx, hb, hml, hown, hts, hK, hRO, hD, -⟩ := id X
  intro ls H locs hl hP hS
  have hq : ∀ t : State, t.heap = H → s.WarmedH t.vm → am_Qc D tc ad h0 h' sz v args s (.returned (v.map (am_cv ad))) t := fun t ht hW => ⟨rfl, by rw [ht]; exact hP, va_K.moved hW.alike hK, by rw [← hA]; exact hS.F ht⟩
  rcases am_exec_ret hst with ⟨rfl, x, h1, rfl, h3⟩ | ⟨rfl, x, h1, rfl, h3⟩ | ⟨rfl, x, h1, rfl, h3, h4⟩ | ⟨rfl, h1, rfl, h3⟩
  · have hn : n = 1 := hn.resolve_left (fun q => am_ft q)
    subst hn
    have h1 : st = [.int x] := h1
    subst h1
    unfold am_retok at h3
    split at h3
    · rename_i hr
      exact W.iret (v := x) hx hb (by rw [hret, hr]) hq hS.2.2 hd hlocks
    · rename_i hr
      refine W.zret (v := x) (ty := .boolean) hx hb (by rw [hret, hr]) ?_ hq hS.2.2 hd hlocks
      rw [Bool.or_eq_true, decide_eq_true_eq, decide_eq_true_eq] at h3
      rcases h3 with rfl | rfl <;> decide
    · rename_i hr
      refine W.zret (v := x) (ty := .byte) hx hb (by rw [hret, hr]) ?_ hq hS.2.2 hd hlocks
      rw [decide_eq_true_eq] at h3
      subst h3
      decide
    · cases h3
  · have hn : n = 1 := hn.resolve_left (fun q => am_ft q)
    subst hn
    have h1 : st = [.long x] := h1
    subst h1
    exact W.lret (v := x) hx hb (by rw [hret, h3]) hq hS.2.2 hd hlocks
  · have hn : n = 1 := hn.resolve_left (fun q => am_ft q)
    subst hn
    have h1 : st = [x] := h1
    subst h1
    unfold am_refret at h4
    have hv : am_cv ad x = .null ∨ ∃ a, am_cv ad x = .ref a := by
      cases x with
      | ref a => exact Or.inr ⟨_, rfl⟩
      | null => exact Or.inl rfl
      | _ => cases h3
    split at h4
    · rename_i nm hr
      exact W.aret (v := am_cv ad x) (rt := .object nm) hx hb (by rw [hret, hr]) (Or.inl ⟨_, rfl⟩) hv hq hS.2.2 hd hlocks
    · rename_i nm hr
      exact W.aret (v := am_cv ad x) (rt := .array nm) hx hb (by rw [hret, hr]) (Or.inr ⟨_, rfl⟩) hv hq hS.2.2 hd hlocks
    · cases h4
  · have hn : n = 1 := hn.resolve_left (fun q => am_ft q)
    subst hn
    have h1 : st = [] := h1
    subst h1
    exact W.vret hx hb (by rw [hret, h3]) hq hS.2.2 hd hlocks
end AMW
/-- what is claimed of runs of at most n steps -/
def am_S (l : Launch) (n : Nat) : Prop := ∀ (p : Program) (e : Env) (Rm : Room) (s : State) (m : MethodId) (args : Array Value) (below : List Frame) (meth : Method) (c : Code) (cells slots : Nat) (Q : State → Prop) (D : va_G) (tc : Nat → ClassId) (ad : Nat → Nat) (A : Nat → Prop) (R : MR) (sc : Option (Nat × (Nat → Int32))) (B : AS) (v : Option Value) (h' : AH),
  am_FX p s m args c Rm cells slots D tc ad A sc R → am_run n sc R B = some (v, h') → (∀ (pc : Nat) (lv : LV) (st : List Value), am_step sc R (pc, lv, st, h') = some (.inr (.inl v)) → am_WA p l e Rm s m args below meth c cells slots Q D tc ad A R (pc, lv, st, h')) → am_WA p l e Rm s m args below meth c cells slots Q D tc ad A R B
theorem am_met {l : Launch} {n : Nat} (ih : am_S l n) {R : MR} (hG : am_G R) {as : List Value} {h h' : AH} {v : Option Value} (hcat : am_cat as ≤ mr_L R) (hrun : am_run n none R (0, lv_args 0 as, [], h) = some (v, h')) : am_C l R as h v h' := by
  intro D tc ad sz
  obtain ⟨n1, n2, -⟩ := am_nm_spec hG.2.1
  refine Met.ofW (cc := mr_b R) (maxL := mr_L R) (ret := mr_r R) n2 rfl ?_
  intro p e s m args below meth c s₁ B hml hv
  obtain ⟨rfl, hsz, hP, hK, hD0, hRO⟩ := hv
  subst hsz
  have hts := atoms_spec (ws := am_ws R) B.pre
  have hown : s.vm.findClass (mr_y R).cls = some m.cls := findClass_of_methodNamed B.named
  rw [n1] at hown
  have hD := hD0.self (sz := s.heap.size)
  have X : am_FX p s m (as.map (am_cv ad)).toArray c (am_rm R) 0 0 D tc ad (va_A (am_W tc ad h) s.heap.size) none R := ⟨B.exec, B.bytes, hml, hown, fun w hw => hts w (List.mem_cons_of_mem _ hw), hK, hRO, fun h'' => am_D_any hD h'', fun q hq => Or.inr hq, ⟨Nat.le_refl _, Nat.le_refl _, Nat.le_refl _, Nat.le_refl _⟩, (fun _ _ z => by cases z), hG.1⟩
  rw [lg_entry_eq]
  have hl := lv_entry (as.map (am_cv ad)) (n := mr_L R) (by rw [am_lgsl, am_cat_map]; exact hcat)
  rw [am_lv_args] at hl
  exact ih p e (am_rm R) s m (as.map (am_cv ad)).toArray below meth c 0 0 _ D tc ad _ R none (0, lv_args 0 as, [], h) v h' X hrun (fun pc lv st hst => am_fin X B.returns B.notSynchronized rfl hst) _ _ [] hl hP va_S.rf
theorem am_sound (l : Launch) : ∀ n : Nat, am_S l n
  | 0 => by
    intro p e Rm s m args below meth c cells slots Q D tc ad A R sc B v h' X hrun
    cases hrun
  | n + 1 => by
    have ih := am_sound l n
    intro p e Rm s m args below meth c cells slots Q D tc ad A R sc B v h' X hrun hfin
    obtain ⟨pc, lv, st, h⟩ := B
    unfold am_run at hrun
    split at hrun
    · rename_i B' hst
      have hW := ih p e Rm s m args below meth c cells slots Q D tc ad A R sc B' v h' X hrun hfin
      unfold am_step at hst
      split at hst
      · rename_i rw hrow
        obtain ⟨i, tg, ex, sw, lg⟩ := rw
        exact am_next X hrow hst hW
      · cases hst
    · rename_i v' hst
      cases hrun
      exact hfin pc lv st hst
    · rename_i q hst
      split at hrun
      · rename_i w hcallee
        obtain ⟨v1, h1⟩ := w
        have hW := ih p e Rm s m args below meth c cells slots Q D tc ad A R sc _ v h' X hrun hfin
        have hcat : am_cat q.2.1 ≤ mr_L q.1 ∧ am_G q.1 := by
          unfold am_step at hst
          split at hst
          case h_2 => cases hst
          rename_i rw hrow
          rcases am_exec_call hst with ⟨idx, -, hc⟩ | ⟨idx, -, hc⟩
          · unfold am_callS at hc
            split at hc
            case h_2 => cases hc
            rename_i R' kd tl hml2
            obtain ⟨hcond, hq⟩ := am_bifW hc
            cases hq
            rw [Bool.and_eq_true, Bool.and_eq_true] at hcond
            exact ⟨(am_fits_spec hcond.2.2).2.2.1, (am_links _ _ (am_mfind_mem hml2)).2⟩
          · unfold am_callV at hc
            split at hc
            case h_2 => cases hc
            rename_i R' kd tl hml2
            split at hc
            case h_2 => cases hc
            obtain ⟨hcond, hq⟩ := am_bifW hc
            cases hq
            rw [Bool.and_eq_true, Bool.and_eq_true, Bool.and_eq_true] at hcond
            exact ⟨(am_fits_spec hcond.2.2.2).2.2.1, (am_links _ _ (am_mfind_mem hml2)).2⟩
        exact am_call X hst (am_met ih hcat.2 hcat.1 hcallee) hW
      · cases hrun
    · cases hrun
