/-! a run changes cells of its own region alone -/
def rg_v (ρ : Nat → Bool) : Value → Bool
  | .ref i => ρ i
  | _ => true
def rg_same (ρ : Nat → Bool) (h h' : AH) : Prop := ∀ i, ρ i = false → h'.1 i = h.1 i ∧ h'.2.1 i = h.2.1 i ∧ h'.2.2 i = h.2.2 i
def rg_cl (ρ : Nat → Bool) : Prop := (∀ (i : Nat) (a : Nat × List (Option Nat)), am_shp[i]? = some (.inr a) → ρ i = true → ∀ (k j : Nat), a.2[k]? = some (some j) → ρ j = true) ∧ ∀ i, 200 ≤ i → ρ i = true
theorem rg_same.rf {ρ : Nat → Bool} {h : AH} : rg_same ρ h h := fun _ _ => ⟨rfl, rfl, rfl⟩
theorem rg_same.tr {ρ : Nat → Bool} {a b c : AH} (h1 : rg_same ρ a b) (h2 : rg_same ρ b c) : rg_same ρ a c := fun i hi => ⟨(h2 i hi).1.trans (h1 i hi).1, (h2 i hi).2.1.trans (h1 i hi).2.1, (h2 i hi).2.2.trans (h1 i hi).2.2⟩
theorem rg_ne {ρ : Nat → Bool} {a i : Nat} (ha : ρ a = true) (hi : ρ i = false) : ¬ i = a := fun z => by rw [z, ha] at hi; cases hi
theorem rg_sf {ρ : Nat → Bool} {h : AH} {a k : Nat} {v : Int32} (ha : ρ a = true) : rg_same ρ h (am_sf h a k v) := fun i hi => ⟨by funext b; simp [am_sf, rg_ne ha hi], rfl, rfl⟩
theorem rg_sa {ρ : Nat → Bool} {h : AH} {a : Nat} {g : Nat → Int32} (ha : ρ a = true) : rg_same ρ h (am_sa h a g) := fun i hi => ⟨rfl, by simp [am_sa, rg_ne ha hi], rfl⟩
theorem rg_sl {ρ : Nat → Bool} {h : AH} {a : Nat} {g : Nat → Int64} (ha : ρ a = true) : rg_same ρ h (am_sl h a g) := fun i hi => ⟨rfl, rfl, by simp [am_sl, rg_ne ha hi]⟩
def rg_lv (ρ : Nat → Bool) (lv : LV) : Bool := lv.all (fun q => rg_v ρ q.2)
def rg_st (ρ : Nat → Bool) (st : List Value) : Bool := st.all (rg_v ρ)
def rg_act (ρ : Nat → Bool) (h : AH) : ACT → Prop
  | .inl B => rg_lv ρ B.2.1 = true ∧ rg_st ρ B.2.2.1 = true ∧ rg_same ρ h B.2.2.2
  | .inr (.inl v) => ∀ w, v = some w → rg_v ρ w = true
  | .inr (.inr q) => rg_st ρ q.2.1 = true ∧ rg_st ρ q.2.2 = true
theorem rg_get {ρ : Nat → Bool} {lv : LV} {i : Nat} {v : Value} (hl : rg_lv ρ lv = true) (h : am_get lv i = some v) : rg_v ρ v = true := List.all_eq_true.mp hl (i, v) (am_get_mem h)
theorem rg_cons {ρ : Nat → Bool} {v : Value} {st : List Value} : rg_st ρ (v :: st) = (rg_v ρ v && rg_st ρ st) := by simp [rg_st]
theorem rg_lv1 {ρ : Nat → Bool} {lv : LV} {i : Nat} {v : Value} (hl : rg_lv ρ lv = true) (hv : rg_v ρ v = true) : rg_lv ρ (am_st1 lv i v) = true := by
  unfold rg_lv am_st1
  rw [List.all_cons, Bool.and_eq_true]
  exact ⟨hv, List.all_eq_true.mpr (fun q hq => List.all_eq_true.mp hl q (List.mem_filter.mp hq).1)⟩
theorem rg_lv2 {ρ : Nat → Bool} {lv : LV} {i : Nat} {v : Value} (hl : rg_lv ρ lv = true) (hv : rg_v ρ v = true) : rg_lv ρ (am_st2 lv i v) = true := by
  unfold rg_lv am_st2
  rw [List.all_cons, Bool.and_eq_true]
  exact ⟨hv, List.all_eq_true.mpr (fun q hq => List.all_eq_true.mp hl q (List.mem_filter.mp hq).1)⟩
theorem rg_sub {ρ : Nat → Bool} {a b : List Value} (hs : rg_st ρ b = true) (h : ∀ v ∈ a, v ∈ b) : rg_st ρ a = true := List.all_eq_true.mpr (fun v hv => List.all_eq_true.mp hs v (h v hv))
section RGE
variable {ρ : Nat → Bool} {sc : Option (Nat × (Nat → Int32))} {R : MR} {pc : Nat} {lv : LV} {st : List Value} {h : AH} {a : ACT}
theorem rg_load {pv : Value → Bool} {pc' i : Nat} (hl : rg_lv ρ lv = true) (hs : rg_st ρ st = true) (he : am_load pv pc' lv st h i = some a) : rg_act ρ h a := by
  unfold am_load at he
  split at he
  · rename_i v hv
    obtain ⟨-, he⟩ := am_bifW he
    cases he
    exact ⟨hl, by rw [rg_cons, rg_get hl hv, hs]; rfl, rg_same.rf⟩
  · cases he
theorem rg_store {pv : Value → Bool} {L pc' i : Nat} (hl : rg_lv ρ lv = true) (hs : rg_st ρ st = true) (he : am_store pv L pc' lv st h i = some a) : rg_act ρ h a := by
  unfold am_store at he
  split at he
  · obtain ⟨-, he⟩ := am_bifW he
    cases he
    rw [rg_cons, Bool.and_eq_true] at hs
    exact ⟨rg_lv1 hl hs.1, hs.2, rg_same.rf⟩
  · cases he
theorem rg_storeL {L pc' i : Nat} (hl : rg_lv ρ lv = true) (hs : rg_st ρ st = true) (he : am_storeL L pc' lv st h i = some a) : rg_act ρ h a := by
  unfold am_storeL at he
  split at he
  · obtain ⟨-, he⟩ := am_bifW he
    cases he
    rw [rg_cons, Bool.and_eq_true] at hs
    exact ⟨rg_lv2 hl hs.1, hs.2, rg_same.rf⟩
  · cases he
set_option maxHeartbeats 8000000 in
theorem rg_exec (hc : rg_cl ρ) {i : Jvm.ClassFile.Instr} {tg : Nat} {ex : List Nat} {sw : List (Int32 × Nat)} {lg : Int64} (hl : rg_lv ρ lv = true) (hs : rg_st ρ st = true) (he : am_exec sc R pc i tg ex sw lg lv st h = some a) : rg_act ρ h a := by
  cases i with
  | iload_n k => exact rg_load hl hs he
  | iload k => exact rg_load hl hs he
  | lload_n k => exact rg_load hl hs he
  | lload k => exact rg_load hl hs he
  | aload_n k => exact rg_load hl hs he
  | aload k => exact rg_load hl hs he
  | istore_n k => exact rg_store hl hs he
  | istore k => exact rg_store hl hs he
  | astore_n k => exact rg_store hl hs he
  | astore k => exact rg_store hl hs he
  | lstore_n k => exact rg_storeL hl hs he
  | lstore k => exact rg_storeL hl hs he
  | iinc z z2 =>
    unfold am_exec at he
    dsimp only at he
    split at he
    · obtain ⟨-, he⟩ := am_bifW he
      cases he
      exact ⟨rg_lv1 hl rfl, hs, rg_same.rf⟩
    · cases he
  | getfield z =>
    unfold am_exec at he
    dsimp only at he
    split at he
    · split at he
      · rename_i hq
        cases he
        rw [rg_cons, Bool.and_eq_true] at hs
        refine ⟨hl, ?_, rg_same.rf⟩
        dsimp only
        rw [rg_cons, hs.2, Bool.and_true]
        unfold am_fv at hq
        split at hq
        · rename_i q hq2
          split at hq
          · split at hq
            · rename_i j hj
              cases hq
              exact hc.1 _ _ hq2 hs.1 _ _ hj
            · cases hq
              rfl
            · cases hq
          · cases hq
        · cases hq
        · split at hq
          · rename_i hcond
            split at hq
            · cases hq
              rfl
            · cases hq
              exact hc.2 _ (by omega)
          · cases hq
      · cases he
    · cases he
  | putfield z =>
    unfold am_exec at he
    dsimp only at he
    split at he
    · obtain ⟨-, he⟩ := am_bifW he
      cases he
      rw [rg_cons, rg_cons, Bool.and_eq_true, Bool.and_eq_true] at hs
      exact ⟨hl, hs.2.2, rg_sf hs.2.1⟩
    · cases he
  | getstatic z =>
    unfold am_exec at he
    dsimp only at he
    split at he
    · cases he
      exact ⟨hl, by rw [rg_cons, hs]; rfl, rg_same.rf⟩
    · cases he
      exact ⟨hl, by rw [rg_cons, hs, Bool.and_true]; exact hc.2 _ (by omega), rg_same.rf⟩
    · cases he
      exact ⟨hl, by rw [rg_cons, hs, Bool.and_true]; exact hc.2 _ (by omega), rg_same.rf⟩
    · cases he
  | iaload =>
    unfold am_exec at he
    dsimp only at he
    split at he
    · split at he
      · obtain ⟨-, he⟩ := am_bifW he
        cases he
        rw [rg_cons, rg_cons, Bool.and_eq_true, Bool.and_eq_true] at hs
        exact ⟨hl, by rw [rg_cons, hs.2.2]; rfl, rg_same.rf⟩
      · cases he
    · cases he
  | baload =>
    unfold am_exec at he
    dsimp only at he
    split at he
    · split at he
      · obtain ⟨-, he⟩ := am_bifW he
        cases he
        rw [rg_cons, rg_cons, Bool.and_eq_true, Bool.and_eq_true] at hs
        exact ⟨hl, by rw [rg_cons, hs.2.2]; rfl, rg_same.rf⟩
      · cases he
    · cases he
  | laload =>
    unfold am_exec at he
    dsimp only at he
    split at he
    · split at he
      · obtain ⟨-, he⟩ := am_bifW he
        cases he
        rw [rg_cons, rg_cons, Bool.and_eq_true, Bool.and_eq_true] at hs
        exact ⟨hl, by rw [rg_cons, hs.2.2]; rfl, rg_same.rf⟩
      · cases he
    · cases he
  | iastore =>
    unfold am_exec at he
    dsimp only at he
    split at he
    · split at he
      · obtain ⟨-, he⟩ := am_bifW he
        cases he
        rw [rg_cons, rg_cons, rg_cons, Bool.and_eq_true, Bool.and_eq_true, Bool.and_eq_true] at hs
        exact ⟨hl, hs.2.2.2, rg_sa hs.2.2.1⟩
      · cases he
    · cases he
  | bastore =>
    unfold am_exec at he
    dsimp only at he
    split at he
    · split at he
      · obtain ⟨-, he⟩ := am_bifW he
        cases he
        rw [rg_cons, rg_cons, rg_cons, Bool.and_eq_true, Bool.and_eq_true, Bool.and_eq_true] at hs
        exact ⟨hl, hs.2.2.2, rg_sa hs.2.2.1⟩
      · cases he
    · cases he
  | lastore =>
    unfold am_exec at he
    dsimp only at he
    split at he
    · split at he
      · obtain ⟨-, he⟩ := am_bifW he
        cases he
        rw [rg_cons, rg_cons, rg_cons, Bool.and_eq_true, Bool.and_eq_true, Bool.and_eq_true] at hs
        exact ⟨hl, hs.2.2.2, rg_sl hs.2.2.1⟩
      · cases he
    · cases he
  | arraylength =>
    unfold am_exec at he
    dsimp only at he
    split at he
    · split at he
      · cases he
        rw [rg_cons, Bool.and_eq_true] at hs
        exact ⟨hl, by rw [rg_cons, hs.2]; rfl, rg_same.rf⟩
      · cases he
    · cases he
  | dup =>
    unfold am_exec at he
    dsimp only at he
    split at he
    · obtain ⟨-, he⟩ := am_bifW he
      cases he
      have hs2 := hs
      rw [rg_cons, Bool.and_eq_true] at hs2
      exact ⟨hl, by rw [rg_cons, hs2.1, hs]; rfl, rg_same.rf⟩
    · cases he
  | dup2 =>
    unfold am_exec at he
    dsimp only at he
    split at he
    · obtain ⟨-, he⟩ := am_bifW he
      cases he
      have hs2 := hs
      rw [rg_cons, rg_cons, Bool.and_eq_true, Bool.and_eq_true] at hs2
      exact ⟨hl, by rw [rg_cons, rg_cons, hs2.1, hs2.2.1, hs]; rfl, rg_same.rf⟩
    · cases he
  | ireturn =>
    unfold am_exec at he
    dsimp only at he
    split at he
    · obtain ⟨-, he⟩ := am_bifW he
      cases he
      intro w hw
      cases hw
      rw [rg_cons, Bool.and_eq_true] at hs
      exact hs.1
    · cases he
  | lreturn =>
    unfold am_exec at he
    dsimp only at he
    split at he
    · obtain ⟨-, he⟩ := am_bifW he
      cases he
      intro w hw
      cases hw
      rw [rg_cons, Bool.and_eq_true] at hs
      exact hs.1
    · cases he
  | areturn =>
    unfold am_exec at he
    dsimp only at he
    split at he
    · obtain ⟨-, he⟩ := am_bifW he
      cases he
      intro w hw
      cases hw
      rw [rg_cons, Bool.and_eq_true] at hs
      exact hs.1
    · cases he
  | return_ =>
    unfold am_exec at he
    dsimp only at he
    split at he
    · obtain ⟨-, he⟩ := am_bifW he
      cases he
      intro w hw
      cases hw
    · cases he
  | invokevirtual idx =>
    replace he : am_callV R idx st = some a := he
    unfold am_callV at he
    split at he
    · rename_i R' kd tl hml2
      split at he
      · rename_i hdrop
        obtain ⟨-, he⟩ := am_bifW he
        cases he
        have hr := rg_sub (a := List.drop (mr_n R') st) hs (fun v hv => List.mem_of_mem_drop hv)
        rw [hdrop, rg_cons, Bool.and_eq_true] at hr
        refine ⟨?_, hr.2⟩
        rw [rg_cons, hr.1, Bool.true_and]
        exact rg_sub hs (fun v hv => List.mem_of_mem_take (List.mem_reverse.mp hv))
      · cases he
    · cases he
  | invokestatic idx =>
    unfold am_exec at he
    dsimp only at he
    split at he
    · unfold am_callS at he
      split at he
      · obtain ⟨-, he⟩ := am_bifW he
        cases he
        exact ⟨rg_sub hs (fun v hv => List.mem_of_mem_take (List.mem_reverse.mp hv)), rg_sub hs (fun v hv => List.mem_of_mem_drop hv)⟩
      · cases he
    · unfold am_copy at he
      split at he
      · split at he
        · obtain ⟨-, he⟩ := am_bifW he
          obtain ⟨-, he⟩ := am_bifW he
          cases he
          simp only [rg_cons, Bool.and_eq_true] at hs
          exact ⟨hl, hs.2.2.2.2.2, rg_sa hs.2.2.1⟩
        · cases he
      · cases he
    · unfold am_mm at he
      split at he
      · obtain ⟨-, he⟩ := am_bifW he
        cases he
        simp only [rg_cons, Bool.and_eq_true] at hs
        exact ⟨hl, by rw [rg_cons, hs.2.2]; rfl, rg_same.rf⟩
      · cases he
    · unfold am_mm at he
      split at he
      · obtain ⟨-, he⟩ := am_bifW he
        cases he
        simp only [rg_cons, Bool.and_eq_true] at hs
        exact ⟨hl, by rw [rg_cons, hs.2.2]; rfl, rg_same.rf⟩
      · cases he
    · cases he
  | idiv =>
    unfold am_exec at he
    dsimp only at he
    split at he
    · split at he
      · cases he
      · cases he
        simp only [rg_cons, Bool.and_eq_true] at hs
        exact ⟨hl, by rw [rg_cons, hs.2.2]; rfl, rg_same.rf⟩
    · cases he
  | irem =>
    unfold am_exec at he
    dsimp only at he
    split at he
    · split at he
      · cases he
      · cases he
        simp only [rg_cons, Bool.and_eq_true] at hs
        exact ⟨hl, by rw [rg_cons, hs.2.2]; rfl, rg_same.rf⟩
    · cases he
  | ldiv =>
    unfold am_exec at he
    dsimp only at he
    split at he
    · split at he
      · cases he
      · cases he
        simp only [rg_cons, Bool.and_eq_true] at hs
        exact ⟨hl, by rw [rg_cons, hs.2.2]; rfl, rg_same.rf⟩
    · cases he
  | lrem =>
    unfold am_exec at he
    dsimp only at he
    split at he
    · split at he
      · cases he
      · cases he
        simp only [rg_cons, Bool.and_eq_true] at hs
        exact ⟨hl, by rw [rg_cons, hs.2.2]; rfl, rg_same.rf⟩
    · cases he
  | _ =>
    first
    | exact (am_no he).elim
    | (unfold am_exec at he
       dsimp only at he
       (try unfold am_ii at he)
       (try unfold am_ll at he)
       repeat' (first
         | exact (am_no he).elim
         | (cases he; simp only [rg_cons, Bool.and_eq_true] at hs; exact ⟨hl, by rw [rg_cons, hs.2.2]; rfl, rg_same.rf⟩)
         | (cases he; simp only [rg_cons, Bool.and_eq_true] at hs; exact ⟨hl, by rw [rg_cons, hs.2]; rfl, rg_same.rf⟩)
         | (cases he; simp only [rg_cons, Bool.and_eq_true] at hs; exact ⟨hl, hs.2.2, rg_same.rf⟩)
         | (cases he; simp only [rg_cons, Bool.and_eq_true] at hs; exact ⟨hl, hs.2, rg_same.rf⟩)
         | (cases he; exact ⟨hl, by rw [rg_cons, hs]; rfl, rg_same.rf⟩)
         | (cases he; exact ⟨hl, hs, rg_same.rf⟩)
         | (split at he)))
end RGE
theorem rg_args {ρ : Nat → Bool} : ∀ (as : List Value) (i : Nat), rg_st ρ as = true → rg_lv ρ (lv_args i as) = true
  | [], _, _ => rfl
  | v :: vs, i, h => by
    rw [rg_cons, Bool.and_eq_true] at h
    unfold lv_args rg_lv
    rw [List.all_cons, Bool.and_eq_true]
    exact ⟨h.1, rg_args vs _ h.2⟩
theorem rg_run {ρ : Nat → Bool} (hc : rg_cl ρ) : ∀ (n : Nat) (sc : Option (Nat × (Nat → Int32))) (R : MR) (A : AS) (v : Option Value) (h' : AH), rg_lv ρ A.2.1 = true → rg_st ρ A.2.2.1 = true → am_run n sc R A = some (v, h') → rg_same ρ A.2.2.2 h' ∧ ∀ w, v = some w → rg_v ρ w = true
  | 0, _, _, _, _, _, _, _, hr => by cases hr
  | n + 1, sc, R, A, v, h', hl, hs, hr => by
    have key : ∀ a, am_step sc R A = some a → rg_act ρ A.2.2.2 a := by
      intro a ha
      unfold am_step at ha
      split at ha
      · exact rg_exec hc hl hs ha
      · cases ha
    rw [am_run] at hr
    split at hr
    · rename_i B hB
      obtain ⟨k1, k2, k3⟩ := key _ hB
      obtain ⟨g1, g2⟩ := rg_run hc n sc R B v h' k1 k2 hr
      exact ⟨k3.tr g1, g2⟩
    · rename_i v' hB
      cases hr
      exact ⟨rg_same.rf, key _ hB⟩
    · rename_i q hB
      obtain ⟨k1, k2⟩ := key _ hB
      split at hr
      · rename_i w hw
        obtain ⟨w1, w2⟩ := w
        obtain ⟨g1, g2⟩ := rg_run hc n none q.1 _ w1 w2 (rg_args _ _ k1) rfl hw
        have hst : rg_st ρ (w1.toList ++ q.2.2) = true := by
          cases w1 with
          | none => exact k2
          | some x =>
            show rg_st ρ (x :: q.2.2) = true
            rw [rg_cons, g2 x rfl, k2]
            rfl
        obtain ⟨f1, f2⟩ := rg_run hc n sc R (A.1 + 3, A.2.1, w1.toList ++ q.2.2, w2) v h' hl hst hr
        exact ⟨rg_same.tr g1 f1, f2⟩
      · cases hr
    · cases hr
/-- the class's region, the reference's -/
def rg_C (i : Nat) : Bool := Nat.blt i 75 || Nat.ble 200 i
def rg_M (i : Nat) : Bool := (Nat.ble 75 i && Nat.blt i 109) || Nat.ble 200 i
theorem rg_chk {ρ : Nat → Bool} (h : (am_shp.zipIdx).all (fun q => match q.1 with
    | .inl _ => true
    | .inr a => !(ρ q.2) || a.2.all (fun r => match r with
      | some j => ρ j
      | none => true)) = true) (h2 : ∀ i, 200 ≤ i → ρ i = true) : rg_cl ρ := by
  refine ⟨fun i a hi hr k j hj => ?_, h2⟩
  have h3 := List.all_eq_true.mp h (.inr a, i) (List.mem_zipIdx_iff_getElem?.mpr hi)
  simp only [hr, Bool.not_true, Bool.false_or] at h3
  exact List.all_eq_true.mp h3 (some j) (List.mem_of_getElem? hj)
theorem rg_clC : rg_cl rg_C := rg_chk (by decide +kernel) (fun i hi => by simp [rg_C, hi])
theorem rg_clM : rg_cl rg_M := rg_chk (by decide +kernel) (fun i hi => by simp [rg_M, hi])
/-- what the class's calls leave -/
theorem rg_evC {R : MR} {A : AS} {v : Option Value} {h' : AH} (he : Ev none R A v h') (hl : rg_lv rg_C A.2.1 = true) (hs : rg_st rg_C A.2.2.1 = true) : rg_same rg_C A.2.2.2 h' := by
  obtain ⟨n, hn⟩ := he
  exact (rg_run rg_clC n none R A v h' hl hs hn).1
theorem rg_evM {R : MR} {A : AS} {v : Option Value} {h' : AH} (he : Ev none R A v h') (hl : rg_lv rg_M A.2.1 = true) (hs : rg_st rg_M A.2.2.1 = true) : rg_same rg_M A.2.2.2 h' := by
  obtain ⟨n, hn⟩ := he
  exact (rg_run rg_clM n none R A v h' hl hs hn).1
