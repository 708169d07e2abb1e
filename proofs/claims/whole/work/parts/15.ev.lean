/-! runs, without their number of steps -/
def Ev (sc : Option (Nat × (Nat → Int32))) (R : MR) (A : AS) (v : Option Value) (h : AH) : Prop := ∃ n, am_run n sc R A = some (v, h)
theorem am_run_mono : ∀ (n : Nat) (sc : Option (Nat × (Nat → Int32))) (R : MR) (A : AS) (o : Option Value × AH), am_run n sc R A = some o → am_run (n + 1) sc R A = some o
  | 0, _, _, _, _, h => by cases h
  | n + 1, sc, R, A, o, h => by
    rw [am_run] at h
    rw [am_run]
    split at h
    · exact am_run_mono n _ _ _ _ h
    · exact h
    · split at h
      · rename_i w hw
        rw [am_run_mono n _ _ _ _ hw]
        exact am_run_mono n _ _ _ _ h
      · cases h
    · cases h
theorem am_run_le {n m : Nat} (hm : n ≤ m) {sc : Option (Nat × (Nat → Int32))} {R : MR} {A : AS} {o : Option Value × AH} (h : am_run n sc R A = some o) : am_run m sc R A = some o := by
  induction hm with
  | refl => exact h
  | step _ ih => exact am_run_mono _ _ _ _ _ ih
/-- k steps that are no calls -/
def am_steps (sc : Option (Nat × (Nat → Int32))) (R : MR) : Nat → AS → Option AS
  | 0, A => some A
  | k + 1, A => match am_step sc R A with
    | some (.inl B) => am_steps sc R k B
    | _ => none
section EVR
variable {sc : Option (Nat × (Nat → Int32))} {R : MR} {A B : AS} {v : Option Value} {h : AH}
theorem Ev.step (hs : am_step sc R A = some (.inl B)) (k : Ev sc R B v h) : Ev sc R A v h := by
  obtain ⟨n, hn⟩ := k
  refine ⟨n + 1, ?_⟩
  rw [am_run, hs]
  exact hn
theorem Ev.steps : ∀ (k : Nat) {A : AS}, am_steps sc R k A = some B → Ev sc R B v h → Ev sc R A v h
  | 0, A, hs, e => by
    cases hs
    exact e
  | k + 1, A, hs, e => by
    rw [am_steps] at hs
    split at hs
    · rename_i C hC
      exact Ev.step hC (Ev.steps k hs e)
    · cases hs
theorem Ev.ret (hs : am_step sc R A = some (.inr (.inl v))) : Ev sc R A v A.2.2.2 := ⟨1, by rw [am_run, hs]⟩
theorem Ev.call {q : MR × List Value × List Value} {w : Option Value} {h1 : AH} (hs : am_step sc R A = some (.inr (.inr q))) (hc : Ev none q.1 (0, lv_args 0 q.2.1, [], A.2.2.2) w h1) (k : Ev sc R (A.1 + 3, A.2.1, w.toList ++ q.2.2, h1) v h) : Ev sc R A v h := by
  obtain ⟨n, hn⟩ := hc
  obtain ⟨m, hm⟩ := k
  refine ⟨max n m + 1, ?_⟩
  rw [am_run, hs]
  dsimp only
  rw [am_run_le (Nat.le_max_left n m) hn]
  exact am_run_le (Nat.le_max_right n m) hm
/-- a step that asks: an index, a guard -/
theorem Ev.g {b : Bool} (hb : b = true) (hs : am_step sc R A = (bif b then some (.inl B) else none)) (k : Ev sc R B v h) : Ev sc R A v h := by
  subst hb
  exact Ev.step hs k
theorem Ev.br {b : Bool} {t1 t2 : Nat} {lv : LV} {st : List Value} {h0 : AH} (hs : am_step sc R A = some (.inl (bif b then t1 else t2, lv, st, h0))) (k1 : b = true → Ev sc R (t1, lv, st, h0) v h) (k2 : b = false → Ev sc R (t2, lv, st, h0) v h) : Ev sc R A v h := by
  cases b with
  | true => exact Ev.step hs (k1 rfl)
  | false => exact Ev.step hs (k2 rfl)
theorem Ev.retg {b : Bool} (hb : b = true) (hs : am_step sc R A = (bif b then some (.inr (.inl v)) else none)) : Ev sc R A v A.2.2.2 := by
  subst hb
  exact Ev.ret hs
theorem Ev.sw {x k : Int32} {t d : Nat} {l : List (Int32 × Nat)} {lv : LV} {st : List Value} {h0 : AH} (k1 : x = k → Ev sc R (t, lv, st, h0) v h) (k2 : ¬ x = k → Ev sc R (am_sel x l d, lv, st, h0) v h) : Ev sc R (am_sel x ((k, t) :: l) d, lv, st, h0) v h := by
  by_cases c : x = k
  · rw [am_sel, if_pos c]
    exact k1 c
  · rw [am_sel, if_neg c]
    exact k2 c
end EVR
/-- pieces of the functions that are printed for methods -/
def am_b {α β : Type} (o : Option (α × AH)) (f : α → AH → Option β) : Option β := match o with
  | some q => f q.1 q.2
  | none => none
def am_v {β : Type} (o : Option AH) (f : AH → Option β) : Option β := match o with
  | some q => f q
  | none => none
def am_o {α β : Type} (o : Option α) (f : α → Option β) : Option β := match o with
  | some q => f q
  | none => none
theorem am_bS {α β : Type} {o : Option (α × AH)} {f : α → AH → Option β} {y : β} (h : am_b o f = some y) : ∃ r h1, o = some (r, h1) ∧ f r h1 = some y := by
  cases o with
  | none => cases h
  | some q => exact ⟨q.1, q.2, rfl, h⟩
theorem am_vS {β : Type} {o : Option AH} {f : AH → Option β} {y : β} (h : am_v o f = some y) : ∃ h1, o = some h1 ∧ f h1 = some y := by
  cases o with
  | none => cases h
  | some q => exact ⟨q, rfl, h⟩
theorem am_oS {α β : Type} {o : Option α} {f : α → Option β} {y : β} (h : am_o o f = some y) : ∃ r, o = some r ∧ f r = some y := by
  cases o with
  | none => cases h
  | some q => exact ⟨q, rfl, h⟩
theorem am_gS {α : Type} {b : Bool} {x : Option α} {y : α} (z : (bif b then x else none) = some y) : b = true ∧ x = some y := by
  cases b with
  | false => cases z
  | true => exact ⟨rfl, z⟩
def am_b01 (x : Int32) : Bool := decide (x = 0) || decide (x = 1)
