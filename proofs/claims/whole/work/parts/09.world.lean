/-! the world's cells as the kit has them -/
def am_cv (ad : Nat → Nat) : Value → Value
  | .ref i => .ref (ad i)
  | .int x => .int x
  | .long x => .long x
  | .float x => .float x
  | .double x => .double x
  | .null => .null
  | .retAddr x => .retAddr x
def am_ff (ad : Nat → Nat) (h : AH) (i : Nat) (k : Nat) (r : Option Nat) : Value := match r with
  | some j => .ref (ad j)
  | none => .int (h.1 i k)
def am_ce (tc : Nat → ClassId) (ad : Nat → Nat) (h : AH) (i : Nat) (q : SP) : Nat × va_E := (ad i, match q with
  | .inl a => if a.1 = 1 then .inl (tc 1, a.2, .inr (.inl (h.2.2 i))) else .inl (tc a.1, a.2, .inl (h.2.1 i))
  | .inr a => .inr (a.1, a.2.mapIdx (am_ff ad h i)))
def am_W (tc : Nat → ClassId) (ad : Nat → Nat) (h : AH) : va_W := am_shp.mapIdx (am_ce tc ad h)
abbrev am_tys (tc : Nat → ClassId) : List (ClassId × FieldType) := [(tc 0, .int), (tc 1, .long), (tc 2, .boolean)]
theorem am_cv_cat (ad : Nat → Nat) (v : Value) : (am_cv ad v).category = v.category := by cases v <;> rfl
theorem am_W_at {tc : Nat → ClassId} {ad : Nat → Nat} {h : AH} {i : Nat} {q : SP} (hq : am_shp[i]? = some q) : (am_W tc ad h)[i]? = some (am_ce tc ad h i q) := by
  unfold am_W
  rw [List.getElem?_mapIdx, hq]
  rfl
theorem am_W_len {tc : Nat → ClassId} {ad : Nat → Nat} {h : AH} : (am_W tc ad h).length = am_shp.length := by
  unfold am_W
  rw [List.length_mapIdx]
theorem am_ce_eq {tc : Nat → ClassId} {ad : Nat → Nat} {h h' : AH} {i : Nat} {q : SP} (h1 : ∀ k, h.1 i k = h'.1 i k) (h2 : h.2.1 i = h'.2.1 i) (h3 : h.2.2 i = h'.2.2 i) : am_ce tc ad h i q = am_ce tc ad h' i q := by
  have e : am_ff ad h i = am_ff ad h' i := by
    funext k r
    cases r with
    | some j => rfl
    | none => show Value.int _ = Value.int _; rw [h1]
  cases q with
  | inl a => unfold am_ce; simp only [h2, h3]
  | inr a => unfold am_ce; simp only [e]
/-- one cell is another -/
theorem am_W_set {tc : Nat → ClassId} {ad : Nat → Nat} {h h' : AH} {i : Nat} {q : SP} {e : va_E} (hq : am_shp[i]? = some q) (he : (ad i, e) = am_ce tc ad h' i q) (ho : ∀ j, j ≠ i → (∀ k, h.1 j k = h'.1 j k) ∧ h.2.1 j = h'.2.1 j ∧ h.2.2 j = h'.2.2 j) : (am_W tc ad h).set i (ad i, e) = am_W tc ad h' := by
  have hlt : i < (am_W tc ad h).length := by
    rw [am_W_len]
    exact (List.getElem?_eq_some_iff.mp hq).1
  apply List.ext_getElem?
  intro j
  by_cases hj : i = j
  · subst hj
    rw [List.getElem?_set_self hlt, he, am_W_at hq]
  · rw [List.getElem?_set_ne hj]
    unfold am_W
    rw [List.getElem?_mapIdx, List.getElem?_mapIdx]
    cases hs : am_shp[j]? with
    | none => rfl
    | some r =>
      obtain ⟨o1, o2, o3⟩ := ho j (fun z => hj z.symm)
      show some _ = some _
      rw [am_ce_eq o1 o2 o3]
theorem am_W_sf {tc : Nat → ClassId} {ad : Nat → Nat} {h : AH} {i k : Nat} {a : Nat × List (Option Nat)} (v : Int32) (hq : am_shp[i]? = some (.inr a)) (hk : a.2[k]? = some none) : (am_W tc ad h).set i (ad i, .inr (a.1, (a.2.mapIdx (am_ff ad h i)).set k (.int v))) = am_W tc ad (am_sf h i k v) := by
  refine am_W_set hq ?_ (fun j hj => ⟨fun b => ?_, rfl, rfl⟩)
  · have hlt : k < (a.2.mapIdx (am_ff ad h i)).length := by
      rw [List.length_mapIdx]
      exact (List.getElem?_eq_some_iff.mp hk).1
    have e : (a.2.mapIdx (am_ff ad h i)).set k (.int v) = a.2.mapIdx (am_ff ad (am_sf h i k v) i) := by
      apply List.ext_getElem?
      intro j
      by_cases hj : k = j
      · subst hj
        rw [List.getElem?_set_self hlt, List.getElem?_mapIdx, hk]
        show some (Value.int v) = some (Value.int _)
        simp [am_sf]
      · rw [List.getElem?_set_ne hj, List.getElem?_mapIdx, List.getElem?_mapIdx]
        cases hs : a.2[j]? with
        | none => rfl
        | some r =>
          cases r with
          | some z => rfl
          | none =>
            show some (Value.int _) = some (Value.int _)
            have hj' : ¬ j = k := fun z => hj z.symm
            simp [am_sf, hj']
    unfold am_ce
    simp only [e]
  · simp [am_sf, hj]
theorem am_W_sa {tc : Nat → ClassId} {ad : Nat → Nat} {h : AH} {i : Nat} {a : Nat × Nat} (g : Nat → Int32) (hq : am_shp[i]? = some (.inl a)) (hk : ¬ a.1 = 1) : (am_W tc ad h).set i (ad i, .inl (tc a.1, a.2, .inl g)) = am_W tc ad (am_sa h i g) := by
  refine am_W_set hq ?_ (fun j hj => ⟨fun b => rfl, ?_, rfl⟩)
  · unfold am_ce
    simp only [if_neg hk]
    simp [am_sa]
  · simp [am_sa, hj]
theorem am_W_sl {tc : Nat → ClassId} {ad : Nat → Nat} {h : AH} {i : Nat} {a : Nat × Nat} (g : Nat → Int64) (hq : am_shp[i]? = some (.inl a)) (hk : a.1 = 1) : (am_W tc ad h).set i (ad i, .inl (tc 1, a.2, .inr (.inl g))) = am_W tc ad (am_sl h i g) := by
  refine am_W_set hq ?_ (fun j hj => ⟨fun b => rfl, rfl, ?_⟩)
  · unfold am_ce
    simp only [if_pos hk]
    simp [am_sl]
  · simp [am_sl, hj]
/-- the addresses don't depend on what the cells hold -/
theorem am_D_any {tc : Nat → ClassId} {ad : Nat → Nat} {A : Nat → Prop} {h : AH} (hD : va_D A (am_W tc ad h)) (h' : AH) : va_D A (am_W tc ad h') := by
  have key : ∀ (k : Nat) (q : Nat × va_E), (am_W tc ad h')[k]? = some q → ∃ q0, (am_W tc ad h)[k]? = some q0 ∧ q0.1 = q.1 := by
    intro k q hk
    unfold am_W at hk
    rw [List.getElem?_mapIdx] at hk
    cases hs : am_shp[k]? with
    | none => rw [hs] at hk; cases hk
    | some r =>
      rw [hs] at hk
      cases hk
      exact ⟨_, am_W_at hs, rfl⟩
  refine ⟨fun i j x y hx hy hxy => ?_, fun k q hk => ?_⟩
  · obtain ⟨x0, a1, a2⟩ := key i x hx
    obtain ⟨y0, b1, b2⟩ := key j y hy
    exact hD.1 i j x0 y0 a1 b1 (by rw [a2, b2]; exact hxy)
  · obtain ⟨q0, a1, a2⟩ := key k q hk
    rw [← a2]
    exact hD.2 k q0 a1
theorem am_A_any {tc : Nat → ClassId} {ad : Nat → Nat} {h h' : AH} {sz q : Nat} (hq : va_A (am_W tc ad h) sz q) : va_A (am_W tc ad h') sz q := by
  rcases hq with ⟨k, e, hk⟩ | hq
  · unfold am_W at hk
    rw [List.getElem?_mapIdx] at hk
    cases hs : am_shp[k]? with
    | none => rw [hs] at hk; cases hk
    | some r =>
      rw [hs] at hk
      cases hk
      exact Or.inl ⟨k, _, am_W_at hs⟩
  · exact Or.inr hq
/-- what nobody writes -/
def am_RO (ad : Nat → Nat) (A : Nat → Prop) (U : State) (H : Heap) : Prop :=
  vk_S 2 [3, 2] [[107, 98, 99], [119, 100]] (fun i => ad (200 + i)) (fun i => ad (204 + i)) A U H ∧
  va_Z "java/lang/String" "COMPACT_STRINGS" "Z" (.int 1) A U H ∧
  (va_Z "Samovar" "MINUTES_OF_KIND" "[I" (.ref (ad 202)) A U H ∧ va_T .int (ad 202) 3 (fun j => .int ([3, 5, 9].getD j 0)) A U H) ∧
  (va_Z "Samovar" "FIRE_OF_KIND" "[I" (.ref (ad 203)) A U H ∧ va_T .int (ad 203) 3 (fun j => .int ([3, 4, 3].getD j 0)) A U H) ∧
  va_Nw (.fieldLinkNest "Samovar$Evening" am_gm "Samovar" "MINUTES_OF_KIND" "[I" "Samovar") U ∧
  va_Nw (.fieldLinkNest "Samovar$Evening" am_gf "Samovar" "FIRE_OF_KIND" "[I" "Samovar") U ∧
  va_Nw (.methodLinkNest "Samovar$Evening" am_gw ⟨"Samovar", "within", "(II)Z"⟩ "Samovar") U
theorem am_RO.warm {ad : Nat → Nat} {A : Nat → Prop} {u U : State} {H : Heap} (hW : u.WarmedH U.vm) (h : am_RO ad A u H) : am_RO ad A U H := by
  obtain ⟨h1, h2, ⟨h3, h4⟩, ⟨h5, h6⟩, h7, h8, h9⟩ := h
  exact ⟨h1.moved hW.alike, h2.moved hW.alike, ⟨h3.moved hW.alike, h4.moved hW.alike⟩, ⟨h5.moved hW.alike, h6.moved hW.alike⟩, h7.warmF hW, h8.warmF hW, h9.warmM hW⟩
theorem am_RO.same {ad : Nat → Nat} {A : Nat → Prop} {u U : State} {H : Heap} (hv : u.vm = U.vm) (h : am_RO ad A u H) : am_RO ad A U H := by
  obtain ⟨h1, h2, ⟨h3, h4⟩, ⟨h5, h6⟩, h7, h8, h9⟩ := h
  have ha : u.vm.Alike U.vm := by rw [hv]; exact Vm.Alike.refl _
  exact ⟨h1.moved ha, h2.moved ha, ⟨h3.moved ha, h4.moved ha⟩, ⟨h5.moved ha, h6.moved ha⟩, va_Nw.same rfl hv h7, va_Nw.same rfl hv h8, va_Nw.same rfl hv h9⟩
theorem am_RO.kept {ad : Nat → Nat} {A : Nat → Prop} {U : State} {H H1 : Heap} (h : am_RO ad A U H) (hq : ∀ a : Nat, a < H.size → ¬ A a → H1[a]? = H[a]?) : am_RO ad A U H1 := by
  obtain ⟨h1, h2, ⟨h3, h4⟩, ⟨h5, h6⟩, h7, h8, h9⟩ := h
  exact ⟨h1.kept hq, h2.kept hq, ⟨h3.kept hq, h4.kept hq⟩, ⟨h5.kept hq, h6.kept hq⟩, h7, h8, h9⟩
theorem am_RO.narrow {ad : Nat → Nat} {A B : Nat → Prop} {U : State} {H : Heap} (h : am_RO ad A U H) (hAB : ∀ q, B q → A q) : am_RO ad B U H := by
  obtain ⟨h1, h2, ⟨h3, h4⟩, ⟨h5, h6⟩, h7, h8, h9⟩ := h
  exact ⟨h1.narrow hAB, h2.narrow hAB, ⟨h3.narrow hAB, h4.narrow hAB⟩, ⟨h5.narrow hAB, h6.narrow hAB⟩, h7, h8, h9⟩
/-- the tables of a kind of object -/
theorem am_inc {ci : Nat} {q : vw_C} (h : am_cl[ci]? = some q) : ∀ w ∈ u_ws q.1 q.2.1 q.2.2, w ∈ am_all := by
  match ci, h with
  | 0, h => cases h; exact inX0
  | 1, h => cases h; exact inX1
  | 2, h => cases h; exact inX2
  | 3, h => cases h; exact inX3
  | 4, h => cases h; exact inX4
  | 5, h => cases h; exact inX5
  | 6, h => cases h; exact inX6
  | 7, h => cases h; exact inX7
  | 8, h => cases h; exact inX8
  | 9, h => cases h; exact inX9
  | n + 10, h => simp [am_cl] at h
theorem am_tyc {ci : Nat} {q : vw_C} (h : am_cl[ci]? = some q) : (∃ ty0 : Nat → FieldType, ∀ k, k < q.2.2 → parseFieldDescriptor (q.2.1 k).2.2.1 = some (ty0 k)) ∧ ∀ a, a < q.2.2 → ∀ b, b < q.2.2 → a ≠ b → (q.2.1 a).2.1 ≠ (q.2.1 b).2.1 := by
  match ci, h with
  | 0, h => cases h; exact ⟨⟨_, tyX0_ok⟩, nmX0⟩
  | 1, h => cases h; exact ⟨⟨_, tyX1_ok⟩, nmX1⟩
  | 2, h => cases h; exact ⟨⟨_, tyX2_ok⟩, nmX2⟩
  | 3, h => cases h; exact ⟨⟨_, tyX3_ok⟩, nmX3⟩
  | 4, h => cases h; exact ⟨⟨_, tyX4_ok⟩, nmX4⟩
  | 5, h => cases h; exact ⟨⟨_, tyX5_ok⟩, nmX5⟩
  | 6, h => cases h; exact ⟨⟨_, tyX6_ok⟩, nmX6⟩
  | 7, h => cases h; exact ⟨⟨_, tyX7_ok⟩, nmX7⟩
  | 8, h => cases h; exact ⟨⟨_, tyX8_ok⟩, nmX8⟩
  | 9, h => cases h; exact ⟨⟨_, tyX9_ok⟩, nmX9⟩
  | n + 10, h => simp [am_cl] at h
