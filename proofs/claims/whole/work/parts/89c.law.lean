/-! the law's loop -/
theorem rgC_f {i : Nat} (h1 : 75 ≤ i) (h2 : i < 200) : rg_C i = false := by
  have a : Nat.blt i 75 = false := by
    cases h : Nat.blt i 75
    · rfl
    · have := Nat.le_of_ble_eq_true (show Nat.ble (i + 1) 75 = true from h)
      omega
  have b : Nat.ble 200 i = false := by
    cases h : Nat.ble 200 i
    · rfl
    · have := Nat.le_of_ble_eq_true h
      omega
  unfold rg_C
  rw [a, b]
  rfl
theorem rgM_f {i : Nat} (h1 : i < 75) : rg_M i = false := by
  have a : Nat.ble 75 i = false := by
    cases h : Nat.ble 75 i
    · rfl
    · have := Nat.le_of_ble_eq_true h
      omega
  have b : Nat.ble 200 i = false := by
    cases h : Nat.ble 200 i
    · rfl
    · have := Nat.le_of_ble_eq_true h
      omega
  unfold rg_M
  rw [a, b]
  rfl
theorem MT_rg {h h1 : AH} {S : ST} (hm : MT h S) (hr : rg_same rg_C h h1) : MT h1 S := hm.fr ⟨fun k _ => by rw [(hr 75 (rgC_f (by omega) (by omega))).1], fun i z => (hr i (rgC_f (by omega) (by omega))).2.1⟩
theorem CR_rg {h h1 : AH} {S : ST} (hc : CR h S) (hr : rg_same rg_M h h1) : CR h1 S := by
  have e1 : ∀ i k, i < 75 → h1.1 i k = h.1 i k := fun i k z => by rw [(hr i (rgM_f z)).1]
  have e2 : ∀ i, i < 75 → h1.2.1 i = h.2.1 i := fun i z => (hr i (rgM_f z)).2.1
  have e3 : h1.2.2 38 = h.2.2 38 := (hr 38 (rgM_f (by omega))).2.2
  obtain ⟨ho, ht, k1, k2⟩ := hc
  refine ⟨ho, ht.fr ⟨fun i k z => e1 i k (by omega), e1 _ _ (by omega), fun i z => e2 i (by omega)⟩, ?_, ?_⟩
  · rw [e1 _ _ (by omega)]
    rcases k1 with z | ⟨z, y⟩
    · exact Or.inl z
    · exact Or.inr ⟨z, y.cg (fun i k a b => e1 i k (by omega)) (fun i a b => e2 i (by omega))⟩
  · rw [e1 _ _ (by omega), e3]
    exact k2
theorem stepT {α : Type} {f g : AH → Option (α × AH)} (ht : two f g) (hf : ∀ h r h1, f h = some (r, h1) → rg_same rg_C h h1) (hg : ∀ h r h1, g h = some (r, h1) → rg_same rg_M h h1) {h : AH} {S : ST} (hc : CR h S) (hm : MT h S) : ∃ r h1 h2 S', f h = some (r, h1) ∧ g h1 = some (r, h2) ∧ CR h2 S' ∧ MT h2 S' := by
  obtain ⟨r, S', p, q⟩ := ht S hc.1
  obtain ⟨h1, a1, a2⟩ := p h hc
  obtain ⟨h2, b1, b2⟩ := q h1 (MT_rg hm (hf h r h1 a1))
  exact ⟨r, h1, h2, S', a1, b1, CR_rg a2 (hg h1 r h2 b1), b2⟩
theorem st_type {n : Nat} (hn : 600 < n) (a1 a2 : Int32) {h : AH} {S : ST} (hc : CR h S) (hm : MT h S) : ∃ r h1 h2 S', M_X8_type n a1 a2 h = some (r, h1) ∧ M_X9_type a1 a2 h1 = some (r, h2) ∧ CR h2 S' ∧ MT h2 S' := stepT (two_type hn a1 a2) (fun h r h1 e => rg_evC (E_X8_type_0 n a1 a2 h r h1 e) rfl rfl) (fun h r h1 e => rg_evM (E_X9_type_75 a1 a2 h r h1 e) rfl rfl) hc hm
theorem st_wipe {n : Nat} (hn : 600 < n) (a1 : Int32) {h : AH} {S : ST} (hc : CR h S) (hm : MT h S) : ∃ r h1 h2 S', M_X8_wipe n a1 h = some (r, h1) ∧ M_X9_wipe a1 h1 = some (r, h2) ∧ CR h2 S' ∧ MT h2 S' := stepT (two_wipe hn a1) (fun h r h1 e => rg_evC (E_X8_wipe_0 n a1 h r h1 e) rfl rfl) (fun h r h1 e => rg_evM (E_X9_wipe_75 a1 h r h1 e) rfl rfl) hc hm
theorem st_undo {n : Nat} (hn : 600 < n) (a1 : Int32) {h : AH} {S : ST} (hc : CR h S) (hm : MT h S) : ∃ r h1 h2 S', M_X8_undo n a1 h = some (r, h1) ∧ M_X9_undo a1 h1 = some (r, h2) ∧ CR h2 S' ∧ MT h2 S' := stepT (two_undo hn a1) (fun h r h1 e => rg_evC (E_X8_undo_0 n a1 h r h1 e) rfl rfl) (fun h r h1 e => rg_evM (E_X9_undo_75 a1 h r h1 e) rfl rfl) hc hm
theorem st_fault {n : Nat} (hn : 600 < n) (a1 : Int32) {h : AH} {S : ST} (hc : CR h S) (hm : MT h S) : ∃ h2 S', M_X9_fault n a1 h = some (M_X8_fault a1 h, h2) ∧ CR h2 S' ∧ MT h2 S' := by
  obtain ⟨r, h1, h2, S', p1, p2, p3, p4⟩ := stepT (two_fault hn a1) (fun h r h1 e => by
    cases e
    exact rg_same.rf) (fun h r h1 e => rg_evM (E_X9_fault_75 n a1 h r h1 e) rfl rfl) hc hm
  cases p1
  exact ⟨h2, S', p2, p3, p4⟩
theorem st_piece {n : Nat} (hn : 600 < n) (a1 a2 : Int32) {h : AH} {S : ST} (hc : CR h S) (hm : MT h S) : ∃ r h2 S', M_X8_piece a1 a2 h = some r ∧ M_X9_piece n a1 a2 h = some (r, h2) ∧ CR h2 S' ∧ MT h2 S' := by
  obtain ⟨r, h1, h2, S', p1, p2, p3, p4⟩ := stepT (two_piece hn a1 a2) (fun h r h1 e => by
    obtain ⟨v, -, e⟩ := am_oS e
    cases e
    exact rg_same.rf) (fun h r h1 e => rg_evM (E_X9_piece_75 n a1 a2 h r h1 e) rfl rfl) hc hm
  obtain ⟨v, e1, e2⟩ := am_oS p1
  cases e2
  exact ⟨r, h2, S', e1, p2, p3, p4⟩
theorem st_guest {n : Nat} (hn : 600 < n) (a1 a2 : Int32) {h : AH} {S : ST} (hc : CR h S) (hm : MT h S) : ∃ r h2 S', M_X8_guest a1 a2 h = some r ∧ M_X9_guest n a1 a2 h = some (r, h2) ∧ CR h2 S' ∧ MT h2 S' := by
  obtain ⟨r, h1, h2, S', p1, p2, p3, p4⟩ := stepT (two_guest hn a1 a2) (fun h r h1 e => by
    obtain ⟨v, -, e⟩ := am_oS e
    cases e
    exact rg_same.rf) (fun h r h1 e => rg_evM (E_X9_guest_75 n a1 a2 h r h1 e) rfl rfl) hc hm
  obtain ⟨v, e1, e2⟩ := am_oS p1
  cases e2
  exact ⟨r, h2, S', e1, p2, p3, p4⟩
theorem st_set {n : Nat} (hn : 600 < n) (a1 a2 : Int32) {h : AH} {S : ST} (hc : CR h S) (hm : MT h S) : ∃ r h1 h2 S', M_X8_set n a1 a2 h = some (r, h1) ∧ M_X9_set a1 a2 h1 = some (r, h2) ∧ CR h2 S' ∧ MT h2 S' := stepT (two_set hn a1 a2) (fun h r h1 e => rg_evC (E_X8_set_0 n a1 a2 h r h1 e) rfl rfl) (fun h r h1 e => rg_evM (E_X9_set_75 a1 a2 h r h1 e) rfl rfl) hc hm
theorem st_event {n : Nat} (hn : 600 < n) (a1 a2 a3 : Int32) {h : AH} {S : ST} (hc : CR h S) (hm : MT h S) : ∃ r h1 h2 S', M_X8_event n a1 a2 a3 h = some (r, h1) ∧ M_X9_event a1 a2 a3 h1 = some (r, h2) ∧ CR h2 S' ∧ MT h2 S' := stepT (two_event hn a1 a2 a3) (fun h r h1 e => rg_evC (E_X8_event_0 n a1 a2 a3 h r h1 e) rfl rfl) (fun h r h1 e => rg_evM (E_X9_event_75 a1 a2 a3 h r h1 e) rfl rfl) hc hm
theorem st_back {n : Nat} (hn : 600 < n) {h : AH} {S : ST} (hc : CR h S) (hm : MT h S) : ∃ r h1 h2 S', M_X8_back n h = some (r, h1) ∧ M_X9_back h1 = some (r, h2) ∧ CR h2 S' ∧ MT h2 S' := stepT (two_back hn) (fun h r h1 e => rg_evC (E_X8_back_0 n h r h1 e) rfl rfl) (fun h r h1 e => rg_evM (E_X9_back_75 h r h1 e) rfl rfl) hc hm
theorem st_read {n : Nat} (hn : 600 < n) (a1 : Int32) {h : AH} {S : ST} (hc : CR h S) (hm : MT h S) : ∃ r h1 h2 S', M_X8_read n a1 h = some (r, h1) ∧ M_X9_read n a1 h1 = some (r, h2) ∧ CR h2 S' ∧ MT h2 S' := stepT (two_read hn a1) (fun h r h1 e => rg_evC (E_X8_read_0 n a1 h r h1 e) rfl rfl) (fun h r h1 e => rg_evM (E_X9_read_75 n a1 h r h1 e) rfl rfl) hc hm
theorem st_at {n : Nat} (hn : 600 < n) (a1 a2 : Int32) {h : AH} {S : ST} (hc : CR h S) (hm : MT h S) : ∃ r h1 h2 S', M_X8_at n a1 a2 h = some (r, h1) ∧ M_X9_at n a1 a2 h1 = some (r, h2) ∧ CR h2 S' ∧ MT h2 S' := stepT (two_at hn a1 a2) (fun h r h1 e => rg_evC (E_X8_at_0 n a1 a2 h r h1 e) rfl rfl) (fun h r h1 e => rg_evM (E_X9_at_75 n a1 a2 h r h1 e) rfl rfl) hc hm
theorem st_is {n : Nat} (hn : 600 < n) (a1 a2 a3 : Int32) {h : AH} {S : ST} (hc : CR h S) (hm : MT h S) : ∃ r h1 h2 S', M_X8_is n a1 a2 a3 h = some (r, h1) ∧ M_X9_is n a1 a2 a3 h1 = some (r, h2) ∧ CR h2 S' ∧ MT h2 S' := stepT (two_is hn a1 a2 a3) (fun h r h1 e => rg_evC (E_X8_is_0 n a1 a2 a3 h r h1 e) rfl rfl) (fun h r h1 e => rg_evM (E_X9_is_75 n a1 a2 a3 h r h1 e) rfl rfl) hc hm
theorem st_line {n : Nat} (hn : 600 < n) (a1 : Int32) {h : AH} {S : ST} (hc : CR h S) (hm : MT h S) : ∃ r h1 h2 S', M_X8_line n a1 h = some (r, h1) ∧ M_X9_line n a1 h1 = some (r, h2) ∧ CR h2 S' ∧ MT h2 S' := stepT (two_line hn a1) (fun h r h1 e => rg_evC (E_X8_line_0 n a1 h r h1 e) rfl rfl) (fun h r h1 e => rg_evM (E_X9_line_75 n a1 h r h1 e) rfl rfl) hc hm
theorem st_sum {n : Nat} (hn : 600 < n) (a1 : Int32) {h : AH} {S : ST} (hc : CR h S) (hm : MT h S) : ∃ r h1 h2 S', M_X8_sum n a1 h = some (r, h1) ∧ M_X9_sum n a1 h1 = some (r, h2) ∧ CR h2 S' ∧ MT h2 S' := stepT (two_sum hn a1) (fun h r h1 e => rg_evC (E_X8_sum_0 n a1 h r h1 e) rfl rfl) (fun h r h1 e => rg_evM (E_X9_sum_75 n a1 h r h1 e) rfl rfl) hc hm
theorem st_first {n : Nat} (hn : 600 < n) {h : AH} {S : ST} (hc : CR h S) (hm : MT h S) : ∃ r h1 h2 S', M_X8_first n h = some (r, h1) ∧ M_X9_first n h1 = some (r, h2) ∧ CR h2 S' ∧ MT h2 S' := stepT (two_first hn) (fun h r h1 e => rg_evC (E_X8_first_0 n h r h1 e) rfl rfl) (fun h r h1 e => rg_evM (E_X9_first_75 n h r h1 e) rfl rfl) hc hm
theorem st_hottest {n : Nat} (hn : 600 < n) (a1 : Int32) {h : AH} {S : ST} (hc : CR h S) (hm : MT h S) : ∃ r h1 h2 S', M_X8_hottest n a1 h = some (r, h1) ∧ M_X9_hottest n a1 h1 = some (r, h2) ∧ CR h2 S' ∧ MT h2 S' := stepT (two_hottest hn a1) (fun h r h1 e => rg_evC (E_X8_hottest_0 n a1 h r h1 e) rfl rfl) (fun h r h1 e => rg_evM (E_X9_hottest_75 n a1 h r h1 e) rfl rfl) hc hm
theorem st_waited {n : Nat} (hn : 600 < n) (a1 : Int32) {h : AH} {S : ST} (hc : CR h S) (hm : MT h S) : ∃ r h1 h2 S', M_X8_waited n a1 h = some (r, h1) ∧ M_X9_waited n a1 h1 = some (r, h2) ∧ CR h2 S' ∧ MT h2 S' := stepT (two_waited hn a1) (fun h r h1 e => rg_evC (E_X8_waited_0 n a1 h r h1 e) rfl rfl) (fun h r h1 e => rg_evM (E_X9_waited_75 n a1 h r h1 e) rfl rfl) hc hm
theorem st_thirst {n : Nat} (hn : 600 < n) {h : AH} {S : ST} (hc : CR h S) (hm : MT h S) : ∃ r h1 h2 S', M_X8_thirst n h = some (r, h1) ∧ M_X9_thirst n h1 = some (r, h2) ∧ CR h2 S' ∧ MT h2 S' := stepT (two_thirst hn) (fun h r h1 e => rg_evC (E_X8_thirst_0 n h r h1 e) rfl rfl) (fun h r h1 e => rg_evM (E_X9_thirst_75 n h r h1 e) rfl rfl) hc hm
theorem st_better {n : Nat} (hn : 600 < n) (a1 a2 : Int32) {h : AH} {S : ST} (hc : CR h S) (hm : MT h S) : ∃ r h1 h2 S', M_X8_better n a1 a2 h = some (r, h1) ∧ M_X9_better n a1 a2 h1 = some (r, h2) ∧ CR h2 S' ∧ MT h2 S' := stepT (two_better hn a1 a2) (fun h r h1 e => rg_evC (E_X8_better_0 n a1 a2 h r h1 e) rfl rfl) (fun h r h1 e => rg_evM (E_X9_better_75 n a1 a2 h r h1 e) rfl rfl) hc hm
theorem st_fill {n : Nat} (hn : 600 < n) (a1 : Int32) {h : AH} {S : ST} (hc : CR h S) (hm : MT h S) : ∃ r h1 h2 S', M_X8_fill n a1 h = some (r, h1) ∧ M_X9_fill n a1 h1 = some (r, h2) ∧ CR h2 S' ∧ MT h2 S' := stepT (two_fill hn a1) (fun h r h1 e => rg_evC (E_X8_fill_0 n a1 h r h1 e) rfl rfl) (fun h r h1 e => rg_evM (E_X9_fill_75 n a1 h r h1 e) rfl rfl) hc hm
theorem st_come {n : Nat} (hn : 600 < n) (a1 a2 : Int32) {h : AH} {S : ST} (hc : CR h S) (hm : MT h S) : ∃ r h1 h2 S', M_X8_come n a1 a2 h = some (r, h1) ∧ M_X9_come n a1 a2 h1 = some (r, h2) ∧ CR h2 S' ∧ MT h2 S' := stepT (two_come hn a1 a2) (fun h r h1 e => rg_evC (E_X8_come_0 n a1 a2 h r h1 e) rfl rfl) (fun h r h1 e => rg_evM (E_X9_come_75 n a1 a2 h r h1 e) rfl rfl) hc hm
theorem st_spare {n : Nat} (hn : 600 < n) (a1 : Int32) {h : AH} {S : ST} (hc : CR h S) (hm : MT h S) : ∃ r h1 h2 S', M_X8_spare n a1 h = some (r, h1) ∧ M_X9_spare n a1 h1 = some (r, h2) ∧ CR h2 S' ∧ MT h2 S' := stepT (two_spare hn a1) (fun h r h1 e => rg_evC (E_X8_spare_0 n a1 h r h1 e) rfl rfl) (fun h r h1 e => rg_evM (E_X9_spare_75 n a1 h r h1 e) rfl rfl) hc hm
theorem st_seen {n : Nat} (hn : 600 < n) (a1 a2 : Int32) {h : AH} {S : ST} (hc : CR h S) (hm : MT h S) : ∃ r h1 h2 S', M_X8_seen a1 a2 h = some (r, h1) ∧ M_X9_seen a1 a2 h1 = some (r, h2) ∧ CR h2 S' ∧ MT h2 S' := stepT (two_seen a1 a2) (fun h r h1 e => rg_evC (E_X8_seen_0 a1 a2 h r h1 e) rfl rfl) (fun h r h1 e => rg_evM (E_X9_seen_75 a1 a2 h r h1 e) rfl rfl) hc hm
theorem st_forget {n : Nat} (hn : 600 < n) {h : AH} {S : ST} (hc : CR h S) (hm : MT h S) : ∃ r h1 h2 S', M_X8_forget h = some (r, h1) ∧ M_X9_forget h1 = some (r, h2) ∧ CR h2 S' ∧ MT h2 S' := stepT (two_forget) (fun h r h1 e => rg_evC (E_X8_forget_0 h r h1 e) rfl rfl) (fun h r h1 e => rg_evM (E_X9_forget_75 h r h1 e) rfl rfl) hc hm
theorem st_never {n : Nat} (hn : 600 < n) {h : AH} {S : ST} (hc : CR h S) (hm : MT h S) : ∃ r h1 h2 S', M_X8_never n h = some (r, h1) ∧ M_X9_never n h1 = some (r, h2) ∧ CR h2 S' ∧ MT h2 S' := stepT (two_never hn) (fun h r h1 e => rg_evC (E_X8_never_0 n h r h1 e) rfl rfl) (fun h r h1 e => rg_evM (E_X9_never_75 n h r h1 e) rfl rfl) hc hm
theorem st_waters {n : Nat} (hn : 600 < n) {h : AH} {S : ST} (hc : CR h S) (hm : MT h S) : ∃ r h1 h2 S', M_X8_waters n h = some (r, h1) ∧ M_X9_waters n h1 = some (r, h2) ∧ CR h2 S' ∧ MT h2 S' := stepT (two_waters hn) (fun h r h1 e => rg_evC (E_X8_waters_0 n h r h1 e) rfl rfl) (fun h r h1 e => rg_evM (E_X9_waters_75 n h r h1 e) rfl rfl) hc hm
theorem st_kind {n : Nat} (hn : 600 < n) (a1 : Int32) {h : AH} {S : ST} (hc : CR h S) (hm : MT h S) : ∃ r h1 h2 S', M_X8_kind n a1 h = some (r, h1) ∧ M_X9_kind n a1 h1 = some (r, h2) ∧ CR h2 S' ∧ MT h2 S' := stepT (two_kind hn a1) (fun h r h1 e => rg_evC (E_X8_kind_0 n a1 h r h1 e) rfl rfl) (fun h r h1 e => rg_evM (E_X9_kind_75 n a1 h r h1 e) rfl rfl) hc hm
theorem st_ask {n : Nat} (hn : 600 < n) {h : AH} {S : ST} (hc : CR h S) (hm : MT h S) : ∃ r h1 h2 S', M_X8_ask n h = some (r, h1) ∧ M_X9_ask n h1 = some (r, h2) ∧ CR h2 S' ∧ MT h2 S' := stepT (two_ask hn) (fun h r h1 e => rg_evC (E_X8_ask_0 n h r h1 e) rfl rfl) (fun h r h1 e => rg_evM (E_X9_ask_75 n h r h1 e) rfl rfl) hc hm
theorem st_chance {n : Nat} (hn : 600 < n) (a1 a2 a3 : Int32) {h : AH} {S : ST} (hc : CR h S) (hm : MT h S) : ∃ r h1 h2 S', M_X8_chance n a1 a2 a3 h = some (r, h1) ∧ M_X9_chance n a1 a2 a3 h1 = some (r, h2) ∧ CR h2 S' ∧ MT h2 S' := stepT (two_chance hn a1 a2 a3) (fun h r h1 e => rg_evC (E_X8_chance_0 n a1 a2 a3 h r h1 e) rfl rfl) (fun h r h1 e => rg_evM (E_X9_chance_75 n a1 a2 a3 h r h1 e) rfl rfl) hc hm
theorem st_evenings {n : Nat} (hn : 600 < n) (a1 a2 a3 : Int32) {h : AH} {S : ST} (hc : CR h S) (hm : MT h S) : ∃ r h1 h2 S', M_X8_evenings n a1 a2 a3 h = some (r, h1) ∧ M_X9_evenings n a1 a2 a3 h1 = some (r, h2) ∧ CR h2 S' ∧ MT h2 S' := stepT (two_evenings hn a1 a2 a3) (fun h r h1 e => rg_evC (E_X8_evenings_0 n a1 a2 a3 h r h1 e) rfl rfl) (fun h r h1 e => rg_evM (E_X9_evenings_75 n a1 a2 a3 h r h1 e) rfl rfl) hc hm
theorem st_sheet {n : Nat} (hn : 600 < n) (a1 a2 a3 : Int32) {h : AH} {S : ST} (hc : CR h S) (hm : MT h S) : ∃ r h1 h2 S', M_X8_sheet n a1 a2 a3 h = some (r, h1) ∧ M_X9_sheet n a1 a2 a3 h1 = some (r, h2) ∧ CR h2 S' ∧ MT h2 S' := stepT (two_sheet hn a1 a2 a3) (fun h r h1 e => rg_evC (E_X8_sheet_0 n a1 a2 a3 h r h1 e) rfl rfl) (fun h r h1 e => rg_evM (E_X9_sheet_75 n a1 a2 a3 h r h1 e) rfl rfl) hc hm
theorem st_lose {n : Nat} (hn : 600 < n) (a1 : Int32) {h : AH} {S : ST} (hc : CR h S) (hm : MT h S) : ∃ r h1 h2 S', M_X8_lose a1 h = some (r, h1) ∧ M_X9_lose a1 h1 = some (r, h2) ∧ CR h2 S' ∧ MT h2 S' := stepT (two_lose a1) (fun h r h1 e => rg_evC (E_X8_lose_0 a1 h r h1 e) rfl rfl) (fun h r h1 e => rg_evM (E_X9_lose_75 a1 h r h1 e) rfl rfl) hc hm
theorem st_put {n : Nat} (hn : 600 < n) (a1 a2 a3 a4 : Int32) {h : AH} {S : ST} (hc : CR h S) (hm : MT h S) : ∃ r h1 h2 S', M_X8_put a1 a2 a3 a4 h = some (r, h1) ∧ M_X9_put a1 a2 a3 a4 h1 = some (r, h2) ∧ CR h2 S' ∧ MT h2 S' := stepT (two_put a1 a2 a3 a4) (fun h r h1 e => rg_evC (E_X8_put_0 a1 a2 a3 a4 h r h1 e) rfl rfl) (fun h r h1 e => rg_evM (E_X9_put_75 a1 a2 a3 a4 h r h1 e) rfl rfl) hc hm
theorem st_get {n : Nat} (hn : 600 < n) (a1 a2 a3 : Int32) {h : AH} {S : ST} (hc : CR h S) (hm : MT h S) : ∃ r h1 h2 S', M_X8_get a1 a2 a3 h = some (r, h1) ∧ M_X9_get a1 a2 a3 h1 = some (r, h2) ∧ CR h2 S' ∧ MT h2 S' := stepT (two_get a1 a2 a3) (fun h r h1 e => rg_evC (E_X8_get_0 a1 a2 a3 h r h1 e) rfl rfl) (fun h r h1 e => rg_evM (E_X9_get_75 a1 a2 a3 h r h1 e) rfl rfl) hc hm
theorem st_copy {n : Nat} (hn : 600 < n) (a1 a2 a3 a4 a5 : Int32) {h : AH} {S : ST} (hc : CR h S) (hm : MT h S) : ∃ r h1 h2 S', M_X8_copy a1 a2 a3 a4 a5 h = some (r, h1) ∧ M_X9_copy n a1 a2 a3 a4 a5 h1 = some (r, h2) ∧ CR h2 S' ∧ MT h2 S' := stepT (two_copy hn a1 a2 a3 a4 a5) (fun h r h1 e => rg_evC (E_X8_copy_0 a1 a2 a3 a4 a5 h r h1 e) rfl rfl) (fun h r h1 e => rg_evM (E_X9_copy_75 n a1 a2 a3 a4 a5 h r h1 e) rfl rfl) hc hm
theorem st_write {n : Nat} (hn : 600 < n) (a1 a2 : Int32) {h : AH} {S : ST} (hc : CR h S) (hm : MT h S) : ∃ r h1 h2 S', M_X8_write n a1 a2 h = some (r, h1) ∧ M_X9_write n a1 a2 h1 = some (r, h2) ∧ CR h2 S' ∧ MT h2 S' := stepT (two_write hn a1 a2) (fun h r h1 e => rg_evC (E_X8_write_0 n a1 a2 h r h1 e) rfl rfl) (fun h r h1 e => rg_evM (E_X9_write_75 n a1 a2 h r h1 e) rfl rfl) hc hm
theorem st_count {n : Nat} (hn : 600 < n) (a1 : Int32) {h : AH} {S : ST} (hc : CR h S) (hm : MT h S) : ∃ r h1 h2 S', M_X8_count n a1 h = some (r, h1) ∧ M_X9_count n a1 h1 = some (r, h2) ∧ CR h2 S' ∧ MT h2 S' := stepT (two_count hn a1) (fun h r h1 e => rg_evC (E_X8_count_0 n a1 h r h1 e) rfl rfl) (fun h r h1 e => rg_evM (E_X9_count_75 n a1 h r h1 e) rfl rfl) hc hm
theorem st_digest {n : Nat} (hn : 600 < n) {h : AH} {S : ST} (hc : CR h S) (hm : MT h S) : ∃ r h1 h2 S', M_X8_digest n h = some (r, h1) ∧ M_X9_digest n h1 = some (r, h2) ∧ CR h2 S' ∧ MT h2 S' := stepT (two_digest hn) (fun h r h1 e => rg_evC (E_X8_digest_0 n h r h1 e) rfl rfl) (fun h r h1 e => rg_evM (E_X9_digest_75 n h r h1 e) rfl rfl) hc hm
