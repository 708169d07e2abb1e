/-! Text.scan -/
def fr_t (r0 : Nat) (h h' : AH) : Prop := (∀ i k, ¬ (i = r0 + 1 ∧ k = 3) → ¬ (i = r0 ∧ k = 5) → h'.1 i k = h.1 i k) ∧ (∀ i, ¬ (r0 + 1 < i ∧ i ≤ r0 + 4) → h'.2.1 i = h.2.1 i) ∧ h'.2.2 = h.2.2
theorem fr_t.rf {r : Nat} {h : AH} : fr_t r h h := ⟨fun _ _ _ _ => rfl, fun _ _ => rfl, rfl⟩
theorem fr_t.tr {r : Nat} {a b c : AH} (h1 : fr_t r a b) (h2 : fr_t r b c) : fr_t r a c := ⟨fun i k z y => (h2.1 i k z y).trans (h1.1 i k z y), fun i z => (h2.2.1 i z).trans (h1.2.1 i z), h2.2.2.trans h1.2.2⟩
theorem bI_0 {b : Bool} : bI b = 0 ↔ b = false := by cases b <;> decide
set_option maxHeartbeats 8000000 in
theorem c_firstFault {n r0 tx : Nat} {bs : List Nat} {h : AH} (ht : tx < 2) (hs : tx_s r0 = 200 + tx) (hl : bs.length ≤ 31) (hl0 : 0 < bs.length) (hb : ∀ b ∈ bs, b ≤ 255) (hx : txC h r0 tx bs) (he : entR h (r0 + 1) []) (hn : 31 < n) :
    ∃ h', M_X6_firstFault n r0 h = some (svI (fltS tx bs), h') ∧ (fltS tx bs = none → entR h' (r0 + 1) (ps tx bs bs.length).2) ∧ fr_t r0 h h' := by
  obtain ⟨x1, x2, x3⟩ := hx
  unfold M_X6_firstFault
  refine loopW (ρ := Int32) (L := fun m q h => L_X6_firstFault_2 n r0 m q h) (N := bs.length) (I := fun i q h1 => q = nI i ∧ (ps tx bs i).1 = none ∧ entR h1 (r0 + 1) (ps tx bs i).2 ∧ fr_t r0 h h1 ∧ h1.1 r0 5 = h.1 r0 5) (Q := fun r => ∃ h', r = some (svI (fltS tx bs), h') ∧ (fltS tx bs = none → entR h' (r0 + 1) (ps tx bs bs.length).2) ∧ fr_t r0 h h') ?_ ?_ bs.length 0 n 0 h (by omega) (by omega) ⟨rfl, rfl, he, fr_t.rf, rfl⟩
  · intro m i q h1 hi hI
    obtain ⟨i1, i2, i3, i4, i5⟩ := hI
    subst i1
    have hlen := ps_len i i2
    have hbi := bt_lt hb i
    rw [L_X6_firstFault_2, i4.1 _ _ (by omega) (by omega), x1, if_neg (nI_ge (by omega) (by omega)), show (31 : Int32) = nI 31 from rfl, if_neg (nI_ge (by omega) (by omega)), am_inK (show i < 31 by omega) (by omega), nK (show i ≤ 100000 by omega), mod4 (by omega), i4.2.1 (r0 + 5) (by omega), x2 i hi]
    simp only [cond_true]
    rw [c_fits (tx := tx) (cnt := (ps tx bs i).2.length) ht hs hbi (by omega) (by rw [i4.1 _ _ (by omega) (by omega)]; exact x3) i3.1 (by omega)]
    cases hf : fitS tx (ps tx bs i).2.length (i % 4) (bt bs i) with
    | false =>
      right
      rw [if_pos (bI_0.mpr rfl)]
      have e := ps_no i2 hf
      have e2 : (ps tx bs bs.length).1 = some i := ps_stop (i := i + 1) (by rw [e]) bs.length (by omega)
      have e3 : fltS tx bs = some i := by unfold fltS; rw [e2]
      rw [e3]
      exact ⟨h1, rfl, fun z => (by cases z), i4⟩
    | true =>
      left
      rw [if_neg (fun z => by have := bI_0.mp z; cases this)]
      have e := ps_yes i2 hf
      by_cases c : i % 4 = 2
      · rw [if_pos c] at e
        obtain ⟨a, ha⟩ : ∃ a, i = a + 2 := ⟨i - 2, by omega⟩
        have f1 : (ps tx bs (a + 1)).1 = none ∧ fitS tx (ps tx bs (a + 1)).2.length ((a + 1) % 4) (bt bs (a + 1)) = true := ps_prev (by rw [show a + 1 + 1 = i by omega]; exact i2)
        have f2 := ps_prev f1.1
        have g1 := f1.2
        have g2 := f2.2
        have g3 := hf
        unfold fitS at g1 g2 g3
        rw [if_neg (by omega), if_pos (by omega)] at g1
        rw [if_pos (by omega)] at g2
        rw [if_neg (by omega), if_neg (by omega), if_pos c] at g3
        have g2 := of_decide_eq_true g2
        have g3 := of_decide_eq_true g3
        obtain ⟨k, hk⟩ := Option.isSome_iff_exists.mp g1
        rw [if_pos (by rw [c]; rfl), if_neg (by rw [show (2 : Int32) = nI 2 from rfl]; exact nI_nlt (by omega) (by omega)), show (2 : Int32) = nI 2 from rfl, nI_sub (by omega), show (1 : Int32) = nI 1 from rfl, nI_sub (show 1 ≤ i by omega), am_inK (show i - 2 < 31 by omega) (by omega), am_inK (show i - 1 < 31 by omega) (by omega), nK (show i - 2 ≤ 100000 by omega), nK (show i - 1 ≤ 100000 by omega), x2 (i - 2) (by omega), x2 (i - 1) (by omega), hs, kxS ht (bt_lt hb (i - 1)), show (97 : Int32) = nI 97 from rfl, nI_sub (by rw [show i - 2 = a by omega]; omega), show (48 : Int32) = nI 48 from rfl, nI_sub (by omega)]
        simp only [cond_true]
        have ek : svI (kd tx (bt bs (i - 1))) = nI ((kd tx (bt bs (i - 1))).getD 0) := by
          rw [show i - 1 = a + 1 by omega, hk]
          rfl
        rw [ek]
        obtain ⟨h2, y1, y2, y3, y4, y5⟩ := entR_add (a := bt bs (i - 2) - 97) (b := (kd tx (bt bs (i - 1))).getD 0) (c := bt bs i - 48) i3 (by omega)
        rw [y1]
        refine ⟨nI (i + 1), h2, ?_, rfl, ?_, ?_, ?_, ?_⟩
        · show L_X6_firstFault_2 n r0 m (nI i + nI 1) h2 = _
          rw [nI_add]
        · rw [e]
        · rw [e]
          exact y2
        · exact i4.tr ⟨fun a b z _ => y3 a b z, fun a z => y4 a (by omega), y5⟩
        · rw [y3 _ _ (by omega)]
          exact i5
      · rw [if_neg c] at e
        rw [if_neg (by rw [show (2 : Int32) = nI 2 from rfl]; exact kF c (by omega) (by omega)), nI_1]
        exact ⟨nI (i + 1), h1, rfl, rfl, by rw [e], by rw [e]; exact i3, i4, i5⟩
  · intro m q h1 hI
    obtain ⟨i1, i2, i3, i4, i5⟩ := hI
    subst i1
    rw [L_X6_firstFault_2, i4.1 _ _ (by omega) (by omega), x1, if_pos (nI_le (Nat.le_refl _) (by omega))]
    unfold B_X6_firstFault_95
    rw [i4.1 _ _ (by omega) (by omega), x1, mod4 (by omega)]
    by_cases c : bs.length % 4 = 3
    · have e3 : fltS tx bs = none := by
        unfold fltS
        rw [i2]
        exact if_pos (Or.inr c)
      rw [if_pos (by rw [c]; rfl), e3]
      exact ⟨h1, rfl, fun _ => i3, i4⟩
    · have e3 : fltS tx bs = some bs.length := by
        unfold fltS
        rw [i2]
        exact if_neg (by omega)
      rw [if_neg (by rw [show (3 : Int32) = nI 3 from rfl]; exact kF c (by omega) (by omega)), e3]
      exact ⟨h1, rfl, fun z => (by cases z), i4⟩
theorem flt_le {tx : Nat} {bs : List Nat} : ∀ i f, (ps tx bs i).1 = some f → f < i
  | 0, f, h => by cases h
  | i + 1, f, h => by
    cases h1 : (ps tx bs i).1 with
    | some g =>
      have := ps_stop h1 (i + 1) (by omega)
      rw [this] at h
      cases h
      have := flt_le i f h1
      omega
    | none =>
      cases h2 : fitS tx (ps tx bs i).2.length (i % 4) (bt bs i) with
      | true =>
        rw [ps_yes h1 h2] at h
        cases h
      | false =>
        rw [ps_no h1 h2] at h
        cases h
        omega
theorem fltS_le {tx : Nat} {bs : List Nat} {f : Nat} (h : fltS tx bs = some f) : f ≤ bs.length := by
  unfold fltS at h
  cases h1 : (ps tx bs bs.length).1 with
  | some g =>
    rw [h1] at h
    cases h
    have := flt_le _ _ h1
    omega
  | none =>
    rw [h1] at h
    have h : (if bs.length = 0 ∨ bs.length % 4 = 3 then none else some bs.length) = some f := h
    split at h
    · cases h
    · cases h
      omega
theorem c_scan {n r0 tx : Nat} {bs : List Nat} {h : AH} (ht : tx < 2) (hs : tx_s r0 = 200 + tx) (hl : bs.length ≤ 31) (hb : ∀ b ∈ bs, b ≤ 255) (hx : txC h r0 tx bs) (hn : 31 < n) :
    ∃ h', M_X6_scan n r0 h = some h' ∧ entR h' (r0 + 1) (entS tx bs) ∧ h'.1 r0 5 = svI (fltS tx bs) ∧ fr_t r0 h h' := by
  unfold M_X6_scan
  have hx0 : txC (am_sf h (r0 + 1) 3 0) r0 tx bs := ⟨by rw [sf_r _ _ _ _ (by omega)]; exact hx.1, hx.2.1, by rw [sf_r _ _ _ _ (by omega)]; exact hx.2.2⟩
  have he0 : entR (am_sf h (r0 + 1) 3 0) (r0 + 1) [] := ⟨by rw [sf_same]; rfl, fun j x hx => by cases hx⟩
  have fr0 : fr_t r0 h (am_sf h (r0 + 1) 3 0) := ⟨fun i k z _ => sf_n z, fun _ _ => rfl, rfl⟩
  have go : ∀ h1 : AH, (fltS tx bs = none → entR h1 (r0 + 1) (ps tx bs bs.length).2) → fr_t r0 h h1 → ∃ h', B_X6_scan_24 n r0 (svI (fltS tx bs)) h1 = some h' ∧ entR h' (r0 + 1) (entS tx bs) ∧ h'.1 r0 5 = svI (fltS tx bs) ∧ fr_t r0 h h' := by
    intro h1 g1 g2
    unfold B_X6_scan_24 entS
    have hm := svI_m1 (o := fltS tx bs) (t := 24)
    cases hf : fltS tx bs with
    | none =>
      rw [if_pos (show svI none = -1 from rfl), if_pos rfl]
      refine ⟨_, rfl, ?_, ?_, ?_⟩
      · have g := g1 hf
        exact ⟨by rw [sf_r _ _ _ _ (by omega)]; exact g.1, g.2⟩
      · rw [sf_same]
      · exact g2.tr ⟨fun i k _ y => sf_n y, fun _ _ => rfl, rfl⟩
    | some f =>
      have hfl := fltS_le hf
      rw [if_neg (fun z => by
        have z : nI f = -1 := z
        rw [lit_m1, zI_n, zI_eq (by omega) (by omega) (by omega) (by omega)] at z
        omega), if_neg (fun z => by cases z)]
      refine ⟨_, rfl, ⟨by rw [sf_same]; rfl, fun j x hx => by cases hx⟩, ?_, ?_⟩
      · rw [sf_r _ _ _ _ (by omega), sf_same]
      · exact g2.tr ⟨fun i k z y => by rw [sf_n z, sf_n y], fun _ _ => rfl, rfl⟩
  rw [hx.1]
  by_cases c : bs.length = 0
  · rw [if_pos (by rw [c]; rfl)]
    have ebs : bs = [] := List.length_eq_zero_iff.mp c
    have e3 : fltS tx bs = none := by rw [ebs]; rfl
    have := go (am_sf h (r0 + 1) 3 0) (fun _ => by rw [ebs]; exact he0) fr0
    rw [e3] at this ⊢
    exact this
  · rw [if_neg (by rw [show (0 : Int32) = nI 0 from rfl]; exact kF c (by omega) (by omega))]
    obtain ⟨h1, a1, a2, a3⟩ := c_firstFault (n := n) ht hs hl (by omega) hb hx0 he0 hn
    rw [a1]
    exact go h1 a2 (fr0.tr a3)
