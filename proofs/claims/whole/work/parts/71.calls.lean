/-! calls: what both sides answer, and what they hold then -/
def two {α : Type} (f g : AH → Option (α × AH)) : Prop := ∀ S, okST S → ∃ (r : α) (S' : ST), (∀ h, CR h S → ∃ h1, f h = some (r, h1) ∧ CR h1 S') ∧ (∀ h, MT h S → ∃ h2, g h = some (r, h2) ∧ MT h2 S')
def setT (S : ST) (tx : Nat) (bs : List Nat) : ST := (if tx = 0 then (bs, S.1.2) else (S.1.1, bs), S.2)
def bsT (S : ST) (tx : Nat) : List Nat := if tx = 0 then S.1.1 else S.1.2
def setWB (S : ST) (w b : Nat) : ST := (S.1, (w, b), S.2.2)
def setE (S : ST) (es : List T3) : ST := (S.1, S.2.1, es, S.2.2.2)
def setN (S : ST) (l : List T3) : ST := (S.1, S.2.1, S.2.2.1, l, S.2.2.2.2)
def setH (S : ST) (s : Nat) (x : SH) : ST := (S.1, S.2.1, S.2.2.1, S.2.2.2.1, (fun i => if i = s then x else S.2.2.2.2.1 i), S.2.2.2.2.2)
def setF (S : ST) (v : Int32) : ST := (S.1, S.2.1, S.2.2.1, S.2.2.2.1, S.2.2.2.2.1, v)
theorem CR_changed {n : Nat} {h1 : AH} {S : ST} (hn : 503 < n) (ho : okST S) (hc : CT h1 S) (hk : (h1.1 37 4 = 1 ∧ ∀ t, t < 503 → h1.2.2 38 t = 0) ∨ h1.1 37 4 = 0) : ∃ h2, M_X8_changed n h1 = some h2 ∧ CR h2 S ∧ (∀ i k, ¬ (i = 0 ∧ k = 11) → ¬ (i = 37 ∧ k = 4) → h2.1 i k = h1.1 i k) ∧ h2.2.1 = h1.2.1 := by
  obtain ⟨h2, a1, a2, a3, a4, a5, a6⟩ := c_changed hn hk
  exact ⟨h2, a1, ⟨ho, hc.fr ⟨fun i k z => a5 _ _ (by omega) (by omega), a5 _ _ (by omega) (by omega), fun i _ => by rw [a6]⟩, Or.inl a2, Or.inl ⟨a3, a4⟩⟩, a5, a6⟩
theorem CK_drop {h h1 : AH} {S : ST} (hc : CK h S) (e1 : h1.1 37 4 = h.1 37 4) (e2 : h1.2.2 38 = h.2.2 38) : (h1.1 37 4 = 1 ∧ ∀ t, t < 503 → h1.2.2 38 t = 0) ∨ h1.1 37 4 = 0 := by
  rw [e1, e2]
  rcases hc.2 with z | z
  · exact Or.inl z
  · exact Or.inr z.1
theorem CT_text {tx : Nat} {bs : List Nat} {h h1 : AH} {S : ST} (ht : tx < 2) (hc : CT h S) (hx : txC h1 (1 + 6 * tx) tx bs) (he : entR h1 (2 + 6 * tx) (entS tx bs)) (hf : h1.1 (1 + 6 * tx) 5 = svI (fltS tx bs)) (ff : ∀ i k, ¬ (1 + 6 * tx ≤ i ∧ i ≤ 6 + 6 * tx) → h1.1 i k = h.1 i k) (fa : ∀ i, ¬ (1 + 6 * tx ≤ i ∧ i ≤ 6 + 6 * tx) → h1.2.1 i = h.2.1 i) : CT h1 (setT S tx bs) := by
  obtain ⟨⟨a1, a2, a3⟩, ⟨b1, b2, b3⟩, c, d, ⟨e1, e2, e3⟩, f, g⟩ := hc
  have rest : entR h1 13 S.2.2.1 ∧ entR h1 17 S.2.2.2.1 ∧ (h1.1 21 3 = nI S.2.1.1 ∧ h1.1 21 4 = nI S.2.1.2 ∧ h1.1 21 5 = 0) ∧ (∀ s, s < 4 → h1.1 (67 + 2 * s) 1 = bI (S.2.2.2.2.1 s).1 ∧ h1.1 (67 + 2 * s) 2 = nI (S.2.2.2.2.1 s).2.1 ∧ h1.1 (67 + 2 * s) 3 = nI (S.2.2.2.2.1 s).2.2.1 ∧ ∀ j, j < 60 → h1.2.1 (68 + 2 * s) j = (S.2.2.2.2.1 s).2.2.2 j) ∧ h1.1 0 12 = S.2.2.2.2.2 := by
    refine ⟨c.cg (ff _ _ (by omega)) (fun i _ _ => fa _ (by omega)), d.cg (ff _ _ (by omega)) (fun i _ _ => fa _ (by omega)), ⟨by rw [ff _ _ (by omega)]; exact e1, by rw [ff _ _ (by omega)]; exact e2, by rw [ff _ _ (by omega)]; exact e3⟩, fun s hs => ?_, by rw [ff _ _ (by omega)]; exact g⟩
    rw [ff _ _ (by omega), ff _ _ (by omega), ff _ _ (by omega), fa _ (by omega)]
    exact f s hs
  rcases (show tx = 0 ∨ tx = 1 by omega) with rfl | rfl
  · exact ⟨⟨hx, he, hf⟩, ⟨b1.cg (fun k _ => ff _ _ (by omega)) (fa _ (by omega)), b2.cg (ff _ _ (by omega)) (fun i _ _ => fa _ (by omega)), by rw [ff _ _ (by omega)]; exact b3⟩, rest⟩
  · exact ⟨⟨a1.cg (fun k _ => ff _ _ (by omega)) (fa _ (by omega)), a2.cg (ff _ _ (by omega)) (fun i _ _ => fa _ (by omega)), by rw [ff _ _ (by omega)]; exact a3⟩, ⟨hx, he, hf⟩, rest⟩
theorem CT_ev {es : List T3} {h h1 : AH} {S : ST} (hc : CT h S) (he : entR h1 13 es) (ff : ∀ i k, ¬ i = 13 → h1.1 i k = h.1 i k) (fa : ∀ i, ¬ (13 < i ∧ i ≤ 16) → h1.2.1 i = h.2.1 i) : CT h1 (setE S es) := by
  obtain ⟨⟨a1, a2, a3⟩, ⟨b1, b2, b3⟩, c, d, ⟨e1, e2, e3⟩, f, g⟩ := hc
  refine ⟨⟨a1.cg (fun k _ => ff _ _ (by omega)) (fa _ (by omega)), a2.cg (ff _ _ (by omega)) (fun i _ _ => fa _ (by omega)), by rw [ff _ _ (by omega)]; exact a3⟩, ⟨b1.cg (fun k _ => ff _ _ (by omega)) (fa _ (by omega)), b2.cg (ff _ _ (by omega)) (fun i _ _ => fa _ (by omega)), by rw [ff _ _ (by omega)]; exact b3⟩, he, d.cg (ff _ _ (by omega)) (fun i _ _ => fa _ (by omega)), ⟨by rw [ff _ _ (by omega)]; exact e1, by rw [ff _ _ (by omega)]; exact e2, by rw [ff _ _ (by omega)]; exact e3⟩, fun s hs => ?_, by rw [ff _ _ (by omega)]; exact g⟩
  rw [ff _ _ (by omega), ff _ _ (by omega), ff _ _ (by omega), fa _ (by omega)]
  exact f s hs
theorem CT_sn {es : List T3} {h h1 : AH} {S : ST} (hc : CT h S) (he : entR h1 17 es) (ff : ∀ i k, ¬ i = 17 → h1.1 i k = h.1 i k) (fa : ∀ i, ¬ (17 < i ∧ i ≤ 20) → h1.2.1 i = h.2.1 i) : CT h1 (setN S es) := by
  obtain ⟨⟨a1, a2, a3⟩, ⟨b1, b2, b3⟩, c, d, ⟨e1, e2, e3⟩, f, g⟩ := hc
  refine ⟨⟨a1.cg (fun k _ => ff _ _ (by omega)) (fa _ (by omega)), a2.cg (ff _ _ (by omega)) (fun i _ _ => fa _ (by omega)), by rw [ff _ _ (by omega)]; exact a3⟩, ⟨b1.cg (fun k _ => ff _ _ (by omega)) (fa _ (by omega)), b2.cg (ff _ _ (by omega)) (fun i _ _ => fa _ (by omega)), by rw [ff _ _ (by omega)]; exact b3⟩, c.cg (ff _ _ (by omega)) (fun i _ _ => fa _ (by omega)), he, ⟨by rw [ff _ _ (by omega)]; exact e1, by rw [ff _ _ (by omega)]; exact e2, by rw [ff _ _ (by omega)]; exact e3⟩, fun s hs => ?_, by rw [ff _ _ (by omega)]; exact g⟩
  rw [ff _ _ (by omega), ff _ _ (by omega), ff _ _ (by omega), fa _ (by omega)]
  exact f s hs
theorem CT_wb {w b : Nat} {h h1 : AH} {S : ST} (hc : CT h S) (e1 : h1.1 21 3 = nI w) (e2 : h1.1 21 4 = nI b) (ff : ∀ i k, ¬ (i = 21 ∧ (k = 3 ∨ k = 4)) → h1.1 i k = h.1 i k) (fa : h1.2.1 = h.2.1) : CT h1 (setWB S w b) := by
  obtain ⟨⟨a1, a2, a3⟩, ⟨b1, b2, b3⟩, c, d, ⟨-, -, e3⟩, f, g⟩ := hc
  refine ⟨⟨a1.cg (fun k _ => ff _ _ (by omega)) (by rw [fa]), a2.cg (ff _ _ (by omega)) (fun i _ _ => by rw [fa]), by rw [ff _ _ (by omega)]; exact a3⟩, ⟨b1.cg (fun k _ => ff _ _ (by omega)) (by rw [fa]), b2.cg (ff _ _ (by omega)) (fun i _ _ => by rw [fa]), by rw [ff _ _ (by omega)]; exact b3⟩, c.cg (ff _ _ (by omega)) (fun i _ _ => by rw [fa]), d.cg (ff _ _ (by omega)) (fun i _ _ => by rw [fa]), ⟨e1, e2, by rw [ff _ _ (by omega)]; exact e3⟩, fun s hs => ?_, by rw [ff _ _ (by omega)]; exact g⟩
  rw [ff _ _ (by omega), ff _ _ (by omega), ff _ _ (by omega), fa]
  exact f s hs
theorem CT_sh {s0 : Nat} {x : SH} {h h1 : AH} {S : ST} (hc : CT h S) (e1 : h1.1 (67 + 2 * s0) 1 = bI x.1 ∧ h1.1 (67 + 2 * s0) 2 = nI x.2.1 ∧ h1.1 (67 + 2 * s0) 3 = nI x.2.2.1 ∧ ∀ j, j < 60 → h1.2.1 (68 + 2 * s0) j = x.2.2.2 j) (ff : ∀ i k, ¬ i = 67 + 2 * s0 → h1.1 i k = h.1 i k) (fa : ∀ i, ¬ i = 68 + 2 * s0 → h1.2.1 i = h.2.1 i) : CT h1 (setH S s0 x) := by
  obtain ⟨⟨a1, a2, a3⟩, ⟨b1, b2, b3⟩, c, d, ⟨e4, e2, e3⟩, f, g⟩ := hc
  refine ⟨⟨a1.cg (fun k _ => ff _ _ (by omega)) (fa _ (by omega)), a2.cg (ff _ _ (by omega)) (fun i _ _ => fa _ (by omega)), by rw [ff _ _ (by omega)]; exact a3⟩, ⟨b1.cg (fun k _ => ff _ _ (by omega)) (fa _ (by omega)), b2.cg (ff _ _ (by omega)) (fun i _ _ => fa _ (by omega)), by rw [ff _ _ (by omega)]; exact b3⟩, c.cg (ff _ _ (by omega)) (fun i _ _ => fa _ (by omega)), d.cg (ff _ _ (by omega)) (fun i _ _ => fa _ (by omega)), ⟨by rw [ff _ _ (by omega)]; exact e4, by rw [ff _ _ (by omega)]; exact e2, by rw [ff _ _ (by omega)]; exact e3⟩, fun s hs => ?_, by rw [ff _ _ (by omega)]; exact g⟩
  show h1.1 (67 + 2 * s) 1 = bI (if s = s0 then x else S.2.2.2.2.1 s).1 ∧ h1.1 (67 + 2 * s) 2 = nI (if s = s0 then x else S.2.2.2.2.1 s).2.1 ∧ h1.1 (67 + 2 * s) 3 = nI (if s = s0 then x else S.2.2.2.2.1 s).2.2.1 ∧ ∀ j, j < 60 → h1.2.1 (68 + 2 * s) j = (if s = s0 then x else S.2.2.2.2.1 s).2.2.2 j
  by_cases q : s = s0
  · rw [if_pos q, q]
    exact e1
  · rw [if_neg q, ff _ _ (by omega), ff _ _ (by omega), ff _ _ (by omega), fa _ (by omega)]
    exact f s hs
theorem CT_fd {v : Int32} {h : AH} {S : ST} (hc : CT h S) : CT (am_sf h 0 12 v) (setF S v) := by
  obtain ⟨⟨a1, a2, a3⟩, ⟨b1, b2, b3⟩, c, d, ⟨e1, e2, e3⟩, f, g⟩ := hc
  have ff : ∀ i k, ¬ i = 0 → (am_sf h 0 12 v).1 i k = h.1 i k := fun i k z => sf_r _ _ _ _ z
  refine ⟨⟨a1.cg (fun k _ => ff _ _ (by omega)) rfl, a2.cg (ff _ _ (by omega)) (fun i _ _ => rfl), by rw [ff _ _ (by omega)]; exact a3⟩, ⟨b1.cg (fun k _ => ff _ _ (by omega)) rfl, b2.cg (ff _ _ (by omega)) (fun i _ _ => rfl), by rw [ff _ _ (by omega)]; exact b3⟩, c.cg (ff _ _ (by omega)) (fun i _ _ => rfl), d.cg (ff _ _ (by omega)) (fun i _ _ => rfl), ⟨by rw [ff _ _ (by omega)]; exact e1, by rw [ff _ _ (by omega)]; exact e2, by rw [ff _ _ (by omega)]; exact e3⟩, fun s hs => ?_, by rw [sf_same]; rfl⟩
  rw [ff _ _ (by omega), ff _ _ (by omega), ff _ _ (by omega)]
  exact f s hs
/-- what is kept stays, where only seen, sheets or the finding have changed -/
theorem CK_fr {h h1 : AH} {S S1 : ST} (hc : CK h S) (e0 : toldP S1 = toldP S) (e : ∀ t, altP S1 t = altP S t) (e1 : h1.1 0 11 = h.1 0 11) (ff : ∀ i k, 22 ≤ i → i ≤ 37 → h1.1 i k = h.1 i k) (fa : ∀ i, 22 ≤ i → i ≤ 36 → h1.2.1 i = h.2.1 i) (e2 : h1.2.2 = h.2.2) : CK h1 S1 := by
  obtain ⟨k1, k2⟩ := hc
  refine ⟨?_, ?_⟩
  · rw [e1, e0]
    rcases k1 with z | ⟨z, y⟩
    · exact Or.inl z
    · exact Or.inr ⟨z, y.cg (fun i k a b => ff i k (by omega) (by omega)) (fun i a b => fa i (by omega) (by omega))⟩
  · rw [ff _ _ (by omega) (by omega), e2]
    rcases k2 with z | ⟨z, y⟩
    · exact Or.inl z
    · exact Or.inr ⟨z, fun t ht => by rw [e]; exact y t ht⟩
theorem CR_fd {v : Int32} {h : AH} {S : ST} (hc : CR h S) : CR (am_sf h 0 12 v) (setF S v) := ⟨hc.1, CT_fd hc.2.1, CK_fr hc.2.2 rfl (fun _ => rfl) (sf_k _ _ (by omega)) (fun i k z _ => sf_r _ _ _ _ (by omega)) (fun _ _ _ => rfl) rfl⟩
/-! the reference's -/
theorem MT_text {tx : Nat} {bs : List Nat} {h h1 : AH} {S : ST} (ht : tx < 2) (hm : MT h S) (hx : txM h1 tx bs) (ho : h1.2.1 76 (1 - tx) = h.2.1 76 (1 - tx) ∧ ∀ j, j < 31 → h1.2.1 77 (31 * (1 - tx) + j) = h.2.1 77 (31 * (1 - tx) + j)) (h3 : (bsT S (1 - tx)).length ≤ 31) (ff : h1.1 = h.1) (fa : ∀ i, ¬ i = 76 → ¬ i = 77 → h1.2.1 i = h.2.1 i) : MT h1 (setT S tx bs) := by
  obtain ⟨a, b, c, d, e, f, g⟩ := hm
  have rest : evM h1 S.2.2.1 ∧ (h1.1 75 10 = nI S.2.1.1 ∧ h1.1 75 11 = nI S.2.1.2) ∧ (h1.1 75 43 = nI S.2.2.2.1.length ∧ ∀ (j : Nat) (x : T3), S.2.2.2.1[j]? = some x → h1.2.1 101 j = nI x.1 ∧ h1.2.1 102 j = nI x.2.1) ∧ (∀ s, s < 4 → h1.2.1 104 s = bI (!(S.2.2.2.2.1 s).1) ∧ h1.2.1 105 s = nI (S.2.2.2.2.1 s).2.1 ∧ h1.2.1 106 s = nI (S.2.2.2.2.1 s).2.2.1 ∧ ∀ j, j < 60 → h1.2.1 107 (60 * s + j) = (S.2.2.2.2.1 s).2.2.2 j) ∧ h1.1 75 52 = S.2.2.2.2.2 := by
    refine ⟨⟨by rw [ff]; exact c.1, fun j x hx => ?_⟩, by rw [ff]; exact d, ⟨by rw [ff]; exact e.1, fun j x hx => ?_⟩, fun s hs => ?_, by rw [ff]; exact g⟩
    · rw [fa _ (by omega) (by omega), fa _ (by omega) (by omega), fa _ (by omega) (by omega)]
      exact c.2 j x hx
    · rw [fa _ (by omega) (by omega), fa _ (by omega) (by omega)]
      exact e.2 j x hx
    · rw [fa _ (by omega) (by omega), fa _ (by omega) (by omega), fa _ (by omega) (by omega), fa _ (by omega) (by omega)]
      exact f s hs
  rcases (show tx = 0 ∨ tx = 1 by omega) with rfl | rfl
  · exact ⟨hx, ⟨ho.1.trans b.1, fun j hj => (ho.2 j (by have : (S.1.2).length ≤ 31 := h3; have hj : j < (S.1.2).length := hj; omega)).trans (b.2 j hj)⟩, rest⟩
  · exact ⟨⟨ho.1.trans a.1, fun j hj => (ho.2 j (by have : (S.1.1).length ≤ 31 := h3; have hj : j < (S.1.1).length := hj; omega)).trans (a.2 j hj)⟩, hx, rest⟩
theorem MT_ev {es : List T3} {h h1 : AH} {S : ST} (hm : MT h S) (he : evM h1 es) (ff : ∀ k, ¬ k = 12 → h1.1 75 k = h.1 75 k) (fa : ∀ i, ¬ (84 ≤ i ∧ i ≤ 86) → h1.2.1 i = h.2.1 i) : MT h1 (setE S es) := by
  obtain ⟨a, b, c, d, e, f, g⟩ := hm
  refine ⟨⟨by rw [fa _ (by omega)]; exact a.1, by rw [fa _ (by omega)]; exact a.2⟩, ⟨by rw [fa _ (by omega)]; exact b.1, by rw [fa _ (by omega)]; exact b.2⟩, he, ⟨by rw [ff _ (by omega)]; exact d.1, by rw [ff _ (by omega)]; exact d.2⟩, ⟨by rw [ff _ (by omega)]; exact e.1, fun j x hx => by rw [fa _ (by omega), fa _ (by omega)]; exact e.2 j x hx⟩, fun s hs => ?_, by rw [ff _ (by omega)]; exact g⟩
  rw [fa _ (by omega), fa _ (by omega), fa _ (by omega), fa _ (by omega)]
  exact f s hs
theorem MT_sn {l : List T3} {h h1 : AH} {S : ST} (hm : MT h S) (he : h1.1 75 43 = nI l.length ∧ ∀ (j : Nat) (x : T3), l[j]? = some x → h1.2.1 101 j = nI x.1 ∧ h1.2.1 102 j = nI x.2.1) (ff : ∀ k, ¬ k = 43 → h1.1 75 k = h.1 75 k) (fa : ∀ i, ¬ (101 ≤ i ∧ i ≤ 102) → h1.2.1 i = h.2.1 i) : MT h1 (setN S l) := by
  obtain ⟨a, b, c, d, e, f, g⟩ := hm
  refine ⟨⟨by rw [fa _ (by omega)]; exact a.1, by rw [fa _ (by omega)]; exact a.2⟩, ⟨by rw [fa _ (by omega)]; exact b.1, by rw [fa _ (by omega)]; exact b.2⟩, ⟨by rw [ff _ (by omega)]; exact c.1, fun j x hx => by rw [fa _ (by omega), fa _ (by omega), fa _ (by omega)]; exact c.2 j x hx⟩, ⟨by rw [ff _ (by omega)]; exact d.1, by rw [ff _ (by omega)]; exact d.2⟩, he, fun s hs => ?_, by rw [ff _ (by omega)]; exact g⟩
  rw [fa _ (by omega), fa _ (by omega), fa _ (by omega), fa _ (by omega)]
  exact f s hs
theorem MT_wb {w b : Nat} {h h1 : AH} {S : ST} (hm : MT h S) (e1 : h1.1 75 10 = nI w) (e2 : h1.1 75 11 = nI b) (ff : ∀ k, ¬ k = 10 → ¬ k = 11 → h1.1 75 k = h.1 75 k) (fa : h1.2.1 = h.2.1) : MT h1 (setWB S w b) := by
  obtain ⟨a, b, c, d, e, f, g⟩ := hm
  refine ⟨⟨by rw [fa]; exact a.1, by rw [fa]; exact a.2⟩, ⟨by rw [fa]; exact b.1, by rw [fa]; exact b.2⟩, ⟨by rw [ff _ (by omega) (by omega)]; exact c.1, by rw [fa]; exact c.2⟩, ⟨e1, e2⟩, ⟨by rw [ff _ (by omega) (by omega)]; exact e.1, by rw [fa]; exact e.2⟩, by rw [fa]; exact f, by rw [ff _ (by omega) (by omega)]; exact g⟩
theorem MT_fd {v : Int32} {h : AH} {S : ST} (hm : MT h S) : MT (am_sf h 75 52 v) (setF S v) := by
  obtain ⟨a, b, c, d, e, f, g⟩ := hm
  have ff : ∀ k, ¬ k = 52 → (am_sf h 75 52 v).1 75 k = h.1 75 k := fun k z => sf_k _ _ z
  exact ⟨a, b, ⟨by rw [ff _ (by omega)]; exact c.1, c.2⟩, ⟨by rw [ff _ (by omega)]; exact d.1, by rw [ff _ (by omega)]; exact d.2⟩, ⟨by rw [ff _ (by omega)]; exact e.1, e.2⟩, f, by rw [sf_same]; rfl⟩
theorem MT_sh {s0 : Nat} {x : SH} {h h1 : AH} {S : ST} (hs0 : s0 < 4) (hm : MT h S) (e1 : h1.2.1 104 s0 = bI (!x.1) ∧ h1.2.1 105 s0 = nI x.2.1 ∧ h1.2.1 106 s0 = nI x.2.2.1 ∧ ∀ j, j < 60 → h1.2.1 107 (60 * s0 + j) = x.2.2.2 j) (e2 : ∀ s, s < 4 → ¬ s = s0 → h1.2.1 104 s = h.2.1 104 s ∧ h1.2.1 105 s = h.2.1 105 s ∧ h1.2.1 106 s = h.2.1 106 s ∧ ∀ j, j < 60 → h1.2.1 107 (60 * s + j) = h.2.1 107 (60 * s + j)) (ff : h1.1 = h.1) (fa : ∀ i, ¬ (104 ≤ i ∧ i ≤ 108) → h1.2.1 i = h.2.1 i) : MT h1 (setH S s0 x) := by
  obtain ⟨a, b, c, d, e, f, g⟩ := hm
  refine ⟨⟨by rw [fa _ (by omega)]; exact a.1, by rw [fa _ (by omega)]; exact a.2⟩, ⟨by rw [fa _ (by omega)]; exact b.1, by rw [fa _ (by omega)]; exact b.2⟩, ⟨by rw [ff]; exact c.1, fun j x hx => by rw [fa _ (by omega), fa _ (by omega), fa _ (by omega)]; exact c.2 j x hx⟩, by rw [ff]; exact d, ⟨by rw [ff]; exact e.1, fun j x hx => by rw [fa _ (by omega), fa _ (by omega)]; exact e.2 j x hx⟩, fun s hs => ?_, by rw [ff]; exact g⟩
  show h1.2.1 104 s = bI (!(if s = s0 then x else S.2.2.2.2.1 s).1) ∧ h1.2.1 105 s = nI (if s = s0 then x else S.2.2.2.2.1 s).2.1 ∧ h1.2.1 106 s = nI (if s = s0 then x else S.2.2.2.2.1 s).2.2.1 ∧ ∀ j, j < 60 → h1.2.1 107 (60 * s + j) = (if s = s0 then x else S.2.2.2.2.1 s).2.2.2 j
  by_cases q : s = s0
  · rw [if_pos q, q]
    exact e1
  · rw [if_neg q]
    obtain ⟨y1, y2, y3, y4⟩ := e2 s hs q
    rw [y1, y2, y3]
    exact ⟨(f s hs).1, (f s hs).2.1, (f s hs).2.2.1, fun j hj => (y4 j hj).trans ((f s hs).2.2.2 j hj)⟩
