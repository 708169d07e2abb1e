/-! the told evening of the class, and its trials -/
theorem evI.cg {h h' : AH} {r t : Nat} {P : PL} (he : evI h r P t) (e1 : ∀ i k, r ≤ i → i ≤ r + 14 → h'.1 i k = h.1 i k) (e2 : ∀ i, r ≤ i → i ≤ r + 14 → h'.2.1 i = h.2.1 i) : evI h' r P t := by
  obtain ⟨a1, a2, a3, a4, a5, a6, a7, T, a8, a9⟩ := he
  refine ⟨fun u hu => ?_, fun u hu => ?_, ?_, ?_, ?_, ?_, ?_, T, a8, a9.cg (fun k => e1 _ _ (by omega) (by omega)) (fun i _ _ => e2 _ (by omega) (by omega))⟩
  · rw [e2 _ (by omega) (by omega), e2 _ (by omega) (by omega), e2 _ (by omega) (by omega), e2 _ (by omega) (by omega), e2 _ (by omega) (by omega), e2 _ (by omega) (by omega), e2 _ (by omega) (by omega)]
    exact a1 u hu
  · rw [e2 _ (by omega) (by omega)]
    exact a2 u hu
  · rw [e1 _ _ (by omega) (by omega)]
    exact a3
  · rw [e1 _ _ (by omega) (by omega)]
    exact a4
  · rw [e1 _ _ (by omega) (by omega)]
    exact a5
  · rw [e1 _ _ (by omega) (by omega)]
    exact a6
  · rw [e1 _ _ (by omega) (by omega)]
    exact a7
theorem skR0 : ∀ j : Fin 8, (((0 : Int32) >>> (nI j.val &&& 31)) &&& 1) = 0 := by decide +kernel
theorem skR_f : skR 0 (fun _ => false) := fun j hj => ⟨fun _ => rfl, fun _ => skR0 ⟨j, hj⟩⟩
theorem told_planR {h : AH} {S : ST} (hc : CT h S) : planR h 21 (toldP S) := ⟨hc.1.2.1, hc.2.1.2.1, hc.2.2.1, hc.2.2.2.2.1.1, hc.2.2.2.2.1.2.1, by rw [hc.2.2.2.2.1.2.2]; exact skR_f⟩
theorem lna22 : am_lna (22 + 4) = 24 ∧ am_lna (22 + 11) = 8 ∧ am_lna (22 + 12) = 8 ∧ am_lna (52 + 4) = 24 ∧ am_lna (52 + 11) = 8 ∧ am_lna (52 + 12) = 8 := by decide +kernel
theorem c_told {n : Nat} {S : ST} {h : AH} (hc : CR h S) (hn : 24 < n) : ∃ h', M_X8_toldEvening n h = some h' ∧ CR h' S ∧ evI h' 22 (toldP S) 24 := by
  obtain ⟨ho, ht, hk⟩ := id hc
  unfold M_X8_toldEvening
  rcases hk.1 with k0 | ⟨k1, k2⟩
  · rw [if_pos k0]
    obtain ⟨h1, a1, a2, a3⟩ := c_pass (n := n) (r := 22) (r1 := 21) (toldP_ok ho) (by unfold hpl; decide) hn lna22.1 lna22.2.1 lna22.2.2.1 (told_planR ht)
    rw [a1, vS]
    have e2 : evI (am_sf h1 0 11 1) 22 (toldP S) 24 := a2.cg (fun i k z _ => sf_r _ _ _ _ (by omega)) (fun _ _ _ => rfl)
    refine ⟨_, rfl, ⟨ho, ht.fr ⟨fun i k z => ?_, ?_, fun i z => ?_⟩, Or.inr ⟨by rw [sf_same], e2⟩, ?_⟩, e2⟩
    · rw [sf_r _ _ _ _ (by omega), a3.1 _ _ (by omega)]
    · rw [sf_k _ _ (by omega), a3.1 _ _ (by omega)]
    · rw [sf_2, a3.2.1 _ (by omega)]
    · rw [sf_r _ _ _ _ (by omega), a3.1 _ _ (by omega), sf_2, a3.2.2]
      exact hk.2
  · rw [if_neg (by rw [k1]; decide)]
    exact ⟨h, rfl, hc, k2⟩
theorem cpok8 : am_cpok 0 0 8 8 8 = true := by decide +kernel
theorem c_like1 {r0 r1 : Nat} {l : List T3} {h : AH} (he : entR h r1 l) (hl : l.length ≤ 8) (hr : r1 + 3 < r0) : ∃ h', M_X1_becomeLike r0 r1 h = some h' ∧ entR h' r0 l ∧ (∀ i k, ¬ (i = r0 ∧ k = 3) → h'.1 i k = h.1 i k) ∧ (∀ i, ¬ (r0 < i ∧ i ≤ r0 + 3) → h'.2.1 i = h.2.1 i) ∧ h'.2.2 = h.2.2 := by
  unfold M_X1_becomeLike
  rw [cpok8, cp0n, cp8m]
  simp only [cond_true]
  refine ⟨_, rfl, ⟨?_, fun j x hx => ?_⟩, fun i k z => ?_, fun i z => ?_, rfl⟩
  · rw [sf_same]
    exact he.1
  · have hj := (List.getElem?_eq_some_iff.mp hx).1
    rw [sf_2, sa_n _ _ (by omega), sa_n _ _ (by omega), sa_s, sa_n _ _ (by omega), sa_s, sa_s]
    unfold va_cpy
    rw [if_pos ⟨by omega, by omega⟩, if_pos ⟨by omega, by omega⟩, if_pos ⟨by omega, by omega⟩, show 0 + (j - 0) = j by omega]
    exact he.2 j x hx
  · rw [sf_n z]
    rfl
  · rw [sf_2, sa_n _ _ (by omega), sa_n _ _ (by omega), sa_n _ _ (by omega)]
def fr_o (h h' : AH) : Prop := (∀ i k, ¬ (39 ≤ i ∧ i ≤ 51) → h'.1 i k = h.1 i k) ∧ (∀ i, ¬ (39 ≤ i ∧ i ≤ 51) → h'.2.1 i = h.2.1 i) ∧ h'.2.2 = h.2.2
theorem c_like {S : ST} {h : AH} (ho : okST S) (ht : CT h S) : ∃ h', M_X4_becomeLike 39 21 h = some h' ∧ (entR h' 40 (entS 0 S.1.1) ∧ entR h' 44 (entS 1 S.1.2) ∧ entR h' 48 S.2.2.1) ∧ (h'.1 39 3 = nI S.2.1.1 ∧ h'.1 39 4 = nI S.2.1.2 ∧ h'.1 39 5 = 0) ∧ fr_o h h' := by
  have hp := toldP_ok ho
  unfold M_X4_becomeLike
  obtain ⟨h1, a1, a2, a3, a4, a5⟩ := c_like1 (r0 := pl_f 39) (r1 := pl_f 21) ht.1.2.1 hp.1.1 (by decide)
  have f40 : pl_f 39 = 40 := rfl
  have f44 : pl_g 39 = 44 := rfl
  have f48 : pl_e 39 = 48 := rfl
  rw [f40] at a1 a2 a3 a4 ⊢
  rw [a1, vS]
  obtain ⟨h2, b1, b2, b3, b4, b5⟩ := c_like1 (r0 := pl_g 39) (r1 := pl_g 21) (h := h1) (ht.2.1.2.1.cg (a3 _ _ (by decide)) (fun i z y => a4 _ (by omega))) hp.2.1.1 (by decide)
  rw [f44] at b1 b2 b3 b4 ⊢
  rw [b1, vS]
  obtain ⟨h3, c1, c2, c3, c4, c5⟩ := c_like1 (r0 := pl_e 39) (r1 := pl_e 21) (h := h2) ((ht.2.2.1.cg (a3 _ _ (by decide)) (fun i z y => a4 _ (by omega))).cg (b3 _ _ (by decide)) (fun i z y => b4 _ (by omega))) hp.2.2.1.1 (by decide)
  rw [f48] at c1 c2 c3 c4 ⊢
  rw [c1, vS]
  have d21 : ∀ k, h3.1 21 k = h.1 21 k := fun k => by rw [c3 _ _ (by omega), b3 _ _ (by omega), a3 _ _ (by omega)]
  have d40 : entR h3 40 (entS 0 S.1.1) := (a2.cg (b3 _ _ (by decide)) (fun i z y => b4 _ (by omega))).cg (c3 _ _ (by decide)) (fun i z y => c4 _ (by omega))
  have d44 : entR h3 44 (entS 1 S.1.2) := b2.cg (c3 _ _ (by decide)) (fun i z y => c4 _ (by omega))
  have fs : ∀ i k, ¬ i = 39 → (am_sf (am_sf (am_sf h3 39 3 (h3.1 21 3)) 39 4 (h3.1 21 4)) 39 5 (h3.1 21 5)).1 i k = h3.1 i k := fun i k z => by rw [sf_r _ _ _ _ z, sf_r _ _ _ _ z, sf_r _ _ _ _ z]
  refine ⟨_, rfl, ⟨d40.cg (fs _ _ (by omega)) (fun _ _ _ => rfl), d44.cg (fs _ _ (by omega)) (fun _ _ _ => rfl), c2.cg (fs _ _ (by omega)) (fun _ _ _ => rfl)⟩, ⟨?_, ?_, ?_⟩, fun i k z => ?_, fun i z => ?_, ?_⟩
  · rw [sf_k _ _ (by omega), sf_k _ _ (by omega), sf_same, d21]
    exact ht.2.2.2.2.1.1
  · rw [sf_k _ _ (by omega), sf_same, d21]
    exact ht.2.2.2.2.1.2.1
  · rw [sf_same, d21]
    exact ht.2.2.2.2.1.2.2
  · rw [fs _ _ (by omega), c3 _ _ (by omega), b3 _ _ (by omega), a3 _ _ (by omega)]
  · rw [sf_2, sf_2, sf_2, c4 _ (by omega), b4 _ (by omega), a4 _ (by omega)]
  · rw [sf_2, sf_2, sf_2, c5, b5, a5]
theorem modN {a b : Nat} (hb : b < 2 ^ 31) (ha : a < 2 ^ 31) : nI a - nI a / nI b * nI b = nI (a % b) := by
  rw [nI_div ha hb, nI_mul, nI_sub (Nat.div_mul_le_self a b)]
  congr 1
  have := Nat.div_add_mod a b
  rw [Nat.mul_comm] at this
  omega
theorem mod_okE {l : List T3} {i kinds lo hi : Nat} {f : T3 → T3} (h : okE l kinds lo hi) (hf : ∀ x : T3, x.1 < 24 ∧ x.2.1 < kinds ∧ lo ≤ x.2.2 ∧ x.2.2 ≤ hi → (f x).1 < 24 ∧ (f x).2.1 < kinds ∧ lo ≤ (f x).2.2 ∧ (f x).2.2 ≤ hi) : okE (l.modify i f) kinds lo hi := by
  refine ⟨by rw [List.length_modify]; exact h.1, fun x hx => ?_⟩
  obtain ⟨j, hj⟩ := List.mem_iff_getElem?.mp hx
  rw [List.getElem?_modify] at hj
  cases hl : l[j]? with
  | none =>
    rw [hl] at hj
    cases hj
  | some y =>
    rw [hl] at hj
    have hy := h.2 y (List.mem_of_getElem? hl)
    have hj : some (if i = j then f y else y) = some x := hj
    cases hj
    split
    · exact hf y hy
    · exact hy
theorem altP_ok {S : ST} {t : Nat} (ho : okST S) (ht : t < 503) : okP (altP S t) := by
  have hp := toldP_ok ho
  unfold altP
  by_cases c1 : t < 256
  · rw [if_pos c1]
    exact hp
  · rw [if_neg c1]
    by_cases c2 : t < 287
    · rw [if_pos c2]
      exact ⟨hp.1, hp.2.1, hp.2.2.1, by show t - 256 ≤ 30; omega, hp.2.2.2.2⟩
    · rw [if_neg c2]
      by_cases c3 : t < 311
      · rw [if_pos c3]
        exact ⟨mod_okE hp.1 (fun x hx => ⟨hx.1, by show (t - 287) % 3 < 3; omega, hx.2.2⟩), hp.2⟩
      · rw [if_neg c3]
        exact ⟨hp.1, mod_okE hp.2.1 (fun x hx => ⟨by show (t - 311) % 24 < 24; omega, hx.2⟩), hp.2.2⟩
theorem entR_mod {h : AH} {r a i : Nat} {l : List T3} {v : Int32} {f : T3 → T3} (he : entR h r l) (ha : a = r + 1 ∨ a = r + 2) (h1 : a = r + 1 → ∀ x : T3, v = nI (f x).1 ∧ (f x).2 = x.2) (h2 : a = r + 2 → ∀ x : T3, v = nI (f x).2.1 ∧ (f x).1 = x.1 ∧ (f x).2.2 = x.2.2) : entR (am_sa h a (upd (h.2.1 a) i v)) r (l.modify i f) := by
  refine ⟨by rw [List.length_modify]; exact he.1, fun j x hx => ?_⟩
  rw [List.getElem?_modify] at hx
  cases hl : l[j]? with
  | none =>
    rw [hl] at hx
    cases hx
  | some y =>
    rw [hl] at hx
    obtain ⟨e1, e2, e3⟩ := he.2 j y hl
    have hx : some (if i = j then f y else y) = some x := hx
    cases hx
    rcases ha with ha | ha
    · subst ha
      obtain ⟨w1, w2⟩ := h1 rfl y
      rw [sa_s, sa_n _ _ (by omega), sa_n _ _ (by omega)]
      unfold upd
      by_cases c : i = j
      · simp only [if_pos c.symm, if_pos c, w2]
        exact ⟨w1, e2, e3⟩
      · simp only [if_neg (fun z : j = i => c z.symm), if_neg c]
        exact ⟨e1, e2, e3⟩
    · subst ha
      obtain ⟨w1, w2, w3⟩ := h2 rfl y
      rw [sa_s, sa_n _ _ (by omega), sa_n _ _ (by omega)]
      unfold upd
      by_cases c : i = j
      · simp only [if_pos c.symm, if_pos c, w2, w3]
        exact ⟨e1, w1, e3⟩
      · simp only [if_neg (fun z : j = i => c z.symm), if_neg c]
        exact ⟨e1, e2, e3⟩
theorem skR_n {t : Nat} (ht : t < 256) : skR (nI t) (fun j => t.testBit j) := fun j hj => by
  rw [bit1 (by omega) (by omega)]
  show nI _ = 0 ↔ t.testBit j = false
  cases t.testBit j <;> decide
