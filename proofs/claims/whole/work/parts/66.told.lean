/-! the reference reads what was told -/
theorem bS {α β : Type} (v : α) (h : AH) (f : α → AH → Option β) : am_b (some (v, h)) f = f v h := rfl
theorem vS {β : Type} (h : AH) (f : AH → Option β) : am_v (some h) f = f h := rfl
theorem oS {α β : Type} (v : α) (f : α → Option β) : am_o (some v) f = f v := rfl
theorem m_rt {n tx : Nat} {bs : List Nat} {h : AH} (ht : tx < 2) (hl : bs.length ≤ 31) (hb : ∀ b ∈ bs, b ≤ 255) (hx : txM h tx bs) (hn : 8 < n) : ∃ h', M_X9_readsText n (nI tx) h = some (svI (fltS tx bs), h') ∧ entM h' tx (entS tx bs) ∧ fr_x tx h h' := by
  have key : ∀ (y z : Int32), (tx = 0 → y = 0 ∧ z = h.1 75 6) → (¬ tx = 0 → y = h.1 75 2 ∧ z = 0) → ∃ h', L_X9_readsText_37 n n (nI tx) (nI 0) (nI (4 * 0)) (am_sf (am_sf h 75 2 y) 75 6 z) = some (svI (fltS tx bs), h') ∧ entM h' tx (entS tx bs) ∧ fr_x tx h h' := by
    intro y z q1 q2
    have fr0 : fr_x tx h (am_sf (am_sf h 75 2 y) 75 6 z) ∧ (am_sf (am_sf h 75 2 y) 75 6 z).1 75 (mF tx) = 0 := by
      by_cases c0 : tx = 0
      · obtain ⟨qa, qb⟩ := q1 c0
        subst c0
        refine ⟨⟨fun i k w => ?_, fun _ _ => rfl, rfl⟩, ?_⟩
        · have w : ¬ (i = 75 ∧ k = 2) := w
          by_cases c6 : i = 75 ∧ k = 6
          · rw [c6.1, c6.2, sf_same, qb]
          · rw [sf_n c6, sf_n w]
        · show (am_sf (am_sf h 75 2 y) 75 6 z).1 75 2 = 0
          rw [sf_k _ _ (by omega), sf_same, qa]
      · obtain ⟨qa, qb⟩ := q2 c0
        have c1 : tx = 1 := by omega
        subst c1
        refine ⟨⟨fun i k w => ?_, fun _ _ => rfl, rfl⟩, ?_⟩
        · have w : ¬ (i = 75 ∧ k = 6) := w
          rw [sf_n w]
          by_cases c6 : i = 75 ∧ k = 2
          · rw [c6.1, c6.2, sf_same, qa]
          · rw [sf_n c6]
        · show (am_sf (am_sf h 75 2 y) 75 6 z).1 75 6 = 0
          rw [sf_same, qb]
    obtain ⟨h', a1, a2, a3⟩ := m_rt37 (N := n) (tx := tx) (bs := bs) ht hl hb 8 0 n (am_sf (am_sf h 75 2 y) 75 6 z) (by omega) hn (by omega) rfl (fun j x hx => by cases hx) hx fr0.2
    exact ⟨h', a1, a2, fr0.1.tr a3⟩
  unfold M_X9_readsText B_X9_readsText_17
  by_cases c0 : tx = 0
  · rw [if_pos (by rw [c0]; rfl), if_neg (by rw [c0]; decide)]
    exact key 0 (h.1 75 6) (fun _ => ⟨rfl, rfl⟩) (fun w => absurd c0 w)
  · rw [if_neg (by rw [show (0 : Int32) = nI 0 from rfl]; exact kF c0 (by omega) (by omega)), if_pos (by rw [show tx = 1 by omega]; rfl)]
    exact key (h.1 75 2) 0 (fun w => absurd w c0) (fun _ => ⟨rfl, rfl⟩)
def fr_d (h h' : AH) : Prop := (∀ i k, ¬ (i = 75 ∧ (k = 2 ∨ k = 6)) → h'.1 i k = h.1 i k) ∧ (∀ i, ¬ (78 ≤ i ∧ i ≤ 83) → h'.2.1 i = h.2.1 i) ∧ h'.2.2 = h.2.2
theorem fr_x.d {tx : Nat} {h h' : AH} (ht : tx < 2) (hf : fr_x tx h h') : fr_d h h' := by
  have := mA_b ht
  refine ⟨fun i k z => hf.1 _ _ (fun w => z ?_), fun i z => hf.2.1 _ (by omega), hf.2.2⟩
  unfold mF at w
  omega
theorem fr_d.s {h h' : AH} (hf : fr_d h h') : fr_S h h' := ⟨fun k z => hf.1 _ _ (by omega), fun i z => hf.2.1 _ (by omega)⟩
theorem m_faultOf {n : Nat} {S : ST} {h : AH} (a : Int32) (ho : okST S) (hm : MT h S) (hn : 8 < n) : ∃ h', M_X9_faultOf n a h = some ((if a = 0 then svI (fltS 0 S.1.1) else svI (fltS 1 S.1.2)), h') ∧ entM h' 0 (entS 0 S.1.1) ∧ entM h' 1 (entS 1 S.1.2) ∧ fr_d h h' := by
  unfold M_X9_faultOf
  obtain ⟨h1, a1, a2, a3⟩ := m_rt (n := n) (tx := 0) (h := h) (by omega) ho.1.1 ho.1.2 hm.1 hn
  have a1 : M_X9_readsText n 0 h = some (svI (fltS 0 S.1.1), h1) := a1
  rw [a1, bS]
  have hm1 := hm.fr (a3.d (by omega)).s
  obtain ⟨h2, b1, b2, b3⟩ := m_rt (n := n) (tx := 1) (h := h1) (by omega) ho.2.1.1 ho.2.1.2 hm1.2.1 hn
  have b1 : M_X9_readsText n 1 h1 = some (svI (fltS 1 S.1.2), h2) := b1
  rw [b1, bS]
  have c3 : entM h2 0 (entS 0 S.1.1) := ⟨by rw [b3.1 _ _ (by decide)]; exact a2.1, fun j x hx => by rw [b3.2.1 _ (by decide), b3.2.1 _ (by decide), b3.2.1 _ (by decide)]; exact a2.2 j x hx⟩
  have d1 := a3.d (show 0 < 2 by omega)
  have d2 := b3.d (show 1 < 2 by omega)
  refine ⟨h2, ?_, c3, b2, fun i k z => (d2.1 i k z).trans (d1.1 i k z), fun i z => (d2.2.1 i z).trans (d1.2.1 i z), d2.2.2.trans d1.2.2⟩
  show (if a = 0 then some (svI (fltS 0 S.1.1), h2) else some (svI (fltS 1 S.1.2), h2)) = _
  split <;> rfl
theorem m_reads {n : Nat} {S : ST} {h : AH} (ho : okST S) (hm : MT h S) (hn : 8 < n) : ∃ h', M_X9_reads n h = some h' ∧ entM h' 0 (entS 0 S.1.1) ∧ entM h' 1 (entS 1 S.1.2) ∧ fr_d h h' := by
  unfold M_X9_reads
  obtain ⟨h1, a1, a2⟩ := m_faultOf (n := n) 0 ho hm hn
  rw [a1]
  exact ⟨h1, rfl, a2⟩
theorem isIn0 : ∀ j : Fin 8, M_X9_isIn 0 (nI j.val) = 0 := by decide +kernel
/-- the told plan stands in the reference -/
def fr_a (h h' : AH) : Prop := (∀ i k, ¬ (i = 75 ∧ (k = 2 ∨ k = 6 ∨ k = 16 ∨ k = 20 ∨ k = 21)) → h'.1 i k = h.1 i k) ∧ (∀ i, ¬ (78 ≤ i ∧ i ≤ 83) → ¬ (87 ≤ i ∧ i ≤ 89) → h'.2.1 i = h.2.1 i) ∧ h'.2.2 = h.2.2
theorem fr_a.s {h h' : AH} (hf : fr_a h h') : fr_S h h' := ⟨fun k z => hf.1 _ _ (by omega), fun i z => hf.2.1 _ (by omega) (by omega)⟩
theorem toldP_ok {S : ST} (ho : okST S) : okP (toldP S) := ⟨entS_ok ho.1.1, entS_ok ho.2.1.1, ho.2.2.2.2.1, ho.2.2.1, ho.2.2.2.1⟩
set_option maxHeartbeats 4000000 in
theorem m_asTold {n : Nat} {S : ST} {h : AH} (ho : okST S) (hm : MT h S) (hn : 8 < n) : ∃ h', M_X9_asTold n h = some h' ∧ mplan h' (toldP S) ∧ entM h' 1 (entS 1 S.1.2) ∧ fr_a h h' := by
  have h8 : (entS 1 S.1.2).length ≤ 8 := (entS_ok (tx := 1) ho.2.1.1).1
  unfold M_X9_asTold
  obtain ⟨h1, a1, a2, a3, a4⟩ := m_reads (n := n) ho hm hn
  rw [a1]
  have hm1 := hm.fr a4.s
  have e6 : h1.1 75 6 = nI (entS 1 S.1.2).length := a3.1
  show ∃ h', L_X9_asTold_14 n n 0 (am_sf h1 75 16 (h1.1 75 6)) = some h' ∧ _
  obtain ⟨m', q1, h2, e1, e2, e3, e4, e5, e7⟩ := loopV (ρ := Int32) (L := fun m q h => L_X9_asTold_14 n m q h) (N := (entS 1 S.1.2).length) (I := fun k q h2 => q = nI k ∧ (∀ j x, j < k → (entS 1 S.1.2)[j]? = some x → h2.2.1 87 j = nI x.1 ∧ h2.2.1 88 j = nI x.2.1 ∧ h2.2.1 89 j = nI x.2.2) ∧ h2.1 = (am_sf h1 75 16 (h1.1 75 6)).1 ∧ (∀ i, ¬ (87 ≤ i ∧ i ≤ 89) → h2.2.1 i = h1.2.1 i) ∧ h2.2.2 = h1.2.2) (by
    intro m k q h2 hk hI
    obtain ⟨i1, i2, i3, i4, i5⟩ := hI
    subst i1
    obtain ⟨x, hx, -⟩ := dropC (l := entS 1 S.1.2) (k := k) hk
    have hax := a3.2 k x hx
    have x1 : h1.2.1 81 k = nI x.1 := hax.1
    have x2 : h1.2.1 82 k = nI x.2.1 := hax.2.1
    have x3 : h1.2.1 83 k = nI x.2.2 := hax.2.2
    rw [L_X9_asTold_14, i3, sf_k _ _ (by omega), e6, if_neg (nI_ge (by omega) (by omega)), am_inK (show k < 9 by omega) (by omega), am_inK (show k < 8 by omega) (by omega), nK (by omega), i4 81 (by omega), i4 82 (by omega), i4 83 (by omega), x1, x2, x3, nI_1]
    simp only [cond_true]
    refine ⟨nI (k + 1), _, rfl, rfl, ?_, by rw [← e6]; exact i3, ?_, i5⟩
    · intro j y hj hy
      rw [sa_n _ _ (by omega), sa_n _ _ (by omega), sa_s, sa_n _ _ (by omega), sa_s, sa_s]
      unfold upd
      by_cases hjk : j = k
      · subst hjk
        rw [hx] at hy
        cases hy
        rw [if_pos rfl, if_pos rfl, if_pos rfl]
        exact ⟨rfl, rfl, rfl⟩
      · rw [if_neg hjk, if_neg hjk, if_neg hjk]
        exact i2 j y (by omega) hy
    · intro i z
      rw [sa_n _ _ (by omega), sa_n _ _ (by omega), sa_n _ _ (by omega)]
      exact i4 i z) (entS 1 S.1.2).length 0 n 0 (am_sf h1 75 16 (h1.1 75 6)) (by omega) (by omega) ⟨rfl, fun j x hj => by omega, rfl, fun _ _ => rfl, rfl⟩
  subst e2
  rw [e1, L_X9_asTold_14, e4, sf_k _ _ (by omega), e6, if_pos (nI_le (Nat.le_refl _) (by omega))]
  have fld : ∀ i k, ¬ (i = 75 ∧ (k = 16 ∨ k = 20 ∨ k = 21)) → (am_sf (am_sf h2 75 20 ((am_sf h1 75 16 (nI (entS 1 S.1.2).length)).1 75 10)) 75 21 0).1 i k = h1.1 i k := fun i k z => by
    rw [sf_n (by omega), sf_n (by omega), e4, sf_n (by omega)]
  refine ⟨_, rfl, ⟨⟨?_, fun j x hx => ?_⟩, ⟨?_, fun j x hx => ?_⟩, ⟨?_, fun j x hx => ?_⟩, ?_, ?_, ?_⟩, ⟨?_, fun j x hx => ?_⟩, fun i k z => ?_, fun i z y => ?_, ?_⟩
  · rw [fld _ _ (by omega)]
    exact a2.1
  · rw [sf_2, sf_2, e5 _ (by omega), e5 _ (by omega), e5 _ (by omega)]
    exact a2.2 j x hx
  · rw [sf_k _ _ (by omega), sf_k _ _ (by omega), e4, sf_same, e6]
    rfl
  · exact e3 j x ((List.getElem?_eq_some_iff.mp hx).1) hx
  · rw [fld _ _ (by omega)]
    exact hm1.2.2.1.1
  · rw [sf_2, sf_2, e5 _ (by omega), e5 _ (by omega), e5 _ (by omega)]
    exact hm1.2.2.1.2 j x hx
  · rw [sf_k _ _ (by omega), sf_same, sf_k _ _ (by omega)]
    exact hm1.2.2.2.1.1
  · rw [fld _ _ (by omega)]
    exact hm1.2.2.2.1.2
  · rw [sf_same]
    exact fun j hj => ⟨fun _ => rfl, fun _ => isIn0 ⟨j, hj⟩⟩
  · rw [fld _ _ (by unfold mF; omega)]
    exact a3.1
  · rw [sf_2, sf_2, e5 _ (by unfold mA; omega), e5 _ (by unfold mA; omega), e5 _ (by unfold mA; omega)]
    exact a3.2 j x hx
  · rw [fld _ _ (by omega)]
    exact a4.1 _ _ (by omega)
  · rw [sf_2, sf_2, e5 _ y]
    exact a4.2.1 _ z
  · rw [sf_2, sf_2, e7]
    exact a4.2.2
theorem m_runsTold {n : Nat} {S : ST} {h : AH} (ho : okST S) (hm : MT h S) (hn : 24 < n) : ∃ h', M_X9_runsTold n h = some h' ∧ mevI h' (toldP S) 24 ∧ mplan h' (toldP S) ∧ entM h' 1 (entS 1 S.1.2) ∧ MT h' S := by
  unfold M_X9_runsTold
  obtain ⟨h1, a1, a2, a3, a4⟩ := m_asTold (n := n) ho hm (by omega)
  rw [a1]
  obtain ⟨h2, b1, b2, b3⟩ := m_runs (n := n) (toldP_ok ho) hn a2
  show ∃ h', (am_v (M_X9_runs n h1) fun h2 => _) = _ ∧ _
  rw [b1]
  exact ⟨h2, rfl, b2, a2.fr b3, ⟨by rw [b3.1 _ _ (by unfold mF; omega)]; exact a3.1, fun j x hx => by rw [b3.2.1 _ (by unfold mA; omega), b3.2.1 _ (by unfold mA; omega), b3.2.1 _ (by unfold mA; omega)]; exact a3.2 j x hx⟩, (hm.fr a4.s).fr b3.s⟩
