/-! the reference: goAway -/
theorem pat5_lt {t a : Nat} (ht : t < 24) (ha : a ≤ 24) : (nI t - nI a < 5) ↔ t < a + 5 := by
  rw [show (5 : Int32) = zI 5 from rfl, zI_n, zI_n, zI_sub, zI_lt (by omega) (by omega) (by omega) (by omega)]
  omega
theorem lnOK.lose {t : Nat} {s : LS9} (h : lnOK s) : lnOK (sp_loseG t 8 s) := by
  obtain ⟨h1, h2, h3, h4⟩ := h
  refine ⟨h1.filter _, fun j hj => h2 j (List.mem_filter.mp hj).1, fun j hj => ?_, fun j hj => ?_⟩
  · show (if j < 8 ∧ s.2.1 j = 1 ∧ imp t s j = true then 4 else s.2.1 j) = 1 ↔ j ∈ s.1.filter _
    rw [List.mem_filter, ← h3 j hj]
    by_cases c : s.2.1 j = 1
    · cases ci : imp t s j
      · rw [if_neg (by simp)]
        simp [c]
      · rw [if_pos ⟨hj, c, rfl⟩]
        simp [hj]
    · rw [if_neg (fun z => c z.2.1)]
      simp [c]
  · show (if j < 8 ∧ s.2.1 j = 1 ∧ imp t s j = true then 4 else s.2.1 j) ≤ 4 ∧ s.2.2.2.1 j ≤ 24
    refine ⟨?_, (h4 j hj).2⟩
    split
    · omega
    · exact (h4 j hj).1
set_option maxHeartbeats 8000000 in
theorem m_away {n t : Nat} {h : AH} {s : LS9} (ht : t < 24) (hc : mcm h s) (hn : 8 < n) : ∃ h', M_X9_goAway n (nI t) h = some h' ∧ mcm h' (sp_loseG t 8 s) ∧ fr_g h h' := by
  obtain ⟨c1, c2, c3, c4, c5, c6, c7⟩ := id hc
  have hlen := c7.len
  unfold M_X9_goAway
  rw [c5]
  obtain ⟨m', q1, h1, e1, e2, e3, e4, e5, e6, e7⟩ := loopV (ρ := Int32) (L := fun m q h => L_X9_goAway_7 n m (nI t) q h) (N := s.1.length) (I := fun k q h1 => q = zI ((s.1.length : Int) - k - 1) ∧ arrL h1 (s.1.take (s.1.length - k) ++ (s.1.drop (s.1.length - k)).filter (fun j => !imp t s j)) ∧ (∀ j, j < 8 → h1.2.1 91 j = nI (if j ∈ s.1.drop (s.1.length - k) ∧ imp t s j = true then 4 else s.2.1 j)) ∧ (∀ i j, ¬ (i = 75 ∧ j = 29) → h1.1 i j = h.1 i j) ∧ (∀ i, ¬ (i = 90 ∨ i = 91) → h1.2.1 i = h.2.1 i) ∧ h1.2.2 = h.2.2) (by
    intro m k q h1 hk hI
    obtain ⟨i1, i2, i3, i4, i5, i6⟩ := hI
    obtain ⟨c, hcc⟩ : ∃ c, s.1.length - k = c + 1 := ⟨s.1.length - k - 1, by omega⟩
    rw [hcc] at i2 i3
    have hcl : c < s.1.length := by omega
    obtain ⟨x, hx, hdr⟩ := dropC (l := s.1) (k := c) hcl
    have htk : s.1.take (c + 1) = s.1.take c ++ [x] := by
      rw [List.take_succ, hx]
      rfl
    have hx1 := List.mem_of_getElem? hx
    have hx8 := c7.2.1 x hx1
    have hsx := (c7.2.2.2 x hx8).2
    have hq : q = nI c := by rw [i1, zI_n]; congr 1; omega
    have hq2 : zI ((s.1.length : Int) - ((k + 1 : Nat) : Int) - 1) = nI c + (-1) := by
      rw [lit_m1, zI_n, zI_add]
      congr 1
      omega
    have htl : (s.1.take c).length = c := by rw [List.length_take]; omega
    have hidx : (s.1.take (c + 1) ++ (s.1.drop (c + 1)).filter (fun j => !imp t s j))[c]? = some x := by
      rw [htk, List.append_assoc, List.getElem?_append_right (by omega), htl, Nat.sub_self]
      rfl
    have hnx : x ∉ s.1.drop (c + 1) := by
      have := c7.1
      rw [← List.take_append_drop c s.1, hdr, List.nodup_append] at this
      exact (List.nodup_cons.mp this.2.1).1
    subst hq
    rw [L_X9_goAway_7, if_neg (nI_pos (by omega)), am_inK (show c < 8 by omega) (by omega), nK (show c ≤ 100000 by omega), i2.2 c x hidx, am_inK hx8 (by omega), nK (show x ≤ 100000 by omega), i5 94 (by omega), c3 x hx8]
    simp only [cond_true]
    rw [show s.1.length - (k + 1) = c by omega, hq2, hdr]
    by_cases cp : t < s.2.2.2.1 x + 5
    · have hi : imp t s x = false := decide_eq_false (by omega)
      rw [if_pos ((pat5_lt ht hsx).mpr cp)]
      refine ⟨_, h1, rfl, rfl, ?_, ?_, i4, i5, i6⟩
      · rw [List.filter_cons_of_pos (by rw [hi]; rfl)]
        rw [htk, List.append_assoc] at i2
        exact i2
      · intro j hj
        rw [i3 j hj]
        congr 1
        by_cases hjx : j = x
        · subst hjx
          rw [if_neg (fun z => by rw [hi] at z; cases z.2), if_neg (fun z => by rw [hi] at z; cases z.2)]
        · simp [hjx]
    · have hi : imp t s x = true := decide_eq_true (by omega)
      rw [if_neg (fun z => cp ((pat5_lt ht hsx).mp z))]
      obtain ⟨h2, g1, g2, g3⟩ := m_leaves (n := n) (p := c) (l := s.1.take (c + 1) ++ (s.1.drop (c + 1)).filter (fun j => !imp t s j)) (h := am_sa h1 91 (upd (h1.2.1 91) x 4)) i2 (by rw [List.length_append, htk, List.length_append, htl]; exact Nat.lt_of_lt_of_le (Nat.lt_succ_self c) (Nat.le_add_right _ _)) (by
        rw [List.length_append]
        have f1 := List.length_filter_le (fun j => !imp t s j) (s.1.drop (c + 1))
        rw [List.length_drop] at f1
        have f2 : (s.1.take (c + 1)).length ≤ c + 1 := by rw [List.length_take]; omega
        omega) hn
      rw [g1]
      refine ⟨_, h2, rfl, rfl, ?_, ?_, ?_, ?_, ?_⟩
      · rw [List.filter_cons_of_neg (by rw [hi]; simp)]
        have e : (s.1.take (c + 1) ++ (s.1.drop (c + 1)).filter (fun j => !imp t s j)).eraseIdx c = s.1.take c ++ (s.1.drop (c + 1)).filter (fun j => !imp t s j) := by
          rw [htk, List.append_assoc, List.eraseIdx_append_of_length_le (by omega), htl, Nat.sub_self]
          rfl
        rw [e] at g2
        exact g2
      · intro j hj
        rw [g3.2.1 _ (by omega), sa_s]
        unfold upd
        by_cases hjx : j = x
        · subst hjx
          rw [if_pos rfl, if_pos ⟨List.mem_cons_self, hi⟩]
          rfl
        · rw [if_neg hjx, i3 j hj]
          congr 1
          simp [hjx]
      · intro a b z
        rw [g3.1 _ _ z, sa_1]
        exact i4 a b z
      · intro a z
        rw [g3.2.1 _ (by omega), sa_n _ _ (by omega)]
        exact i5 a z
      · rw [g3.2.2, sa_2]
        exact i6) s.1.length 0 n (nI s.1.length - 1) h (by omega) (by omega) ⟨by rw [zI_n, show (1 : Int32) = zI 1 from rfl, zI_sub]; congr 1, by rw [Nat.sub_zero, List.take_length, List.drop_length]; exact ⟨by rw [c5]; simp, fun j x hx => c6 j x (by simpa using hx)⟩, fun j hj => by rw [Nat.sub_zero, List.drop_length, if_neg (by simp)]; exact c1 j hj, fun _ _ _ => rfl, fun _ _ => rfl, rfl⟩
  rw [Nat.sub_self, List.take_zero, List.drop_zero, List.nil_append] at e3
  rw [Nat.sub_self, List.drop_zero] at e4
  have eq1 : q1 = -1 := by
    rw [e2, lit_m1]
    congr 1
    omega
  have efl : s.1.filter (fun j => !imp t s j) = (sp_loseG t 8 s).1 := by
    show _ = s.1.filter _
    apply List.filter_congr
    intro j hj
    simp [c7.2.1 j hj]
  rw [efl] at e3
  rw [e1, eq1, L_X9_goAway_7, if_pos m1neg]
  refine ⟨h1, rfl, ⟨?_, ?_, ?_, ?_, e3.1, e3.2, c7.lose⟩, ?_, ?_, e7⟩
  · intro j hj
    rw [e4 j hj]
    congr 1
    show _ = if j < 8 ∧ s.2.1 j = 1 ∧ imp t s j = true then 4 else s.2.1 j
    simp only [c7.2.2.1 j hj, hj, true_and]
  · rw [e6 _ (by omega)]
    exact c2
  · rw [e6 _ (by omega)]
    exact c3
  · intro j hj hs
    rw [e6 _ (by omega)]
    have hs : (if j < 8 ∧ s.2.1 j = 1 ∧ imp t s j = true then 4 else s.2.1 j) = 2 := hs
    by_cases c : j < 8 ∧ s.2.1 j = 1 ∧ imp t s j = true
    · rw [if_pos c] at hs
      omega
    · rw [if_neg c] at hs
      exact c4 j hj hs
  · intro a b z
    exact e5 a b z
  · intro a z
    exact e6 a (by omega)
