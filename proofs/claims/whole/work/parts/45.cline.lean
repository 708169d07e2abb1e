/-! Company.lineUp -/
theorem kF {a b : Nat} (h : ¬ a = b) (ha : a ≤ 1000000) (hb : b ≤ 1000000) : ¬ nI a = nI b := fun z => h ((nI_eq (by omega) (by omega)).mp z)
def dk (gs : List T3) (k : Nat) : Nat := (gs.getD k (0, 0, 0)).2.1
theorem dk_at {gs : List T3} {k : Nat} {x : T3} (h : gs[k]? = some x) : dk gs k = x.2.1 := by
  unfold dk
  rw [List.getD_eq_getElem?_getD, h]
  rfl
theorem entR.fr_c {h h' : AH} {rc rg : Nat} {gs : List T3} (he : entR h rg gs) (hf : fr_c rc h h') (hr : rg + 3 < rc) : entR h' rg gs := by
  refine ⟨by rw [hf.1 _ _ (by omega)]; exact he.1, fun j x hx => ?_⟩
  rw [hf.2.2.1 _ (by omega), hf.2.2.1 _ (by omega), hf.2.2.1 _ (by omega)]
  exact he.2 j x hx
set_option maxHeartbeats 4000000 in
theorem c_line2 {n rc rg t : Nat} {gs : List T3} (hgs : okE gs 2 1 4) (ht : t < 24) (hr : rg + 3 < rc) : ∀ (d k m T : Nat) (h : AH) (s : LS9), k + d = gs.length → d < m → entR h rg gs → cmp h rc (dk gs) s T →
    ∃ h' T', L_X0_lineUp_40 n rc rg m (nI t) (nI k) h = some h' ∧ cmp h' rc (dk gs) (sp_come2 t (gs.drop k) k s) T' ∧ T' ≤ T + d ∧ fr_c rc h h' := by
  intro d
  induction d with
  | zero =>
    intro k m T h s hk hm he hc
    obtain ⟨m, rfl⟩ : ∃ q, m = q + 1 := ⟨m - 1, by omega⟩
    rw [show gs.drop k = [] from List.drop_eq_nil_iff.mpr (by omega)]
    rw [L_X0_lineUp_40, he.1, if_pos (nI_le (by omega) (by have := hgs.1; omega))]
    exact ⟨h, T, rfl, hc, by omega, fr_c.rf⟩
  | succ d ih =>
    intro k m T h s hk hm he hc
    obtain ⟨m, rfl⟩ : ∃ q, m = q + 1 := ⟨m - 1, by omega⟩
    have h8 := hgs.1
    obtain ⟨x, hx, hdr⟩ := dropC (l := gs) (k := k) (by omega)
    obtain ⟨x1, x2, x3⟩ := he.2 k x hx
    obtain ⟨b1, b2, b3, b4⟩ := hgs.2 x (List.mem_of_getElem? hx)
    rw [hdr, sp_come2]
    obtain ⟨tk, sn, c1, c2, c3, c4, c5, c6, c7, c8⟩ := id hc
    obtain ⟨d1, d2, d3, d4⟩ := c8 k (by omega)
    rw [L_X0_lineUp_40, he.1, if_neg (nI_ge (by omega) (by omega)), show (8 : Int32) = nI 8 from rfl, if_neg (nI_ge (by omega) (by omega)), am_inK (by omega) (by omega), nK (by omega), c1 k (by omega), c3 k (by omega), x2]
    simp only [cond_true]
    by_cases cs : s.2.1 k = 2
    · rw [if_pos (by rw [cs]; rfl), show (3 : Int32) = nI 3 from rfl, nI_add, nI_add]
      have d2 := d2 (Or.inr cs)
      have hb := d4 cs
      rw [dk_at hx] at hb
      rw [hb]
      by_cases ct : s.2.2.2.2 k = t
      · rw [if_pos (by rw [ct]), if_pos ⟨cs, ct⟩]
        obtain ⟨h1, g1, g2, g3⟩ := c_join (by omega) ht hc (by omega) (k := k)
        obtain ⟨h', T', q1, q2, q3, q4⟩ := ih (k + 1) m (T + 1) h1 (sp_join t k s) (by omega) (by omega) (he.fr_c g3 hr) g2
        rw [g1, nI_1]
        exact ⟨h', T', q1, q2, by omega, g3.tr q4⟩
      · rw [if_neg (kF ct (by omega) (by omega)), if_neg (fun z => ct z.2), nI_1]
        obtain ⟨h', T', q1, q2, q3, q4⟩ := ih (k + 1) m T h s (by omega) (by omega) he hc
        exact ⟨h', T', q1, q2, by omega, q4⟩
    · rw [if_neg (by rw [show (2 : Int32) = nI 2 from rfl, kI _ _ (by omega) (by omega)]; exact cs), if_neg (fun z => cs z.1), nI_1]
      obtain ⟨h', T', q1, q2, q3, q4⟩ := ih (k + 1) m T h s (by omega) (by omega) he hc
      exact ⟨h', T', q1, q2, by omega, q4⟩
theorem sp_join_other {t k j : Nat} {s : LS9} (h : ¬ j = k) : (sp_join t k s).2.1 j = s.2.1 j := up_n _ _ h
set_option maxHeartbeats 4000000 in
theorem c_line1 {n rc rg t : Nat} {gs : List T3} (hgs : okE gs 2 1 4) (ht : t < 24) (hr : rg + 3 < rc) (hn : 8 < n) : ∀ (d k m T : Nat) (h : AH) (s : LS9), k + d = gs.length → d < m → entR h rg gs → cmp h rc (dk gs) s T → (∀ (j : Nat) (x : T3), k ≤ j → gs[j]? = some x → x.1 = t → s.2.1 j = 0) →
    ∃ h' T', L_X0_lineUp_2 n rc rg m (nI t) (nI k) h = some h' ∧ cmp h' rc (dk gs) (sp_come2 t gs 0 (sp_come1 t (gs.drop k) k s)) T' ∧ T' ≤ T + d + 8 ∧ fr_c rc h h' := by
  intro d
  induction d with
  | zero =>
    intro k m T h s hk hm he hc h0
    obtain ⟨m, rfl⟩ : ∃ q, m = q + 1 := ⟨m - 1, by omega⟩
    rw [show gs.drop k = [] from List.drop_eq_nil_iff.mpr (by omega)]
    rw [L_X0_lineUp_2, he.1, if_pos (nI_le (by omega) (by have := hgs.1; omega))]
    obtain ⟨h', T', q1, q2, q3, q4⟩ := c_line2 (n := n) hgs ht hr gs.length 0 n T h s (by omega) (by have := hgs.1; omega) he hc
    exact ⟨h', T', q1, by rw [List.drop_zero] at q2; exact q2, by have := hgs.1; omega, q4⟩
  | succ d ih =>
    intro k m T h s hk hm he hc h0
    obtain ⟨m, rfl⟩ : ∃ q, m = q + 1 := ⟨m - 1, by omega⟩
    have h8 := hgs.1
    obtain ⟨x, hx, hdr⟩ := dropC (l := gs) (k := k) (by omega)
    obtain ⟨x1, x2, x3⟩ := he.2 k x hx
    obtain ⟨b1, b2, b3, b4⟩ := hgs.2 x (List.mem_of_getElem? hx)
    rw [hdr, sp_come1]
    rw [L_X0_lineUp_2, he.1, if_neg (nI_ge (by omega) (by omega)), show (8 : Int32) = nI 8 from rfl, if_neg (nI_ge (by omega) (by omega)), am_inK (by omega) (by omega), nK (by omega), x1]
    simp only [cond_true]
    by_cases ct : x.1 = t
    · rw [if_pos (by rw [ct]), if_pos ct]
      have hz := h0 k x (Nat.le_refl _) hx ct
      obtain ⟨h1, g1, g2, g3⟩ := c_join (by omega) ht hc (by omega) (k := k)
      obtain ⟨h', T', q1, q2, q3, q4⟩ := ih (k + 1) m (T + 1) h1 (sp_join t k s) (by omega) (by omega) (he.fr_c g3 hr) g2 (fun j y hj hy hyt => by rw [sp_join_other (by omega)]; exact h0 j y (by omega) hy hyt)
      rw [g1, nI_1]
      exact ⟨h', T', q1, q2, by omega, g3.tr q4⟩
    · rw [if_neg (kF ct (by omega) (by omega)), if_neg ct, nI_1]
      obtain ⟨h', T', q1, q2, q3, q4⟩ := ih (k + 1) m T h s (by omega) (by omega) he hc (fun j y hj hy hyt => h0 j y (by omega) hy hyt)
      exact ⟨h', T', q1, q2, by omega, q4⟩
