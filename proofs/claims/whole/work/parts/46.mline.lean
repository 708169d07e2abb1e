/-! the reference's line -/
theorem nd_len : ∀ (n : Nat) (l : List Nat), l.Nodup → (∀ x ∈ l, x < n) → l.length ≤ n
  | 0, l, _, h => by
    cases l with
    | nil => exact Nat.le_refl _
    | cons a l => exact absurd (h a List.mem_cons_self) (by omega)
  | n + 1, l, hd, h => by
    by_cases hm : n ∈ l
    · have ih := nd_len n (l.erase n) (hd.erase n) (fun x hx => by
        have h1 := (hd.mem_erase_iff).mp hx
        have h2 := h x h1.2
        have h3 : x ≠ n := h1.1
        omega)
      rw [List.length_erase_of_mem hm] at ih
      omega
    · have ih := nd_len n l hd (fun x hx => by
        have h2 := h x hx
        have h3 : x ≠ n := fun z => hm (z ▸ hx)
        omega)
      omega
/-- a line that stands in order -/
def lnOK (s : LS9) : Prop := s.1.Nodup ∧ (∀ k ∈ s.1, k < 8) ∧ (∀ k, k < 8 → (s.2.1 k = 1 ↔ k ∈ s.1)) ∧ ∀ k, k < 8 → s.2.1 k ≤ 4 ∧ s.2.2.2.1 k ≤ 24
theorem lnOK.len {s : LS9} (h : lnOK s) : s.1.length ≤ 8 := nd_len 8 _ h.1 h.2.1
theorem lnOK.join {s : LS9} {t k : Nat} (h : lnOK s) (hk : k < 8) (ht : t < 24) (hn : ¬ s.2.1 k = 1) : lnOK (sp_join t k s) := by
  obtain ⟨h1, h2, h3, h4⟩ := h
  have hnk : k ∉ s.1 := fun z => hn ((h3 k hk).mpr z)
  refine ⟨?_, ?_, ?_, ?_⟩
  · show (s.1 ++ [k]).Nodup
    rw [List.nodup_append]
    refine ⟨h1, by simp, ?_⟩
    intro a ha b hb
    rw [List.mem_singleton] at hb
    subst hb
    intro z
    exact hnk (by rw [← z]; exact ha)
  · intro j hj
    rcases List.mem_append.mp hj with z | z
    · exact h2 j z
    · rw [List.mem_singleton] at z
      omega
  · intro j hj
    show up s.2.1 k 1 j = 1 ↔ j ∈ s.1 ++ [k]
    by_cases hjk : j = k
    · subst hjk
      rw [up_s]
      simp
    · rw [up_n _ _ hjk, h3 j hj]
      simp [hjk]
  · intro j hj
    show up s.2.1 k 1 j ≤ 4 ∧ up s.2.2.2.1 k t j ≤ 24
    by_cases hjk : j = k
    · subst hjk
      rw [up_s, up_s]
      omega
    · rw [up_n _ _ hjk, up_n _ _ hjk]
      exact h4 j hj
/-- the reference's guests -/
def mcm (h : AH) (s : LS9) : Prop := (∀ k, k < 8 → h.2.1 91 k = nI (s.2.1 k)) ∧ (∀ k, k < 8 → h.2.1 92 k = nI (s.2.2.1 k)) ∧ (∀ k, k < 8 → h.2.1 94 k = nI (s.2.2.2.1 k)) ∧ (∀ k, k < 8 → s.2.1 k = 2 → h.2.1 93 k = nI (s.2.2.2.2 k) ∧ s.2.2.2.2 k ≤ 100) ∧ h.1 75 29 = nI s.1.length ∧ (∀ j x, s.1[j]? = some x → h.2.1 90 j = nI x) ∧ lnOK s
/-- the reference's guests of now: 87, 88, 89 -/
def gsM (h : AH) (gs : List T3) : Prop := h.1 75 16 = nI gs.length ∧ ∀ (j : Nat) (x : T3), gs[j]? = some x → h.2.1 87 j = nI x.1 ∧ h.2.1 88 j = nI x.2.1 ∧ h.2.1 89 j = nI x.2.2
def fr_g (h h' : AH) : Prop := (∀ i k, ¬ (i = 75 ∧ k = 29) → h'.1 i k = h.1 i k) ∧ (∀ i, ¬ (90 ≤ i ∧ i ≤ 94) → h'.2.1 i = h.2.1 i) ∧ h'.2.2 = h.2.2
theorem fr_g.rf {h : AH} : fr_g h h := ⟨fun _ _ _ => rfl, fun _ _ => rfl, rfl⟩
theorem fr_g.tr {a b c : AH} (h1 : fr_g a b) (h2 : fr_g b c) : fr_g a c := ⟨fun i k z => (h2.1 i k z).trans (h1.1 i k z), fun i z => (h2.2.1 i z).trans (h1.2.1 i z), h2.2.2.trans h1.2.2⟩
theorem gsM.fr {h h' : AH} {gs : List T3} (he : gsM h gs) (hf : fr_g h h') : gsM h' gs := by
  refine ⟨by rw [hf.1 _ _ (by omega)]; exact he.1, fun j x hx => ?_⟩
  rw [hf.2.1 _ (by omega), hf.2.1 _ (by omega), hf.2.1 _ (by omega)]
  exact he.2 j x hx
theorem sf_n {h : AH} {r k i j : Nat} {v : Int32} (z : ¬ (i = r ∧ j = k)) : (am_sf h r k v).1 i j = h.1 i j := by
  unfold am_sf
  dsimp only
  split
  · rename_i hi
    rw [if_neg (fun q => z ⟨hi, q⟩)]
  · rfl
set_option maxHeartbeats 4000000 in
theorem m_join {t k : Nat} {h : AH} {s : LS9} (hk : k < 8) (ht : t < 24) (hc : mcm h s) (hn : ¬ s.2.1 k = 1) : ∃ h', M_X9_joins (nI k) (nI t) h = some h' ∧ mcm h' (sp_join t k s) ∧ fr_g h h' := by
  obtain ⟨c1, c2, c3, c4, c5, c6, c7⟩ := hc
  have c8 := c7.join hk ht hn
  have hlen := c8.len
  have hlen : s.1.length < 8 := by
    have e : (sp_join t k s).1.length = s.1.length + 1 := by
      show (s.1 ++ [k]).length = _
      rw [List.length_append]
      rfl
    omega
  unfold M_X9_joins
  rw [c5, am_inK hlen (by omega), am_inK hk (by omega), nK (by omega), nK (by omega)]
  simp only [cond_true]
  refine ⟨_, rfl, ⟨?_, ?_, ?_, ?_, ?_, ?_, c8⟩, ?_⟩
  · rw [sa_n _ _ (by omega), sa_s]
    exact upd_nI (x := 1) c1
  · rw [sa_n _ _ (by omega), sa_n _ _ (by omega), sf_2, sa_n _ _ (by omega)]
    exact c2
  · rw [sa_s]
    exact upd_nI c3
  · intro j hj hs
    rw [sa_n _ _ (by omega), sa_n _ _ (by omega), sf_2, sa_n _ _ (by omega)]
    have hs : up s.2.1 k 1 j = 2 := hs
    by_cases hjk : j = k
    · subst hjk
      rw [up_s] at hs
      omega
    · rw [up_n _ _ hjk] at hs
      exact c4 j hj hs
  · rw [sa_1, sa_1, sf_same, nI_1]
    show _ = nI (s.1 ++ [k]).length
    rw [List.length_append]
    rfl
  · intro j x hx
    rw [sa_n _ _ (by omega), sa_n _ _ (by omega), sf_2, sa_s]
    have hx : (s.1 ++ [k])[j]? = some x := hx
    unfold upd
    by_cases hj : j = s.1.length
    · rw [if_pos hj]
      rw [hj, List.getElem?_append_right (Nat.le_refl _), Nat.sub_self] at hx
      cases hx
      rfl
    · rw [if_neg hj]
      have hlt : j < (s.1 ++ [k]).length := (List.getElem?_eq_some_iff.mp hx).1
      rw [List.length_append] at hlt
      have hlt : j < s.1.length := by
        have : j < s.1.length + 1 := hlt
        omega
      rw [List.getElem?_append_left hlt] at hx
      exact c6 j x hx
  · refine ⟨fun i j z => ?_, fun i z => ?_, rfl⟩
    · rw [sa_1, sa_1, sf_n z]
      rfl
    · rw [sa_n _ _ (by omega), sa_n _ _ (by omega), sf_2, sa_n _ _ (by omega)]
set_option maxHeartbeats 4000000 in
theorem m_come2 {n t : Nat} {gs : List T3} (hgs : okE gs 2 1 4) (ht : t < 24) : ∀ (d k m : Nat) (h : AH) (s : LS9), k + d = gs.length → d < m → gsM h gs → mcm h s →
    ∃ h', L_X9_comes_34 n m (nI t) (nI k) h = some h' ∧ mcm h' (sp_come2 t (gs.drop k) k s) ∧ fr_g h h' := by
  intro d
  induction d with
  | zero =>
    intro k m h s hk hm he hc
    obtain ⟨m, rfl⟩ : ∃ q, m = q + 1 := ⟨m - 1, by omega⟩
    rw [show gs.drop k = [] from List.drop_eq_nil_iff.mpr (by omega)]
    rw [L_X9_comes_34, he.1, if_pos (nI_le (by omega) (by have := hgs.1; omega))]
    exact ⟨h, rfl, hc, fr_g.rf⟩
  | succ d ih =>
    intro k m h s hk hm he hc
    obtain ⟨m, rfl⟩ : ∃ q, m = q + 1 := ⟨m - 1, by omega⟩
    have h8 := hgs.1
    obtain ⟨x, hx, hdr⟩ := dropC (l := gs) (k := k) (by omega)
    rw [hdr, sp_come2]
    obtain ⟨c1, c2, c3, c4, c5, c6, c7⟩ := id hc
    have d1 := (c7.2.2.2 k (by omega)).1
    rw [L_X9_comes_34, he.1, if_neg (nI_ge (by omega) (by omega)), am_inK (by omega) (by omega), nK (by omega), c1 k (by omega)]
    simp only [cond_true]
    by_cases cs : s.2.1 k = 2
    · obtain ⟨e4, e5⟩ := c4 k (by omega) cs
      rw [if_pos (by rw [cs]; rfl), e4]
      by_cases ct : s.2.2.2.2 k = t
      · rw [if_pos (by rw [ct]), if_pos ⟨cs, ct⟩]
        obtain ⟨h1, g1, g2, g3⟩ := m_join (by omega) ht hc (by omega) (k := k)
        obtain ⟨h', q1, q2, q3⟩ := ih (k + 1) m h1 (sp_join t k s) (by omega) (by omega) (he.fr g3) g2
        rw [g1, nI_1]
        exact ⟨h', q1, q2, g3.tr q3⟩
      · rw [if_neg (kF ct (by omega) (by omega)), if_neg (fun z => ct z.2), nI_1]
        exact ih (k + 1) m h s (by omega) (by omega) he hc
    · rw [if_neg (by rw [show (2 : Int32) = nI 2 from rfl]; exact kF cs (by omega) (by omega)), if_neg (fun z => cs z.1), nI_1]
      exact ih (k + 1) m h s (by omega) (by omega) he hc
set_option maxHeartbeats 4000000 in
theorem m_come1 {n t : Nat} {gs : List T3} (hgs : okE gs 2 1 4) (ht : t < 24) (hn : 8 < n) : ∀ (d k m : Nat) (h : AH) (s : LS9), k + d = gs.length → d < m → gsM h gs → mcm h s → (∀ (j : Nat) (x : T3), k ≤ j → gs[j]? = some x → x.1 = t → s.2.1 j = 0) →
    ∃ h', L_X9_comes_2 n m (nI t) (nI k) h = some h' ∧ mcm h' (sp_come2 t gs 0 (sp_come1 t (gs.drop k) k s)) ∧ fr_g h h' := by
  intro d
  induction d with
  | zero =>
    intro k m h s hk hm he hc h0
    obtain ⟨m, rfl⟩ : ∃ q, m = q + 1 := ⟨m - 1, by omega⟩
    rw [show gs.drop k = [] from List.drop_eq_nil_iff.mpr (by omega)]
    rw [L_X9_comes_2, he.1, if_pos (nI_le (by omega) (by have := hgs.1; omega))]
    obtain ⟨h', q1, q2, q3⟩ := m_come2 (n := n) hgs ht gs.length 0 n h s (by omega) (by have := hgs.1; omega) he hc
    exact ⟨h', q1, by rw [List.drop_zero] at q2; exact q2, q3⟩
  | succ d ih =>
    intro k m h s hk hm he hc h0
    obtain ⟨m, rfl⟩ : ∃ q, m = q + 1 := ⟨m - 1, by omega⟩
    have h8 := hgs.1
    obtain ⟨x, hx, hdr⟩ := dropC (l := gs) (k := k) (by omega)
    obtain ⟨x1, x2, x3⟩ := he.2 k x hx
    obtain ⟨b1, b2, b3, b4⟩ := hgs.2 x (List.mem_of_getElem? hx)
    rw [hdr, sp_come1]
    rw [L_X9_comes_2, he.1, if_neg (nI_ge (by omega) (by omega)), am_inK (by omega) (by omega), nK (by omega), x1]
    simp only [cond_true]
    by_cases ct : x.1 = t
    · rw [if_pos (by rw [ct]), if_pos ct]
      have hz := h0 k x (Nat.le_refl _) hx ct
      obtain ⟨h1, g1, g2, g3⟩ := m_join (by omega) ht hc (by omega) (k := k)
      obtain ⟨h', q1, q2, q3⟩ := ih (k + 1) m h1 (sp_join t k s) (by omega) (by omega) (he.fr g3) g2 (fun j y hj hy hyt => by rw [sp_join_other (by omega)]; exact h0 j y (by omega) hy hyt)
      rw [g1, nI_1]
      exact ⟨h', q1, q2, g3.tr q3⟩
    · rw [if_neg (kF ct (by omega) (by omega)), if_neg ct, nI_1]
      exact ih (k + 1) m h s (by omega) (by omega) he hc (fun j y hj hy hyt => h0 j y (by omega) hy hyt)
