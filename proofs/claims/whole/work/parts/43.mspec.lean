/-! the reference's kettle -/
theorem lessN {a b : Nat} (ha : a ≤ 100000) (hb : b ≤ 100000) : M_X9_less (nI a) (nI b) = nI (min a b) := by
  unfold M_X9_less
  by_cases h : b ≤ a
  · rw [if_pos (nI_le h (by omega)), Nat.min_eq_right h]
  · rw [if_neg (nI_ge (by omega) (by omega)), Nat.min_eq_left (by omega)]
/-- the reference's events: minutes 85, kinds 84, numbers 86 -/
def evM (h : AH) (es : List T3) : Prop := h.1 75 12 = nI es.length ∧ ∀ (j : Nat) (x : T3), es[j]? = some x → h.2.1 85 j = nI x.1 ∧ h.2.1 84 j = nI x.2.1 ∧ h.2.1 86 j = nI x.2.2
def skM (v : Int32) (sk : Nat → Bool) : Prop := ∀ j, j < 8 → (M_X9_isIn v (nI j) = 0 ↔ sk j = false)
/-- int fields 22 .. 25 of cell 75 alone have changed -/
def fr_m (h h' : AH) : Prop := (∀ i k, ¬ (i = 75 ∧ 22 ≤ k ∧ k < 26) → h'.1 i k = h.1 i k) ∧ h'.2 = h.2
theorem fr_m.rf {h : AH} : fr_m h h := ⟨fun _ _ _ => rfl, rfl⟩
theorem fr_m.tr {a b c : AH} (h1 : fr_m a b) (h2 : fr_m b c) : fr_m a c := ⟨fun i k z => (h2.1 i k z).trans (h1.1 i k z), h2.2.trans h1.2⟩
theorem fr_m.sf {k : Nat} {h : AH} {v : Int32} (h1 : 22 ≤ k) (h2 : k < 26) : fr_m h (am_sf h 75 k v) := by
  refine ⟨fun i j z => ?_, rfl⟩
  unfold am_sf
  dsimp only
  split
  · rename_i hi
    rw [if_neg]
    intro hj
    exact z ⟨hi, by omega, by omega⟩
  · rfl
theorem m_b65 {n t k g he br : Nat} {k7 : Int32 → Int32 → AH → Option AH} {x : T3} {h : AH} (hk : k < 8) (x2 : h.2.1 84 k = nI x.2.1) (x3 : h.2.1 86 k = nI x.2.2) (b2 : x.2.1 < 3) (b4 : x.2.2 ≤ 9) (e0 : h.1 75 22 = nI he) (e2 : h.1 75 24 = nI br) (o1 : he ≤ 100) (o3 : br ≤ 40) (hg : g ≤ 30) : B_X9_befalls_65 n k7 (nI t) (nI k) (nI g) h = k7 (nI t) (nI k + 1) (am_sf (am_sf (am_sf (am_sf h 75 23 (h.1 75 23 + nI g)) 75 22 (nI (he - 4 * g))) 75 24 (if x.2.1 = 1 then nI (min 40 (br + x.2.2)) else nI br)) 75 25 (if x.2.1 = 2 then 1 else h.1 75 25)) := by
  have key : ∀ y0, B_X9_befalls_99 n k7 (nI t) (nI k) y0 (am_sf h 75 23 (h.1 75 23 + nI g)) = k7 (nI t) (nI k + 1) (am_sf (am_sf (am_sf (am_sf h 75 23 (h.1 75 23 + nI g)) 75 22 y0) 75 24 (if x.2.1 = 1 then nI (min 40 (br + x.2.2)) else nI br)) 75 25 (if x.2.1 = 2 then 1 else h.1 75 25)) := by
    intro y0
    unfold B_X9_befalls_99 B_X9_befalls_136
    rw [am_inK (by omega) (by omega), nK (by omega)]
    simp only [cond_true, sf_2, x2, x3]
    by_cases c1 : x.2.1 = 1
    · rw [if_pos (by rw [c1]; rfl), if_pos c1, if_neg (by rw [c1]; decide), if_neg (by omega), sf_k _ _ (by omega), e2, nI_add, show (40 : Int32) = nI 40 from rfl, lessN (by omega) (by omega), Nat.min_comm]
      rw [sf_k _ _ (by omega), sf_k _ _ (by omega)]
    · rw [if_neg (by rw [show (1 : Int32) = nI 1 from rfl, kI _ _ (by omega) (by omega)]; exact c1), if_neg c1]
      by_cases c2 : x.2.1 = 2
      · rw [if_pos (by rw [c2]; rfl), if_pos c2, sf_k _ _ (by omega), e2]
      · rw [if_neg (by rw [show (2 : Int32) = nI 2 from rfl, kI _ _ (by omega) (by omega)]; exact c2), if_neg c2, sf_k _ _ (by omega), e2]
        rw [sf_k _ _ (by omega), sf_k _ _ (by omega)]
  unfold B_X9_befalls_65
  rw [show (4 : Int32) = nI 4 from rfl, nI_mul, e0]
  by_cases c : 4 * g ≤ he
  · rw [if_pos (nI_le c (by omega)), key, nI_sub c]
  · rw [if_neg (nI_ge (by omega) (by omega)), key, show he - 4 * g = 0 by omega]
    rfl
set_option maxHeartbeats 4000000 in
/-- befalls -/
theorem m_befalls_loop {n t : Nat} {es : List T3} {sk : Nat → Bool} (hes : okE es 3 0 9) (ht : t < 24) : ∀ (d k m : Nat) (h : AH) (s : KS), k + d = es.length → d < m → evM h es → skM (h.1 75 21) sk → h.1 75 22 = nI s.1 → h.1 75 23 = nI s.2.1 → h.1 75 24 = nI s.2.2.1 → h.1 75 25 = bI s.2.2.2 → okK s →
    ∃ h', L_X9_befalls_7 n m (nI t) (nI k) h = some h' ∧ h'.1 75 22 = nI (sp_ev t sk (es.drop k) k s).1 ∧ h'.1 75 23 = nI (sp_ev t sk (es.drop k) k s).2.1 ∧ h'.1 75 24 = nI (sp_ev t sk (es.drop k) k s).2.2.1 ∧ h'.1 75 25 = bI (sp_ev t sk (es.drop k) k s).2.2.2 ∧ fr_m h h' := by
  intro d
  induction d with
  | zero =>
    intro k m h s hk hm he hsk e0 e1 e2 e3 hs
    obtain ⟨m, rfl⟩ : ∃ q, m = q + 1 := ⟨m - 1, by omega⟩
    rw [show es.drop k = [] from List.drop_eq_nil_iff.mpr (by omega)]
    rw [L_X9_befalls_7, he.1, if_pos (nI_le (by omega) (by have := hes.1; omega))]
    exact ⟨h, rfl, e0, e1, e2, e3, fr_m.rf⟩
  | succ d ih =>
    intro k m h s hk hm he hsk e0 e1 e2 e3 hs
    obtain ⟨m, rfl⟩ : ∃ q, m = q + 1 := ⟨m - 1, by omega⟩
    have h8 := hes.1
    obtain ⟨x, hx, hdr⟩ := dropC (l := es) (k := k) (by omega)
    obtain ⟨x1, x2, x3⟩ := he.2 k x hx
    obtain ⟨b1, b2, b3, b4⟩ := hes.2 x (List.mem_of_getElem? hx)
    obtain ⟨o1, o2, o3⟩ := id hs
    rw [hdr]
    have next : ∀ (h1 : AH) (s1 : KS), fr_m h h1 → h1.1 75 22 = nI s1.1 → h1.1 75 23 = nI s1.2.1 → h1.1 75 24 = nI s1.2.2.1 → h1.1 75 25 = bI s1.2.2.2 → okK s1 → s1 = (if x.1 = t ∧ sk k = false then sp_e1 x s else s) → ∃ h', L_X9_befalls_7 n m (nI t) (nI k + 1) h1 = some h' ∧ h'.1 75 22 = nI (sp_ev t sk (x :: es.drop (k + 1)) k s).1 ∧ h'.1 75 23 = nI (sp_ev t sk (x :: es.drop (k + 1)) k s).2.1 ∧ h'.1 75 24 = nI (sp_ev t sk (x :: es.drop (k + 1)) k s).2.2.1 ∧ h'.1 75 25 = bI (sp_ev t sk (x :: es.drop (k + 1)) k s).2.2.2 ∧ fr_m h h' := by
      intro h1 s1 hf f0 f1 f2 f3 hs1 hs1e
      have q := ih (k + 1) m h1 s1 (by omega) (by omega) ⟨by rw [hf.1 _ _ (by omega)]; exact he.1, fun j y hy => by rw [hf.2]; exact he.2 j y hy⟩ (by rw [hf.1 _ _ (by omega)]; exact hsk) f0 f1 f2 f3 hs1
      rw [sp_ev, ← hs1e, nI_1]
      obtain ⟨h', g1, g2, g3, g4, g5, g6⟩ := q
      exact ⟨h', g1, g2, g3, g4, g5, hf.tr g6⟩
    rw [L_X9_befalls_7, he.1, if_neg (nI_ge (by omega) (by omega)), am_inK (by omega) (by omega), nK (by omega), x1, x2, x3]
    simp only [cond_true]
    by_cases ct : x.1 = t
    · rw [if_pos (by rw [ct])]
      by_cases cs : sk k = false
      · rw [if_pos ((hsk k (by omega)).mpr cs)]
        rw [if_pos ⟨ct, cs⟩] at next
        by_cases c0 : x.2.1 = 0
        · rw [if_pos (by rw [c0]; rfl)]
          have e4 : M_X9_less (nI x.2.2) (30 - h.1 75 23) = nI (min x.2.2 (30 - s.2.1)) := by
            rw [e1, show (30 : Int32) = nI 30 from rfl, nI_sub o2, lessN (by omega) (by omega)]
          rw [e4]
          have hs1 : sp_e1 x s = (s.1 - 4 * min x.2.2 (30 - s.2.1), s.2.1 + min x.2.2 (30 - s.2.1), s.2.2.1, s.2.2.2) := by unfold sp_e1; rw [if_pos c0]
          rw [m_b65 (by omega) x2 x3 b2 b4 e0 e2 o1 o3 (by omega), if_neg (by omega), if_neg (by omega)]
          refine next _ (sp_e1 x s) ((((fr_m.sf (by omega) (by omega)).tr (fr_m.sf (by omega) (by omega))).tr (fr_m.sf (by omega) (by omega))).tr (fr_m.sf (by omega) (by omega))) ?_ ?_ ?_ ?_ (sp_e1_ok hs) rfl
          · rw [sf_k _ _ (by omega), sf_k _ _ (by omega), sf_same, hs1]
          · rw [sf_k _ _ (by omega), sf_k _ _ (by omega), sf_k _ _ (by omega), sf_same, hs1, e1, nI_add]
          · rw [sf_k _ _ (by omega), sf_same, hs1]
          · rw [sf_same, hs1, e3]
        · rw [if_neg (by rw [show (0 : Int32) = nI 0 from rfl, kI _ _ (by omega) (by omega)]; exact c0), show (0 : Int32) = nI 0 from rfl, m_b65 (by omega) x2 x3 b2 b4 e0 e2 o1 o3 (by omega)]
          refine next _ (sp_e1 x s) ((((fr_m.sf (by omega) (by omega)).tr (fr_m.sf (by omega) (by omega))).tr (fr_m.sf (by omega) (by omega))).tr (fr_m.sf (by omega) (by omega))) ?_ ?_ ?_ ?_ (sp_e1_ok hs) rfl
          · rw [sf_k _ _ (by omega), sf_k _ _ (by omega), sf_same]
            unfold sp_e1
            rw [if_neg c0]
            split <;> rfl
          · rw [sf_k _ _ (by omega), sf_k _ _ (by omega), sf_k _ _ (by omega), sf_same, e1, nI_add]
            unfold sp_e1
            rw [if_neg c0]
            split <;> rfl
          · rw [sf_k _ _ (by omega), sf_same]
            unfold sp_e1
            rw [if_neg c0]
            split <;> rfl
          · rw [sf_same]
            unfold sp_e1
            rw [if_neg c0]
            by_cases c1 : x.2.1 = 1
            · rw [if_pos c1, if_neg (by omega), e3]
            · rw [if_neg c1, if_pos (by omega)]
              rfl
      · rw [if_neg (fun z => cs ((hsk k (by omega)).mp z))]
        rw [if_neg (fun z => cs z.2)] at next
        exact next h s fr_m.rf e0 e1 e2 e3 hs rfl
    · rw [if_neg (by rw [kI _ _ (by omega) (by omega)]; exact ct)]
      rw [if_neg (fun z => ct z.1)] at next
      exact next h s fr_m.rf e0 e1 e2 e3 hs rfl
