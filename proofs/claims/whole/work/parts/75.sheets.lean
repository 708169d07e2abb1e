/-! sheets -/
theorem setH_ok {S : ST} {s : Nat} {x : SH} (ho : okST S) (h1 : x.2.1 < 3) (h2 : x.2.2.1 ≤ 60) : okST (setH S s x) := by
  refine ⟨ho.1, ho.2.1, ho.2.2.1, ho.2.2.2.1, ho.2.2.2.2.1, ho.2.2.2.2.2.1, fun i hi => ?_⟩
  show (if i = s then x else S.2.2.2.2.1 i).2.1 < 3 ∧ (if i = s then x else S.2.2.2.2.1 i).2.2.1 ≤ 60
  by_cases q : i = s
  · rw [if_pos q]
    exact ⟨h1, h2⟩
  · rw [if_neg q]
    exact ho.2.2.2.2.2.2 i hi
theorem CR_sh {s : Nat} {x : SH} {h h1 : AH} {S : ST} (hc : CR h S) (hs : s < 4) (o1 : x.2.1 < 3) (o2 : x.2.2.1 ≤ 60) (e1 : h1.1 (67 + 2 * s) 1 = bI x.1 ∧ h1.1 (67 + 2 * s) 2 = nI x.2.1 ∧ h1.1 (67 + 2 * s) 3 = nI x.2.2.1 ∧ ∀ j, j < 60 → h1.2.1 (68 + 2 * s) j = x.2.2.2 j) (ff : ∀ i k, ¬ i = 67 + 2 * s → h1.1 i k = h.1 i k) (fa : ∀ i, ¬ i = 68 + 2 * s → h1.2.1 i = h.2.1 i) (fl : h1.2.2 = h.2.2) : CR h1 (setH S s x) := ⟨setH_ok hc.1 o1 o2, CT_sh hc.2.1 e1 ff fa, CK_fr hc.2.2 rfl (fun _ => rfl) (ff _ _ (by omega)) (fun i k _ _ => ff _ _ (by omega)) (fun i _ _ => fa _ (by omega)) fl⟩
theorem lna68 : ∀ s : Fin 4, am_lna (67 + 2 * s.val + 1) = 60 := by decide +kernel
theorem nar1 : vp_nar .boolean 1 = 1 := by decide +kernel
theorem nar0 : vp_nar .boolean 0 = 0 := by decide +kernel
set_option maxHeartbeats 1000000 in
theorem two_sheet {n : Nat} (hn : 600 < n) (a b c : Int32) : two (M_X8_sheet n a b c) (M_X9_sheet n a b c) := by
  intro S ho
  rcases arg (a := a) (N := 3) (by omega) with ⟨s, hs, rfl, w1, w2⟩ | ⟨na, w1, w2⟩
  · have w2 : M_X9_isSheet (nI s) = 1 := w2
    have hs : s < 4 := by omega
    have e8 : ∀ h, M_X8_sheet n (nI s) b c h = B_X8_sheet_7 n b c (67 + 2 * s) h := by
      intro h
      unfold M_X8_sheet
      rcases (show s = 0 ∨ s = 1 ∨ s = 2 ∨ s = 3 by omega) with rfl | rfl | rfl | rfl
      · rw [if_pos (show nI 0 = (0 : Int32) from rfl)]
      · rw [if_neg (show ¬ nI 1 = (0 : Int32) by decide), if_pos (show nI 1 = (1 : Int32) from rfl)]
      · rw [if_neg (show ¬ nI 2 = (0 : Int32) by decide), if_neg (show ¬ nI 2 = (1 : Int32) by decide), if_pos (show nI 2 = (2 : Int32) from rfl)]
      · rw [if_neg (show ¬ nI 3 = (0 : Int32) by decide), if_neg (show ¬ nI 3 = (1 : Int32) by decide), if_neg (show ¬ nI 3 = (2 : Int32) by decide), if_pos (show nI 3 = (3 : Int32) from rfl)]
    rcases arg (a := b) (N := 2) (by omega) with ⟨f, hf, rfl, v1, v2⟩ | ⟨nb, v1, v2⟩
    · have v1 : M_X8_within (nI f) 2 = 1 := v1
      have v2 : M_X9_in (nI f) 0 2 = 1 := v2
      rcases arg (a := c) (N := 60) (by omega) with ⟨z, hz, rfl, u1, u2⟩ | ⟨nc, u1, u2⟩
      · refine ⟨nI z, setH S s (false, f, z, fun _ => 0), fun h hc => ?_, fun h hm => ?_⟩
        · rw [e8]
          unfold B_X8_sheet_7 M_X5_renew
          rw [if_neg (by rw [v1]; decide), if_pos (by rw [show (60 : Int32) = nI 60 from rfl]; exact nI_le hz (by omega)), if_pos (by rw [show (0 : Int32) = nI 0 from rfl]; exact nI_le (by omega) (by omega))]
          obtain ⟨h1, a1, a2, a3, a4, a5⟩ := c_fill (n := n) (r := 67 + 2 * s + 1) (v := 0) (h := am_sf (am_sf (am_sf h (67 + 2 * s) 1 0) (67 + 2 * s) 2 (nI f)) (67 + 2 * s) 3 (nI z)) (lna68 ⟨s, hs⟩) (by omega) (by omega)
          rw [a1, vS, vS]
          refine ⟨h1, rfl, CR_sh hc hs (by show f < 3; omega) hz ⟨?_, ?_, ?_, ?_⟩ (fun i k q => ?_) (fun i q => ?_) ?_⟩
          · rw [a3, sf_k _ _ (by omega), sf_k _ _ (by omega), sf_same]
            rfl
          · rw [a3, sf_k _ _ (by omega), sf_same]
          · rw [a3, sf_same]
          · rw [show 68 + 2 * s = 67 + 2 * s + 1 by omega]
            exact a2
          · rw [a3, sf_r _ _ _ _ q, sf_r _ _ _ _ q, sf_r _ _ _ _ q]
          · rw [a4 _ (by omega)]
            rfl
          · rw [a5]
            rfl
        · unfold M_X9_sheet
          rw [if_neg (by rw [w2]; decide), if_neg (by rw [v2]; decide), if_pos (by rw [show (60 : Int32) = nI 60 from rfl]; exact nI_le hz (by omega)), if_pos (by rw [show (0 : Int32) = nI 0 from rfl]; exact nI_le (by omega) (by omega)), am_inK hs (by omega), nK (by omega), nar1]
          simp only [cond_true]
          obtain ⟨h0, hh0⟩ : ∃ h0, h0 = (am_sa (am_sa (am_sa h 104 (upd (h.2.1 104) s 1)) 105 (upd (h.2.1 105) s (nI f))) 106 (upd (h.2.1 106) s (nI z))) := ⟨_, rfl⟩
          rw [← hh0]
          obtain ⟨m', q1, h1, e1, e2, e3, e4, e5⟩ := loopV (ρ := Int32) (L := fun m q h => L_X9_sheet_59 n m (nI s) (nI z) q h) (N := 60) (I := fun k q h1 => q = nI k ∧ (∀ j, h1.2.1 107 j = if 60 * s ≤ j ∧ j < 60 * s + k then 0 else h.2.1 107 j) ∧ h1.1 = h0.1 ∧ (∀ i, ¬ i = 107 → h1.2.1 i = h0.2.1 i)) (by
            intro m k q h1 hk hI
            obtain ⟨i1, i2, i3, i4⟩ := hI
            subst i1
            rw [L_X9_sheet_59, show (60 : Int32) = nI 60 from rfl, if_neg (nI_ge (by omega) (by omega)), nI_mul, nI_add, am_inK (show 60 * s + k < 240 by omega) (by omega), nK (by omega), nI_1]
            simp only [cond_true]
            refine ⟨nI (k + 1), _, rfl, rfl, fun j => ?_, i3, fun i y => ?_⟩
            · rw [sa_s]
              unfold upd
              by_cases hj : j = 60 * s + k
              · rw [if_pos hj, if_pos (by omega)]
              · rw [if_neg hj, i2]
                by_cases hj2 : 60 * s ≤ j ∧ j < 60 * s + k
                · rw [if_pos hj2, if_pos (by omega)]
                · rw [if_neg hj2, if_neg (by omega)]
            · rw [sa_n _ _ y]
              exact i4 i y) 60 0 n 0 h0 (by omega) (by omega) ⟨rfl, fun j => by rw [if_neg (by omega), hh0]; rfl, rfl, fun _ _ => rfl⟩
          subst e2
          rw [e1, L_X9_sheet_59, show (60 : Int32) = nI 60 from rfl, if_pos (nI_le (Nat.le_refl _) (by omega))]
          refine ⟨h1, rfl, MT_sh hs hm ⟨?_, ?_, ?_, fun j hj => ?_⟩ (fun t ht q => ⟨?_, ?_, ?_, fun j hj => ?_⟩) (by rw [e4, hh0]; rfl) (fun i q => ?_)⟩
          · rw [e5 _ (by omega), hh0, sa_n _ _ (by omega), sa_n _ _ (by omega), sa_s]
            exact if_pos rfl
          · rw [e5 _ (by omega), hh0, sa_n _ _ (by omega), sa_s]
            exact if_pos rfl
          · rw [e5 _ (by omega), hh0, sa_s]
            exact if_pos rfl
          · rw [e3, if_pos (by omega)]
          · rw [e5 _ (by omega), hh0, sa_n _ _ (by omega), sa_n _ _ (by omega), sa_s]
            exact if_neg q
          · rw [e5 _ (by omega), hh0, sa_n _ _ (by omega), sa_s]
            exact if_neg q
          · rw [e5 _ (by omega), hh0, sa_s]
            exact if_neg q
          · rw [e3, if_neg (by omega)]
          · rw [e5 _ (by omega), hh0, sa_n _ _ (by omega), sa_n _ _ (by omega), sa_n _ _ (by omega)]
      · by_cases hneg : c < 0
        · have c60 : c ≤ 60 := by
            rw [Int32.lt_iff_toInt_lt] at hneg
            rw [Int32.le_iff_toInt_le]
            have e1 : (60 : Int32).toInt = 60 := by decide
            have e2 : (0 : Int32).toInt = 0 := by decide
            omega
          have c0 : ¬ (0 : Int32) ≤ c := by
            rw [Int32.lt_iff_toInt_lt] at hneg
            rw [Int32.le_iff_toInt_le]
            omega
          refine ⟨-10 - 5, setF S 5, fun h hc => ?_, fun h hm => ?_⟩
          · rw [e8]
            unfold B_X8_sheet_7 M_X8_found
            rw [if_neg (by rw [v1]; decide), if_pos c60, if_neg c0]
            exact ⟨_, rfl, CR_fd hc⟩
          · unfold M_X9_sheet M_X9_meets
            rw [if_neg (by rw [w2]; decide), if_neg (by rw [v2]; decide), if_pos c60, if_neg c0]
            exact ⟨_, rfl, MT_fd hm⟩
        · have c60 : ¬ c ≤ 60 := by
            rcases within0 u1 with z | z
            · exact absurd z hneg
            · exact fun y => Int32.not_lt.mpr y z
          refine ⟨-2, S, fun h hc => ?_, fun h hm => ?_⟩
          · rw [e8]
            unfold B_X8_sheet_7
            rw [if_neg (by rw [v1]; decide), if_neg c60]
            exact ⟨h, rfl, hc⟩
          · unfold M_X9_sheet
            rw [if_neg (by rw [w2]; decide), if_neg (by rw [v2]; decide), if_neg c60]
            exact ⟨h, rfl, hm⟩
    · refine ⟨-2, S, fun h hc => ?_, fun h hm => ?_⟩
      · rw [e8]
        unfold B_X8_sheet_7
        rw [if_pos (show M_X8_within b 2 = 0 from v1)]
        exact ⟨h, rfl, hc⟩
      · unfold M_X9_sheet
        rw [if_neg (by rw [w2]; decide), if_pos (show M_X9_in b 0 2 = 0 from v2)]
        exact ⟨h, rfl, hm⟩
  · refine ⟨-2, S, fun h hc => ?_, fun h hm => ?_⟩
    · unfold M_X8_sheet
      rw [if_neg (show ¬ a = 0 from na 0 (by omega)), if_neg (show ¬ a = 1 from na 1 (by omega)), if_neg (show ¬ a = 2 from na 2 (by omega)), if_neg (show ¬ a = 3 from na 3 (by omega))]
      exact ⟨h, rfl, hc⟩
    · unfold M_X9_sheet
      rw [if_pos (show M_X9_isSheet a = 0 from w2)]
      exact ⟨h, rfl, hm⟩
theorem two_lose (a : Int32) : two (M_X8_lose a) (M_X9_lose a) := by
  intro S ho
  rcases arg (a := a) (N := 3) (by omega) with ⟨s, hs, rfl, w1, w2⟩ | ⟨na, w1, w2⟩
  · have w2 : M_X9_isSheet (nI s) = 1 := w2
    have hs : s < 4 := by omega
    have e8 : ∀ h, M_X8_lose (nI s) h = B_X8_lose_6 (67 + 2 * s) h := by
      intro h
      unfold M_X8_lose
      rcases (show s = 0 ∨ s = 1 ∨ s = 2 ∨ s = 3 by omega) with rfl | rfl | rfl | rfl
      · rw [if_pos (show nI 0 = (0 : Int32) from rfl)]
      · rw [if_neg (show ¬ nI 1 = (0 : Int32) by decide), if_pos (show nI 1 = (1 : Int32) from rfl)]
      · rw [if_neg (show ¬ nI 2 = (0 : Int32) by decide), if_neg (show ¬ nI 2 = (1 : Int32) by decide), if_pos (show nI 2 = (2 : Int32) from rfl)]
      · rw [if_neg (show ¬ nI 3 = (0 : Int32) by decide), if_neg (show ¬ nI 3 = (1 : Int32) by decide), if_neg (show ¬ nI 3 = (2 : Int32) by decide), if_pos (show nI 3 = (3 : Int32) from rfl)]
    have hok := ho.2.2.2.2.2.2 s hs
    cases hlo : (S.2.2.2.2.1 s).1
    · refine ⟨nI (S.2.2.2.2.1 s).2.2.1, setH S s (true, (S.2.2.2.2.1 s).2), fun h hc => ?_, fun h hm => ?_⟩
      · obtain ⟨f1, f2, f3, f4⟩ := hc.2.1.2.2.2.2.2.1 s hs
        rw [e8]
        unfold B_X8_lose_6
        rw [f1, hlo, if_pos (by decide), f3]
        refine ⟨_, rfl, CR_sh hc hs hok.1 hok.2 ⟨by rw [sf_same]; rfl, by rw [sf_k _ _ (by omega)]; exact f2, by rw [sf_k _ _ (by omega)]; exact f3, f4⟩ (fun i k q => sf_r _ _ _ _ q) (fun _ _ => rfl) rfl⟩
      · obtain ⟨f1, f2, f3, f4⟩ := hm.2.2.2.2.2.1 s hs
        unfold M_X9_lose
        rw [if_neg (by rw [w2]; decide), am_inK hs (by omega), nK (by omega), f1, hlo, if_neg (by decide), f3, nar0]
        simp only [cond_true]
        refine ⟨_, rfl, MT_sh hs hm ⟨?_, f2, f3, f4⟩ (fun t ht q => ⟨?_, rfl, rfl, fun j hj => rfl⟩) rfl (fun i q => ?_)⟩
        · rw [sa_s]
          exact if_pos rfl
        · rw [sa_s]
          exact if_neg q
        · rw [sa_n _ _ (by omega)]
    · refine ⟨-10 - 1, setF S 1, fun h hc => ?_, fun h hm => ?_⟩
      · rw [e8]
        unfold B_X8_lose_6 M_X8_found
        rw [(hc.2.1.2.2.2.2.2.1 s hs).1, hlo, if_neg (by decide)]
        exact ⟨_, rfl, CR_fd hc⟩
      · unfold M_X9_lose M_X9_meets
        rw [if_neg (by rw [w2]; decide), am_inK hs (by omega), nK (by omega), (hm.2.2.2.2.2.1 s hs).1, hlo, if_pos (by decide)]
        exact ⟨_, rfl, MT_fd hm⟩
  · refine ⟨-2, S, fun h hc => ?_, fun h hm => ?_⟩
    · unfold M_X8_lose
      rw [if_neg (show ¬ a = 0 from na 0 (by omega)), if_neg (show ¬ a = 1 from na 1 (by omega)), if_neg (show ¬ a = 2 from na 2 (by omega)), if_neg (show ¬ a = 3 from na 3 (by omega))]
      exact ⟨h, rfl, hc⟩
    · unfold M_X9_lose
      rw [if_pos (show M_X9_isSheet a = 0 from w2)]
      exact ⟨h, rfl, hm⟩
/-- whether a sheet has such an item -/
theorem hasB {z : Nat} (hl : z ≤ 60) (a : Int32) : (∃ k, k < z ∧ a = nI k ∧ (∀ h r, h.1 r 3 = nI z → M_X5_has r a h = 1) ∧ M_X9_in a 0 (nI z - 1) = 1) ∨ ((∀ h r, h.1 r 3 = nI z → M_X5_has r a h = 0) ∧ M_X9_in a 0 (nI z - 1) = 0) := by
  have key : (a < 0 ∨ nI z ≤ a) → (∀ (h : AH) r, h.1 r 3 = nI z → M_X5_has r a h = 0) := by
    intro q h r he
    unfold M_X5_has
    by_cases c : a < 0
    · rw [if_pos c]
    · rw [if_neg c, he, if_pos (by rcases q with q | q; exact absurd q c; exact q)]
  by_cases h0 : z = 0
  · right
    have e0 : a < 0 ∨ (0 : Int32) ≤ a := by
      by_cases c : a < 0
      · exact Or.inl c
      · exact Or.inr (Int32.not_lt.mp c)
    refine ⟨key (by rw [h0]; exact e0), ?_⟩
    unfold M_X9_in
    rw [h0]
    rcases e0 with c | c
    · rw [if_pos c]
    · by_cases d : a < 0
      · rw [if_pos d]
      · rw [if_neg d, if_pos]
        rw [Int32.le_iff_toInt_le] at c
        rw [Int32.lt_iff_toInt_lt]
        have e1 : (nI 0 - 1 : Int32).toInt = -1 := by decide
        have e2 : (0 : Int32).toInt = 0 := by decide
        omega
  · rw [show (1 : Int32) = nI 1 from rfl, nI_sub (show 1 ≤ z by omega)]
    rcases arg (a := a) (N := z - 1) (by omega) with ⟨k, hk, rfl, w1, w2⟩ | ⟨na, w1, w2⟩
    · left
      refine ⟨k, by omega, rfl, fun h r he => ?_, w2⟩
      unfold M_X5_has
      rw [if_neg (nI_pos (by omega)), he, if_neg (nI_ge (by omega) (by omega)), show (60 : Int32) = nI 60 from rfl, if_neg (nI_ge (by omega) (by omega))]
      rfl
    · right
      refine ⟨key ?_, w2⟩
      rcases within0 w1 with q | q
      · exact Or.inl q
      · right
        rw [Int32.lt_iff_toInt_lt, nI_toInt (by omega)] at q
        rw [Int32.le_iff_toInt_le, nI_toInt (by omega)]
        omega
def cutF (f : Nat) (v : Int32) : Int32 := if f = 0 then (Int32.toInt8 v).toInt32 else if f = 1 then (Int32.toInt16 v).toInt32 else v
def putS (x : SH) (k : Nat) (v : Int32) : SH := (x.1, x.2.1, x.2.2.1, fun j => if j = k then cutF x.2.1 v else x.2.2.2 j)
theorem c_store {h : AH} {S : ST} {s k : Nat} (v : Int32) (hc : CR h S) (hs : s < 4) (hk : k < (S.2.2.2.2.1 s).2.2.1) : ∃ h', M_X5_store (67 + 2 * s) (nI k) v h = some h' ∧ CR h' (setH S s (putS (S.2.2.2.2.1 s) k v)) := by
  have hok := hc.1.2.2.2.2.2.2 s hs
  obtain ⟨f1, f2, f3, f4⟩ := hc.2.1.2.2.2.2.2.1 s hs
  have hh : M_X5_has (67 + 2 * s) (nI k) h = 1 := by
    unfold M_X5_has
    rw [if_neg (nI_pos (by omega)), f3, if_neg (nI_ge (by omega) (by omega)), show (60 : Int32) = nI 60 from rfl, if_neg (nI_ge (by omega) (by omega))]
  have fin : ∃ h', some (am_sa h (67 + 2 * s + 1) (upd (h.2.1 (67 + 2 * s + 1)) k (cutF (S.2.2.2.2.1 s).2.1 v))) = some h' ∧ CR h' (setH S s (putS (S.2.2.2.2.1 s) k v)) := by
    refine ⟨_, rfl, CR_sh hc hs hok.1 hok.2 ⟨f1, f2, f3, fun j hj => ?_⟩ (fun i k q => rfl) (fun i q => sa_n _ _ (by omega)) rfl⟩
    rw [show 68 + 2 * s = 67 + 2 * s + 1 by omega, sa_s]
    show upd (h.2.1 (67 + 2 * s + 1)) k (cutF (S.2.2.2.2.1 s).2.1 v) j = if j = k then cutF (S.2.2.2.2.1 s).2.1 v else (S.2.2.2.2.1 s).2.2.2 j
    unfold upd
    by_cases q : j = k
    · rw [if_pos q, if_pos q]
    · rw [if_neg q, if_neg q, show 67 + 2 * s + 1 = 68 + 2 * s by omega]
      exact f4 j hj
  unfold M_X5_store
  rw [if_neg (by rw [hh]; decide), f2, am_inK (show k < 60 by omega) (by omega), nK (by omega)]
  simp only [cond_true]
  have h3 := hok.1
  unfold cutF at fin
  by_cases c0 : (S.2.2.2.2.1 s).2.1 = 0
  · rw [if_pos c0] at fin
    rw [if_pos (by rw [c0]; rfl)]
    exact fin
  · rw [if_neg c0] at fin
    rw [show (0 : Int32) = nI 0 from rfl, if_neg (kF c0 (by omega) (by omega))]
    by_cases c1 : (S.2.2.2.2.1 s).2.1 = 1
    · rw [if_pos c1] at fin
      rw [if_pos (by rw [c1]; rfl)]
      exact fin
    · rw [if_neg c1] at fin
      rw [show (1 : Int32) = nI 1 from rfl, if_neg (kF c1 (by omega) (by omega))]
      exact fin
theorem m_keep {h : AH} {S : ST} {s k : Nat} (v : Int32) (ho : okST S) (hm : MT h S) (hs : s < 4) (hk : k < (S.2.2.2.2.1 s).2.2.1) : ∃ h', M_X9_keep (nI s) (nI k) v h = some h' ∧ MT h' (setH S s (putS (S.2.2.2.2.1 s) k v)) ∧ h'.1 = h.1 ∧ ∀ i, ¬ i = 107 → h'.2.1 i = h.2.1 i := by
  have hok := ho.2.2.2.2.2.2 s hs
  obtain ⟨f1, f2, f3, f4⟩ := hm.2.2.2.2.2.1 s hs
  have fin : ∃ h', some (am_sa h 107 (upd (h.2.1 107) (60 * s + k) (cutF (S.2.2.2.2.1 s).2.1 v))) = some h' ∧ MT h' (setH S s (putS (S.2.2.2.2.1 s) k v)) ∧ h'.1 = h.1 ∧ ∀ i, ¬ i = 107 → h'.2.1 i = h.2.1 i := by
    refine ⟨_, rfl, MT_sh hs hm ⟨f1, f2, f3, fun j hj => ?_⟩ (fun t ht q => ⟨rfl, rfl, rfl, fun j hj => ?_⟩) rfl (fun i q => sa_n _ _ (by omega)), rfl, fun i q => sa_n _ _ q⟩
    · rw [sa_s]
      show upd (h.2.1 107) (60 * s + k) (cutF (S.2.2.2.2.1 s).2.1 v) (60 * s + j) = if j = k then cutF (S.2.2.2.2.1 s).2.1 v else (S.2.2.2.2.1 s).2.2.2 j
      unfold upd
      by_cases q : j = k
      · rw [if_pos q, if_pos (by omega)]
      · rw [if_neg q, if_neg (by omega)]
        exact f4 j hj
    · rw [sa_s]
      exact if_neg (by omega)
  unfold M_X9_keep
  rw [am_inK hs (by omega), nK (by omega), f2, show (60 : Int32) = nI 60 from rfl, nI_mul, nI_add, am_inK (show 60 * s + k < 240 by omega) (by omega), nK (by omega)]
  simp only [cond_true]
  have h3 := hok.1
  unfold cutF at fin
  by_cases c0 : (S.2.2.2.2.1 s).2.1 = 0
  · rw [if_pos c0] at fin
    rw [if_pos (by rw [c0]; rfl)]
    exact fin
  · rw [if_neg c0] at fin
    rw [show (0 : Int32) = nI 0 from rfl, if_neg (kF c0 (by omega) (by omega))]
    by_cases c1 : (S.2.2.2.2.1 s).2.1 = 1
    · rw [if_pos c1] at fin
      rw [if_pos (by rw [c1]; rfl)]
      exact fin
    · rw [if_neg c1] at fin
      rw [show (1 : Int32) = nI 1 from rfl, if_neg (kF c1 (by omega) (by omega))]
      exact fin
/-- what is wrong with an item, to both -/
theorem lackA {S : ST} {s f : Nat} (ho : okST S) (hs : s < 4) (hf : f < 3) (i : Int32) : (∃ k, k < (S.2.2.2.2.1 s).2.2.1 ∧ i = nI k ∧ (∀ h, CT h S → M_X5_faultOf (67 + 2 * s) (nI f) i h = 0) ∧ (∀ h, MT h S → M_X9_lacks (nI s) (nI f) i h = some 0)) ∨ (∃ v, ¬ v = 0 ∧ ¬ v ≤ 0 ∧ (∀ h, CT h S → M_X5_faultOf (67 + 2 * s) (nI f) i h = v) ∧ (∀ h, MT h S → M_X9_lacks (nI s) (nI f) i h = some v)) := by
  have hok := ho.2.2.2.2.2.2 s hs
  have h3 := hok.1
  unfold M_X5_faultOf M_X9_lacks
  rw [am_inK hs (by omega), nK (by omega)]
  cases hlo : (S.2.2.2.2.1 s).1
  · by_cases cf : f = (S.2.2.2.2.1 s).2.1
    · rcases hasB hok.2 i with ⟨k, hk, rfl, w1, w2⟩ | ⟨w1, w2⟩
      · refine Or.inl ⟨k, hk, rfl, fun h hc => ?_, fun h hm => ?_⟩
        · obtain ⟨f1, f2, f3, f4⟩ := hc.2.2.2.2.2.1 s hs
          rw [f1, hlo, if_pos (by decide), f2, if_pos (by rw [cf]), if_neg (by rw [w1 h _ f3]; decide)]
        · obtain ⟨f1, f2, f3, f4⟩ := hm.2.2.2.2.2.1 s hs
          rw [f1, hlo, if_neg (by decide), f2, if_pos (by rw [cf]), f3, w2, if_neg (by decide)]
          rfl
      · refine Or.inr ⟨2, by decide, by decide, fun h hc => ?_, fun h hm => ?_⟩
        · obtain ⟨f1, f2, f3, f4⟩ := hc.2.2.2.2.2.1 s hs
          rw [f1, hlo, if_pos (by decide), f2, if_pos (by rw [cf]), if_pos (w1 h _ f3)]
        · obtain ⟨f1, f2, f3, f4⟩ := hm.2.2.2.2.2.1 s hs
          rw [f1, hlo, if_neg (by decide), f2, if_pos (by rw [cf]), f3, w2, if_pos rfl]
          rfl
    · refine Or.inr ⟨3, by decide, by decide, fun h hc => ?_, fun h hm => ?_⟩
      · obtain ⟨f1, f2, f3, f4⟩ := hc.2.2.2.2.2.1 s hs
        rw [f1, hlo, if_pos (by decide), f2, if_neg (kF cf (by omega) (by omega))]
      · obtain ⟨f1, f2, f3, f4⟩ := hm.2.2.2.2.2.1 s hs
        rw [f1, hlo, if_neg (by decide), f2, if_neg (kF (fun z => cf z.symm) (by omega) (by omega))]
        rfl
  · refine Or.inr ⟨1, by decide, by decide, fun h hc => ?_, fun h hm => ?_⟩
    · rw [(hc.2.2.2.2.2.1 s hs).1, hlo, if_neg (by decide)]
    · rw [(hm.2.2.2.2.2.1 s hs).1, hlo, if_pos (by decide)]
      rfl
theorem two_put (a b c d : Int32) : two (M_X8_put a b c d) (M_X9_put a b c d) := by
  intro S ho
  rcases arg (a := a) (N := 3) (by omega) with ⟨s, hs, rfl, w1, w2⟩ | ⟨na, w1, w2⟩
  · have w2 : M_X9_isSheet (nI s) = 1 := w2
    have hs : s < 4 := by omega
    have e8 : ∀ h, M_X8_put (nI s) b c d h = B_X8_put_7 b c d (67 + 2 * s) h := by
      intro h
      unfold M_X8_put
      rcases (show s = 0 ∨ s = 1 ∨ s = 2 ∨ s = 3 by omega) with rfl | rfl | rfl | rfl
      · rw [if_pos (show nI 0 = (0 : Int32) from rfl)]
      · rw [if_neg (show ¬ nI 1 = (0 : Int32) by decide), if_pos (show nI 1 = (1 : Int32) from rfl)]
      · rw [if_neg (show ¬ nI 2 = (0 : Int32) by decide), if_neg (show ¬ nI 2 = (1 : Int32) by decide), if_pos (show nI 2 = (2 : Int32) from rfl)]
      · rw [if_neg (show ¬ nI 3 = (0 : Int32) by decide), if_neg (show ¬ nI 3 = (1 : Int32) by decide), if_neg (show ¬ nI 3 = (2 : Int32) by decide), if_pos (show nI 3 = (3 : Int32) from rfl)]
    rcases arg (a := b) (N := 2) (by omega) with ⟨f, hf, rfl, v1, v2⟩ | ⟨nb, v1, v2⟩
    · have v1 : M_X8_within (nI f) 2 = 1 := v1
      have v2 : M_X9_in (nI f) 0 2 = 1 := v2
      rcases lackA ho hs (show f < 3 by omega) c with ⟨k, hk, rfl, q1, q2⟩ | ⟨v, hv, hv2, q1, q2⟩
      · refine ⟨1, setH S s (putS (S.2.2.2.2.1 s) k d), fun h hc => ?_, fun h hm => ?_⟩
        · obtain ⟨h1, a1, a2⟩ := c_store d hc hs hk
          rw [e8]
          unfold B_X8_put_7
          rw [if_neg (by rw [v1]; decide), if_pos (q1 h hc.2.1), a1]
          exact ⟨h1, rfl, a2⟩
        · obtain ⟨h1, a1, a2, -⟩ := m_keep d ho hm hs hk
          unfold M_X9_put
          rw [if_neg (by rw [w2]; decide), if_neg (by rw [v2]; decide), q2 h hm, oS, if_pos (by decide), a1]
          exact ⟨h1, rfl, a2⟩
      · refine ⟨-10 - v, setF S v, fun h hc => ?_, fun h hm => ?_⟩
        · rw [e8]
          unfold B_X8_put_7 M_X8_found
          rw [if_neg (by rw [v1]; decide), q1 h hc.2.1, if_neg hv]
          exact ⟨_, rfl, CR_fd hc⟩
        · unfold M_X9_put M_X9_meets
          rw [if_neg (by rw [w2]; decide), if_neg (by rw [v2]; decide), q2 h hm, oS, if_neg hv2]
          exact ⟨_, rfl, MT_fd hm⟩
    · refine ⟨-2, S, fun h hc => ?_, fun h hm => ?_⟩
      · rw [e8]
        unfold B_X8_put_7
        rw [if_pos (show M_X8_within b 2 = 0 from v1)]
        exact ⟨h, rfl, hc⟩
      · unfold M_X9_put
        rw [if_neg (by rw [w2]; decide), if_pos (show M_X9_in b 0 2 = 0 from v2)]
        exact ⟨h, rfl, hm⟩
  · refine ⟨-2, S, fun h hc => ?_, fun h hm => ?_⟩
    · unfold M_X8_put
      rw [if_neg (show ¬ a = 0 from na 0 (by omega)), if_neg (show ¬ a = 1 from na 1 (by omega)), if_neg (show ¬ a = 2 from na 2 (by omega)), if_neg (show ¬ a = 3 from na 3 (by omega))]
      exact ⟨h, rfl, hc⟩
    · unfold M_X9_put
      rw [if_pos (show M_X9_isSheet a = 0 from w2)]
      exact ⟨h, rfl, hm⟩
theorem two_get (a b c : Int32) : two (M_X8_get a b c) (M_X9_get a b c) := by
  intro S ho
  rcases arg (a := a) (N := 3) (by omega) with ⟨s, hs, rfl, w1, w2⟩ | ⟨na, w1, w2⟩
  · have w2 : M_X9_isSheet (nI s) = 1 := w2
    have hs : s < 4 := by omega
    have e8 : ∀ h, M_X8_get (nI s) b c h = B_X8_get_7 b c (67 + 2 * s) h := by
      intro h
      unfold M_X8_get
      rcases (show s = 0 ∨ s = 1 ∨ s = 2 ∨ s = 3 by omega) with rfl | rfl | rfl | rfl
      · rw [if_pos (show nI 0 = (0 : Int32) from rfl)]
      · rw [if_neg (show ¬ nI 1 = (0 : Int32) by decide), if_pos (show nI 1 = (1 : Int32) from rfl)]
      · rw [if_neg (show ¬ nI 2 = (0 : Int32) by decide), if_neg (show ¬ nI 2 = (1 : Int32) by decide), if_pos (show nI 2 = (2 : Int32) from rfl)]
      · rw [if_neg (show ¬ nI 3 = (0 : Int32) by decide), if_neg (show ¬ nI 3 = (1 : Int32) by decide), if_neg (show ¬ nI 3 = (2 : Int32) by decide), if_pos (show nI 3 = (3 : Int32) from rfl)]
    rcases arg (a := b) (N := 2) (by omega) with ⟨f, hf, rfl, v1, v2⟩ | ⟨nb, v1, v2⟩
    · have v1 : M_X8_within (nI f) 2 = 1 := v1
      have v2 : M_X9_in (nI f) 0 2 = 1 := v2
      have hok := ho.2.2.2.2.2.2 s hs
      rcases lackA ho hs (show f < 3 by omega) c with ⟨k, hk, rfl, q1, q2⟩ | ⟨v, hv, hv2, q1, q2⟩
      · refine ⟨(S.2.2.2.2.1 s).2.2.2 k, S, fun h hc => ?_, fun h hm => ?_⟩
        · rw [e8]
          unfold B_X8_get_7
          rw [if_neg (by rw [v1]; decide), if_pos (q1 h hc.2.1), c_item hc.2.1 hs hk hok.2]
          exact ⟨h, rfl, hc⟩
        · unfold M_X9_get
          rw [if_neg (by rw [w2]; decide), if_neg (by rw [v2]; decide), q2 h hm, oS, if_pos (by decide), show (60 : Int32) = nI 60 from rfl, nI_mul, nI_add, am_inK (show 60 * s + k < 240 by omega) (by omega), nK (by omega), m_item hm hs (by omega)]
          exact ⟨h, rfl, hm⟩
      · refine ⟨-2147483648, setF S v, fun h hc => ?_, fun h hm => ?_⟩
        · rw [e8]
          unfold B_X8_get_7
          rw [if_neg (by rw [v1]; decide), q1 h hc.2.1, if_neg hv]
          exact ⟨_, rfl, CR_fd hc⟩
        · unfold M_X9_get
          rw [if_neg (by rw [w2]; decide), if_neg (by rw [v2]; decide), q2 h hm, oS, if_neg hv2]
          exact ⟨_, rfl, MT_fd hm⟩
    · refine ⟨-2147483648, S, fun h hc => ?_, fun h hm => ?_⟩
      · rw [e8]
        unfold B_X8_get_7
        rw [if_pos (show M_X8_within b 2 = 0 from v1)]
        exact ⟨h, rfl, hc⟩
      · unfold M_X9_get
        rw [if_neg (by rw [w2]; decide), if_pos (show M_X9_in b 0 2 = 0 from v2)]
        exact ⟨h, rfl, hm⟩
  · refine ⟨-2147483648, S, fun h hc => ?_, fun h hm => ?_⟩
    · unfold M_X8_get
      rw [if_neg (show ¬ a = 0 from na 0 (by omega)), if_neg (show ¬ a = 1 from na 1 (by omega)), if_neg (show ¬ a = 2 from na 2 (by omega)), if_neg (show ¬ a = 3 from na 3 (by omega))]
      exact ⟨h, rfl, hc⟩
    · unfold M_X9_get
      rw [if_pos (show M_X9_isSheet a = 0 from w2)]
      exact ⟨h, rfl, hm⟩
