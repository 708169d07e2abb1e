/-! event, back, seen, forget, read -/
theorem setE_ok {S : ST} {es : List T3} (ho : okST S) (he : okE es 3 0 9) : okST (setE S es) := ⟨ho.1, ho.2.1, ho.2.2.1, ho.2.2.2.1, he, ho.2.2.2.2.2⟩
theorem setN_ok {S : ST} {es : List T3} (ho : okST S) (he : okE es 2 0 0) : okST (setN S es) := ⟨ho.1, ho.2.1, ho.2.2.1, ho.2.2.2.1, ho.2.2.2.2.1, he, ho.2.2.2.2.2.2⟩
theorem okE_app {l : List T3} {x : T3} {kinds lo hi : Nat} (h : okE l kinds lo hi) (hl : l.length < 8) (hx : x.1 < 24 ∧ x.2.1 < kinds ∧ lo ≤ x.2.2 ∧ x.2.2 ≤ hi) : okE (l ++ [x]) kinds lo hi := by
  refine ⟨by rw [List.length_append]; show _ + 1 ≤ 8; omega, fun y hy => ?_⟩
  rcases List.mem_append.mp hy with z | z
  · exact h.2 y z
  · rw [List.mem_singleton] at z
    rw [z]
    exact hx
theorem evA (a b c : Int32) : (∃ k t v, k < 3 ∧ t < 24 ∧ v ≤ 9 ∧ a = nI k ∧ b = nI t ∧ c = nI v ∧ M_X8_mayBeEvent a b c = 1 ∧ M_X9_isThree a = 1 ∧ M_X9_isMinute b = 1 ∧ M_X9_in c 0 9 = 1) ∨ (M_X8_mayBeEvent a b c = 0 ∧ ∀ h, M_X9_event a b c h = some (-2, h)) := by
  unfold M_X8_mayBeEvent M_X9_event
  rcases arg (a := a) (N := 2) (by omega) with ⟨k, hk, rfl, w1, w2⟩ | ⟨na, w1, w2⟩
  · have w1 : M_X8_within (nI k) 2 = 1 := w1
    have w2 : M_X9_isThree (nI k) = 1 := w2
    rcases arg (a := b) (N := 23) (by omega) with ⟨t, ht, rfl, v1, v2⟩ | ⟨nb, v1, v2⟩
    · have v1 : M_X8_within (nI t) 23 = 1 := v1
      have v2 : M_X9_isMinute (nI t) = 1 := v2
      rcases arg (a := c) (N := 9) (by omega) with ⟨v, hv, rfl, u1, u2⟩ | ⟨nc, u1, u2⟩
      · have u1 : M_X8_within (nI v) 9 = 1 := u1
        have u2 : M_X9_in (nI v) 0 9 = 1 := u2
        exact Or.inl ⟨k, t, v, by omega, by omega, hv, rfl, rfl, rfl, by rw [w1, v1, u1]; decide, w2, v2, u2⟩
      · have u1 : M_X8_within c 9 = 0 := u1
        have u2 : M_X9_in c 0 9 = 0 := u2
        exact Or.inr ⟨by rw [w1, v1, u1]; decide, fun h => by rw [if_neg (by rw [w2]; decide), if_neg (by rw [v2]; decide), if_pos u2]⟩
    · have v1 : M_X8_within b 23 = 0 := v1
      have v2 : M_X9_isMinute b = 0 := v2
      exact Or.inr ⟨by rw [w1, v1, if_neg (by decide), if_pos rfl], fun h => by rw [if_neg (by rw [w2]; decide), if_pos v2]⟩
  · have w1 : M_X8_within a 2 = 0 := w1
    exact Or.inr ⟨by rw [w1, if_pos rfl], fun h => by rw [if_pos (show M_X9_isThree a = 0 from w2)]⟩
theorem m_event_full {S : ST} {h : AH} {a b c : Int32} (hm : MT h S) (hl : S.2.2.1.length = 8) (q1 : M_X9_isThree a = 1) (q2 : M_X9_isMinute b = 1) (q3 : M_X9_in c 0 9 = 1) : M_X9_event a b c h = some (-4, h) := by
  unfold M_X9_event
  rw [if_neg (by rw [q1]; decide), if_neg (by rw [q2]; decide), if_neg (by rw [q3]; decide), hm.2.2.1.1, hl, if_pos (show nI 8 = (8 : Int32) from rfl)]
theorem m_event_ok {S : ST} {h : AH} {k t v : Nat} (hm : MT h S) (hl : S.2.2.1.length < 8) (q1 : M_X9_isThree (nI k) = 1) (q2 : M_X9_isMinute (nI t) = 1) (q3 : M_X9_in (nI v) 0 9 = 1) : ∃ h', M_X9_event (nI k) (nI t) (nI v) h = some (nI (S.2.2.1.length + 1), h') ∧ MT h' (setE S (S.2.2.1 ++ [(t, k, v)])) := by
  unfold M_X9_event
  rw [if_neg (by rw [q1]; decide), if_neg (by rw [q2]; decide), if_neg (by rw [q3]; decide), hm.2.2.1.1, show (8 : Int32) = nI 8 from rfl, if_neg (kF (by omega) (by omega) (by omega)), am_inK hl (by omega), nK (by omega), nI_1]
  simp only [cond_true]
  refine ⟨_, rfl, MT_ev hm ⟨?_, fun j x hx => ?_⟩ (fun k z => ?_) (fun i z => ?_)⟩
  · rw [sf_same, List.length_append]
    rfl
  · rw [sf_2, sa_n _ _ (by omega), sa_s, sa_n _ _ (by omega), sa_n _ _ (by omega), sa_s, sa_s]
    unfold upd
    by_cases q : j = S.2.2.1.length
    · rw [q, List.getElem?_append_right (Nat.le_refl _), Nat.sub_self] at hx
      cases hx
      rw [if_pos q, if_pos q, if_pos q]
      exact ⟨rfl, rfl, rfl⟩
    · have hlt := (List.getElem?_eq_some_iff.mp hx).1
      rw [List.length_append] at hlt
      have hlt : j < S.2.2.1.length + 1 := hlt
      rw [List.getElem?_append_left (by omega)] at hx
      rw [if_neg q, if_neg q, if_neg q]
      exact hm.2.2.1.2 j x hx
  · rw [sf_k _ _ z]
    rfl
  · rw [sf_2, sa_n _ _ (by omega), sa_n _ _ (by omega), sa_n _ _ (by omega)]
theorem two_event {n : Nat} (hn : 600 < n) (a b c : Int32) : two (M_X8_event n a b c) (M_X9_event a b c) := by
  intro S ho
  rcases evA a b c with ⟨k, t, v, hk, ht, hv, rfl, rfl, rfl, w, q1, q2, q3⟩ | ⟨w, q⟩
  · have h8 := ho.2.2.2.2.1.1
    by_cases hl : S.2.2.1.length < 8
    · refine ⟨nI (S.2.2.1.length + 1), setE S (S.2.2.1 ++ [(t, k, v)]), fun h hc => ?_, fun h hm => m_event_ok hm hl q1 q2 q3⟩
      unfold M_X8_event
      rw [if_neg (by rw [w]; decide), hc.2.1.2.2.1.1, if_pos (by rw [show (8 : Int32) = nI 8 from rfl]; exact nI_lt hl (by omega))]
      obtain ⟨h1, a1, a2, a3, a4, a5⟩ := entR_add (a := t) (b := k) (c := v) hc.2.1.2.2.1 hl
      obtain ⟨hb, b1, b2, b3, b4⟩ := CR_changed (n := n) (by omega) (setE_ok ho (okE_app (x := (t, k, v)) ho.2.2.2.2.1 hl ⟨ht, hk, Nat.zero_le _, hv⟩)) (CT_ev hc.2.1 a2 (fun i k z => a3 _ _ (by omega)) a4) (CK_drop hc.2.2 (a3 _ _ (by omega)) (by rw [a5]))
      rw [a1, vS, b1, vS, b3 _ _ (by omega) (by omega), a2.1, List.length_append]
      exact ⟨hb, rfl, b2⟩
    · refine ⟨-4, S, fun h hc => ?_, fun h hm => ⟨h, m_event_full hm (by omega) q1 q2 q3, hm⟩⟩
      unfold M_X8_event
      rw [if_neg (by rw [w]; decide), hc.2.1.2.2.1.1, show S.2.2.1.length = 8 by omega, if_neg (by decide)]
      exact ⟨h, rfl, hc⟩
  · refine ⟨-2, S, fun h hc => ?_, fun h hm => ⟨h, q h, hm⟩⟩
    unfold M_X8_event
    rw [if_pos w]
    exact ⟨h, rfl, hc⟩
theorem okE_take {l : List T3} {kinds lo hi k : Nat} (h : okE l kinds lo hi) : okE (l.take k) kinds lo hi := by
  have := h.1
  exact ⟨by rw [List.length_take]; omega, fun y hy => h.2 y (List.mem_of_mem_take hy)⟩
theorem two_back {n : Nat} (hn : 600 < n) : two (M_X8_back n) M_X9_back := by
  intro S ho
  have h8 := ho.2.2.2.2.1.1
  by_cases hl : S.2.2.1.length = 0
  · refine ⟨-3, S, fun h hc => ?_, fun h hm => ?_⟩
    · unfold M_X8_back
      rw [hc.2.1.2.2.1.1, hl, if_neg (by decide)]
      exact ⟨h, rfl, hc⟩
    · unfold M_X9_back
      rw [hm.2.2.1.1, hl, if_pos (show nI 0 = (0 : Int32) from rfl)]
      exact ⟨h, rfl, hm⟩
  · have el : (S.2.2.1.take (S.2.2.1.length - 1)).length = S.2.2.1.length - 1 := by
      rw [List.length_take]
      omega
    refine ⟨nI (S.2.2.1.length - 1), setE S (S.2.2.1.take (S.2.2.1.length - 1)), fun h hc => ?_, fun h hm => ?_⟩
    · unfold M_X8_back
      rw [hc.2.1.2.2.1.1, if_pos (by rw [show (0 : Int32) = nI 0 from rfl]; exact nI_lt (by omega) (by omega)), show (1 : Int32) = nI 1 from rfl, nI_sub (by omega)]
      obtain ⟨hb, b1, b2, b3, b4⟩ := CR_changed (n := n) (by omega) (setE_ok ho (okE_take (k := S.2.2.1.length - 1) ho.2.2.2.2.1)) (CT_ev (h1 := am_sf h 13 3 (nI (S.2.2.1.length - 1))) hc.2.1 ⟨by rw [sf_same, el], fun j x hx => hc.2.1.2.2.1.2 j x (by
        have hlt := (List.getElem?_eq_some_iff.mp hx).1
        rw [el] at hlt
        rw [List.getElem?_take_of_lt hlt] at hx
        exact hx)⟩ (fun i k z => sf_r _ _ _ _ z) (fun _ _ => rfl)) (CK_drop hc.2.2 (sf_n (by omega)) rfl)
      rw [b1, vS, b3 _ _ (by omega) (by omega), sf_same]
      exact ⟨hb, rfl, b2⟩
    · unfold M_X9_back
      rw [hm.2.2.1.1, show (0 : Int32) = nI 0 from rfl, if_neg (kF hl (by omega) (by omega)), show (1 : Int32) = nI 1 from rfl, nI_sub (by omega)]
      exact ⟨_, rfl, MT_ev hm ⟨by rw [sf_same, el], fun j x hx => hm.2.2.1.2 j x (by
        have hlt := (List.getElem?_eq_some_iff.mp hx).1
        rw [el] at hlt
        rw [List.getElem?_take_of_lt hlt] at hx
        exact hx)⟩ (fun k z => sf_k _ _ z) (fun _ _ => rfl)⟩
theorem CR_sn {h h1 : AH} {S : ST} {l : List T3} (hc : CR h S) (ho : okE l 2 0 0) (he : entR h1 17 l) (ff : ∀ i k, ¬ i = 17 → h1.1 i k = h.1 i k) (fa : ∀ i, ¬ (17 < i ∧ i ≤ 20) → h1.2.1 i = h.2.1 i) (fl : h1.2.2 = h.2.2) : CR h1 (setN S l) := ⟨setN_ok hc.1 ho, CT_sn hc.2.1 he ff fa, CK_fr hc.2.2 rfl (fun _ => rfl) (ff _ _ (by omega)) (fun i k _ _ => ff _ _ (by omega)) (fun i _ _ => fa _ (by omega)) fl⟩
theorem two_seen (a b : Int32) : two (M_X8_seen a b) (M_X9_seen a b) := by
  intro S ho
  have h8 := ho.2.2.2.2.2.1.1
  unfold M_X8_seen M_X9_seen
  rcases arg (a := a) (N := 23) (by omega) with ⟨t, ht, rfl, w1, w2⟩ | ⟨na, w1, w2⟩
  · have w1 : M_X8_within (nI t) 23 = 1 := w1
    have w2 : M_X9_isMinute (nI t) = 1 := w2
    rcases arg (a := b) (N := 1) (by omega) with ⟨v, hv, rfl, v1, v2⟩ | ⟨nb, v1, v2⟩
    · have v1 : M_X8_within (nI v) 1 = 1 := v1
      have v2 : M_X9_isTwo (nI v) = 1 := v2
      by_cases hl : S.2.2.2.1.length < 8
      · refine ⟨nI (S.2.2.2.1.length + 1), setN S (S.2.2.2.1 ++ [(t, v, 0)]), fun h hc => ?_, fun h hm => ?_⟩
        · rw [if_neg (by rw [w1]; decide), if_neg (by rw [v1]; decide), hc.2.1.2.2.2.1.1, if_pos (by rw [show (8 : Int32) = nI 8 from rfl]; exact nI_lt hl (by omega))]
          obtain ⟨h1, a1, a2, a3, a4, a5⟩ := entR_add (a := t) (b := v) (c := 0) hc.2.1.2.2.2.1 hl
          have a1 : M_X1_add 17 (nI t) (nI v) 0 h = some h1 := a1
          rw [a1, vS, a2.1, List.length_append]
          exact ⟨h1, rfl, CR_sn hc (okE_app (x := (t, v, 0)) ho.2.2.2.2.2.1 hl ⟨by show t < 24; omega, by show v < 2; omega, Nat.le_refl _, Nat.le_refl _⟩) a2 (fun i k z => a3 _ _ (by omega)) a4 a5⟩
        · rw [if_neg (by rw [w2]; decide), if_neg (by rw [v2]; decide), hm.2.2.2.2.1.1, show (8 : Int32) = nI 8 from rfl, if_neg (kF (by omega) (by omega) (by omega)), am_inK hl (by omega), nK (by omega), nI_1]
          simp only [cond_true]
          refine ⟨_, rfl, MT_sn hm ⟨?_, fun j x hx => ?_⟩ (fun k z => ?_) (fun i z => ?_)⟩
          · rw [sf_same, List.length_append]
            rfl
          · rw [sf_2, sa_n _ _ (by omega), sa_s, sa_s]
            unfold upd
            by_cases q : j = S.2.2.2.1.length
            · rw [q, List.getElem?_append_right (Nat.le_refl _), Nat.sub_self] at hx
              cases hx
              rw [if_pos q, if_pos q]
              exact ⟨rfl, rfl⟩
            · have hlt := (List.getElem?_eq_some_iff.mp hx).1
              rw [List.length_append] at hlt
              have hlt : j < S.2.2.2.1.length + 1 := hlt
              rw [List.getElem?_append_left (by omega)] at hx
              rw [if_neg q, if_neg q]
              exact hm.2.2.2.2.1.2 j x hx
          · rw [sf_k _ _ z]
            rfl
          · rw [sf_2, sa_n _ _ (by omega), sa_n _ _ (by omega)]
      · refine ⟨-4, S, fun h hc => ?_, fun h hm => ?_⟩
        · rw [if_neg (by rw [w1]; decide), if_neg (by rw [v1]; decide), hc.2.1.2.2.2.1.1, show S.2.2.2.1.length = 8 by omega, if_neg (by decide)]
          exact ⟨h, rfl, hc⟩
        · rw [if_neg (by rw [w2]; decide), if_neg (by rw [v2]; decide), hm.2.2.2.2.1.1, show S.2.2.2.1.length = 8 by omega, if_pos (show nI 8 = (8 : Int32) from rfl)]
          exact ⟨h, rfl, hm⟩
    · refine ⟨-2, S, fun h hc => ?_, fun h hm => ?_⟩
      · rw [if_neg (by rw [w1]; decide), if_pos (show M_X8_within b 1 = 0 from v1)]
        exact ⟨h, rfl, hc⟩
      · rw [if_neg (by rw [w2]; decide), if_pos (show M_X9_isTwo b = 0 from v2)]
        exact ⟨h, rfl, hm⟩
  · refine ⟨-2, S, fun h hc => ?_, fun h hm => ?_⟩
    · rw [if_pos (show M_X8_within a 23 = 0 from w1)]
      exact ⟨h, rfl, hc⟩
    · rw [if_pos (show M_X9_isMinute a = 0 from w2)]
      exact ⟨h, rfl, hm⟩
theorem two_forget : two M_X8_forget M_X9_forget := by
  intro S ho
  refine ⟨nI S.2.2.2.1.length, setN S [], fun h hc => ?_, fun h hm => ?_⟩
  · unfold M_X8_forget
    rw [hc.2.1.2.2.2.1.1]
    exact ⟨_, rfl, CR_sn hc ⟨Nat.zero_le _, fun x hx => by cases hx⟩ ⟨by rw [sf_same]; rfl, fun j x hx => by cases hx⟩ (fun i k z => sf_r _ _ _ _ z) (fun _ _ => rfl) rfl⟩
  · unfold M_X9_forget
    rw [hm.2.2.2.2.1.1]
    exact ⟨_, rfl, MT_sn hm ⟨by rw [sf_same]; rfl, fun j x hx => by cases hx⟩ (fun k z => sf_k _ _ z) (fun _ _ => rfl)⟩
/-! read -/
def rd (it : Nat → Int32) (sz : Nat) : Nat → Nat → List T3 → List T3
  | 0, _, es => es
  | d + 1, j, es => if 3 * j + 2 < sz ∧ es.length < 8 ∧ M_X8_mayBeEvent (it (3 * j)) (it (3 * j + 1)) (it (3 * j + 2)) = 1 then rd it sz d (j + 1) (es ++ [((it (3 * j + 1)).toNatClampNeg, (it (3 * j)).toNatClampNeg, (it (3 * j + 2)).toNatClampNeg)]) else es
theorem c_item {h : AH} {S : ST} {s i : Nat} (hc : CT h S) (hs : s < 4) (hi : i < (S.2.2.2.2.1 s).2.2.1) (h60 : (S.2.2.2.2.1 s).2.2.1 ≤ 60) : M_X5_item (67 + 2 * s) (nI i) h = some ((S.2.2.2.2.1 s).2.2.2 i) := by
  obtain ⟨f1, f2, f3, f4⟩ := hc.2.2.2.2.2.1 s hs
  unfold M_X5_item M_X5_has
  rw [if_neg (nI_pos (by omega)), f3, if_neg (nI_ge hi (by omega)), show (60 : Int32) = nI 60 from rfl, if_neg (nI_ge (by omega) (by omega)), if_neg (by decide), am_inK (show i < 60 by omega) (by omega), nK (by omega), show 67 + 2 * s + 1 = 68 + 2 * s by omega, f4 i (by omega)]
  rfl
theorem m_item {h : AH} {S : ST} {s i : Nat} (hm : MT h S) (hs : s < 4) (hi : i < 60) : h.2.1 107 (60 * s + i) = (S.2.2.2.2.1 s).2.2.2 i := (hm.2.2.2.2.2.1 s hs).2.2.2 i hi
set_option maxHeartbeats 1000000 in
theorem c_readL {n s L0 : Nat} {S : ST} (hn : 600 < n) (ho : okST S) (hs : s < 4) : ∀ (d j m : Nat) (es : List T3) (h : AH), j + d = 20 → d < m → es.length = L0 + j → okE es 3 0 9 → CT h (setE S es) → ((h.1 37 4 = 1 ∧ ∀ t, t < 503 → h.2.2 38 t = 0) ∨ h.1 37 4 = 0) → ∃ h', L_X8_read_37 n m (67 + 2 * s) (nI L0) (nI (3 * j)) h = some (nI ((rd (S.2.2.2.2.1 s).2.2.2 (S.2.2.2.2.1 s).2.2.1 d j es).length - L0), h') ∧ CR h' (setE S (rd (S.2.2.2.2.1 s).2.2.2 (S.2.2.2.2.1 s).2.2.1 d j es)) := by
  obtain ⟨sz, hsz⟩ : ∃ sz, sz = (S.2.2.2.2.1 s).2.2.1 := ⟨_, rfl⟩
  obtain ⟨it, hit⟩ : ∃ it, it = (S.2.2.2.2.1 s).2.2.2 := ⟨_, rfl⟩
  have h60 : sz ≤ 60 := by rw [hsz]; exact (ho.2.2.2.2.2.2 s hs).2
  rw [← hsz, ← hit]
  intro d
  have stop : ∀ (j : Nat) (es : List T3) (h : AH), es.length = L0 + j → okE es 3 0 9 → CT h (setE S es) → ((h.1 37 4 = 1 ∧ ∀ t, t < 503 → h.2.2 38 t = 0) ∨ h.1 37 4 = 0) → ∃ h', B_X8_read_122 n (nI L0) h = some (nI (es.length - L0), h') ∧ CR h' (setE S es) := by
    intro j es h he hok hct hk
    unfold B_X8_read_122
    obtain ⟨hb, b1, b2, b3, b4⟩ := CR_changed (n := n) (by omega) (setE_ok ho hok) hct hk
    rw [b1, vS, b3 _ _ (by omega) (by omega), show h.1 13 3 = nI es.length from hct.2.2.1.1, nI_sub (by omega)]
    exact ⟨hb, rfl, b2⟩
  induction d with
  | zero =>
    intro j m es h hj hm he hok hct hk
    obtain ⟨m, rfl⟩ : ∃ q, m = q + 1 := ⟨m - 1, by omega⟩
    have f3 : h.1 (67 + 2 * s) 3 = nI sz := by rw [hsz]; exact (hct.2.2.2.2.2.1 s hs).2.2.1
    rw [L_X8_read_37, f3, show (2 : Int32) = nI 2 from rfl, nI_add, if_pos (nI_le (by omega) (by omega))]
    exact stop j es h he hok hct hk
  | succ d ih =>
    intro j m es h hj hm he hok hct hk
    obtain ⟨m, rfl⟩ : ∃ q, m = q + 1 := ⟨m - 1, by omega⟩
    have h8 := hok.1
    have f3 : h.1 (67 + 2 * s) 3 = nI sz := by rw [hsz]; exact (hct.2.2.2.2.2.1 s hs).2.2.1
    rw [L_X8_read_37, f3, show (2 : Int32) = nI 2 from rfl, nI_add, rd]
    by_cases c1 : 3 * j + 2 < sz
    · rw [if_neg (nI_ge c1 (by omega)), show h.1 13 3 = nI es.length from hct.2.2.1.1]
      by_cases c2 : es.length < 8
      · rw [show (8 : Int32) = nI 8 from rfl, if_neg (nI_ge c2 (by omega)), show (1 : Int32) = nI 1 from rfl, nI_add]
        have i1 := c_item (s := s) (i := 3 * j) hct hs (by show _ < (S.2.2.2.2.1 s).2.2.1; omega) (by show (S.2.2.2.2.1 s).2.2.1 ≤ 60; omega)
        have i2 := c_item (s := s) (i := 3 * j + 1) hct hs (by show _ < (S.2.2.2.2.1 s).2.2.1; omega) (by show (S.2.2.2.2.1 s).2.2.1 ≤ 60; omega)
        have i3 := c_item (s := s) (i := 3 * j + 2) hct hs (by show _ < (S.2.2.2.2.1 s).2.2.1; omega) (by show (S.2.2.2.2.1 s).2.2.1 ≤ 60; omega)
        rw [i1, i2, i3, oS, oS, oS]
        show ∃ h', (if M_X8_mayBeEvent ((S.2.2.2.2.1 s).2.2.2 (3 * j)) ((S.2.2.2.2.1 s).2.2.2 (3 * j + 1)) ((S.2.2.2.2.1 s).2.2.2 (3 * j + 2)) = 0 then B_X8_read_122 n (nI L0) h else am_v (M_X1_add 13 ((S.2.2.2.2.1 s).2.2.2 (3 * j + 1)) ((S.2.2.2.2.1 s).2.2.2 (3 * j)) ((S.2.2.2.2.1 s).2.2.2 (3 * j + 2)) h) fun h4 => L_X8_read_37 n m (67 + 2 * s) (nI L0) (nI (3 * j) + 3) h4) = _ ∧ _
        rw [← hit]
        rcases evA (it (3 * j)) (it (3 * j + 1)) (it (3 * j + 2)) with ⟨k, t, v, hk1, ht1, hv1, ek, et, ev, w, -, -, -⟩ | ⟨w, -⟩
        · rw [if_neg (by rw [w]; decide), if_pos ⟨c1, c2, w⟩, ek, et, ev, nK (by omega), nK (by omega), nK (by omega)]
          obtain ⟨h1, a1, a2, a3, a4, a5⟩ := entR_add (a := t) (b := k) (c := v) hct.2.2.1 c2
          rw [a1, vS, show (3 : Int32) = nI 3 from rfl, nI_add]
          have := ih (j + 1) m (es ++ [(t, k, v)]) h1 (by omega) (by omega) (by rw [List.length_append]; show _ + 1 = _; omega) (okE_app (x := (t, k, v)) hok c2 ⟨ht1, hk1, Nat.zero_le _, hv1⟩) (CT_ev (S := setE S es) hct a2 (fun i k z => a3 _ _ (by omega)) a4) (by rw [a3 _ _ (by omega), a5]; exact hk)
          rw [show 3 * j + 3 = 3 * (j + 1) by omega]
          exact this
        · rw [if_pos w, if_neg (fun z => by rw [w] at z; exact absurd z.2.2 (by decide))]
          exact stop j es h he hok hct hk
      · rw [show (8 : Int32) = nI 8 from rfl, if_pos (nI_le (by omega) (by omega)), if_neg (fun z => c2 z.2.1)]
        exact stop j es h he hok hct hk
    · rw [if_pos (nI_le (by omega) (by omega)), if_neg (fun z => c1 z.1)]
      exact stop j es h he hok hct hk
set_option maxHeartbeats 1000000 in
theorem m_readL {n s L0 : Nat} {S : ST} (ho : okST S) (hs : s < 4) : ∀ (d j m : Nat) (es : List T3) (h : AH), j + d = 20 → d < m → es.length = L0 + j → es.length ≤ 8 → MT h (setE S es) → ∃ h', L_X9_read_32 n m (nI s) (nI j) (nI (60 * s)) h = some (nI ((rd (S.2.2.2.2.1 s).2.2.2 (S.2.2.2.2.1 s).2.2.1 d j es).length - L0), h') ∧ MT h' (setE S (rd (S.2.2.2.2.1 s).2.2.2 (S.2.2.2.2.1 s).2.2.1 d j es)) := by
  obtain ⟨sz, hsz⟩ : ∃ sz, sz = (S.2.2.2.2.1 s).2.2.1 := ⟨_, rfl⟩
  obtain ⟨it, hit⟩ : ∃ it, it = (S.2.2.2.2.1 s).2.2.2 := ⟨_, rfl⟩
  have h60 : sz ≤ 60 := by rw [hsz]; exact (ho.2.2.2.2.2.2 s hs).2
  rw [← hsz, ← hit]
  intro d
  induction d with
  | zero =>
    intro j m es h hj hm he hl hmt
    obtain ⟨m, rfl⟩ : ∃ q, m = q + 1 := ⟨m - 1, by omega⟩
    have f3 : h.2.1 106 s = nI sz := by rw [hsz]; exact (hmt.2.2.2.2.2.1 s hs).2.2.1
    rw [L_X9_read_32, am_inK hs (by omega), nK (by omega), f3, show (3 : Int32) = nI 3 from rfl, nI_mul, show (2 : Int32) = nI 2 from rfl, nI_add, if_pos (nI_le (by omega) (by omega)), rd, show es.length - L0 = j by omega]
    exact ⟨h, rfl, hmt⟩
  | succ d ih =>
    intro j m es h hj hm he hl hmt
    obtain ⟨m, rfl⟩ : ∃ q, m = q + 1 := ⟨m - 1, by omega⟩
    have f3 : h.2.1 106 s = nI sz := by rw [hsz]; exact (hmt.2.2.2.2.2.1 s hs).2.2.1
    rw [L_X9_read_32, am_inK hs (by omega), nK (by omega), f3, show (3 : Int32) = nI 3 from rfl, nI_mul, show (2 : Int32) = nI 2 from rfl, nI_add, rd]
    simp only [cond_true]
    by_cases c1 : 3 * j + 2 < sz
    · have i1 : h.2.1 107 (60 * s + 3 * j) = it (3 * j) := by rw [hit]; exact m_item (S := setE S es) hmt hs (by omega)
      have i2 : h.2.1 107 (60 * s + 3 * j + 1) = it (3 * j + 1) := by rw [hit, Nat.add_assoc]; exact m_item (S := setE S es) hmt hs (by omega)
      have i3 : h.2.1 107 (60 * s + 3 * j + 2) = it (3 * j + 2) := by rw [hit, Nat.add_assoc]; exact m_item (S := setE S es) hmt hs (by omega)
      rw [if_neg (nI_ge c1 (by omega)), nI_add, show (1 : Int32) = nI 1 from rfl, nI_add, nI_add, am_inK (show 60 * s + 3 * j < 240 by omega) (by omega), am_inK (show 60 * s + 3 * j + 1 < 240 by omega) (by omega), am_inK (show 60 * s + 3 * j + 2 < 240 by omega) (by omega), nK (by omega), nK (by omega), nK (by omega), i1, i2, i3]
      simp only [cond_true]
      rcases evA (it (3 * j)) (it (3 * j + 1)) (it (3 * j + 2)) with ⟨k, t, v, hk1, ht1, hv1, ek, et, ev, w, q1, q2, q3⟩ | ⟨w, q⟩
      · by_cases c2 : es.length < 8
        · rw [if_pos ⟨c1, c2, w⟩]
          rw [ek] at q1
          rw [et] at q2
          rw [ev] at q3
          rw [ek, et, ev, nK (by omega), nK (by omega), nK (by omega)]
          obtain ⟨h1, a1, a2⟩ := m_event_ok (k := k) (t := t) (v := v) hmt c2 q1 q2 q3
          have a1 : M_X9_event (nI k) (nI t) (nI v) h = some (nI (es.length + 1), h1) := a1
          rw [a1, bS, show (0 : Int32) = nI 0 from rfl, if_neg (nI_ge (by omega) (by omega)), nI_add]
          exact ih (j + 1) m (es ++ [(t, k, v)]) h1 (by omega) (by omega) (by rw [List.length_append]; show _ + 1 = _; omega) (by rw [List.length_append]; show _ + 1 ≤ 8; omega) a2
        · rw [if_neg (fun z => c2 z.2.1), m_event_full hmt (by show es.length = 8; omega) q1 q2 q3, bS, if_pos (by decide), show es.length - L0 = j by omega]
          exact ⟨h, rfl, hmt⟩
      · rw [if_neg (fun z => by rw [w] at z; exact absurd z.2.2 (by decide)), q, bS, if_pos (by decide), show es.length - L0 = j by omega]
        exact ⟨h, rfl, hmt⟩
    · rw [if_pos (nI_le (by omega) (by omega)), if_neg (fun z => c1 z.1), show es.length - L0 = j by omega]
      exact ⟨h, rfl, hmt⟩
theorem two_read {n : Nat} (hn : 600 < n) (a : Int32) : two (M_X8_read n a) (M_X9_read n a) := by
  intro S ho
  rcases arg (a := a) (N := 3) (by omega) with ⟨s, hs, rfl, w1, w2⟩ | ⟨na, w1, w2⟩
  · have w2 : M_X9_isSheet (nI s) = 1 := w2
    have hs : s < 4 := by omega
    have e8 : ∀ h, M_X8_read n (nI s) h = B_X8_read_6 n (67 + 2 * s) h := by
      intro h
      unfold M_X8_read
      rcases (show s = 0 ∨ s = 1 ∨ s = 2 ∨ s = 3 by omega) with rfl | rfl | rfl | rfl
      · rw [if_pos (show nI 0 = (0 : Int32) from rfl)]
      · rw [if_neg (show ¬ nI 1 = (0 : Int32) by decide), if_pos (show nI 1 = (1 : Int32) from rfl)]
      · rw [if_neg (show ¬ nI 2 = (0 : Int32) by decide), if_neg (show ¬ nI 2 = (1 : Int32) by decide), if_pos (show nI 2 = (2 : Int32) from rfl)]
      · rw [if_neg (show ¬ nI 3 = (0 : Int32) by decide), if_neg (show ¬ nI 3 = (1 : Int32) by decide), if_neg (show ¬ nI 3 = (2 : Int32) by decide), if_pos (show nI 3 = (3 : Int32) from rfl)]
    by_cases hlo : (S.2.2.2.2.1 s).1 = true
    · refine ⟨-10 - 1, setF S 1, fun h hc => ?_, fun h hm => ?_⟩
      · rw [e8]
        unfold B_X8_read_6 M_X8_found
        rw [(hc.2.1.2.2.2.2.2.1 s hs).1, hlo, if_neg (by decide)]
        exact ⟨_, rfl, CR_fd hc⟩
      · unfold M_X9_read M_X9_meets
        rw [if_neg (by rw [w2]; decide), am_inK hs (by omega), nK (by omega), (hm.2.2.2.2.2.1 s hs).1, hlo, if_pos (by decide)]
        exact ⟨_, rfl, MT_fd hm⟩
    · have hlo : (S.2.2.2.2.1 s).1 = false := by
        cases q : (S.2.2.2.2.1 s).1
        · rfl
        · exact absurd q hlo
      refine ⟨nI ((rd (S.2.2.2.2.1 s).2.2.2 (S.2.2.2.2.1 s).2.2.1 20 0 S.2.2.1).length - S.2.2.1.length), setE S (rd (S.2.2.2.2.1 s).2.2.2 (S.2.2.2.2.1 s).2.2.1 20 0 S.2.2.1), fun h hc => ?_, fun h hm => ?_⟩
      · rw [e8]
        unfold B_X8_read_6
        rw [(hc.2.1.2.2.2.2.2.1 s hs).1, hlo, if_pos (by decide), hc.2.1.2.2.1.1]
        exact c_readL (n := n) hn ho hs 20 0 n S.2.2.1 h (by omega) (by omega) (by omega) ho.2.2.2.2.1 hc.2.1 (CK_drop hc.2.2 rfl rfl)
      · unfold M_X9_read
        rw [if_neg (by rw [w2]; decide), am_inK hs (by omega), nK (by omega), (hm.2.2.2.2.2.1 s hs).1, hlo, if_neg (by decide), show (60 : Int32) = nI 60 from rfl, nI_mul]
        exact m_readL (n := n) ho hs 20 0 n S.2.2.1 h (by omega) (by omega) (by omega) ho.2.2.2.2.1.1 hm
  · refine ⟨-2, S, fun h hc => ?_, fun h hm => ?_⟩
    · unfold M_X8_read
      rw [if_neg (show ¬ a = 0 from na 0 (by omega)), if_neg (show ¬ a = 1 from na 1 (by omega)), if_neg (show ¬ a = 2 from na 2 (by omega)), if_neg (show ¬ a = 3 from na 3 (by omega))]
      exact ⟨h, rfl, hc⟩
    · unfold M_X9_read
      rw [if_pos (show M_X9_isSheet a = 0 from w2)]
      exact ⟨h, rfl, hm⟩
