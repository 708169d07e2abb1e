/-! evenings -/
def q_eve (S : ST) (s : Int32) (c w : Nat) : Int32 := if w = 0 then nI (glS (lotP S s c)) else nI (cN (fun k => (stt (lotP S s c) 24).2.2.2.2.2.1 k == 4) 8)
theorem c_eve {n c w : Nat} {S : ST} {h : AH} (s : Int32) (hc : CR h S) (hcn : c ≤ 8) (hw : w < 2) (hn : 600 < n) : ∃ h', M_X8_evenings n s (nI c) (nI w) h = some (q_eve S s c w, h') ∧ CR h' S := by
  obtain ⟨h1, a1, a2⟩ := c_lots (n := n) s hc hcn (by omega)
  have b := pkS_b (lotP_ok s hc.1 hcn)
  have hu := unpk b.1 b.2.1 b.2.2.1 b.2.2.2
  have u1 : M_X7_glassesIn (pkS (lotP S s c)) = nI (glS (lotP S s c)) := hu.1
  have u2 : M_X7_goneIn (pkS (lotP S s c)) = nI (goS (lotP S s c)) := hu.2.1
  have u3 : M_J13_bitCount (nI (goS (lotP S s c))) = nI (cN (fun k => (stt (lotP S s c) 24).2.2.2.2.2.1 k == 4) 8) := bitN (by omega)
  unfold M_X8_evenings q_eve
  rw [show (8 : Int32) = nI 8 from rfl, withinK hcn (by omega), if_neg (by decide), show (1 : Int32) = nI 1 from rfl, withinK (by omega) (by omega), if_neg (by decide), a1, bS, u1, u2, u3]
  refine ⟨h1, ?_, a2⟩
  rcases (show w = 0 ∨ w = 1 by omega) with rfl | rfl <;> rfl
theorem m_eve {n c w : Nat} {S : ST} {h : AH} (s : Int32) (ho : okST S) (hm : MT h S) (hcn : c ≤ 8) (hw : w < 2) (hn : 600 < n) : ∃ h', M_X9_eveningsOf n s (nI c) (nI w) h = some (q_eve S s c w, h') ∧ ME h' S := by
  unfold M_X9_eveningsOf q_eve
  obtain ⟨h1, a1, a2⟩ := m_asT (n := n) ho hm hn
  rw [a1, vS]
  obtain ⟨m', h2, e1, e2, e3, e4⟩ := loopH (L := fun m (q : Int32 × Int32) h => L_X9_eveningsOf_15 n m (nI c) (nI w) q.1 q.2 h) (f := fun k => (sdN s k, nI k)) (I := fun k hx => hx.1 = (am_sf h1 75 16 (nI c)).1 ∧ (∀ i, ¬ (87 ≤ i ∧ i ≤ 89) → hx.2.1 i = h1.2.1 i) ∧ ∀ (j : Nat) (x : T3), (lotL s k)[j]? = some x → hx.2.1 87 j = nI x.1 ∧ hx.2.1 88 j = nI x.2.1 ∧ hx.2.1 89 j = nI x.2.2) (N := c) (by
    intro m k hx hk hI
    obtain ⟨i1, i2, i3⟩ := hI
    show ∃ h', L_X9_eveningsOf_15 n (m + 1) (nI c) (nI w) (sdN s k) (nI k) hx = L_X9_eveningsOf_15 n m (nI c) (nI w) (sdN s (k + 1)) (nI (k + 1)) h' ∧ _
    have b1 := sd_lt (nx (sdN s k))
    have b2 := sd_lt (nx (nx (sdN s k)))
    have b3 := sd_lt (nx (nx (nx (sdN s k))))
    rw [L_X9_eveningsOf_15, if_neg (nI_ge hk (by omega)), am_inK (show k < 8 by omega) (by omega), nK (by omega), show 1103515245 * sdN s k + 12345 = nx (sdN s k) from rfl, show 1103515245 * nx (sdN s k) + 12345 = nx (nx (sdN s k)) from rfl, show 1103515245 * nx (nx (sdN s k)) + 12345 = nx (nx (nx (sdN s k))) from rfl, ush16, ush16, ush16, show (24 : Int32) = nI 24 from rfl, modN (by omega) (by omega), show (2 : Int32) = nI 2 from rfl, modN (by omega) (by omega), show (4 : Int32) = nI 4 from rfl, modN (by omega) (by omega), nI_1, nI_1]
    simp only [cond_true]
    refine ⟨_, rfl, i1, fun i z => ?_, fun j x hj => ?_⟩
    · rw [sa_n _ _ (by omega), sa_n _ _ (by omega), sa_n _ _ (by omega)]
      exact i2 i z
    · rw [sa_n _ _ (by omega), sa_n _ _ (by omega), sa_s, sa_n _ _ (by omega), sa_s, sa_s]
      unfold upd
      rw [lotL] at hj
      by_cases q : j = k
      · rw [q, List.getElem?_append_right (by rw [lotL_len]; exact Nat.le_refl _), lotL_len, Nat.sub_self] at hj
        cases hj
        rw [if_pos q, if_pos q, if_pos q]
        exact ⟨rfl, rfl, rfl⟩
      · have hlt := (List.getElem?_eq_some_iff.mp hj).1
        rw [List.length_append, lotL_len] at hlt
        have hlt : j < k + 1 := hlt
        rw [List.getElem?_append_left (by rw [lotL_len]; omega)] at hj
        rw [if_neg q, if_neg q, if_neg q]
        exact i3 j x hj) c 0 n (am_sf h1 75 16 (nI c)) (by omega) (by omega) ⟨rfl, fun _ _ => rfl, fun j x hj => by cases hj⟩
  have e1 : L_X9_eveningsOf_15 n n (nI c) (nI w) s 0 (am_sf h1 75 16 (nI c)) = L_X9_eveningsOf_15 n (m' + 1) (nI c) (nI w) (sdN s c) (nI c) h2 := e1
  have ff : ∀ k, ¬ k = 16 → h2.1 75 k = h1.1 75 k := fun k z => by rw [e2, sf_k _ _ z]
  have hp := lotP_ok s ho hcn
  have ht : TB h2 S (entS 0 S.1.1) (lotL s c) S.2.1.1 0 := by
    obtain ⟨a, b, d, e, f, g⟩ := a2
    refine ⟨a.fr ⟨fun k z => ff k (by omega), fun i z => e3 i (by omega)⟩, ⟨by rw [ff _ (by omega)]; exact b.1, fun j x hx => ?_⟩, ⟨by rw [ff _ (by unfold mF; omega)]; exact d.1, fun j x hx => ?_⟩, ⟨by rw [e2, sf_same, lotL_len], e4⟩, by rw [ff _ (by omega)]; exact f, by rw [ff _ (by omega)]; exact g⟩
    · rw [e3 _ (by omega), e3 _ (by omega), e3 _ (by omega)]
      exact b.2 j x hx
    · rw [e3 _ (by unfold mA; omega), e3 _ (by unfold mA; omega), e3 _ (by unfold mA; omega)]
      exact d.2 j x hx
  obtain ⟨h3, g1, g2, g3, -⟩ := m_run1 (n := n) ht skM_f hp hn
  obtain ⟨b1, b2, b3, b4, b5, b6, b7, b8, b9, b10⟩ := g2
  have y0 := m_drunk (n := n) hp g3.2.2.2.1.1 b10 hn
  have y2 := m_many (n := n) (v := 4) hp g3.2.2.2.1.1 b10 (by omega) (by omega) hn
  have y2 : M_X9_manyOf n 4 h3 = _ := y2
  rw [e1, L_X9_eveningsOf_15, if_pos (nI_le (Nat.le_refl _) (by omega)), g1, vS, y0, y2, oS, oS]
  refine ⟨h3, ?_, g3.me⟩
  rcases (show w = 0 ∨ w = 1 by omega) with rfl | rfl <;> rfl
theorem two_evenings {n : Nat} (hn : 600 < n) (a b c : Int32) : two (M_X8_evenings n a b c) (M_X9_evenings n a b c) := by
  intro S ho
  rcases arg (a := b) (N := 8) (by omega) with ⟨k, hk, rfl, w1, w2⟩ | ⟨nb, w1, w2⟩
  · rcases arg (a := c) (N := 1) (by omega) with ⟨w, hw, rfl, v1, v2⟩ | ⟨nc, v1, v2⟩
    · refine ⟨q_eve S a k w, S, fun h hc => c_eve a hc hk (by omega) hn, fun h hm => ?_⟩
      obtain ⟨h1, a1, a2⟩ := m_eve (n := n) a ho hm hk (show w < 2 by omega) hn
      unfold M_X9_evenings
      rw [if_neg (by rw [show M_X9_in (nI k) 0 8 = 1 from w2]; decide), if_neg (by rw [show M_X9_isTwo (nI w) = 1 from v2]; decide), a1]
      exact ⟨h1, rfl, a2.1⟩
    · refine ⟨-2, S, fun h hc => ?_, fun h hm => ?_⟩
      · unfold M_X8_evenings
        rw [if_neg (by rw [show M_X8_within (nI k) 8 = 1 from w1]; decide), if_pos (show M_X8_within c 1 = 0 from v1)]
        exact ⟨h, rfl, hc⟩
      · unfold M_X9_evenings
        rw [if_neg (by rw [show M_X9_in (nI k) 0 8 = 1 from w2]; decide), if_pos (show M_X9_isTwo c = 0 from v2)]
        exact ⟨h, rfl, hm⟩
  · refine ⟨-2, S, fun h hc => ?_, fun h hm => ?_⟩
    · unfold M_X8_evenings
      rw [if_pos (show M_X8_within b 8 = 0 from w1)]
      exact ⟨h, rfl, hc⟩
    · unfold M_X9_evenings
      rw [if_pos (show M_X9_in b 0 8 = 0 from w2)]
      exact ⟨h, rfl, hm⟩
/-! write -/
theorem setH_setH (S : ST) (s : Nat) (x y : SH) : setH (setH S s x) s y = setH S s y := by
  have e : (fun i => if i = s then y else if i = s then x else S.2.2.2.2.1 i) = (fun i => if i = s then y else S.2.2.2.2.1 i) := by
    funext i
    by_cases q : i = s
    · rw [if_pos q, if_pos q]
    · rw [if_neg q, if_neg q, if_neg q]
  unfold setH
  dsimp only
  rw [e]
theorem setH_self (S : ST) (s : Nat) : setH S s (S.2.2.2.2.1 s) = S := by
  have e : (fun i => if i = s then S.2.2.2.2.1 s else S.2.2.2.2.1 i) = S.2.2.2.2.1 := by
    funext i
    by_cases q : i = s
    · rw [if_pos q, q]
    · rw [if_neg q]
  unfold setH
  rw [e]
theorem setH_at (S : ST) (s : Nat) (x : SH) : (setH S s x).2.2.2.2.1 s = x := if_pos rfl
def wrS (x : SH) (P : PL) (w : Nat) : Nat → SH
  | 0 => x
  | k + 1 => putS (wrS x P w k) k (q_at P k w)
theorem wrS_sz (x : SH) (P : PL) (w : Nat) : ∀ k, (wrS x P w k).1 = x.1 ∧ (wrS x P w k).2.1 = x.2.1 ∧ (wrS x P w k).2.2.1 = x.2.2.1
  | 0 => ⟨rfl, rfl, rfl⟩
  | k + 1 => wrS_sz x P w k
theorem c_writeL {n s w : Nat} {S : ST} {h : AH} (hc : CR h S) (hs : s < 4) (hw : w < 3) (hn : 600 < n) : ∃ h', L_X8_write_48 n n (nI w) (67 + 2 * s) (nI (min (S.2.2.2.2.1 s).2.2.1 24)) 0 h = some (nI (min (S.2.2.2.2.1 s).2.2.1 24), h') ∧ CR h' (setH S s (wrS (S.2.2.2.2.1 s) (toldP S) w (min (S.2.2.2.2.1 s).2.2.1 24))) := by
  obtain ⟨x, hx⟩ : ∃ x, x = S.2.2.2.2.1 s := ⟨_, rfl⟩
  rw [← hx]
  obtain ⟨N, hN⟩ : ∃ N, N = min x.2.2.1 24 := ⟨_, rfl⟩
  rw [← hN]
  obtain ⟨m', h1, e1, e2⟩ := loopH (L := fun m (q : Int32) h => L_X8_write_48 n m (nI w) (67 + 2 * s) (nI N) q h) (f := fun k => nI k) (I := fun k h => CR h (setH S s (wrS x (toldP S) w k))) (N := N) (by
    intro m k h hk hI
    show ∃ h', L_X8_write_48 n (m + 1) (nI w) (67 + 2 * s) (nI N) (nI k) h = L_X8_write_48 n m (nI w) (67 + 2 * s) (nI N) (nI (k + 1)) h' ∧ _
    obtain ⟨h1, a1, a2⟩ := c_at (n := n) (t := k) (w := w) hI (by omega) (by omega) hn
    have a1 : M_X8_at n (nI k) (nI w) h = some (q_at (toldP S) k w, h1) := a1
    obtain ⟨h2, b1, b2⟩ := c_store (s := s) (k := k) (q_at (toldP S) k w) a2 hs (by rw [setH_at, (wrS_sz _ _ _ _).2.2]; omega)
    rw [setH_at, setH_setH] at b2
    rw [L_X8_write_48, if_neg (nI_ge hk (by omega)), a1, bS, b1, vS, nI_1]
    exact ⟨h2, rfl, b2⟩) N 0 n h (by omega) (by omega) (by
      show CR h (setH S s x)
      rw [hx, setH_self]
      exact hc)
  have e1 : L_X8_write_48 n n (nI w) (67 + 2 * s) (nI N) 0 h = L_X8_write_48 n (m' + 1) (nI w) (67 + 2 * s) (nI N) (nI N) h1 := e1
  rw [e1, L_X8_write_48, if_pos (nI_le (Nat.le_refl _) (by omega))]
  exact ⟨h1, rfl, e2⟩
theorem m_writeL {n s w : Nat} {S : ST} {h : AH} (ho : okST S) (hm : MT h S) (hT : mevT h (toldP S) 24) (hs : s < 4) (hw : w < 3) (hn : 600 < n) : ∃ h', L_X9_write_38 n n (nI w) (nI s) 0 h = some (nI (min (S.2.2.2.2.1 s).2.2.1 24), h') ∧ MT h' (setH S s (wrS (S.2.2.2.2.1 s) (toldP S) w (min (S.2.2.2.2.1 s).2.2.1 24))) := by
  have hok := ho.2.2.2.2.2.2 s hs
  obtain ⟨x, hx⟩ : ∃ x, x = S.2.2.2.2.1 s := ⟨_, rfl⟩
  rw [← hx] at hok ⊢
  obtain ⟨N, hN⟩ : ∃ N, N = min x.2.2.1 24 := ⟨_, rfl⟩
  rw [← hN]
  obtain ⟨m', h1, e1, e2, e3⟩ := loopH (L := fun m (q : Int32) h => L_X9_write_38 n m (nI w) (nI s) q h) (f := fun k => nI k) (I := fun k hx => MT hx (setH S s (wrS x (toldP S) w k)) ∧ hx.2.1 96 = h.2.1 96) (N := N) (by
    intro m k hx hk hI
    obtain ⟨i1, i2⟩ := hI
    show ∃ h', L_X9_write_38 n (m + 1) (nI w) (nI s) (nI k) hx = L_X9_write_38 n m (nI w) (nI s) (nI (k + 1)) h' ∧ _
    have sz : hx.2.1 106 s = nI x.2.2.1 := by
      have := (i1.2.2.2.2.2.1 s hs).2.2.1
      rw [setH_at, (wrS_sz _ _ _ _).2.2] at this
      exact this
    have tv : hx.2.1 96 (6 * k + w) = q_at (toldP S) k w := by
      rw [i2]
      obtain ⟨x1, x2, x3, -⟩ := hT k (by omega)
      rcases (show w = 0 ∨ w = 1 ∨ w = 2 by omega) with rfl | rfl | rfl
      · exact x1
      · exact x2
      · exact x3
    have hw3 := wrS_sz x (toldP S) w k
    obtain ⟨h2, b1, b2, b3, b4⟩ := m_keep (s := s) (k := k) (q_at (toldP S) k w) (setH_ok ho (by rw [hw3.2.1]; exact hok.1) (by rw [hw3.2.2]; exact hok.2)) i1 hs (by rw [setH_at, hw3.2.2]; omega)
    rw [setH_at, setH_setH] at b2
    rw [L_X9_write_38, am_inK hs (by omega), nK (by omega), sz, if_neg (nI_ge (by omega) (by omega)), show (24 : Int32) = nI 24 from rfl, if_neg (nI_ge (by omega) (by omega)), show (6 : Int32) = nI 6 from rfl, nI_mul, nI_add, am_inK (show 6 * k + w < 144 by omega) (by omega), nK (by omega), tv, b1, nI_1]
    exact ⟨h2, rfl, b2, by rw [b4 _ (by omega)]; exact i2⟩) N 0 n h (by omega) (by omega) ⟨by
      show MT h (setH S s x)
      rw [hx, setH_self]
      exact hm, rfl⟩
  have e1 : L_X9_write_38 n n (nI w) (nI s) 0 h = L_X9_write_38 n (m' + 1) (nI w) (nI s) (nI N) h1 := e1
  have sz : h1.2.1 106 s = nI x.2.2.1 := by
    have := (e2.2.2.2.2.2.1 s hs).2.2.1
    rw [setH_at, (wrS_sz _ _ _ _).2.2] at this
    exact this
  rw [e1, L_X9_write_38, am_inK hs (by omega), nK (by omega), sz]
  simp only [cond_true]
  refine ⟨h1, ?_, e2⟩
  by_cases q : x.2.2.1 ≤ N
  · rw [if_pos (nI_le q (by omega))]
  · rw [if_neg (nI_ge (by omega) (by omega)), show (24 : Int32) = nI 24 from rfl, if_pos (nI_le (by omega) (by omega))]
theorem two_write {n : Nat} (hn : 600 < n) (a b : Int32) : two (M_X8_write n a b) (M_X9_write n a b) := by
  intro S ho
  rcases arg (a := b) (N := 3) (by omega) with ⟨s, hs, rfl, w1, w2⟩ | ⟨nb, w1, w2⟩
  · have w2 : M_X9_isSheet (nI s) = 1 := w2
    have hs : s < 4 := by omega
    have e8 : ∀ h, M_X8_write n a (nI s) h = B_X8_write_6 n a (67 + 2 * s) h := by
      intro h
      unfold M_X8_write
      rcases (show s = 0 ∨ s = 1 ∨ s = 2 ∨ s = 3 by omega) with rfl | rfl | rfl | rfl
      · rw [if_pos (show nI 0 = (0 : Int32) from rfl)]
      · rw [if_neg (show ¬ nI 1 = (0 : Int32) by decide), if_pos (show nI 1 = (1 : Int32) from rfl)]
      · rw [if_neg (show ¬ nI 2 = (0 : Int32) by decide), if_neg (show ¬ nI 2 = (1 : Int32) by decide), if_pos (show nI 2 = (2 : Int32) from rfl)]
      · rw [if_neg (show ¬ nI 3 = (0 : Int32) by decide), if_neg (show ¬ nI 3 = (1 : Int32) by decide), if_neg (show ¬ nI 3 = (2 : Int32) by decide), if_pos (show nI 3 = (3 : Int32) from rfl)]
    have hok := ho.2.2.2.2.2.2 s hs
    rcases arg (a := a) (N := 2) (by omega) with ⟨w, hw, rfl, v1, v2⟩ | ⟨na, v1, v2⟩
    · have v1 : M_X8_within (nI w) 2 = 1 := v1
      have v2 : M_X9_isThree (nI w) = 1 := v2
      cases hlo : (S.2.2.2.2.1 s).1
      · refine ⟨nI (min (S.2.2.2.2.1 s).2.2.1 24), setH S s (wrS (S.2.2.2.2.1 s) (toldP S) w (min (S.2.2.2.2.1 s).2.2.1 24)), fun h hc => ?_, fun h hm => ?_⟩
        · obtain ⟨f1, f2, f3, f4⟩ := hc.2.1.2.2.2.2.2.1 s hs
          rw [e8]
          unfold B_X8_write_6
          rw [if_neg (by rw [v1]; decide), f1, hlo, if_pos (by decide), f3, show (24 : Int32) = nI 24 from rfl, minN (by omega) (by omega)]
          exact c_writeL hc hs (by omega) hn
        · obtain ⟨f1, f2, f3, f4⟩ := hm.2.2.2.2.2.1 s hs
          obtain ⟨h1, a1, a2, a3, a4⟩ := m_rtE (n := n) ho hm hn
          unfold M_X9_write
          rw [if_neg (by rw [v2]; decide), if_neg (by rw [w2]; decide), am_inK hs (by omega), nK (by omega), f1, hlo, if_neg (by decide), a1]
          exact m_writeL ho a4.1 a2.1 hs (by omega) hn
      · refine ⟨-10 - 1, setF S 1, fun h hc => ?_, fun h hm => ?_⟩
        · rw [e8]
          unfold B_X8_write_6 M_X8_found
          rw [if_neg (by rw [v1]; decide), (hc.2.1.2.2.2.2.2.1 s hs).1, hlo, if_neg (by decide)]
          exact ⟨_, rfl, CR_fd hc⟩
        · unfold M_X9_write M_X9_meets
          rw [if_neg (by rw [v2]; decide), if_neg (by rw [w2]; decide), am_inK hs (by omega), nK (by omega), (hm.2.2.2.2.2.1 s hs).1, hlo, if_pos (by decide)]
          exact ⟨_, rfl, MT_fd hm⟩
    · refine ⟨-2, S, fun h hc => ?_, fun h hm => ?_⟩
      · rw [e8]
        unfold B_X8_write_6
        rw [if_pos (show M_X8_within a 2 = 0 from v1)]
        exact ⟨h, rfl, hc⟩
      · unfold M_X9_write
        rw [if_pos (show M_X9_isThree a = 0 from v2)]
        exact ⟨h, rfl, hm⟩
  · refine ⟨-2, S, fun h hc => ?_, fun h hm => ?_⟩
    · unfold M_X8_write
      rw [if_neg (show ¬ b = 0 from nb 0 (by omega)), if_neg (show ¬ b = 1 from nb 1 (by omega)), if_neg (show ¬ b = 2 from nb 2 (by omega)), if_neg (show ¬ b = 3 from nb 3 (by omega))]
      exact ⟨h, rfl, hc⟩
    · unfold M_X9_write
      rw [if_pos (show M_X9_isSheet b = 0 from w2)]
      split <;> exact ⟨h, rfl, hm⟩
