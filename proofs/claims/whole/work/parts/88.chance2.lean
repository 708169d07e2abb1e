/-! chance, both -/
theorem p16 (N : Nat) : 16 ^ N = 2 ^ (4 * N) := by rw [Nat.pow_mul]
theorem c_chance {n c k w : Nat} {S : ST} {h : AH} (hr : CR h S) (hc : c ≤ 16) (hk : k < (entS 1 S.1.2).length) (hh : M_X1_has 8 (nI k) h = 1) (hw : w < 2) (hn : 600 < n) : ∃ h', M_X8_chance n (nI c) (nI k) (nI w) h = some (q_cha S c k w, h') ∧ CR h' S := by
  have h8 := hr.1.2.2.2.2.1.1
  have g8 := e8g hr.1
  have hb := ch_b (k := k) hc h8
  obtain ⟨N, hN⟩ : ∃ N, N = S.2.2.1.length := ⟨_, rfl⟩
  have l2 : (2 : Nat) ^ N ≤ 2 ^ 8 := Nat.pow_le_pow_right (by omega) (by omega)
  unfold M_X8_chance
  rw [show (16 : Int32) = nI 16 from rfl, withinK hc (by omega), if_neg (by decide), hh, if_neg (by decide), show (1 : Int32) = nI 1 from rfl, withinK (by omega) (by omega), if_neg (by decide), hr.2.1.2.2.1.1, show (8 : Int32) = nI 8 from rfl, minN (by omega) (by omega), Nat.min_eq_left h8, ← hN]
  obtain ⟨m', h1, e1, e2⟩ := loopH (L := fun m (q : Int64 × Int32) h => L_X8_chance_55 n m (nI c) (nI k) (nI w) (nI N) q.1 q.2 h) (f := fun u => (nL (sN (chG S c k) u), nI u)) (I := fun _ h => CR h S) (N := 2 ^ N) (by
    intro m u h hu hI
    show ∃ h', L_X8_chance_55 n (m + 1) (nI c) (nI k) (nI w) (nI N) (nL (sN (chG S c k) u)) (nI u) h = L_X8_chance_55 n m (nI c) (nI k) (nI w) (nI N) (nL (sN (chG S c k) (u + 1))) (nI (u + 1)) h' ∧ CR h' S
    obtain ⟨h1, a1, a2⟩ := c_outcome (n := n) (t := u) hI (by omega) (by omega)
    have b := pkS_b (altP_ok (t := u) hr.1 (by omega))
    have hu1 : M_X7_contentIn (pkS (altP S u)) = nI (coS (altP S u)) := (unpk b.1 b.2.1 b.2.2.1 b.2.2.2).2.2.1
    have hb1 : ((nI (coS (altP S u)) >>> (nI k &&& 31)) &&& 1) = bI ((stt (altP S u) 24).2.2.2.2.2.1 k == 3) := bitM (f := fun k => (stt (altP S u) 24).2.2.2.2.2.1 k == 3) (show k < 8 by omega) (by omega)
    have hp := pop_le u N
    rw [L_X8_chance_55, nI_bit (by omega), if_neg (nI_ge hu (by omega)), a1, bS, hu1, hb1, bit_pop hu (by omega), nI_sub hp, show (16 : Int32) = nI 16 from rfl, nI_sub hc, c_power hc (by omega) hn, c_power (by omega) (by omega) hn, oS, oS, nL_mul, nL_add, nI_1]
    refine ⟨h1, ?_, a2⟩
    have es : sN (chG S c k) (u + 1) = sN (chG S c k) u + chG S c k u := rfl
    rw [es]
    by_cases q : (stt (altP S u) 24).2.2.2.2.2.1 k = 3
    · have eg : chG S c k u = c ^ (N - pop u N) * (16 - c) ^ pop u N := by
        unfold chG
        rw [if_pos q, ← hN, wp_eq]
      rw [eg, if_pos (by rw [q]; decide)]
    · have eg : chG S c k u = 0 := by
        unfold chG
        rw [if_neg q]
      rw [eg, if_neg (by rw [show ((stt (altP S u) 24).2.2.2.2.2.1 k == 3) = false by simp [q]]; decide)]
      rfl) (2 ^ N) 0 n h (by omega) (by omega) hr
  have e1 : L_X8_chance_55 n n (nI c) (nI k) (nI w) (nI N) 0 0 h = L_X8_chance_55 n (m' + 1) (nI c) (nI k) (nI w) (nI N) (nL (sN (chG S c k) (2 ^ N))) (nI (2 ^ N)) h1 := e1
  rw [e1, L_X8_chance_55, nI_bit (by omega), if_pos (nI_le (Nat.le_refl _) (by omega)), show (16 : Int32) = nI 16 from rfl, c_power (by omega) (by omega) hn, oS, p16]
  refine ⟨h1, ?_, e2⟩
  have eh := c_halve (n := n) (h := h1) hw (4 * N) 0 n (sN (chG S c k) (2 ^ N)) (by omega) (by omega) (by
    rw [hN]
    have := hb.1
    unfold chA at this
    omega)
  have eh : L_X8_chance_133 n n (nI w) (nL (sN (chG S c k) (2 ^ N))) (nL (2 ^ (4 * N))) 0 h1 = _ := eh
  rw [eh]
  unfold q_cha chA chB
  rw [hN]
theorem m_chW {n c k w u : Nat} {S : ST} {h : AH} {k10 : Int32 → Int32 → Int32 → Int64 → Int32 → AH → Option (Int64 × AH)} {x4 : Int64} (hc : c ≤ 16) (hu : u < 256) (h8 : S.2.2.1.length ≤ 8) (he : h.1 75 12 = nI S.2.2.1.length) (hn : 600 < n) : ∃ m', L_X9_chanceOf_27 n k10 n (nI c) (nI k) (nI w) x4 (nI u) 1 0 h = L_X9_chanceOf_27 n k10 (m' + 1) (nI c) (nI k) (nI w) x4 (nI u) (nL (wpS c u S.2.2.1.length)) (nI S.2.2.1.length) h := by
  refine loopP (L := fun m (q : Int64 × Int32) => L_X9_chanceOf_27 n k10 m (nI c) (nI k) (nI w) x4 (nI u) q.1 q.2 h) (f := fun e => (nL (wpS c u e), nI e)) (N := S.2.2.1.length) (fun m e hee => ?_) S.2.2.1.length 0 n (by omega) (by omega)
  show L_X9_chanceOf_27 n k10 (m + 1) (nI c) (nI k) (nI w) x4 (nI u) (nL (wpS c u e)) (nI e) h = L_X9_chanceOf_27 n k10 m (nI c) (nI k) (nI w) x4 (nI u) (nL (wpS c u (e + 1))) (nI (e + 1)) h
  rw [L_X9_chanceOf_27, he, if_neg (nI_ge hee (by omega)), show (16 : Int32) = nI 16 from rfl, nI_sub hc, toL (by omega), toL (by omega)]
  unfold B_X9_chanceOf_58 M_X9_isIn
  rw [nL_mul, nL_mul, nI_1, bit1 (by omega) (by omega), wpS]
  cases q : u.testBit e
  · rw [if_pos (by decide), if_neg (by decide)]
  · rw [if_neg (by decide), if_pos rfl]
theorem m_chanceOf {n c k w : Nat} {S : ST} {h : AH} (ho : okST S) (hm : MT h S) (hc : c ≤ 16) (hk : k < (entS 1 S.1.2).length) (hw : w < 2) (hn : 600 < n) : ∃ h', M_X9_chanceOf n (nI c) (nI k) (nI w) h = some (q_cha S c k w, h') ∧ ME h' S := by
  have h8 := ho.2.2.2.2.1.1
  have g8 := e8g ho
  have hb := ch_b (k := k) hc h8
  have l2 : (2 : Nat) ^ S.2.2.1.length ≤ 2 ^ 8 := Nat.pow_le_pow_right (by omega) (by omega)
  unfold M_X9_chanceOf
  obtain ⟨h1, a1, a2⟩ := m_asT (n := n) ho hm hn
  rw [a1, vS]
  obtain ⟨m', h2, e1, v, e2⟩ := loopH (L := fun m (q : Int64 × Int32) h => L_X9_chanceOf_10 n m (nI c) (nI k) (nI w) q.1 q.2 h) (f := fun u => (nL (sN (chG S c k) u), nI u)) (I := fun _ h => ∃ v, TB h S (entS 0 S.1.1) (entS 1 S.1.2) S.2.1.1 v) (N := 2 ^ S.2.2.1.length) (by
    intro m u h hu hI
    obtain ⟨v, i1⟩ := hI
    show ∃ h', L_X9_chanceOf_10 n (m + 1) (nI c) (nI k) (nI w) (nL (sN (chG S c k) u)) (nI u) h = L_X9_chanceOf_10 n m (nI c) (nI k) (nI w) (nL (sN (chG S c k) (u + 1))) (nI (u + 1)) h' ∧ _
    have he := i1.1.2.2.1.1
    obtain ⟨m2, g1⟩ := m_chW (n := n) (c := c) (k := k) (w := w) (u := u) (S := S) (h := h) (k10 := L_X9_chanceOf_10 n m) (x4 := nL (sN (chG S c k) u)) hc (by omega) h8 he hn
    have hwl := wp_le c u hc S.2.2.1.length
    have h16 : (16 : Nat) ^ S.2.2.1.length ≤ 16 ^ 8 := Nat.pow_le_pow_right (by omega) h8
    have es : sN (chG S c k) (u + 1) = sN (chG S c k) u + chG S c k u := rfl
    rw [L_X9_chanceOf_10, he, nI_bit (by omega), if_neg (nI_ge hu (by omega)), g1, L_X9_chanceOf_27, he, if_pos (nI_le (Nat.le_refl _) (by omega)), es]
    by_cases q0 : wpS c u S.2.2.1.length = 0
    · have eg : chG S c k u = 0 := by
        unfold chG
        rw [q0]
        split <;> rfl
      rw [eg, Nat.add_zero, show (0 : Int64) = nL 0 from rfl, if_pos ((lc_le (by omega) (by omega)).mpr (by omega)), nI_1]
      exact ⟨h, rfl, v, i1⟩
    · have hp := altP_ok (t := u) ho (by omega)
      rw [altE (by omega)] at hp
      obtain ⟨h3, b1, b2, b3, -⟩ := m_run1 (n := n) (i1.n (v := nI u)) (skM_n (show u < 256 by omega)) hp hn
      rw [← altE (by omega)] at b2
      have hst : h3.2.1 91 k = nI ((stt (altP S u) 24).2.2.2.2.2.1 k) := b2.2.2.2.2.2.2.2.2.2.1 k (by omega)
      have h4 := st_le (altP_ok (t := u) ho (by omega)) (show 24 ≤ 24 by omega) (show k < 8 by omega)
      rw [show (0 : Int64) = nL 0 from rfl, if_neg (fun z => q0 (by have := (lc_le (by omega) (by omega)).mp z; omega)), b1, vS, am_inK (show k < 8 by omega) (by omega), nK (by omega), hst]
      unfold B_X9_chanceOf_102
      rw [nL_add, nL_add, nI_1]
      refine ⟨h3, ?_, _, b3⟩
      by_cases q : (stt (altP S u) 24).2.2.2.2.2.1 k = 3
      · have eg : chG S c k u = wpS c u S.2.2.1.length := by
          unfold chG
          rw [if_pos q]
        rw [eg, if_pos (by rw [q]; rfl)]
        rfl
      · have eg : chG S c k u = 0 := by
          unfold chG
          rw [if_neg q]
        rw [eg, show (3 : Int32) = nI 3 from rfl, if_neg (kF q (by omega) (by omega))]
        rfl) (2 ^ S.2.2.1.length) 0 n h1 (by omega) (by omega) ⟨_, a2⟩
  have e1 : L_X9_chanceOf_10 n n (nI c) (nI k) (nI w) 0 0 h1 = L_X9_chanceOf_10 n (m' + 1) (nI c) (nI k) (nI w) (nL (chA S c k)) (nI (2 ^ S.2.2.1.length)) h2 := e1
  have he := e2.1.2.2.1.1
  have esh : (1 : Int64) <<< (Int32.toInt64 (nI (4 * S.2.2.1.length)) &&& 63) = nL (chB S) := by
    have h32 := hb.2.1
    have h1 : nL 1 <<< (Int32.toInt64 (nI (4 * S.2.2.1.length)) &&& 63) = nL (1 * 2 ^ (4 * S.2.2.1.length)) := nL_shl (by unfold chB at h32; omega) (by omega)
    rw [Nat.one_mul] at h1
    exact h1
  rw [e1, L_X9_chanceOf_10, he, nI_bit (by omega), if_pos (nI_le (Nat.le_refl _) (by omega)), show (4 : Int32) = nI 4 from rfl, nI_mul, esh, m_lowest hb.1 hb.2.1 hb.2.2 hw hn, oS]
  exact ⟨h2, rfl, e2.me⟩
theorem no_bad : M_X9_no (-2) = -9223372036854775806 := by decide +kernel
theorem two_chance {n : Nat} (hn : 600 < n) (a b c : Int32) : two (M_X8_chance n a b c) (M_X9_chance n a b c) := by
  intro S ho
  have h8 := e8g ho
  rcases arg (a := a) (N := 16) (by omega) with ⟨p, hp, rfl, w1, w2⟩ | ⟨na, w1, w2⟩
  · have w1 : M_X8_within (nI p) 16 = 1 := w1
    have w2 : M_X9_in (nI p) 0 16 = 1 := w2
    rcases hasA h8 b with ⟨k, hk, rfl, v1, v2⟩ | ⟨v1, v2⟩
    · rcases arg (a := c) (N := 1) (by omega) with ⟨w, hw, rfl, u1, u2⟩ | ⟨nc, u1, u2⟩
      · refine ⟨q_cha S p k w, S, fun h hc => c_chance hc hp hk (v1 h 8 hc.2.1.2.1.2.1) (by omega) hn, fun h hm => ?_⟩
        obtain ⟨h1, a1, a2⟩ := m_isGuest (n := n) (nI k) ho hm hn
        obtain ⟨h2, b1, b2⟩ := m_chanceOf (n := n) ho a2.1 hp hk (show w < 2 by omega) hn
        unfold M_X9_chance
        rw [if_neg (by rw [w2]; decide), a1, bS, v2, if_neg (by decide), if_neg (by rw [show M_X9_isTwo (nI w) = 1 from u2]; decide), b1]
        exact ⟨h2, rfl, b2.1⟩
      · refine ⟨-9223372036854775806, S, fun h hc => ?_, fun h hm => ?_⟩
        · unfold M_X8_chance
          rw [if_neg (by rw [w1]; decide), if_neg (by rw [v1 h 8 hc.2.1.2.1.2.1]; decide), if_pos (show M_X8_within c 1 = 0 from u1)]
          exact ⟨h, rfl, hc⟩
        · obtain ⟨h1, a1, a2⟩ := m_isGuest (n := n) (nI k) ho hm hn
          unfold M_X9_chance
          rw [if_neg (by rw [w2]; decide), a1, bS, v2, if_neg (by decide), if_pos (show M_X9_isTwo c = 0 from u2), no_bad]
          exact ⟨h1, rfl, a2.1⟩
    · refine ⟨-9223372036854775806, S, fun h hc => ?_, fun h hm => ?_⟩
      · unfold M_X8_chance
        rw [if_neg (by rw [w1]; decide), if_pos (v1 h 8 hc.2.1.2.1.2.1)]
        exact ⟨h, rfl, hc⟩
      · obtain ⟨h1, a1, a2⟩ := m_isGuest (n := n) b ho hm hn
        unfold M_X9_chance
        rw [if_neg (by rw [w2]; decide), a1, bS, v2, if_pos rfl, no_bad]
        exact ⟨h1, rfl, a2.1⟩
  · refine ⟨-9223372036854775806, S, fun h hc => ?_, fun h hm => ?_⟩
    · unfold M_X8_chance
      rw [if_pos (show M_X8_within a 16 = 0 from w1)]
      exact ⟨h, rfl, hc⟩
    · unfold M_X9_chance
      rw [if_pos (show M_X9_in a 0 16 = 0 from w2), no_bad]
      exact ⟨h, rfl, hm⟩
