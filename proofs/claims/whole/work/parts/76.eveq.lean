/-! what is asked of the told evening -/
theorem loopP {ρ α : Type} {L : Nat → ρ → α} {f : Nat → ρ} {N : Nat} (step : ∀ m k, k < N → L (m + 1) (f k) = L m (f (k + 1))) : ∀ (d k m : Nat), k + d = N → d < m → ∃ m', L m (f k) = L (m' + 1) (f N) := by
  intro d
  induction d with
  | zero =>
    intro k m hk hm
    obtain ⟨m, rfl⟩ : ∃ q, m = q + 1 := ⟨m - 1, by omega⟩
    exact ⟨m, by rw [show k = N by omega]⟩
  | succ d ih =>
    intro k m hk hm
    obtain ⟨m, rfl⟩ : ∃ q, m = q + 1 := ⟨m - 1, by omega⟩
    obtain ⟨m2, e2⟩ := ih (k + 1) m (by omega) (by omega)
    exact ⟨m2, by rw [step m k (by omega), e2]⟩
theorem loopH {ρ α : Type} {L : Nat → ρ → AH → α} {f : Nat → ρ} {I : Nat → AH → Prop} {N : Nat} (step : ∀ m k h, k < N → I k h → ∃ h', L (m + 1) (f k) h = L m (f (k + 1)) h' ∧ I (k + 1) h') : ∀ (d k m : Nat) (h : AH), k + d = N → d < m → I k h → ∃ m' h', L m (f k) h = L (m' + 1) (f N) h' ∧ I N h' := by
  intro d
  induction d with
  | zero =>
    intro k m h hk hm hi
    obtain ⟨m, rfl⟩ : ∃ q, m = q + 1 := ⟨m - 1, by omega⟩
    have e : k = N := by omega
    subst e
    exact ⟨m, h, rfl, hi⟩
  | succ d ih =>
    intro k m h hk hm hi
    obtain ⟨m, rfl⟩ : ∃ q, m = q + 1 := ⟨m - 1, by omega⟩
    obtain ⟨h1, e1, i1⟩ := step m k h (by omega) hi
    obtain ⟨m2, h2, e2, i2⟩ := ih (k + 1) m h1 (by omega) (by omega) i1
    exact ⟨m2, h2, by rw [e1, e2], i2⟩
theorem withinK {k N : Nat} (h : k ≤ N) (hN : N ≤ 100000) : M_X8_within (nI k) (nI N) = 1 := by
  unfold M_X8_within
  rw [if_neg (nI_pos (by omega)), if_neg (nI_nlt h (by omega))]
theorem m_rtE {n : Nat} {S : ST} {h : AH} (ho : okST S) (hm : MT h S) (hn : 600 < n) : ∃ h', M_X9_runsTold n h = some h' ∧ mevI h' (toldP S) 24 ∧ mplan h' (toldP S) ∧ ME h' S := by
  obtain ⟨h1, a1, a2, a3, a4, a5⟩ := m_runsTold (n := n) ho hm (by omega)
  exact ⟨h1, a1, a2, a3, a5, ⟨a3.1.1, fun j x hx => a3.1.2 j x hx⟩, a4⟩
theorem bitB {f : Nat → Bool} {t : Nat} (ht : t < 24) : ((nI (bN f 24) >>> (nI t &&& 31)) &&& 1) = bI (f t) := by
  have := bN_lt f 24
  rw [bit1 (by omega) (by omega), bN_bit]
  cases h : f t
  · simp [ht, bI]
    rfl
  · simp [ht, bI]
    rfl
def q_at (P : PL) (t w : Nat) : Int32 := if w = 0 then nI (stt P (t + 1)).1 else if w = 1 then nI (stt P (t + 1)).2.1 else if w = 2 then nI (stt P (t + 1)).2.2.1 else if w = 3 then nI (mn_f P t (stt P t)) else if w = 4 then bI (mn_b P t (stt P t)) else svI (mn_v P t (stt P t)).1
theorem c_at {n t w : Nat} {S : ST} {h : AH} (hc : CR h S) (ht : t < 24) (hw : w < 6) (hn : 600 < n) : ∃ h', M_X8_at n (nI t) (nI w) h = some (q_at (toldP S) t w, h') ∧ CR h' S := by
  obtain ⟨h1, a1, a2, a3⟩ := c_told (n := n) hc (by omega)
  obtain ⟨b1, b2, b3, b4⟩ := a3
  obtain ⟨x1, x2, x3, x5, x6, x7⟩ := b1 t ht
  have y1 : h1.2.1 23 t = _ := x1
  have y2 : h1.2.1 24 t = _ := x2
  have y3 : h1.2.1 25 t = _ := x3
  have y4 : h1.2.1 26 t = _ := b2 t ht
  have y5 : h1.2.1 27 t = _ := x5
  rw [if_pos ht] at y4
  unfold M_X8_at q_at
  rw [show (23 : Int32) = nI 23 from rfl, withinK (by omega) (by omega), if_neg (by decide), a1, vS, am_inK ht (by omega), nK (by omega), y1, y2, y3, y4, y5, b3, bitB ht]
  simp only [cond_true]
  refine ⟨h1, ?_, a2⟩
  rcases (show w = 0 ∨ w = 1 ∨ w = 2 ∨ w = 3 ∨ w = 4 ∨ w = 5 by omega) with rfl | rfl | rfl | rfl | rfl | rfl <;> rfl
theorem m_atOf {n t w : Nat} {S : ST} {h : AH} (ho : okST S) (hm : MT h S) (ht : t < 24) (hw : w < 6) (hn : 600 < n) : ∃ h', M_X9_atOf n (nI t) (nI w) h = some (q_at (toldP S) t w, h') ∧ ME h' S := by
  obtain ⟨h1, a1, a2, a3, a4⟩ := m_rtE (n := n) ho hm hn
  obtain ⟨x1, x2, x3, x4, x5, x6, x7⟩ := a2.1 t ht
  unfold M_X9_atOf q_at
  rw [a1, vS, show (6 : Int32) = nI 6 from rfl, nI_mul, nI_add, am_inK (show 6 * t + w < 144 by omega) (by omega), nK (by omega)]
  simp only [cond_true]
  refine ⟨h1, ?_, a4⟩
  rcases (show w = 0 ∨ w = 1 ∨ w = 2 ∨ w = 3 ∨ w = 4 ∨ w = 5 by omega) with rfl | rfl | rfl | rfl | rfl | rfl
  · rw [Nat.add_zero, x1]
    rfl
  · rw [x2]
    rfl
  · rw [x3]
    rfl
  · rw [x4]
    rfl
  · rw [x5]
    rfl
  · rw [x6]
    rfl
theorem two_at {n : Nat} (hn : 600 < n) (a b : Int32) : two (M_X8_at n a b) (M_X9_at n a b) := by
  intro S ho
  rcases arg (a := a) (N := 23) (by omega) with ⟨t, ht, rfl, w1, w2⟩ | ⟨na, w1, w2⟩
  · rcases arg (a := b) (N := 5) (by omega) with ⟨w, hw, rfl, v1, v2⟩ | ⟨nb, v1, v2⟩
    · refine ⟨q_at (toldP S) t w, S, fun h hc => c_at hc (by omega) (by omega) hn, fun h hm => ?_⟩
      obtain ⟨h1, a1, a2⟩ := m_atOf (n := n) ho hm (show t < 24 by omega) (show w < 6 by omega) hn
      unfold M_X9_at
      rw [if_neg (by rw [show M_X9_isMinute (nI t) = 1 from w2]; decide), if_neg (by rw [show M_X9_in (nI w) 0 5 = 1 from v2]; decide), a1]
      exact ⟨h1, rfl, a2.1⟩
    · refine ⟨-2, S, fun h hc => ?_, fun h hm => ?_⟩
      · obtain ⟨h1, a1, a2, a3⟩ := c_told (n := n) hc (by omega)
        unfold M_X8_at
        rw [if_neg (by rw [show M_X8_within (nI t) 23 = 1 from w1]; decide), a1, vS, if_neg (show ¬ b = 0 from nb 0 (by omega)), if_neg (show ¬ b = 1 from nb 1 (by omega)), if_neg (show ¬ b = 2 from nb 2 (by omega)), if_neg (show ¬ b = 3 from nb 3 (by omega)), if_neg (show ¬ b = 4 from nb 4 (by omega)), if_neg (show ¬ b = 5 from nb 5 (by omega))]
        exact ⟨h1, rfl, a2⟩
      · unfold M_X9_at
        rw [if_neg (by rw [show M_X9_isMinute (nI t) = 1 from w2]; decide), if_pos (show M_X9_in b 0 5 = 0 from v2)]
        exact ⟨h, rfl, hm⟩
  · refine ⟨-2, S, fun h hc => ?_, fun h hm => ?_⟩
    · unfold M_X8_at
      rw [if_pos (show M_X8_within a 23 = 0 from w1)]
      exact ⟨h, rfl, hc⟩
    · unfold M_X9_at
      rw [if_pos (show M_X9_isMinute a = 0 from w2)]
      exact ⟨h, rfl, hm⟩
/-! line -/
def q_line (P : PL) (t : Nat) : Int32 := nI (stt P (t + 1)).2.2.2.2.1.length
theorem c_line {n t : Nat} {S : ST} {h : AH} (hc : CR h S) (ht : t < 24) (hn : 600 < n) : ∃ h', M_X8_line n (nI t) h = some (q_line (toldP S) t, h') ∧ CR h' S := by
  obtain ⟨h1, a1, a2, a3⟩ := c_told (n := n) hc (by omega)
  have y1 : h1.2.1 28 t = _ := (a3.1 t ht).2.2.2.2.1
  unfold M_X8_line q_line
  rw [show (23 : Int32) = nI 23 from rfl, withinK (by omega) (by omega), if_neg (by decide), a1, vS, am_inK ht (by omega), nK (by omega), y1]
  exact ⟨h1, rfl, a2⟩
theorem m_lineOf {n t : Nat} {S : ST} {h : AH} (ho : okST S) (hm : MT h S) (ht : t < 24) (hn : 600 < n) : ∃ h', M_X9_lineOf n (nI t) h = some (q_line (toldP S) t, h') ∧ ME h' S := by
  obtain ⟨h1, a1, a2, a3, a4⟩ := m_rtE (n := n) ho hm hn
  unfold M_X9_lineOf q_line
  rw [a1, vS, am_inK ht (by omega), nK (by omega), (a2.1 t ht).2.2.2.2.2.2]
  exact ⟨h1, rfl, a4⟩
theorem two_line {n : Nat} (hn : 600 < n) (a : Int32) : two (M_X8_line n a) (M_X9_line n a) := by
  intro S ho
  rcases arg (a := a) (N := 23) (by omega) with ⟨t, ht, rfl, w1, w2⟩ | ⟨na, w1, w2⟩
  · refine ⟨q_line (toldP S) t, S, fun h hc => c_line hc (by omega) hn, fun h hm => ?_⟩
    obtain ⟨h1, a1, a2⟩ := m_lineOf (n := n) ho hm (show t < 24 by omega) hn
    unfold M_X9_line
    rw [if_neg (by rw [show M_X9_isMinute (nI t) = 1 from w2]; decide), a1]
    exact ⟨h1, rfl, a2.1⟩
  · refine ⟨-2, S, fun h hc => ?_, fun h hm => ?_⟩
    · unfold M_X8_line
      rw [if_pos (show M_X8_within a 23 = 0 from w1)]
      exact ⟨h, rfl, hc⟩
    · unfold M_X9_line
      rw [if_pos (show M_X9_isMinute a = 0 from w2)]
      exact ⟨h, rfl, hm⟩
/-! is -/
def q_is (P : PL) (t k w : Nat) : Int32 := if w = 0 then nI ((stt P (t + 1)).2.2.2.2.2.1 k) else nI ((stt P (t + 1)).2.2.2.2.2.2.1 k)
theorem c_stateOf {h : AH} {P : PL} {t k : Nat} (he : evI h 22 P 24) (ht : t < 24) (hk : k < 8) : M_X2_stateOf 22 (nI t) (nI k) h = some (nI ((stt P (t + 1)).2.2.2.2.2.1 k)) := by
  have y1 : h.2.1 29 (8 * t + k) = _ := ((he.1 t ht).2.2.2.2.2 k hk).1
  unfold M_X2_stateOf
  rw [show (23 : Int32) = nI 23 from rfl, withinK (by omega) (by omega), if_neg (by decide), show (7 : Int32) = nI 7 from rfl, withinK (by omega) (by omega), if_neg (by decide), show (8 : Int32) = nI 8 from rfl, nI_mul, nI_add, am_inK (show t * 8 + k < 192 by omega) (by omega), nK (by omega), show t * 8 + k = 8 * t + k by omega, y1]
  rfl
theorem c_glassesOf {h : AH} {P : PL} {t k : Nat} (he : evI h 22 P 24) (ht : t < 24) (hk : k < 8) : M_X2_glassesOf 22 (nI t) (nI k) h = some (nI ((stt P (t + 1)).2.2.2.2.2.2.1 k)) := by
  have y1 : h.2.1 30 (8 * t + k) = _ := ((he.1 t ht).2.2.2.2.2 k hk).2
  unfold M_X2_glassesOf
  rw [show (23 : Int32) = nI 23 from rfl, withinK (by omega) (by omega), if_neg (by decide), show (7 : Int32) = nI 7 from rfl, withinK (by omega) (by omega), if_neg (by decide), show (8 : Int32) = nI 8 from rfl, nI_mul, nI_add, am_inK (show t * 8 + k < 192 by omega) (by omega), nK (by omega), show t * 8 + k = 8 * t + k by omega, y1]
  rfl
theorem c_is {n t k w : Nat} {S : ST} {h : AH} (hc : CR h S) (ht : t < 24) (hk : k < (entS 1 S.1.2).length) (hh : M_X1_has 8 (nI k) h = 1) (hw : w < 2) (hn : 600 < n) : ∃ h', M_X8_is n (nI t) (nI k) (nI w) h = some (q_is (toldP S) t k w, h') ∧ CR h' S := by
  have h8 := e8g hc.1
  obtain ⟨h1, a1, a2, a3⟩ := c_told (n := n) hc (by omega)
  unfold M_X8_is q_is
  rw [show (23 : Int32) = nI 23 from rfl, withinK (by omega) (by omega), if_neg (by decide), hh, if_neg (by decide), show (1 : Int32) = nI 1 from rfl, withinK (by omega) (by omega), if_neg (by decide), a1, vS, c_stateOf a3 ht (by omega), c_glassesOf a3 ht (by omega), oS, oS]
  refine ⟨h1, ?_, a2⟩
  rcases (show w = 0 ∨ w = 1 by omega) with rfl | rfl <;> rfl
theorem m_isOf {n t k w : Nat} {S : ST} {h : AH} (ho : okST S) (hm : MT h S) (ht : t < 24) (hk : k < (entS 1 S.1.2).length) (hw : w < 2) (hn : 600 < n) : ∃ h', M_X9_isOf n (nI t) (nI k) (nI w) h = some (q_is (toldP S) t k w, h') ∧ ME h' S := by
  have h8 := e8g ho
  obtain ⟨h1, a1, a2, a3, a4⟩ := m_rtE (n := n) ho hm hn
  obtain ⟨x1, x2⟩ := a2.2.1 t ht k hk
  unfold M_X9_isOf q_is
  rw [a1, vS, show (8 : Int32) = nI 8 from rfl, nI_mul, nI_add, am_inK (show 8 * t + k < 192 by omega) (by omega), nK (by omega), x1, x2]
  simp only [cond_true]
  refine ⟨h1, ?_, a4⟩
  rcases (show w = 0 ∨ w = 1 by omega) with rfl | rfl <;> rfl
theorem two_is {n : Nat} (hn : 600 < n) (a b c : Int32) : two (M_X8_is n a b c) (M_X9_is n a b c) := by
  intro S ho
  have h8 := e8g ho
  rcases arg (a := a) (N := 23) (by omega) with ⟨t, ht, rfl, w1, w2⟩ | ⟨na, w1, w2⟩
  · have w1 : M_X8_within (nI t) 23 = 1 := w1
    have w2 : M_X9_isMinute (nI t) = 1 := w2
    rcases hasA h8 b with ⟨k, hk, rfl, v1, v2⟩ | ⟨v1, v2⟩
    · rcases arg (a := c) (N := 1) (by omega) with ⟨w, hw, rfl, u1, u2⟩ | ⟨nc, u1, u2⟩
      · refine ⟨q_is (toldP S) t k w, S, fun h hc => c_is hc (by omega) hk (v1 h 8 hc.2.1.2.1.2.1) (by omega) hn, fun h hm => ?_⟩
        obtain ⟨h1, a1, a2⟩ := m_isGuest (n := n) (nI k) ho hm hn
        obtain ⟨h2, b1, b2⟩ := m_isOf (n := n) ho a2.1 (show t < 24 by omega) hk (show w < 2 by omega) hn
        unfold M_X9_is
        rw [if_neg (by rw [w2]; decide), a1, bS, v2, if_neg (by decide), if_neg (by rw [show M_X9_isTwo (nI w) = 1 from u2]; decide), b1]
        exact ⟨h2, rfl, b2.1⟩
      · refine ⟨-2, S, fun h hc => ?_, fun h hm => ?_⟩
        · unfold M_X8_is
          rw [if_neg (by rw [w1]; decide), if_neg (by rw [v1 h 8 hc.2.1.2.1.2.1]; decide), if_pos (show M_X8_within c 1 = 0 from u1)]
          exact ⟨h, rfl, hc⟩
        · obtain ⟨h1, a1, a2⟩ := m_isGuest (n := n) (nI k) ho hm hn
          unfold M_X9_is
          rw [if_neg (by rw [w2]; decide), a1, bS, v2, if_neg (by decide), if_pos (show M_X9_isTwo c = 0 from u2)]
          exact ⟨h1, rfl, a2.1⟩
    · refine ⟨-2, S, fun h hc => ?_, fun h hm => ?_⟩
      · unfold M_X8_is
        rw [if_neg (by rw [w1]; decide), if_pos (v1 h 8 hc.2.1.2.1.2.1)]
        exact ⟨h, rfl, hc⟩
      · obtain ⟨h1, a1, a2⟩ := m_isGuest (n := n) b ho hm hn
        unfold M_X9_is
        rw [if_neg (by rw [w2]; decide), a1, bS, v2, if_pos rfl]
        exact ⟨h1, rfl, a2.1⟩
  · refine ⟨-2, S, fun h hc => ?_, fun h hm => ?_⟩
    · unfold M_X8_is
      rw [if_pos (show M_X8_within a 23 = 0 from w1)]
      exact ⟨h, rfl, hc⟩
    · unfold M_X9_is
      rw [if_pos (show M_X9_isMinute a = 0 from w2)]
      exact ⟨h, rfl, hm⟩
/-! sum -/
theorem sN_pad {f : Nat → Nat} {k : Nat} (h : ∀ j, k ≤ j → f j = 0) : ∀ d, sN f (k + d) = sN f k
  | 0 => rfl
  | d + 1 => by
    show sN f (k + d) + f (k + d) = _
    rw [sN_pad h d, h _ (by omega), Nat.add_zero]
theorem gl_len {P : PL} (hp : okP P) : sN (stt P 24).2.2.2.2.2.2.1 P.2.1.length = glS P := by
  have ho := (stt_ok hp 24 (Nat.le_refl _)).2.2.2.2.2.2.2
  have h8 := hp.2.1.1
  unfold glS
  have := sN_pad (f := (stt P 24).2.2.2.2.2.2.1) (k := P.2.1.length) (fun j hj => (ho j hj).2) (8 - P.2.1.length)
  rw [show P.2.1.length + (8 - P.2.1.length) = 8 by omega] at this
  exact this.symm
theorem st_len {P : PL} {v : Nat} (hp : okP P) (hv : ¬ v = 0) : cN (fun k => (stt P 24).2.2.2.2.2.1 k == v) P.2.1.length = cN (fun k => (stt P 24).2.2.2.2.2.1 k == v) 8 := by
  have ho := (stt_ok hp 24 (Nat.le_refl _)).2.2.2.2.2.2.2
  have h8 := hp.2.1.1
  have := cN_0 (f := fun k => (stt P 24).2.2.2.2.2.1 k == v) (n := P.2.1.length) (fun j hj => by
    show ((stt P 24).2.2.2.2.2.1 j == v) = false
    rw [(ho j hj).1]
    simp
    omega) (8 - P.2.1.length)
  rw [show P.2.1.length + (8 - P.2.1.length) = 8 by omega] at this
  exact this.symm
theorem m_drunk {n : Nat} {P : PL} {h : AH} (hp : okP P) (hg : h.1 75 16 = nI P.2.1.length) (hc : mcm h (stt P 24).2.2.2.2) (hn : 600 < n) : M_X9_drunkNow n h = some (nI (glS P)) := by
  have h8 := hp.2.1.1
  unfold M_X9_drunkNow
  obtain ⟨m', e⟩ := loopP (L := fun m (q : Int32 × Int32) => L_X9_drunkNow_4 n m q.1 q.2 h) (f := fun k => (nI (sN (stt P 24).2.2.2.2.2.2.1 k), nI k)) (N := P.2.1.length) (by
    intro m k hk
    show L_X9_drunkNow_4 n (m + 1) (nI (sN (stt P 24).2.2.2.2.2.2.1 k)) (nI k) h = L_X9_drunkNow_4 n m (nI (sN (stt P 24).2.2.2.2.2.2.1 (k + 1))) (nI (k + 1)) h
    rw [L_X9_drunkNow_4, hg, if_neg (nI_ge hk (by omega)), am_inK (show k < 8 by omega) (by omega), nK (by omega), hc.2.1 k (by omega), nI_add, nI_1]
    rfl) P.2.1.length 0 n (by omega) (by omega)
  have e : L_X9_drunkNow_4 n n 0 0 h = L_X9_drunkNow_4 n (m' + 1) (nI (sN (stt P 24).2.2.2.2.2.2.1 P.2.1.length)) (nI P.2.1.length) h := e
  rw [e, L_X9_drunkNow_4, hg, if_pos (nI_le (Nat.le_refl _) (by omega)), gl_len hp]
theorem m_many {n v : Nat} {P : PL} {h : AH} (hp : okP P) (hg : h.1 75 16 = nI P.2.1.length) (hc : mcm h (stt P 24).2.2.2.2) (hv : ¬ v = 0) (hv4 : v ≤ 4) (hn : 600 < n) : M_X9_manyOf n (nI v) h = some (nI (cN (fun k => (stt P 24).2.2.2.2.2.1 k == v) 8)) := by
  have h8 := hp.2.1.1
  have hs := (stt_ok hp 24 (Nat.le_refl _)).2.2.2.2.1
  unfold M_X9_manyOf
  obtain ⟨m', e⟩ := loopP (L := fun m (q : Int32 × Int32) => L_X9_manyOf_4 n m (nI v) q.1 q.2 h) (f := fun k => (nI (cN (fun k => (stt P 24).2.2.2.2.2.1 k == v) k), nI k)) (N := P.2.1.length) (by
    intro m k hk
    show L_X9_manyOf_4 n (m + 1) (nI v) (nI (cN (fun k => (stt P 24).2.2.2.2.2.1 k == v) k)) (nI k) h = L_X9_manyOf_4 n m (nI v) (nI (cN (fun k => (stt P 24).2.2.2.2.2.1 k == v) (k + 1))) (nI (k + 1)) h
    have h4 : (stt P 24).2.2.2.2.2.1 k ≤ 4 := (hs.2.2.2 k (by omega)).1
    rw [L_X9_manyOf_4, hg, if_neg (nI_ge hk (by omega)), am_inK (show k < 8 by omega) (by omega), nK (by omega), hc.1 k (by omega), cN]
    simp only [cond_true]
    unfold B_X9_manyOf_28
    by_cases q : (stt P 24).2.2.2.2.2.1 k = v
    · rw [if_pos (by rw [q]), if_pos (by simp [q]), nI_1, nI_1]
    · rw [if_neg (kF q (by omega) (by omega)), if_neg (by simp [q]), nI_1, show (0 : Int32) = nI 0 from rfl, nI_add]) P.2.1.length 0 n (by omega) (by omega)
  have e : L_X9_manyOf_4 n n (nI v) 0 0 h = L_X9_manyOf_4 n (m' + 1) (nI v) (nI (cN (fun k => (stt P 24).2.2.2.2.2.1 k == v) P.2.1.length)) (nI P.2.1.length) h := e
  rw [e, L_X9_manyOf_4, hg, if_pos (nI_le (Nat.le_refl _) (by omega)), st_len hp hv]
def q_sum (P : PL) (w : Nat) : Int32 := if w = 0 then nI (glS P) else if w = 1 then nI (cN (fun k => (stt P 24).2.2.2.2.2.1 k == 3) 8) else if w = 2 then nI (cN (fun k => (stt P 24).2.2.2.2.2.1 k == 4) 8) else if w = 3 then nI (stt P 24).2.2.2.1 else nI (cN (fun u => mn_b P u (stt P u)) 24)
theorem c_sum {n w : Nat} {S : ST} {h : AH} (hc : CR h S) (hw : w < 5) (hn : 600 < n) : ∃ h', M_X8_sum n (nI w) h = some (q_sum (toldP S) w, h') ∧ CR h' S := by
  obtain ⟨h1, a1, a2, a3⟩ := c_told (n := n) hc (by omega)
  obtain ⟨b1, b2, b3, b4, b5, b6, b7, T, b8, b9⟩ := a3
  have y1 : h1.1 32 6 = nI (glS (toldP S)) := b9.2.1
  have y2 : h1.1 32 7 = _ := b9.2.2.1
  have y3 : h1.1 32 8 = _ := b9.2.2.2
  have y4 : h1.1 31 3 = _ := b7
  unfold M_X8_sum q_sum
  rw [a1, vS, y1, y2, y3, y4, b3, bitN (by omega), bitN (by omega), bitN (by omega)]
  refine ⟨h1, ?_, a2⟩
  rcases (show w = 0 ∨ w = 1 ∨ w = 2 ∨ w = 3 ∨ w = 4 by omega) with rfl | rfl | rfl | rfl | rfl <;> rfl
theorem m_sumOf {n w : Nat} {S : ST} {h : AH} (ho : okST S) (hm : MT h S) (hw : w < 5) (hn : 600 < n) : ∃ h', M_X9_sumOf n (nI w) h = some (q_sum (toldP S) w, h') ∧ ME h' S := by
  obtain ⟨h1, a1, a2, a3, a4⟩ := m_rtE (n := n) ho hm hn
  obtain ⟨b1, b2, b3, b4, b5, b6, b7, b8, b9, b10⟩ := a2
  have y0 := m_drunk (n := n) (toldP_ok ho) a3.2.1.1 b10 hn
  have y1 := m_many (n := n) (v := 3) (toldP_ok ho) a3.2.1.1 b10 (by omega) (by omega) hn
  have y2 := m_many (n := n) (v := 4) (toldP_ok ho) a3.2.1.1 b10 (by omega) (by omega) hn
  have y1 : M_X9_manyOf n 3 h1 = _ := y1
  have y2 : M_X9_manyOf n 4 h1 = _ := y2
  unfold M_X9_sumOf q_sum
  rw [a1, vS, y0, y1, y2, oS, oS, oS, b7, b8]
  refine ⟨h1, ?_, a4⟩
  rcases (show w = 0 ∨ w = 1 ∨ w = 2 ∨ w = 3 ∨ w = 4 by omega) with rfl | rfl | rfl | rfl | rfl <;> rfl
theorem two_sum {n : Nat} (hn : 600 < n) (a : Int32) : two (M_X8_sum n a) (M_X9_sum n a) := by
  intro S ho
  rcases arg (a := a) (N := 4) (by omega) with ⟨w, hw, rfl, w1, w2⟩ | ⟨na, w1, w2⟩
  · refine ⟨q_sum (toldP S) w, S, fun h hc => c_sum hc (by omega) hn, fun h hm => ?_⟩
    obtain ⟨h1, a1, a2⟩ := m_sumOf (n := n) ho hm (show w < 5 by omega) hn
    unfold M_X9_sum
    rw [if_neg (by rw [show M_X9_in (nI w) 0 4 = 1 from w2]; decide), a1]
    exact ⟨h1, rfl, a2.1⟩
  · refine ⟨-2, S, fun h hc => ?_, fun h hm => ?_⟩
    · obtain ⟨h1, a1, a2, a3⟩ := c_told (n := n) hc (by omega)
      unfold M_X8_sum
      rw [a1, vS, if_neg (show ¬ a = 0 from na 0 (by omega)), if_neg (show ¬ a = 1 from na 1 (by omega)), if_neg (show ¬ a = 2 from na 2 (by omega)), if_neg (show ¬ a = 3 from na 3 (by omega)), if_neg (show ¬ a = 4 from na 4 (by omega))]
      exact ⟨h1, rfl, a2⟩
    · unfold M_X9_sum
      rw [if_pos (show M_X9_in a 0 4 = 0 from w2)]
      exact ⟨h, rfl, hm⟩
