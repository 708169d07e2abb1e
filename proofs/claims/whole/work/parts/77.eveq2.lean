/-! first -/
theorem first_mono {f : Nat → Bool} {t x : Nat} (h : sp_first f t = some x) : ∀ d, sp_first f (t + d) = some x
  | 0 => h
  | d + 1 => by
    show sp_first f (t + d + 1) = some x
    rw [sp_first, first_mono h d]
theorem bI_1 {b : Bool} : bI b = 1 ↔ b = true := by cases b <;> decide
def q_first (P : PL) : Int32 := svI (sp_first (fun u => mn_b P u (stt P u)) 24)
theorem c_first {n : Nat} {S : ST} {h : AH} (hc : CR h S) (hn : 600 < n) : ∃ h', M_X8_first n h = some (q_first (toldP S), h') ∧ CR h' S := by
  obtain ⟨h1, a1, a2, a3⟩ := c_told (n := n) hc (by omega)
  obtain ⟨f, hf⟩ : ∃ f, f = (fun u => mn_b (toldP S) u (stt (toldP S) u)) := ⟨_, rfl⟩
  have b3 : h1.1 22 10 = nI (bN f 24) := by rw [hf]; exact a3.2.2.1
  unfold M_X8_first q_first
  rw [a1, vS, ← hf]
  have key := loopE (L := fun m (q : Int32) => L_X8_first_7 n m q h1) (I := fun k q => q = nI k ∧ sp_first f k = none) (Q := fun o => o = some (svI (sp_first f 24), h1)) (N := 24) (by
    intro m k q hk hI
    obtain ⟨rfl, i2⟩ := hI
    show (∃ s', L_X8_first_7 n (m + 1) (nI k) h1 = L_X8_first_7 n m s' h1 ∧ _) ∨ L_X8_first_7 n (m + 1) (nI k) h1 = _
    rw [L_X8_first_7, show (24 : Int32) = nI 24 from rfl, if_neg (nI_ge hk (by omega)), b3, bitB hk]
    cases hfk : f k
    · left
      rw [if_neg (by decide), nI_1]
      exact ⟨nI (k + 1), rfl, rfl, by rw [sp_first, i2]; show (if f k = true then some k else none) = none; rw [hfk]; rfl⟩
    · right
      have e1 : sp_first f (k + 1) = some k := by
        rw [sp_first, i2]
        show (if f k = true then some k else none) = some k
        rw [hfk]
        rfl
      have e2 := first_mono e1 (24 - (k + 1))
      rw [show k + 1 + (24 - (k + 1)) = 24 by omega] at e2
      rw [if_pos (by decide), e2]
      rfl) (by
    intro m q hI
    obtain ⟨rfl, i2⟩ := hI
    show L_X8_first_7 n (m + 1) (nI 24) h1 = _
    rw [L_X8_first_7, if_pos (by decide), i2]
    rfl) 24 0 n 0 (by omega) (by omega) ⟨rfl, rfl⟩
  exact ⟨h1, key, a2⟩
theorem m_firstOf {n : Nat} {S : ST} {h : AH} (ho : okST S) (hm : MT h S) (hn : 600 < n) : ∃ h', M_X9_firstOf n h = some (q_first (toldP S), h') ∧ ME h' S := by
  obtain ⟨h1, a1, a2, a3, a4⟩ := m_rtE (n := n) ho hm hn
  obtain ⟨b1, b2, b3, b4, b5, b6, b7, b8, b9, b10⟩ := a2
  unfold M_X9_firstOf q_first
  rw [a1, vS, b9]
  exact ⟨h1, rfl, a4⟩
theorem two_first {n : Nat} (hn : 600 < n) : two (M_X8_first n) (M_X9_first n) := by
  intro S ho
  refine ⟨q_first (toldP S), S, fun h hc => c_first hc hn, fun h hm => ?_⟩
  obtain ⟨h1, a1, a2⟩ := m_firstOf (n := n) ho hm hn
  unfold M_X9_first
  rw [a1]
  exact ⟨h1, rfl, a2.1⟩
/-! hottest -/
def hb (f : Nat → Nat) : Nat → Nat
  | 0 => 0
  | k + 1 => if f (k + 1) ≤ f (hb f k) then hb f k else k + 1
theorem hb_le (f : Nat → Nat) : ∀ k, hb f k ≤ k
  | 0 => Nat.le_refl _
  | k + 1 => by
    have := hb_le f k
    rw [hb]
    split <;> omega
def q_hot (P : PL) (w : Nat) : Int32 := if w = 0 then nI (hb (fun t => (stt P (t + 1)).1) 23) else nI (stt P (hb (fun t => (stt P (t + 1)).1) 23 + 1)).1
theorem heat_le {P : PL} (hp : okP P) {t : Nat} (ht : t < 24) : (stt P (t + 1)).1 ≤ 100 := (stt_ok hp (t + 1) (by omega)).1
theorem c_hottest {n w : Nat} {S : ST} {h : AH} (hc : CR h S) (hw : w < 2) (hn : 600 < n) : ∃ h', M_X8_hottest n (nI w) h = some (q_hot (toldP S) w, h') ∧ CR h' S := by
  obtain ⟨h1, a1, a2, a3⟩ := c_told (n := n) hc (by omega)
  obtain ⟨f, hf⟩ : ∃ f : Nat → Nat, f = (fun t => (stt (toldP S) (t + 1)).1) := ⟨_, rfl⟩
  have b1 : ∀ t, t < 24 → h1.2.1 23 t = nI (f t) := fun t ht => by rw [hf]; exact (a3.1 t ht).1
  have b2 : ∀ t, t < 24 → f t ≤ 100 := fun t ht => by rw [hf]; exact heat_le (toldP_ok hc.1) ht
  have hl := hb_le f
  unfold M_X8_hottest q_hot
  rw [show (1 : Int32) = nI 1 from rfl, withinK (by omega) (by omega), if_neg (by decide), a1, vS]
  obtain ⟨m', e⟩ := loopP (L := fun m (q : Int32 × Int32) => L_X8_hottest_21 n m (nI w) q.1 q.2 h1) (f := fun k => (nI (hb f k), nI (k + 1))) (N := 23) (by
    intro m k hk
    have := hl k
    show L_X8_hottest_21 n (m + 1) (nI w) (nI (hb f k)) (nI (k + 1)) h1 = L_X8_hottest_21 n m (nI w) (nI (hb f (k + 1))) (nI (k + 1 + 1)) h1
    rw [L_X8_hottest_21, show (24 : Int32) = nI 24 from rfl, if_neg (nI_ge (by omega) (by omega)), am_inK (show k + 1 < 24 by omega) (by omega), am_inK (show hb f k < 24 by omega) (by omega), nK (by omega), nK (by omega), b1 _ (by omega), b1 _ (by omega), hb, nI_1]
    have c1 := b2 (k + 1) (by omega)
    have c2 := b2 (hb f k) (by omega)
    simp only [cond_true]
    by_cases q : f (k + 1) ≤ f (hb f k)
    · rw [if_pos (nI_le q (by omega)), if_pos q]
    · rw [if_neg (nI_ge (by omega) (by omega)), if_neg q]) 23 0 n (by omega) (by omega)
  have e : L_X8_hottest_21 n n (nI w) 0 (nI 1) h1 = L_X8_hottest_21 n (m' + 1) (nI w) (nI (hb f 23)) (nI 24) h1 := e
  have := hl 23
  rw [e, L_X8_hottest_21, if_pos (by decide), am_inK (show hb f 23 < 24 by omega) (by omega), nK (by omega), b1 _ (by omega)]
  refine ⟨h1, ?_, a2⟩
  rw [← hf, show (stt (toldP S) (hb f 23 + 1)).1 = f (hb f 23) by rw [hf]]
  rcases (show w = 0 ∨ w = 1 by omega) with rfl | rfl <;> rfl
theorem m_hottestOf {n w : Nat} {S : ST} {h : AH} (ho : okST S) (hm : MT h S) (hw : w < 2) (hn : 600 < n) : ∃ h', M_X9_hottestOf n (nI w) h = some (q_hot (toldP S) w, h') ∧ ME h' S := by
  obtain ⟨h1, a1, a2, a3, a4⟩ := m_rtE (n := n) ho hm hn
  obtain ⟨f, hf⟩ : ∃ f : Nat → Nat, f = (fun t => (stt (toldP S) (t + 1)).1) := ⟨_, rfl⟩
  have b1 : ∀ t, t < 24 → h1.2.1 96 (6 * t) = nI (f t) := fun t ht => by rw [hf]; exact (a2.1 t ht).1
  have b2 : ∀ t, t < 24 → f t ≤ 100 := fun t ht => by rw [hf]; exact heat_le (toldP_ok ho) ht
  have hl := hb_le f
  unfold M_X9_hottestOf q_hot
  rw [a1, vS]
  obtain ⟨m', e⟩ := loopP (L := fun m (q : Int32 × Int32) => L_X9_hottestOf_8 n m (nI w) q.1 q.2 h1) (f := fun k => (nI (hb f k), nI (k + 1))) (N := 23) (by
    intro m k hk
    have := hl k
    show L_X9_hottestOf_8 n (m + 1) (nI w) (nI (hb f k)) (nI (k + 1)) h1 = L_X9_hottestOf_8 n m (nI w) (nI (hb f (k + 1))) (nI (k + 1 + 1)) h1
    rw [L_X9_hottestOf_8, show (24 : Int32) = nI 24 from rfl, if_neg (nI_ge (by omega) (by omega)), show (6 : Int32) = nI 6 from rfl, nI_mul, nI_mul, am_inK (show 6 * (k + 1) < 144 by omega) (by omega), am_inK (show 6 * hb f k < 144 by omega) (by omega), nK (by omega), nK (by omega), b1 _ (by omega), b1 _ (by omega), hb, nI_1]
    have c1 := b2 (k + 1) (by omega)
    have c2 := b2 (hb f k) (by omega)
    simp only [cond_true]
    by_cases q : f (k + 1) ≤ f (hb f k)
    · rw [if_pos (nI_le q (by omega)), if_pos q]
    · rw [if_neg (nI_ge (by omega) (by omega)), if_neg q]) 23 0 n (by omega) (by omega)
  have e : L_X9_hottestOf_8 n n (nI w) 0 1 h1 = L_X9_hottestOf_8 n (m' + 1) (nI w) (nI (hb f 23)) (nI 24) h1 := e
  have := hl 23
  rw [e, L_X9_hottestOf_8, if_pos (by decide), show (6 : Int32) = nI 6 from rfl, nI_mul, am_inK (show 6 * hb f 23 < 144 by omega) (by omega), nK (by omega), b1 _ (by omega)]
  refine ⟨h1, ?_, a4⟩
  rw [← hf, show (stt (toldP S) (hb f 23 + 1)).1 = f (hb f 23) by rw [hf]]
  rcases (show w = 0 ∨ w = 1 by omega) with rfl | rfl <;> rfl
theorem two_hottest {n : Nat} (hn : 600 < n) (a : Int32) : two (M_X8_hottest n a) (M_X9_hottest n a) := by
  intro S ho
  rcases arg (a := a) (N := 1) (by omega) with ⟨w, hw, rfl, w1, w2⟩ | ⟨na, w1, w2⟩
  · refine ⟨q_hot (toldP S) w, S, fun h hc => c_hottest hc (by omega) hn, fun h hm => ?_⟩
    obtain ⟨h1, a1, a2⟩ := m_hottestOf (n := n) ho hm (show w < 2 by omega) hn
    unfold M_X9_hottest
    rw [if_neg (by rw [show M_X9_isTwo (nI w) = 1 from w2]; decide), a1]
    exact ⟨h1, rfl, a2.1⟩
  · refine ⟨-2, S, fun h hc => ?_, fun h hm => ?_⟩
    · unfold M_X8_hottest
      rw [if_pos (show M_X8_within a 1 = 0 from w1)]
      exact ⟨h, rfl, hc⟩
    · unfold M_X9_hottest
      rw [if_pos (show M_X9_isTwo a = 0 from w2)]
      exact ⟨h, rfl, hm⟩
/-! waited -/
def q_wai (P : PL) (k : Nat) : Int32 := nI (cN (fun u => (stt P (u + 1)).2.2.2.2.2.1 k == 1) 24)
theorem st_le {P : PL} (hp : okP P) {t k : Nat} (ht : t ≤ 24) (hk : k < 8) : (stt P t).2.2.2.2.2.1 k ≤ 4 := ((stt_ok hp t ht).2.2.2.2.1.2.2.2 k hk).1
theorem c_waited {n k : Nat} {S : ST} {h : AH} (hc : CR h S) (hk : k < (entS 1 S.1.2).length) (hh : M_X1_has 8 (nI k) h = 1) (hn : 600 < n) : ∃ h', M_X8_waited n (nI k) h = some (q_wai (toldP S) k, h') ∧ CR h' S := by
  have h8 := e8g hc.1
  obtain ⟨h1, a1, a2, a3⟩ := c_told (n := n) hc (by omega)
  unfold M_X8_waited q_wai
  rw [hh, if_neg (by decide), a1, vS]
  obtain ⟨m', e⟩ := loopP (L := fun m (q : Int32 × Int32) => L_X8_waited_27 n m (nI k) q.1 q.2 h1) (f := fun t => (nI (cN (fun u => (stt (toldP S) (u + 1)).2.2.2.2.2.1 k == 1) t), nI t)) (N := 24) (by
    intro m t ht
    show L_X8_waited_27 n (m + 1) (nI k) (nI (cN (fun u => (stt (toldP S) (u + 1)).2.2.2.2.2.1 k == 1) t)) (nI t) h1 = L_X8_waited_27 n m (nI k) (nI (cN (fun u => (stt (toldP S) (u + 1)).2.2.2.2.2.1 k == 1) (t + 1))) (nI (t + 1)) h1
    have h4 := st_le (toldP_ok hc.1) (show t + 1 ≤ 24 by omega) (show k < 8 by omega)
    rw [L_X8_waited_27, show (24 : Int32) = nI 24 from rfl, if_neg (nI_ge ht (by omega)), c_stateOf a3 ht (by omega), oS, cN, show (1 : Int32) = nI 1 from rfl, nI_add, nI_add]
    by_cases q : (stt (toldP S) (t + 1)).2.2.2.2.2.1 k = 1
    · rw [if_pos (by rw [q]), if_pos (by simp [q])]
    · rw [if_neg (kF q (by omega) (by omega)), if_neg (by simp [q])]
      rfl) 24 0 n (by omega) (by omega)
  have e : L_X8_waited_27 n n (nI k) 0 0 h1 = L_X8_waited_27 n (m' + 1) (nI k) (nI (cN (fun u => (stt (toldP S) (u + 1)).2.2.2.2.2.1 k == 1) 24)) (nI 24) h1 := e
  rw [e, L_X8_waited_27, if_pos (by decide)]
  exact ⟨h1, rfl, a2⟩
theorem m_waitedOf {n k : Nat} {S : ST} {h : AH} (ho : okST S) (hm : MT h S) (hk : k < (entS 1 S.1.2).length) (hn : 600 < n) : ∃ h', M_X9_waitedOf n (nI k) h = some (q_wai (toldP S) k, h') ∧ ME h' S := by
  have h8 := e8g ho
  obtain ⟨h1, a1, a2, a3, a4⟩ := m_rtE (n := n) ho hm hn
  unfold M_X9_waitedOf q_wai
  rw [a1, vS, am_inK (show k < 8 by omega) (by omega), nK (by omega), a2.2.2.1 k hk]
  exact ⟨h1, rfl, a4⟩
theorem two_waited {n : Nat} (hn : 600 < n) (a : Int32) : two (M_X8_waited n a) (M_X9_waited n a) := by
  intro S ho
  rcases hasA (e8g ho) a with ⟨k, hk, rfl, v1, v2⟩ | ⟨v1, v2⟩
  · refine ⟨q_wai (toldP S) k, S, fun h hc => c_waited hc hk (v1 h 8 hc.2.1.2.1.2.1) hn, fun h hm => ?_⟩
    obtain ⟨h1, a1, a2⟩ := m_isGuest (n := n) (nI k) ho hm hn
    obtain ⟨h2, b1, b2⟩ := m_waitedOf (n := n) ho a2.1 hk hn
    unfold M_X9_waited
    rw [a1, bS, v2, if_neg (by decide), b1]
    exact ⟨h2, rfl, b2.1⟩
  · refine ⟨-2, S, fun h hc => ?_, fun h hm => ?_⟩
    · unfold M_X8_waited
      rw [if_pos (v1 h 8 hc.2.1.2.1.2.1)]
      exact ⟨h, rfl, hc⟩
    · obtain ⟨h1, a1, a2⟩ := m_isGuest (n := n) a ho hm hn
      unfold M_X9_waited
      rw [a1, bS, v2, if_pos rfl]
      exact ⟨h1, rfl, a2.1⟩
/-! thirst -/
theorem thk : ∀ (l : Fin 9) (c : Fin 256), (((1 : Int32) <<< (nI l.val &&& 31)) - 1) &&& (nI c.val ^^^ (-1)) = nI (2 ^ l.val - 1 - c.val % 2 ^ l.val) := by decide +kernel
theorem bN_mod {f : Nat → Bool} {l : Nat} : ∀ d, bN f (l + d) % 2 ^ l = bN f l
  | 0 => Nat.mod_eq_of_lt (bN_lt f l)
  | d + 1 => by
    show (bN f (l + d) + (if f (l + d) = true then 2 ^ (l + d) else 0)) % 2 ^ l = _
    have h1 := bN_mod (f := f) (l := l) d
    split
    · rw [Nat.pow_add, Nat.add_mul_mod_self_left]
      exact h1
    · exact h1
theorem bN_not (f : Nat → Bool) : ∀ l, bN f l + bN (fun k => !f k) l = 2 ^ l - 1
  | 0 => rfl
  | l + 1 => by
    have h1 := bN_not f l
    have h2 : 0 < 2 ^ l := Nat.two_pow_pos l
    rw [bN, bN, Nat.pow_succ]
    cases h : f l <;> simp <;> omega
def q_thi (P : PL) : Int32 := nI (bN (fun k => !((stt P 24).2.2.2.2.2.1 k == 3)) P.2.1.length)
theorem c_thirst {n : Nat} {S : ST} {h : AH} (hc : CR h S) (hn : 600 < n) : ∃ h', M_X8_thirst n h = some (q_thi (toldP S), h') ∧ CR h' S := by
  have h8 := e8g hc.1
  obtain ⟨h1, a1, a2, a3⟩ := c_told (n := n) hc (by omega)
  obtain ⟨b1, b2, b3, b4, b5, b6, b7, T, b8, b9⟩ := a3
  have y2 : h1.1 32 7 = nI (coS (toldP S)) := b9.2.2.1
  have y3 : h1.1 8 3 = nI (entS 1 S.1.2).length := a2.2.1.2.1.2.1.1
  have hlt : coS (toldP S) < 256 := bN_lt _ 8
  unfold M_X8_thirst q_thi
  rw [a1, vS, y2, y3]
  refine ⟨h1, ?_, a2⟩
  have e1 := thk ⟨(entS 1 S.1.2).length, by omega⟩ ⟨coS (toldP S), hlt⟩
  have e1 : (((1 : Int32) <<< (nI (entS 1 S.1.2).length &&& 31)) - 1) &&& (nI (coS (toldP S)) ^^^ (-1)) = nI (2 ^ (entS 1 S.1.2).length - 1 - coS (toldP S) % 2 ^ (entS 1 S.1.2).length) := e1
  rw [e1]
  have e2 := bN_mod (f := fun k => (stt (toldP S) 24).2.2.2.2.2.1 k == 3) (l := (entS 1 S.1.2).length) (8 - (entS 1 S.1.2).length)
  rw [show (entS 1 S.1.2).length + (8 - (entS 1 S.1.2).length) = 8 by omega] at e2
  have e2 : coS (toldP S) % 2 ^ (entS 1 S.1.2).length = _ := e2
  have e3 := bN_not (fun k => (stt (toldP S) 24).2.2.2.2.2.1 k == 3) (entS 1 S.1.2).length
  rw [e2]
  congr 3
  show _ = bN (fun k => !((stt (toldP S) 24).2.2.2.2.2.1 k == 3)) (entS 1 S.1.2).length
  omega
theorem m_thirstOf {n : Nat} {S : ST} {h : AH} (ho : okST S) (hm : MT h S) (hn : 600 < n) : ∃ h', M_X9_thirstOf n h = some (q_thi (toldP S), h') ∧ ME h' S := by
  have h8 := e8g ho
  obtain ⟨h1, a1, a2, a3, a4⟩ := m_rtE (n := n) ho hm hn
  obtain ⟨b1, b2, b3, b4, b5, b6, b7, b8, b9, b10⟩ := a2
  have hp := toldP_ok ho
  have h9 := (stt_ok hp 24 (Nat.le_refl _)).2.2.2.2
  obtain ⟨f, hf⟩ : ∃ f : Nat → Bool, f = (fun k => !((stt (toldP S) 24).2.2.2.2.2.1 k == 3)) := ⟨_, rfl⟩
  unfold M_X9_thirstOf q_thi
  rw [a1, vS, ← hf]
  have e6 : h1.1 75 6 = nI (entS 1 S.1.2).length := a4.2.2.1
  obtain ⟨m', e⟩ := loopP (L := fun m (q : Int32 × Int32) => L_X9_thirstOf_8 n m q.1 q.2 h1) (f := fun k => (nI (bN f k), nI k)) (N := (entS 1 S.1.2).length) (by
    intro m k hk
    show L_X9_thirstOf_8 n (m + 1) (nI (bN f k)) (nI k) h1 = L_X9_thirstOf_8 n m (nI (bN f (k + 1))) (nI (k + 1)) h1
    have hx := getK hk
    have x3 : h1.2.1 83 k = nI ((entS 1 S.1.2).getD k (0, 0, 0)).2.2 := (a4.2.2.2 k _ hx).2.2
    have hq := h9.2.2.1 k _ hx
    have hb4 := (hp.2.1.2 _ (List.mem_of_getElem? hx)).2.2.2
    have hlt := bN_lt f k
    have h2k : (2 : Nat) ^ k ≤ 2 ^ 8 := Nat.pow_le_pow_right (by omega) (by omega)
    rw [L_X9_thirstOf_8, e6, if_neg (nI_ge hk (by omega)), am_inK (show k < 8 by omega) (by omega), am_inK (show k < 9 by omega) (by omega), nK (by omega), x3, b10.2.1 k (by omega), nI_bit (by omega)]
    simp only [cond_true]
    unfold B_X9_thirstOf_39
    by_cases q : (stt (toldP S) 24).2.2.2.2.2.1 k = 3
    · have e1 := hq.2.1 q
      have fk : f k = false := by rw [hf]; simp [q]
      rw [if_pos (by rw [e1]; exact nI_le (Nat.le_refl _) (by omega)), bN, fk, nI_1, show (0 : Int32) = nI 0 from rfl, nI_or _ _ (by omega) (by omega), Nat.or_zero]
      rfl
    · have e1 := hq.2.2 q
      have fk : f k = true := by rw [hf]; simp [q]
      rw [if_neg (nI_ge e1 (by omega)), nI_or _ _ (by omega) (by omega), bN_step fk, nI_1]) (entS 1 S.1.2).length 0 n (by omega) (by omega)
  have e : L_X9_thirstOf_8 n n 0 0 h1 = L_X9_thirstOf_8 n (m' + 1) (nI (bN f (entS 1 S.1.2).length)) (nI (entS 1 S.1.2).length) h1 := e
  rw [e, L_X9_thirstOf_8, e6, if_pos (nI_le (Nat.le_refl _) (by omega))]
  exact ⟨h1, rfl, a4⟩
theorem two_thirst {n : Nat} (hn : 600 < n) : two (M_X8_thirst n) (M_X9_thirst n) := by
  intro S ho
  refine ⟨q_thi (toldP S), S, fun h hc => c_thirst hc hn, fun h hm => ?_⟩
  obtain ⟨h1, a1, a2⟩ := m_thirstOf (n := n) ho hm hn
  unfold M_X9_thirst
  rw [a1]
  exact ⟨h1, rfl, a2.1⟩
/-! count -/
def q_cnt (S : ST) (w : Nat) : Int32 := if w = 0 then nI (entS 0 S.1.1).length else if w = 1 then nI (entS 1 S.1.2).length else if w = 2 then nI S.1.1.length + nI S.1.2.length else if w = 3 then nI S.2.2.1.length else if w = 4 then q_sum (toldP S) 0 else if w = 5 then nI S.2.1.1 else if w = 6 then nI S.2.1.2 else if w = 7 then nI S.2.2.2.1.length else S.2.2.2.2.2
theorem c_count {n w : Nat} {S : ST} {h : AH} (hc : CR h S) (hw : w < 9) (hn : 600 < n) : ∃ h', M_X8_count n (nI w) h = some (q_cnt S w, h') ∧ CR h' S := by
  by_cases c4 : w = 4
  · subst c4
    obtain ⟨h1, a1, a2⟩ := c_sum (n := n) (w := 0) hc (by omega) hn
    have a1 : M_X8_sum n 0 h = _ := a1
    refine ⟨h1, ?_, a2⟩
    show (am_b (M_X8_sum n 0 h) fun v2 h1 => some (v2, h1)) = _
    rw [a1]
    rfl
  · obtain ⟨⟨⟨x1, -⟩, ⟨x2, -⟩, -⟩, ⟨⟨x3, -⟩, ⟨x4, -⟩, -⟩, ⟨x5, -⟩, ⟨x6, -⟩, ⟨x7, x8, -⟩, -, x9⟩ := hc.2.1
    refine ⟨h, ?_, hc⟩
    unfold M_X8_count q_cnt
    rw [x1, x2, x3, x4, x5, x6, x7, x8, x9]
    rcases (show w = 0 ∨ w = 1 ∨ w = 2 ∨ w = 3 ∨ w = 5 ∨ w = 6 ∨ w = 7 ∨ w = 8 by omega) with rfl | rfl | rfl | rfl | rfl | rfl | rfl | rfl <;> rfl
theorem m_count {n w : Nat} {S : ST} {h : AH} (ho : okST S) (hm : MT h S) (hw : w < 9) (hn : 600 < n) : ∃ h', M_X9_count n (nI w) h = some (q_cnt S w, h') ∧ MT h' S := by
  by_cases c4 : w = 4
  · subst c4
    obtain ⟨h1, a1, a2⟩ := m_sumOf (n := n) (w := 0) ho hm (by omega) hn
    have a1 : M_X9_sumOf n 0 h = _ := a1
    refine ⟨h1, ?_, a2.1⟩
    show (am_b (M_X9_sumOf n 0 h) fun v2 h1 => some (v2, h1)) = _
    rw [a1]
    rfl
  · by_cases c01 : w < 2
    · obtain ⟨h1, a1, a2⟩ := m_readsE (n := n) ho hm hn
      have y1 : h1.1 75 2 = nI (entS 0 S.1.1).length := a2.2.1.1
      have y2 : h1.1 75 6 = nI (entS 1 S.1.2).length := a2.2.2.1
      refine ⟨h1, ?_, a2.1⟩
      unfold M_X9_count B_X9_count_52 M_X9_tellOf q_cnt
      rw [a1, vS, y1, y2]
      rcases (show w = 0 ∨ w = 1 by omega) with rfl | rfl <;> rfl
    · obtain ⟨⟨x1, -⟩, ⟨x2, -⟩, ⟨x3, -⟩, ⟨x4, x5⟩, ⟨x6, -⟩, -, x7⟩ := id hm
      refine ⟨h, ?_, hm⟩
      unfold M_X9_count q_cnt
      rw [x3, x4, x5, x6, x7]
      rcases (show w = 2 ∨ w = 3 ∨ w = 5 ∨ w = 6 ∨ w = 7 ∨ w = 8 by omega) with rfl | rfl | rfl | rfl | rfl | rfl
      · rw [if_neg (show ¬ nI 2 = (0 : Int32) by decide), if_neg (show ¬ nI 2 = (1 : Int32) by decide), if_pos (show nI 2 = (2 : Int32) from rfl), show (0 : Int32) = nI 0 from rfl, show (1 : Int32) = nI 1 from rfl, am_inK (show 0 < 2 by omega) (by omega), am_inK (show 1 < 2 by omega) (by omega), nK (by omega), nK (by omega), x1, x2]
        rfl
      all_goals rfl
theorem two_count {n : Nat} (hn : 600 < n) (a : Int32) : two (M_X8_count n a) (M_X9_count n a) := by
  intro S ho
  rcases arg (a := a) (N := 8) (by omega) with ⟨w, hw, rfl, w1, w2⟩ | ⟨na, w1, w2⟩
  · exact ⟨q_cnt S w, S, fun h hc => c_count hc (by omega) hn, fun h hm => m_count ho hm (by omega) hn⟩
  · refine ⟨-2, S, fun h hc => ?_, fun h hm => ?_⟩
    · unfold M_X8_count
      rw [if_neg (show ¬ a = 0 from na 0 (by omega)), if_neg (show ¬ a = 1 from na 1 (by omega)), if_neg (show ¬ a = 2 from na 2 (by omega)), if_neg (show ¬ a = 3 from na 3 (by omega)), if_neg (show ¬ a = 4 from na 4 (by omega)), if_neg (show ¬ a = 5 from na 5 (by omega)), if_neg (show ¬ a = 6 from na 6 (by omega)), if_neg (show ¬ a = 7 from na 7 (by omega)), if_neg (show ¬ a = 8 from na 8 (by omega))]
      exact ⟨h, rfl, hc⟩
    · unfold M_X9_count
      rw [if_neg (show ¬ a = 0 from na 0 (by omega)), if_neg (show ¬ a = 1 from na 1 (by omega)), if_neg (show ¬ a = 2 from na 2 (by omega)), if_neg (show ¬ a = 3 from na 3 (by omega)), if_neg (show ¬ a = 4 from na 4 (by omega)), if_neg (show ¬ a = 5 from na 5 (by omega)), if_neg (show ¬ a = 6 from na 6 (by omega)), if_neg (show ¬ a = 7 from na 7 (by omega)), if_neg (show ¬ a = 8 from na 8 (by omega))]
      exact ⟨h, rfl, hm⟩
