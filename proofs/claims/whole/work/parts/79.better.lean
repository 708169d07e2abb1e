/-! better, come -/
theorem mod_at {l : List T3} {k j : Nat} {f : T3 → T3} : (l.modify k f)[j]? = if k = j then l[j]?.map f else l[j]? := by
  rw [List.getElem?_modify]
  by_cases q : k = j
  · rw [if_pos q]
    cases l[j]? with
    | none => rfl
    | some y => exact congrArg some (if_pos q)
  · rw [if_neg q]
    cases l[j]? with
    | none => rfl
    | some y => exact congrArg some (if_neg q)
theorem altK {S : ST} {k v : Nat} (hk : k < 8) (hv : v < 3) : altP S (287 + 3 * k + v) = (setK (entS 0 S.1.1) k v, entS 1 S.1.2, S.2.2.1, S.2.1.1, S.2.1.2, fun _ => false) := by
  unfold altP
  rw [if_neg (by omega), if_neg (by omega), if_pos (by omega), show (287 + 3 * k + v - 287) / 3 = k by omega, show (287 + 3 * k + v - 287) % 3 = v by omega]
theorem altM {S : ST} {k v : Nat} (hk : k < 8) (hv : v < 24) : altP S (311 + 24 * k + v) = (entS 0 S.1.1, setM (entS 1 S.1.2) k v, S.2.2.1, S.2.1.1, S.2.1.2, fun _ => false) := by
  unfold altP
  rw [if_neg (by omega), if_neg (by omega), if_neg (by omega), show (311 + 24 * k + v - 311) / 24 = k by omega, show (311 + 24 * k + v - 311) % 24 = v by omega]
theorem setK_self {l : List T3} {k : Nat} (hk : k < l.length) : setK l k (l.getD k (0, 0, 0)).2.1 = l := by
  apply List.ext_getElem?
  intro j
  unfold setK
  rw [mod_at]
  by_cases q : k = j
  · subst q
    rw [if_pos rfl, getK hk]
    rfl
  · rw [if_neg q]
theorem setM_self {l : List T3} {k : Nat} (hk : k < l.length) : setM l k (l.getD k (0, 0, 0)).1 = l := by
  apply List.ext_getElem?
  intro j
  unfold setM
  rw [mod_at]
  by_cases q : k = j
  · subst q
    rw [if_pos rfl, getK hk]
    rfl
  · rw [if_neg q]
theorem pcM_k {h : AH} {l : List T3} {k u v : Nat} (hp : pcM h (setK l k u)) : pcM (am_sa h 79 (upd (h.2.1 79) k (nI v))) (setK l k v) := by
  obtain ⟨p1, p2⟩ := hp
  refine ⟨?_, fun j x hx => ?_⟩
  · rw [sa_1, p1]
    unfold setK
    rw [List.length_modify, List.length_modify]
  · rw [sa_n _ _ (by omega), sa_s, sa_n _ _ (by omega)]
    unfold upd
    unfold setK at hx p2
    rw [mod_at] at hx
    have p2 := p2 j
    rw [mod_at] at p2
    by_cases q : k = j
    · rw [if_pos q] at hx p2
      rw [if_pos q.symm]
      cases hy : l[j]? with
      | none =>
        rw [hy] at hx
        cases hx
      | some y =>
        rw [hy] at hx p2
        cases hx
        have z := p2 (y.1, u, y.2.2) rfl
        exact ⟨z.1, rfl, z.2.2⟩
    · rw [if_neg q] at hx p2
      rw [if_neg (fun z => q z.symm)]
      exact p2 x hx
theorem gsM_m {h : AH} {l : List T3} {k u v : Nat} (hp : gsM h (setM l k u)) : gsM (am_sa h 87 (upd (h.2.1 87) k (nI v))) (setM l k v) := by
  obtain ⟨p1, p2⟩ := hp
  refine ⟨?_, fun j x hx => ?_⟩
  · rw [sa_1, p1]
    unfold setM
    rw [List.length_modify, List.length_modify]
  · rw [sa_s, sa_n _ _ (by omega), sa_n _ _ (by omega)]
    unfold upd
    unfold setM at hx p2
    rw [mod_at] at hx
    have p2 := p2 j
    rw [mod_at] at p2
    by_cases q : k = j
    · rw [if_pos q] at hx p2
      rw [if_pos q.symm]
      cases hy : l[j]? with
      | none =>
        rw [hy] at hx
        cases hx
      | some y =>
        rw [hy] at hx p2
        cases hx
        have z := p2 (u, y.2.1, y.2.2) rfl
        exact ⟨rfl, z.2⟩
    · rw [if_neg q] at hx p2
      rw [if_neg (fun z => q z.symm)]
      exact p2 x hx
theorem TB.k {h : AH} {S : ST} {l gs : List T3} {w k u v : Nat} {nv : Int32} (ht : TB h S (setK l k u) gs w nv) : TB (am_sa h 79 (upd (h.2.1 79) k (nI v))) S (setK l k v) gs w nv := by
  obtain ⟨a, b, c, d, e, f⟩ := ht
  refine ⟨a.fr ⟨fun _ _ => rfl, fun i z => sa_n _ _ (by omega)⟩, pcM_k b, ⟨c.1, fun j x hx => ?_⟩, ⟨d.1, fun j x hx => ?_⟩, e, f⟩
  · rw [sa_n _ _ (by unfold mA; omega), sa_n _ _ (by unfold mA; omega), sa_n _ _ (by unfold mA; omega)]
    exact c.2 j x hx
  · rw [sa_n _ _ (by omega), sa_n _ _ (by omega), sa_n _ _ (by omega)]
    exact d.2 j x hx
theorem TB.m {h : AH} {S : ST} {l fs : List T3} {w k u v : Nat} {nv : Int32} (ht : TB h S fs (setM l k u) w nv) : TB (am_sa h 87 (upd (h.2.1 87) k (nI v))) S fs (setM l k v) w nv := by
  obtain ⟨a, b, c, d, e, f⟩ := ht
  refine ⟨a.fr ⟨fun _ _ => rfl, fun i z => sa_n _ _ (by omega)⟩, ⟨b.1, fun j x hx => ?_⟩, ⟨c.1, fun j x hx => ?_⟩, gsM_m d, e, f⟩
  · rw [sa_n _ _ (by omega), sa_n _ _ (by omega), sa_n _ _ (by omega)]
    exact b.2 j x hx
  · rw [sa_n _ _ (by unfold mA; omega), sa_n _ _ (by unfold mA; omega), sa_n _ _ (by unfold mA; omega)]
    exact c.2 j x hx
def q_bet (S : ST) (k w : Nat) : Int32 := q_most (fun i => glS (altP S (287 + 3 * k + i))) 3 w
theorem c_better {n k w : Nat} {S : ST} {h : AH} (hc : CR h S) (hk : k < (entS 0 S.1.1).length) (hh : M_X1_has 2 (nI k) h = 1) (hw : w < 2) (hn : 600 < n) : ∃ h', M_X8_better n (nI k) (nI w) h = some (q_bet S k w, h') ∧ CR h' S := by
  have h8 := e8f hc.1
  obtain ⟨h1, a1, a2⟩ := c_most (n := n) (fr := 287 + 3 * k) (N := 3) (w := w) hc (by omega) (by omega) (by omega) hw hn
  have a1 : M_X8_mostGlasses n (nI (287 + 3 * k)) 3 (nI w) h = some (q_bet S k w, h1) := a1
  have ek : M_X7_kindsOf (nI k) = nI (287 + 3 * k) := by
    unfold M_X7_kindsOf
    rw [show (3 : Int32) = nI 3 from rfl, nI_mul, show (287 : Int32) = nI 287 from rfl, nI_add, Nat.mul_comm]
  unfold M_X8_better
  rw [hh, if_neg (by decide), show (1 : Int32) = nI 1 from rfl, withinK (by omega) (by omega), if_neg (by decide), ek, a1]
  exact ⟨h1, rfl, a2⟩
theorem m_betterOf {n k w : Nat} {S : ST} {h : AH} (ho : okST S) (hm : MT h S) (hk : k < (entS 0 S.1.1).length) (hw : w < 2) (hn : 600 < n) : ∃ h', M_X9_betterOf n (nI k) (nI w) h = some (q_bet S k w, h') ∧ ME h' S := by
  have h8 := e8f ho
  obtain ⟨g, hg⟩ : ∃ g : Nat → Nat, g = (fun i => glS (altP S (287 + 3 * k + i))) := ⟨_, rfl⟩
  have hg1 : ∀ i, i ≤ 2 → g i ≤ 1000 := fun i hi => by rw [hg]; exact gl_le (altP_ok ho (by omega))
  unfold M_X9_betterOf q_bet
  rw [← hg]
  obtain ⟨h1, a1, a2, a3⟩ := m_starts (n := n) g ho hm hn
  have ek : h1.2.1 79 k = nI ((entS 0 S.1.1).getD k (0, 0, 0)).2.1 := (a2.2.1.2 k _ (getK hk)).2.1
  rw [a1, vS, am_inK (show k < 9 by omega) (by omega), nK (by omega), ek]
  simp only [cond_true]
  obtain ⟨kk, hkk⟩ : ∃ q, q = ((entS 0 S.1.1).getD k (0, 0, 0)).2.1 := ⟨_, rfl⟩
  rw [← hkk]
  have a2' : TB h1 S (setK (entS 0 S.1.1) k kk) (entS 1 S.1.2) S.2.1.1 0 := by rw [hkk, setK_self hk]; exact a2
  obtain ⟨m', h2, e1, ⟨u, e2⟩, e3⟩ := loopH (L := fun m (q : Int32) h => L_X9_betterOf_14 n m (nI k) (nI w) (nI kk) q h) (f := fun v => nI v) (I := fun v h => (∃ u, TB h S (setK (entS 0 S.1.1) k u) (entS 1 S.1.2) S.2.1.1 0) ∧ BZ h g v) (N := 3) (by
    intro m v h hv hI
    obtain ⟨⟨u, i1⟩, i2⟩ := hI
    have hp := altP_ok (t := 287 + 3 * k + v) ho (by omega)
    rw [altK (by omega) hv] at hp
    obtain ⟨h2, b1, b2, b3⟩ := m_tries (n := n) (k := v) (g := g) (i1.k (v := v)) hp (by rw [hg, ← altK (by omega) hv]) i2 (by omega) (fun i hi => hg1 i (by omega)) hn
    show ∃ h', L_X9_betterOf_14 n (m + 1) (nI k) (nI w) (nI kk) (nI v) h = L_X9_betterOf_14 n m (nI k) (nI w) (nI kk) (nI (v + 1)) h' ∧ _
    rw [L_X9_betterOf_14, show (3 : Int32) = nI 3 from rfl, if_neg (nI_ge (by omega) (by omega)), am_inK (show k < 9 by omega) (by omega), nK (by omega), b1, nI_1]
    exact ⟨h2, rfl, ⟨v, b2⟩, b3⟩) 3 0 n h1 (by omega) (by omega) ⟨⟨_, a2'⟩, a3⟩
  have e1 : L_X9_betterOf_14 n n (nI k) (nI w) (nI kk) 0 h1 = L_X9_betterOf_14 n (m' + 1) (nI k) (nI w) (nI kk) (nI 3) h2 := e1
  rw [e1, L_X9_betterOf_14, if_pos (by decide), am_inK (show k < 9 by omega) (by omega), nK (by omega), e3.1, e3.2]
  have e4 := e2.k (v := kk)
  rw [hkk, setK_self hk, ← hkk] at e4
  refine ⟨am_sa h2 79 (upd (h2.2.1 79) k (nI kk)), ?_, e4.me⟩
  unfold q_most
  rcases (show w = 0 ∨ w = 1 by omega) with rfl | rfl <;> rfl
theorem two_better {n : Nat} (hn : 600 < n) (a b : Int32) : two (M_X8_better n a b) (M_X9_better n a b) := by
  intro S ho
  rcases hasA (e8f ho) a with ⟨k, hk, rfl, v1, v2⟩ | ⟨v1, v2⟩
  · rcases arg (a := b) (N := 1) (by omega) with ⟨w, hw, rfl, w1, w2⟩ | ⟨nb, w1, w2⟩
    · refine ⟨q_bet S k w, S, fun h hc => c_better hc hk (v1 h 2 hc.2.1.1.2.1) (by omega) hn, fun h hm => ?_⟩
      obtain ⟨h1, a1, a2⟩ := m_isPiece (n := n) (nI k) ho hm hn
      obtain ⟨h2, b1, b2⟩ := m_betterOf (n := n) ho a2.1 hk (show w < 2 by omega) hn
      unfold M_X9_better
      rw [a1, bS, v2, if_neg (by decide), if_neg (by rw [show M_X9_isTwo (nI w) = 1 from w2]; decide), b1]
      exact ⟨h2, rfl, b2.1⟩
    · refine ⟨-2, S, fun h hc => ?_, fun h hm => ?_⟩
      · unfold M_X8_better
        rw [v1 h 2 hc.2.1.1.2.1, if_neg (by decide), if_pos (show M_X8_within b 1 = 0 from w1)]
        exact ⟨h, rfl, hc⟩
      · obtain ⟨h1, a1, a2⟩ := m_isPiece (n := n) (nI k) ho hm hn
        unfold M_X9_better
        rw [a1, bS, v2, if_neg (by decide), if_pos (show M_X9_isTwo b = 0 from w2)]
        exact ⟨h1, rfl, a2.1⟩
  · refine ⟨-2, S, fun h hc => ?_, fun h hm => ?_⟩
    · unfold M_X8_better
      rw [if_pos (v1 h 2 hc.2.1.1.2.1)]
      exact ⟨h, rfl, hc⟩
    · obtain ⟨h1, a1, a2⟩ := m_isPiece (n := n) a ho hm hn
      unfold M_X9_better
      rw [a1, bS, v2, if_pos rfl]
      exact ⟨h1, rfl, a2.1⟩
def q_com (S : ST) (k w : Nat) : Int32 := q_most (fun i => glS (altP S (311 + 24 * k + i))) 24 w
theorem c_come {n k w : Nat} {S : ST} {h : AH} (hc : CR h S) (hk : k < (entS 1 S.1.2).length) (hh : M_X1_has 8 (nI k) h = 1) (hw : w < 2) (hn : 600 < n) : ∃ h', M_X8_come n (nI k) (nI w) h = some (q_com S k w, h') ∧ CR h' S := by
  have h8 := e8g hc.1
  obtain ⟨h1, a1, a2⟩ := c_most (n := n) (fr := 311 + 24 * k) (N := 24) (w := w) hc (by omega) (by omega) (by omega) hw hn
  have a1 : M_X8_mostGlasses n (nI (311 + 24 * k)) 24 (nI w) h = some (q_com S k w, h1) := a1
  have ek : M_X7_minutesOf (nI k) = nI (311 + 24 * k) := by
    unfold M_X7_minutesOf
    rw [show (24 : Int32) = nI 24 from rfl, nI_mul, show (311 : Int32) = nI 311 from rfl, nI_add, Nat.mul_comm]
  unfold M_X8_come
  rw [hh, if_neg (by decide), show (1 : Int32) = nI 1 from rfl, withinK (by omega) (by omega), if_neg (by decide), ek, a1]
  exact ⟨h1, rfl, a2⟩
theorem m_comeOf {n k w : Nat} {S : ST} {h : AH} (ho : okST S) (hm : MT h S) (hk : k < (entS 1 S.1.2).length) (hw : w < 2) (hn : 600 < n) : ∃ h', M_X9_comeOf n (nI k) (nI w) h = some (q_com S k w, h') ∧ ME h' S := by
  have h8 := e8g ho
  obtain ⟨g, hg⟩ : ∃ g : Nat → Nat, g = (fun i => glS (altP S (311 + 24 * k + i))) := ⟨_, rfl⟩
  have hg1 : ∀ i, i ≤ 23 → g i ≤ 1000 := fun i hi => by rw [hg]; exact gl_le (altP_ok ho (by omega))
  unfold M_X9_comeOf q_com
  rw [← hg]
  obtain ⟨h1, a1, a2, a3⟩ := m_starts (n := n) g ho hm hn
  rw [a1, vS]
  have a2' : TB h1 S (entS 0 S.1.1) (setM (entS 1 S.1.2) k ((entS 1 S.1.2).getD k (0, 0, 0)).1) S.2.1.1 0 := by rw [setM_self hk]; exact a2
  obtain ⟨m', h2, e1, ⟨u, e2⟩, e3⟩ := loopH (L := fun m (q : Int32) h => L_X9_comeOf_6 n m (nI k) (nI w) q h) (f := fun v => nI v) (I := fun v h => (∃ u, TB h S (entS 0 S.1.1) (setM (entS 1 S.1.2) k u) S.2.1.1 0) ∧ BZ h g v) (N := 24) (by
    intro m v h hv hI
    obtain ⟨⟨u, i1⟩, i2⟩ := hI
    have hp := altP_ok (t := 311 + 24 * k + v) ho (by omega)
    rw [altM (by omega) hv] at hp
    obtain ⟨h2, b1, b2, b3⟩ := m_tries (n := n) (k := v) (g := g) (i1.m (v := v)) hp (by rw [hg, ← altM (by omega) hv]) i2 (by omega) (fun i hi => hg1 i (by omega)) hn
    show ∃ h', L_X9_comeOf_6 n (m + 1) (nI k) (nI w) (nI v) h = L_X9_comeOf_6 n m (nI k) (nI w) (nI (v + 1)) h' ∧ _
    rw [L_X9_comeOf_6, show (24 : Int32) = nI 24 from rfl, if_neg (nI_ge (by omega) (by omega)), am_inK (show k < 8 by omega) (by omega), nK (by omega), b1, nI_1]
    exact ⟨h2, rfl, ⟨v, b2⟩, b3⟩) 24 0 n h1 (by omega) (by omega) ⟨⟨_, a2'⟩, a3⟩
  have e1 : L_X9_comeOf_6 n n (nI k) (nI w) 0 h1 = L_X9_comeOf_6 n (m' + 1) (nI k) (nI w) (nI 24) h2 := e1
  rw [e1, L_X9_comeOf_6, if_pos (by decide), e3.1, e3.2]
  refine ⟨h2, ?_, e2.me⟩
  unfold q_most
  rcases (show w = 0 ∨ w = 1 by omega) with rfl | rfl <;> rfl
theorem two_come {n : Nat} (hn : 600 < n) (a b : Int32) : two (M_X8_come n a b) (M_X9_come n a b) := by
  intro S ho
  rcases hasA (e8g ho) a with ⟨k, hk, rfl, v1, v2⟩ | ⟨v1, v2⟩
  · rcases arg (a := b) (N := 1) (by omega) with ⟨w, hw, rfl, w1, w2⟩ | ⟨nb, w1, w2⟩
    · refine ⟨q_com S k w, S, fun h hc => c_come hc hk (v1 h 8 hc.2.1.2.1.2.1) (by omega) hn, fun h hm => ?_⟩
      obtain ⟨h1, a1, a2⟩ := m_isGuest (n := n) (nI k) ho hm hn
      obtain ⟨h2, b1, b2⟩ := m_comeOf (n := n) ho a2.1 hk (show w < 2 by omega) hn
      unfold M_X9_come
      rw [a1, bS, v2, if_neg (by decide), if_neg (by rw [show M_X9_isTwo (nI w) = 1 from w2]; decide), b1]
      exact ⟨h2, rfl, b2.1⟩
    · refine ⟨-2, S, fun h hc => ?_, fun h hm => ?_⟩
      · unfold M_X8_come
        rw [v1 h 8 hc.2.1.2.1.2.1, if_neg (by decide), if_pos (show M_X8_within b 1 = 0 from w1)]
        exact ⟨h, rfl, hc⟩
      · obtain ⟨h1, a1, a2⟩ := m_isGuest (n := n) (nI k) ho hm hn
        unfold M_X9_come
        rw [a1, bS, v2, if_neg (by decide), if_pos (show M_X9_isTwo b = 0 from w2)]
        exact ⟨h1, rfl, a2.1⟩
  · refine ⟨-2, S, fun h hc => ?_, fun h hm => ?_⟩
    · unfold M_X8_come
      rw [if_pos (v1 h 8 hc.2.1.2.1.2.1)]
      exact ⟨h, rfl, hc⟩
    · obtain ⟨h1, a1, a2⟩ := m_isGuest (n := n) a ho hm hn
      unfold M_X9_come
      rw [a1, bS, v2, if_pos rfl]
      exact ⟨h1, rfl, a2.1⟩
