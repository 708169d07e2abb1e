/-! waters, kind -/
theorem c_coming {n fr N : Nat} {S : ST} {h : AH} (hc : CR h S) (hf : fr + N ≤ 503) (hN : N ≤ 31) (hn : 600 < n) : ∃ h', M_X8_comingOutAsSeen n (nI fr) (nI N) h = some (nI (bN (fun i => sok S (altP S (fr + i))) N), h') ∧ CR h' S := by
  obtain ⟨f, hfe⟩ : ∃ f : Nat → Bool, f = (fun i => sok S (altP S (fr + i))) := ⟨_, rfl⟩
  rw [← hfe]
  unfold M_X8_comingOutAsSeen
  obtain ⟨m', h1, e1, e2⟩ := loopH (L := fun m (q : Int32 × Int32) h => L_X8_comingOutAsSeen_5 n m (nI fr) (nI N) q.1 q.2 h) (f := fun k => (nI (bN f k), nI k)) (I := fun _ h => CR h S) (N := N) (by
    intro m k h hk hI
    show ∃ h', L_X8_comingOutAsSeen_5 n (m + 1) (nI fr) (nI N) (nI (bN f k)) (nI k) h = L_X8_comingOutAsSeen_5 n m (nI fr) (nI N) (nI (bN f (k + 1))) (nI (k + 1)) h' ∧ CR h' S
    obtain ⟨h1, a1, a2⟩ := c_outcome (n := n) (t := fr + k) hI (by omega) (by omega)
    have hs := c_seenS (n := n) (P := altP S (fr + k)) (altP_ok hc.1 (by omega)) a2.2.1.2.2.2.1 hc.1.2.2.2.2.2.1 hn
    have hs : M_X8_comesOutAsSeen n (pkS (altP S (fr + k))) h1 = some (bI (f k)) := by rw [hfe]; exact hs
    rw [L_X8_comingOutAsSeen_5, if_neg (nI_ge hk (by omega)), nI_add, a1, bS, hs, oS, nI_1, nI_bit (by omega)]
    refine ⟨h1, ?_, a2⟩
    cases hfk : f k
    · rw [if_pos (by decide), bacc0 hfk]
    · rw [if_neg (by decide), bacc1 (by omega) hfk]) N 0 n h (by omega) (by omega) hc
  have e1 : L_X8_comingOutAsSeen_5 n n (nI fr) (nI N) 0 0 h = L_X8_comingOutAsSeen_5 n (m' + 1) (nI fr) (nI N) (nI (bN f N)) (nI N) h1 := e1
  rw [e1, L_X8_comingOutAsSeen_5, if_pos (nI_le (Nat.le_refl _) (by omega))]
  exact ⟨h1, rfl, e2⟩
def wtS (S : ST) (v : Nat) : Bool := sok S (altP S (256 + v))
def wbS (S : ST) (t v : Nat) : Bool := mn_b (altP S (256 + v)) t (stt (altP S (256 + v)) t)
def q_wat (S : ST) : Int32 := nI (bN (wtS S) 31)
theorem c_waters {n : Nat} {S : ST} {h : AH} (hc : CR h S) (hn : 600 < n) : ∃ h', M_X8_waters n h = some (q_wat S, h') ∧ CR h' S := by
  obtain ⟨h1, a1, a2⟩ := c_coming (n := n) (fr := 256) (N := 31) hc (by omega) (by omega) hn
  have a1 : M_X8_comingOutAsSeen n 256 31 h = some (q_wat S, h1) := a1
  unfold M_X8_waters
  rw [a1]
  exact ⟨h1, rfl, a2⟩
theorem m_w59 {n v : Nat} {S : ST} {h : AH} {k29 : Int32 → Int32 → AH → Option (Int32 × AH)} {x1 : Int32} (hv : v ≤ 30) (ht : ∃ u, TB h S (entS 0 S.1.1) (entS 1 S.1.2) u 0) (hT : mevT h (altP S (256 + v)) 24) (hB : ∀ t, t < 24 → h.2.1 103 t = nI (bN (wbS S t) v)) (hn : 600 < n) : ∃ h', L_X9_watersBy_59 n k29 n x1 (nI v) 0 h = k29 x1 (nI (v + 1)) h' ∧ (∃ u, TB h' S (entS 0 S.1.1) (entS 1 S.1.2) u 0) ∧ ∀ t, t < 24 → h'.2.1 103 t = nI (bN (wbS S t) (v + 1)) := by
  obtain ⟨u, ht⟩ := ht
  obtain ⟨m', h2, e1, e2, e3, e4⟩ := loopH (L := fun m (q : Int32) h => L_X9_watersBy_59 n k29 m x1 (nI v) q h) (f := fun t => nI t) (I := fun t hx => TB hx S (entS 0 S.1.1) (entS 1 S.1.2) u 0 ∧ hx.2.1 96 = h.2.1 96 ∧ ∀ s, s < 24 → hx.2.1 103 s = nI (bN (wbS S s) (if s < t then v + 1 else v))) (N := 24) (by
    intro m t hx htt hI
    obtain ⟨i1, i2, i3⟩ := hI
    show ∃ h', L_X9_watersBy_59 n k29 (m + 1) x1 (nI v) (nI t) hx = L_X9_watersBy_59 n k29 m x1 (nI v) (nI (t + 1)) h' ∧ _
    have b1 : hx.2.1 96 (6 * t + 4) = bI (wbS S t v) := by rw [i2]; exact (hT t htt).2.2.2.2.1
    have b2 := i3 t htt
    rw [if_neg (by omega)] at b2
    have go : L_X9_watersBy_59 n k29 m x1 (nI v) (nI t + 1) (am_sa hx 103 (upd (hx.2.1 103) t (nI (bN (wbS S t) (v + 1))))) = L_X9_watersBy_59 n k29 m x1 (nI v) (nI (t + 1)) (am_sa hx 103 (upd (hx.2.1 103) t (nI (bN (wbS S t) (v + 1))))) := by rw [nI_1]
    have key : L_X9_watersBy_59 n k29 (m + 1) x1 (nI v) (nI t) hx = L_X9_watersBy_59 n k29 m x1 (nI v) (nI (t + 1)) (am_sa hx 103 (upd (hx.2.1 103) t (nI (bN (wbS S t) (v + 1))))) := by
      rw [L_X9_watersBy_59, show (24 : Int32) = nI 24 from rfl, if_neg (nI_ge htt (by omega)), am_inK htt (by omega), show (6 : Int32) = nI 6 from rfl, nI_mul, show (4 : Int32) = nI 4 from rfl, nI_add, am_inK (show 6 * t + 4 < 144 by omega) (by omega), nK (by omega), nK (by omega), b1, b2, nI_bit (by omega)]
      simp only [cond_true]
      unfold B_X9_watersBy_94
      rw [am_inK htt (by omega), nK (by omega), ← go]
      simp only [cond_true]
      cases hfk : wbS S t v
      · rw [if_neg (by decide), or0, bacc0 hfk]
      · rw [if_pos (by decide), bacc1 (by omega) hfk]
    refine ⟨_, key, i1.fr ⟨fun _ _ _ _ => rfl, fun i _ y => sa_n _ _ y⟩, by rw [sa_n _ _ (by omega)]; exact i2, fun s hs => ?_⟩
    rw [sa_s]
    unfold upd
    by_cases q : s = t
    · rw [if_pos q, if_pos (by omega), q]
    · rw [if_neg q, i3 s hs]
      by_cases q2 : s < t
      · rw [if_pos q2, if_pos (by omega)]
      · rw [if_neg q2, if_neg (by omega)]) 24 0 n h (by omega) (by omega) ⟨ht, rfl, fun s hs => by rw [if_neg (by omega)]; exact hB s hs⟩
  have e1 : L_X9_watersBy_59 n k29 n x1 (nI v) 0 h = L_X9_watersBy_59 n k29 (m' + 1) x1 (nI v) (nI 24) h2 := e1
  rw [e1, L_X9_watersBy_59, if_pos (by decide), nI_1]
  refine ⟨h2, rfl, ⟨u, e2⟩, fun t htt => ?_⟩
  rw [e4 t htt, if_pos htt]
theorem m_watersBy {n : Nat} {S : ST} {h : AH} (ho : okST S) (hm : MT h S) (hn : 600 < n) : ∃ h', M_X9_watersBy n h = some (q_wat S, h') ∧ ME h' S ∧ ∀ t, t < 24 → h'.2.1 103 t = nI (bN (wbS S t) 31) := by
  unfold M_X9_watersBy q_wat
  obtain ⟨h1, a1, a2⟩ := m_asT (n := n) ho hm hn
  rw [a1, vS]
  obtain ⟨m', h2, e1, e2, e3⟩ := loopH (L := fun m (q : Int32) h => L_X9_watersBy_8 n m 0 q h) (f := fun t => nI t) (I := fun t hx => TB hx S (entS 0 S.1.1) (entS 1 S.1.2) S.2.1.1 0 ∧ ∀ s, s < t → hx.2.1 103 s = 0) (N := 24) (by
    intro m t hx ht hI
    obtain ⟨i1, i2⟩ := hI
    show ∃ h', L_X9_watersBy_8 n (m + 1) 0 (nI t) hx = L_X9_watersBy_8 n m 0 (nI (t + 1)) h' ∧ _
    rw [L_X9_watersBy_8, show (24 : Int32) = nI 24 from rfl, if_neg (nI_ge ht (by omega)), am_inK ht (by omega), nK (by omega), nI_1]
    refine ⟨_, rfl, i1.fr ⟨fun _ _ _ _ => rfl, fun i _ y => sa_n _ _ y⟩, fun s hs => ?_⟩
    rw [sa_s]
    unfold upd
    by_cases q : s = t
    · rw [if_pos q]
    · rw [if_neg q]
      exact i2 s (by omega)) 24 0 n h1 (by omega) (by omega) ⟨a2, fun s hs => by omega⟩
  have e1 : L_X9_watersBy_8 n n 0 0 h1 = L_X9_watersBy_8 n (m' + 1) 0 (nI 24) h2 := e1
  rw [e1, L_X9_watersBy_8, if_pos (by decide)]
  obtain ⟨m2, h3, g1, ⟨u, g2⟩, g3⟩ := loopH (L := fun m (q : Int32 × Int32) h => L_X9_watersBy_29 n m q.1 q.2 h) (f := fun v => (nI (bN (wtS S) v), nI v)) (I := fun v hx => (∃ u, TB hx S (entS 0 S.1.1) (entS 1 S.1.2) u 0) ∧ ∀ t, t < 24 → hx.2.1 103 t = nI (bN (wbS S t) v)) (N := 31) (by
    intro m v hx hv hI
    obtain ⟨⟨u, i1⟩, i2⟩ := hI
    show ∃ h', L_X9_watersBy_29 n (m + 1) (nI (bN (wtS S) v)) (nI v) hx = L_X9_watersBy_29 n m (nI (bN (wtS S) (v + 1))) (nI (v + 1)) h' ∧ _
    have hp := altP_ok (t := 256 + v) ho (by omega)
    rw [altW (by omega)] at hp
    obtain ⟨h4, b1, b2, b3, b4⟩ := m_seenS (n := n) ho (i1.w (v := v)) skM_f hp hn
    rw [← altW (by omega)] at b1 b3
    have b1 : M_X9_isSeen n (am_sf hx 75 20 (nI v)) = some (bI (wtS S v), h4) := b1
    obtain ⟨h5, c1, c2, c3⟩ := m_w59 (n := n) (v := v) (k29 := L_X9_watersBy_29 n m) (x1 := nI (bN (wtS S) (v + 1))) (by omega) ⟨_, b2⟩ b3.1 (fun t ht => by rw [b4.2.1 _ (by omega)]; exact i2 t ht) hn
    rw [L_X9_watersBy_29, show (30 : Int32) = nI 30 from rfl, if_neg (nI_nlt (by omega) (by omega)), b1, bS]
    unfold B_X9_watersBy_55
    rw [nI_bit (by omega)]
    refine ⟨h5, ?_, c2, c3⟩
    cases hfk : wtS S v
    · rw [if_pos (by decide), or0, ← bacc0 hfk, c1]
    · rw [if_neg (by decide), bacc1 (by omega) hfk, c1]) 31 0 n h2 (by omega) (by omega) ⟨⟨_, e2⟩, fun t ht => by rw [e3 t ht]; rfl⟩
  have g1 : L_X9_watersBy_29 n n 0 0 h2 = L_X9_watersBy_29 n (m2 + 1) (nI (bN (wtS S) 31)) (nI 31) h3 := g1
  rw [g1, L_X9_watersBy_29, if_pos (by decide)]
  exact ⟨h3, rfl, g2.me, g3⟩
theorem two_waters {n : Nat} (hn : 600 < n) : two (M_X8_waters n) (M_X9_waters n) := by
  intro S ho
  refine ⟨q_wat S, S, fun h hc => c_waters hc hn, fun h hm => ?_⟩
  obtain ⟨h1, a1, a2, -⟩ := m_watersBy (n := n) ho hm hn
  unfold M_X9_waters
  rw [a1]
  exact ⟨h1, rfl, a2.1⟩
/-! kind -/
def q_kin (S : ST) (k : Nat) : Int32 := nI (bN (fun i => sok S (altP S (287 + 3 * k + i))) 3)
theorem c_kind {n k : Nat} {S : ST} {h : AH} (hc : CR h S) (hk : k < (entS 0 S.1.1).length) (hh : M_X1_has 2 (nI k) h = 1) (hn : 600 < n) : ∃ h', M_X8_kind n (nI k) h = some (q_kin S k, h') ∧ CR h' S := by
  have h8 := e8f hc.1
  obtain ⟨h1, a1, a2⟩ := c_coming (n := n) (fr := 287 + 3 * k) (N := 3) hc (by omega) (by omega) hn
  have a1 : M_X8_comingOutAsSeen n (nI (287 + 3 * k)) 3 h = some (q_kin S k, h1) := a1
  have ek : M_X7_kindsOf (nI k) = nI (287 + 3 * k) := by
    unfold M_X7_kindsOf
    rw [show (3 : Int32) = nI 3 from rfl, nI_mul, show (287 : Int32) = nI 287 from rfl, nI_add, Nat.mul_comm]
  unfold M_X8_kind
  rw [hh, if_neg (by decide), ek, a1]
  exact ⟨h1, rfl, a2⟩
theorem m_kindsBy {n k : Nat} {S : ST} {h : AH} (ho : okST S) (hm : MT h S) (hk : k < (entS 0 S.1.1).length) (hn : 600 < n) : ∃ h', M_X9_kindsBy n (nI k) h = some (q_kin S k, h') ∧ ME h' S := by
  have h8 := e8f ho
  obtain ⟨f, hfe⟩ : ∃ f : Nat → Bool, f = (fun i => sok S (altP S (287 + 3 * k + i))) := ⟨_, rfl⟩
  unfold M_X9_kindsBy q_kin
  rw [← hfe]
  obtain ⟨h1, a1, a2⟩ := m_asT (n := n) ho hm hn
  have ek : h1.2.1 79 k = nI ((entS 0 S.1.1).getD k (0, 0, 0)).2.1 := (a2.2.1.2 k _ (getK hk)).2.1
  rw [a1, vS, am_inK (show k < 9 by omega) (by omega), nK (by omega), ek]
  simp only [cond_true]
  obtain ⟨kk, hkk⟩ : ∃ q, q = ((entS 0 S.1.1).getD k (0, 0, 0)).2.1 := ⟨_, rfl⟩
  rw [← hkk]
  have a2' : TB h1 S (setK (entS 0 S.1.1) k kk) (entS 1 S.1.2) S.2.1.1 0 := by rw [hkk, setK_self hk]; exact a2
  obtain ⟨m', h2, e1, ⟨u, e2⟩⟩ := loopH (L := fun m (q : Int32 × Int32) h => L_X9_kindsBy_16 n m (nI k) (nI kk) q.1 q.2 h) (f := fun v => (nI (bN f v), nI v)) (I := fun v h => ∃ u, TB h S (setK (entS 0 S.1.1) k u) (entS 1 S.1.2) S.2.1.1 0) (N := 3) (by
    intro m v h hv hI
    obtain ⟨u, i1⟩ := hI
    have hp := altP_ok (t := 287 + 3 * k + v) ho (by omega)
    rw [altK (by omega) hv] at hp
    obtain ⟨h2, b1, b2, -, -⟩ := m_seenS (n := n) ho (i1.k (v := v)) skM_f hp hn
    rw [← altK (by omega) hv] at b1
    have b1 : M_X9_isSeen n (am_sa h 79 (upd (h.2.1 79) k (nI v))) = some (bI (f v), h2) := by rw [hfe]; exact b1
    show ∃ h', L_X9_kindsBy_16 n (m + 1) (nI k) (nI kk) (nI (bN f v)) (nI v) h = L_X9_kindsBy_16 n m (nI k) (nI kk) (nI (bN f (v + 1))) (nI (v + 1)) h' ∧ _
    rw [L_X9_kindsBy_16, show (3 : Int32) = nI 3 from rfl, if_neg (nI_ge (by omega) (by omega)), am_inK (show k < 9 by omega) (by omega), nK (by omega), b1]
    simp only [cond_true]
    rw [bS]
    unfold B_X9_kindsBy_46
    rw [nI_1, nI_bit (by omega)]
    refine ⟨h2, ?_, v, b2⟩
    cases hfk : f v
    · rw [if_pos (by decide), or0, bacc0 hfk]
    · rw [if_neg (by decide), bacc1 (by omega) hfk]) 3 0 n h1 (by omega) (by omega) ⟨_, a2'⟩
  have e1 : L_X9_kindsBy_16 n n (nI k) (nI kk) 0 0 h1 = L_X9_kindsBy_16 n (m' + 1) (nI k) (nI kk) (nI (bN f 3)) (nI 3) h2 := e1
  rw [e1, L_X9_kindsBy_16, if_pos (by decide), am_inK (show k < 9 by omega) (by omega), nK (by omega)]
  have e4 := e2.k (v := kk)
  rw [hkk, setK_self hk, ← hkk] at e4
  exact ⟨am_sa h2 79 (upd (h2.2.1 79) k (nI kk)), rfl, e4.me⟩
theorem two_kind {n : Nat} (hn : 600 < n) (a : Int32) : two (M_X8_kind n a) (M_X9_kind n a) := by
  intro S ho
  rcases hasA (e8f ho) a with ⟨k, hk, rfl, v1, v2⟩ | ⟨v1, v2⟩
  · refine ⟨q_kin S k, S, fun h hc => c_kind hc hk (v1 h 2 hc.2.1.1.2.1) hn, fun h hm => ?_⟩
    obtain ⟨h1, a1, a2⟩ := m_isPiece (n := n) (nI k) ho hm hn
    obtain ⟨h2, b1, b2⟩ := m_kindsBy (n := n) ho a2.1 hk hn
    unfold M_X9_kind
    rw [a1, bS, v2, if_neg (by decide), b1]
    exact ⟨h2, rfl, b2.1⟩
  · refine ⟨-2, S, fun h hc => ?_, fun h hm => ?_⟩
    · unfold M_X8_kind
      rw [if_pos (v1 h 2 hc.2.1.1.2.1)]
      exact ⟨h, rfl, hc⟩
    · obtain ⟨h1, a1, a2⟩ := m_isPiece (n := n) a ho hm hn
      unfold M_X9_kind
      rw [a1, bS, v2, if_pos rfl]
      exact ⟨h1, rfl, a2.1⟩
