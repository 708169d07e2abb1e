/-! the reference's digest -/
theorem m_min68 {n t : Nat} {S : ST} {h : AH} {x : Int64} {k59 : Int64 → Int32 → AH → Option (Int64 × AH)} (ho : okST S) (hm : ME h S) (ht : t < 24) (hn : 600 < n) : ∃ h', L_X9_digest_68 n k59 n x (nI t) 0 h = k59 (jI (dmt (toldP S) x t 6) (q_line (toldP S) t)) (nI (t + 1)) h' ∧ ME h' S := by
  obtain ⟨m', h1, e1, e2⟩ := loopH (L := fun m (q : Int64 × Int32) h => L_X9_digest_68 n k59 m q.1 (nI t) q.2 h) (f := fun w => (dmt (toldP S) x t w, nI w)) (I := fun _ h => ME h S) (N := 6) (by
    intro m w h hw hI
    show ∃ h', L_X9_digest_68 n k59 (m + 1) (dmt (toldP S) x t w) (nI t) (nI w) h = L_X9_digest_68 n k59 m (dmt (toldP S) x t (w + 1)) (nI t) (nI (w + 1)) h' ∧ ME h' S
    obtain ⟨h1, a1, a2⟩ := m_atOf (n := n) (t := t) (w := w) ho hI.1 ht hw hn
    rw [L_X9_digest_68, show (6 : Int32) = nI 6 from rfl, if_neg (nI_ge hw (by omega)), a1, bS, nI_1, jI_r]
    exact ⟨h1, rfl, a2⟩) 6 0 n h (by omega) (by omega) hm
  have e1 : L_X9_digest_68 n k59 n x (nI t) 0 h = L_X9_digest_68 n k59 (m' + 1) (dmt (toldP S) x t 6) (nI t) (nI 6) h1 := e1
  obtain ⟨h2, b1, b2⟩ := m_lineOf (n := n) (t := t) ho e2.1 ht hn
  rw [e1, L_X9_digest_68, if_pos (by decide), b1, bS, nI_1, jI_r]
  exact ⟨h2, rfl, b2⟩
theorem m_wPiece {n k : Nat} {S : ST} {h : AH} {x : Int64} (ho : okST S) (hm : ME h S) (hk : k < (entS 0 S.1.1).length) (hn : 600 < n) : ∃ h', M_X9_pieceDigest n x (nI k) h = some (dpk S x k, h') ∧ ME h' S := by
  have h8 := e8f ho
  unfold M_X9_pieceDigest dpk
  obtain ⟨m', e1⟩ := loopP (L := fun m (q : Int64 × Int32) => L_X9_pieceDigest_6 n m (nI k) q.1 q.2 h) (f := fun w => (dpp (entS 0 S.1.1) x k w, nI w)) (N := 3) (by
    intro m w hw
    show L_X9_pieceDigest_6 n (m + 1) (nI k) (dpp (entS 0 S.1.1) x k w) (nI w) h = L_X9_pieceDigest_6 n m (nI k) (dpp (entS 0 S.1.1) x k (w + 1)) (nI (w + 1)) h
    rw [L_X9_pieceDigest_6, show (3 : Int32) = nI 3 from rfl, if_neg (nI_ge hw (by omega)), m_pieceOf h8 hm.2.1 hk hw, oS, nI_1, jI_r]
    rfl) 3 0 n (by omega) (by omega)
  have e1 : L_X9_pieceDigest_6 n n (nI k) x 0 h = L_X9_pieceDigest_6 n (m' + 1) (nI k) (dpp (entS 0 S.1.1) x k 3) (nI 3) h := e1
  obtain ⟨h1, a1, a2⟩ := m_betterOf (n := n) (w := 0) ho hm.1 hk (by omega) hn
  have a1 : M_X9_betterOf n (nI k) 0 h = _ := a1
  obtain ⟨h2, b1, b2⟩ := m_betterOf (n := n) (w := 1) ho a2.1 hk (by omega) hn
  have b1 : M_X9_betterOf n (nI k) 1 h1 = _ := b1
  obtain ⟨h3, g1, g2⟩ := m_kindsBy (n := n) ho b2.1 hk hn
  rw [e1, L_X9_pieceDigest_6, if_pos (by decide), a1, bS, b1, bS, g1, bS, jI_r, jI_r, jI_r]
  exact ⟨h3, rfl, g2⟩
theorem m_stay {n t k : Nat} {S : ST} {h : AH} {x : Int64} (ho : okST S) (hm : MT h S) (ht : t < 24) (hk : k < (entS 1 S.1.2).length) (hn : 600 < n) : ∃ h', M_X9_isDigest n x (nI t) (nI k) h = some (dst (toldP S) x t k, h') ∧ ME h' S := by
  obtain ⟨h1, a1, a2⟩ := m_isOf (n := n) (w := 0) ho hm ht hk (by omega) hn
  have a1 : M_X9_isOf n (nI t) (nI k) 0 h = _ := a1
  obtain ⟨h2, b1, b2⟩ := m_isOf (n := n) (w := 1) ho a2.1 ht hk (by omega) hn
  have b1 : M_X9_isOf n (nI t) (nI k) 1 h1 = _ := b1
  unfold M_X9_isDigest dst
  rw [a1, bS, b1, bS, jI_r, jI_r]
  exact ⟨h2, rfl, b2⟩
theorem m_wGuest {n k : Nat} {S : ST} {h : AH} {x : Int64} (ho : okST S) (hm : ME h S) (hk : k < (entS 1 S.1.2).length) (hn : 600 < n) : ∃ h', M_X9_guestDigest n x (nI k) h = some (dgk S x k, h') ∧ ME h' S := by
  have h8 := e8g ho
  unfold M_X9_guestDigest dgk
  obtain ⟨m', e1⟩ := loopP (L := fun m (q : Int64 × Int32) => L_X9_guestDigest_6 n m (nI k) q.1 q.2 h) (f := fun w => (dpp (entS 1 S.1.2) x k w, nI w)) (N := 3) (by
    intro m w hw
    show L_X9_guestDigest_6 n (m + 1) (nI k) (dpp (entS 1 S.1.2) x k w) (nI w) h = L_X9_guestDigest_6 n m (nI k) (dpp (entS 1 S.1.2) x k (w + 1)) (nI (w + 1)) h
    rw [L_X9_guestDigest_6, show (3 : Int32) = nI 3 from rfl, if_neg (nI_ge hw (by omega)), m_guestOf h8 hm.2.2 hk hw, oS, nI_1, jI_r]
    rfl) 3 0 n (by omega) (by omega)
  have e1 : L_X9_guestDigest_6 n n (nI k) x 0 h = L_X9_guestDigest_6 n (m' + 1) (nI k) (dpp (entS 1 S.1.2) x k 3) (nI 3) h := e1
  obtain ⟨h1, a1, a2⟩ := m_stay (n := n) (t := 4) (x := dpp (entS 1 S.1.2) x k 3) ho hm.1 (by omega) hk hn
  have a1 : M_X9_isDigest n (dpp (entS 1 S.1.2) x k 3) 4 (nI k) h = _ := a1
  obtain ⟨h2, b1, b2⟩ := m_stay (n := n) (t := 11) (x := dst (toldP S) (dpp (entS 1 S.1.2) x k 3) 4 k) ho a2.1 (by omega) hk hn
  have b1 : M_X9_isDigest n (dst (toldP S) (dpp (entS 1 S.1.2) x k 3) 4 k) 11 (nI k) h1 = _ := b1
  obtain ⟨h3, g1, g2⟩ := m_stay (n := n) (t := 23) (x := dst (toldP S) (dst (toldP S) (dpp (entS 1 S.1.2) x k 3) 4 k) 11 k) ho b2.1 (by omega) hk hn
  have g1 : M_X9_isDigest n (dst (toldP S) (dst (toldP S) (dpp (entS 1 S.1.2) x k 3) 4 k) 11 k) 23 (nI k) h2 = _ := g1
  obtain ⟨h4, i1, i2⟩ := m_waitedOf (n := n) ho g2.1 hk hn
  obtain ⟨h5, j1, j2⟩ := m_comeOf (n := n) (w := 0) ho i2.1 hk (by omega) hn
  have j1 : M_X9_comeOf n (nI k) 0 h4 = _ := j1
  obtain ⟨h6, k1, k2⟩ := m_comeOf (n := n) (w := 1) ho j2.1 hk (by omega) hn
  have k1 : M_X9_comeOf n (nI k) 1 h5 = _ := k1
  obtain ⟨h7, l1, l2⟩ := m_chanceOf (n := n) (c := 5) (w := 0) ho k2.1 (by omega) hk (by omega) hn
  have l1 : M_X9_chanceOf n 5 (nI k) 0 h6 = _ := l1
  obtain ⟨h9, o1, o2⟩ := m_chanceOf (n := n) (c := 5) (w := 1) ho l2.1 (by omega) hk (by omega) hn
  have o1 : M_X9_chanceOf n 5 (nI k) 1 h7 = _ := o1
  rw [e1, L_X9_guestDigest_6, if_pos (by decide), a1, bS, b1, bS, g1, bS, i1, bS, j1, bS, k1, bS, l1, bS, o1, bS, jI_r, jI_r, jI_r, jL_r, jL_r]
  exact ⟨h9, rfl, o2⟩
theorem m_d163 {n : Nat} {S : ST} {h : AH} {x : Int64} (ho : okST S) (hm : ME h S) (hn : 600 < n) : ∃ h', L_X9_digest_163 n n x 0 h = some (d6 S (d5 (toldP S) x 5), h') ∧ MT h' S := by
  obtain ⟨m', h0, e1, e2⟩ := loopH (L := fun m (q : Int64 × Int32) h => L_X9_digest_163 n m q.1 q.2 h) (f := fun w => (d5 (toldP S) x w, nI w)) (I := fun _ h => ME h S) (N := 5) (by
    intro m w h hw hI
    show ∃ h', L_X9_digest_163 n (m + 1) (d5 (toldP S) x w) (nI w) h = L_X9_digest_163 n m (d5 (toldP S) x (w + 1)) (nI (w + 1)) h' ∧ ME h' S
    obtain ⟨h1, a1, a2⟩ := m_sumOf (n := n) (w := w) ho hI.1 hw hn
    rw [L_X9_digest_163, show (5 : Int32) = nI 5 from rfl, if_neg (nI_ge hw (by omega)), a1, bS, nI_1, jI_r]
    exact ⟨h1, rfl, a2⟩) 5 0 n h (by omega) (by omega) hm
  have e1 : L_X9_digest_163 n n x 0 h = L_X9_digest_163 n (m' + 1) (d5 (toldP S) x 5) (nI 5) h0 := e1
  obtain ⟨h1, a1, a2⟩ := m_firstOf (n := n) ho e2.1 hn
  obtain ⟨h2, b1, b2⟩ := m_hottestOf (n := n) (w := 0) ho a2.1 (by omega) hn
  have b1 : M_X9_hottestOf n 0 h1 = _ := b1
  obtain ⟨h3, g1, g2⟩ := m_hottestOf (n := n) (w := 1) ho b2.1 (by omega) hn
  have g1 : M_X9_hottestOf n 1 h2 = _ := g1
  obtain ⟨h4, i1, i2⟩ := m_thirstOf (n := n) ho g2.1 hn
  obtain ⟨h5, j1, j2⟩ := m_fillOf (n := n) (w := 0) ho i2.1 (by omega) hn
  have j1 : M_X9_fillOf n 0 h4 = _ := j1
  obtain ⟨h6, k1, k2⟩ := m_fillOf (n := n) (w := 1) ho j2.1 (by omega) hn
  have k1 : M_X9_fillOf n 1 h5 = _ := k1
  obtain ⟨h7, l1, l2, l3⟩ := m_spareBy (n := n) ho k2.1 hn
  have l4 := m_ofRow ho l3
  have l5 : cnI (spB S) = q_spa S 0 := by
    have := l4.1
    unfold M_X9_ofRow at this
    rw [if_pos rfl] at this
    injection this
  have l6 := l4.2.1
  rw [l5] at l1 l6
  obtain ⟨h10, p1, p2⟩ := m_neverNow (n := n) ho l2.1 hn
  obtain ⟨h11, q1, q2, -⟩ := m_watersBy (n := n) ho p2.1 hn
  obtain ⟨h12, r1, r2⟩ := m_askOf (n := n) ho q2.1 hn
  obtain ⟨h13, s1, s2⟩ := m_eve (n := n) (c := 6) (w := 0) 7 ho r2.1 (by omega) (by omega) hn
  have s1 : M_X9_eveningsOf n 7 6 0 h12 = _ := s1
  obtain ⟨h14, t1, t2⟩ := m_eve (n := n) (c := 6) (w := 1) 7 ho s2.1 (by omega) (by omega) hn
  have t1 : M_X9_eveningsOf n 7 6 1 h13 = _ := t1
  rw [e1, L_X9_digest_163, if_pos (by decide), a1, bS, b1, bS, g1, bS, i1, bS, j1, bS, k1, bS, l1, bS, l6, oS, p1, bS, q1, bS, r1, bS, s1, bS, t1, bS, jI_r, jI_r, jI_r, jI_r, jI_r, jI_r, jI_r, jI_r, jI_r, jI_r, jI_r, jI_r, jI_r]
  exact ⟨h14, rfl, t2.1⟩
theorem m_digest {n : Nat} {S : ST} {h : AH} (ho : okST S) (hm : MT h S) (hn : 600 < n) : ∃ h', M_X9_digest n h = some (q_dig S, h') ∧ MT h' S := by
  have h8 := e8f ho
  have g8 := e8g ho
  unfold M_X9_digest q_dig
  obtain ⟨m1, h1, a1, a2⟩ := loopH (L := fun m (q : Int64 × Int32) h => L_X9_digest_6 n m q.1 q.2 h) (f := fun w => (d0 S w, nI w)) (I := fun _ h => MT h S) (N := 8) (by
    intro m w h hw hI
    show ∃ h', L_X9_digest_6 n (m + 1) (d0 S w) (nI w) h = L_X9_digest_6 n m (d0 S (w + 1)) (nI (w + 1)) h' ∧ MT h' S
    obtain ⟨h1, a1, a2⟩ := m_count (n := n) (w := w) ho hI (by omega) hn
    rw [L_X9_digest_6, show (8 : Int32) = nI 8 from rfl, if_neg (nI_ge hw (by omega)), a1, bS, nI_1, jI_r]
    exact ⟨h1, rfl, a2⟩) 8 0 n h (by omega) (by omega) hm
  have a1 : L_X9_digest_6 n n 17 0 h = L_X9_digest_6 n (m1 + 1) (d0 S 8) (nI 8) h1 := a1
  obtain ⟨h2, b1, b2⟩ := m_faultE (n := n) 0 ho a2 hn
  obtain ⟨h3, g1, g2⟩ := m_faultE (n := n) 1 ho b2.1 hn
  rw [if_pos rfl] at b1
  rw [if_neg (by decide)] at g1
  rw [a1, L_X9_digest_6, if_pos (by decide), b1, bS, g1, bS, jI_r, jI_r]
  obtain ⟨z, hz⟩ : ∃ z, z = d1 S := ⟨_, rfl⟩
  rw [show jI (jI (d0 S 8) (svI (fltS 0 S.1.1))) (svI (fltS 1 S.1.2)) = z by rw [hz]; rfl, ← hz]
  obtain ⟨m2, h4, i1, i2⟩ := loopH (L := fun m (q : Int64 × Int32) h => L_X9_digest_59 n m q.1 q.2 h) (f := fun t => (d2 (toldP S) z t, nI t)) (I := fun _ h => ME h S) (N := 24) (by
    intro m t h ht hI
    show ∃ h', L_X9_digest_59 n (m + 1) (d2 (toldP S) z t) (nI t) h = L_X9_digest_59 n m (d2 (toldP S) z (t + 1)) (nI (t + 1)) h' ∧ ME h' S
    obtain ⟨h1, a1, a2⟩ := m_min68 (n := n) (t := t) (x := d2 (toldP S) z t) (k59 := L_X9_digest_59 n m) ho hI ht hn
    rw [L_X9_digest_59, show (24 : Int32) = nI 24 from rfl, if_neg (nI_ge ht (by omega)), a1]
    exact ⟨h1, rfl, a2⟩) 24 0 n h3 (by omega) (by omega) g2
  have i1 : L_X9_digest_59 n n z 0 h3 = L_X9_digest_59 n (m2 + 1) (d2 (toldP S) z 24) (nI 24) h4 := i1
  rw [i1, L_X9_digest_59, if_pos (by decide)]
  obtain ⟨x, hx⟩ : ∃ x, x = d2 (toldP S) z 24 := ⟨_, rfl⟩
  rw [← hx]
  obtain ⟨m3, h5, j1, j2⟩ := loopH (L := fun m (q : Int64 × Int32) h => L_X9_digest_117 n m q.1 q.2 h) (f := fun k => (d3 S x k, nI k)) (I := fun _ h => ME h S) (N := (entS 0 S.1.1).length) (by
    intro m k h hk hI
    show ∃ h', L_X9_digest_117 n (m + 1) (d3 S x k) (nI k) h = L_X9_digest_117 n m (d3 S x (k + 1)) (nI (k + 1)) h' ∧ ME h' S
    obtain ⟨h1, a1, a2⟩ := m_wPiece (n := n) (k := k) (x := d3 S x k) ho hI hk hn
    rw [L_X9_digest_117, show h.1 75 2 = nI (entS 0 S.1.1).length from hI.2.1.1, if_neg (nI_ge hk (by omega)), a1, bS, nI_1]
    exact ⟨h1, rfl, a2⟩) (entS 0 S.1.1).length 0 n h4 (by omega) (by omega) i2
  have j1 : L_X9_digest_117 n n x 0 h4 = L_X9_digest_117 n (m3 + 1) (d3 S x (entS 0 S.1.1).length) (nI (entS 0 S.1.1).length) h5 := j1
  rw [j1, L_X9_digest_117, show h5.1 75 2 = nI (entS 0 S.1.1).length from j2.2.1.1, if_pos (nI_le (Nat.le_refl _) (by omega))]
  obtain ⟨y, hy⟩ : ∃ y, y = d3 S x (entS 0 S.1.1).length := ⟨_, rfl⟩
  rw [← hy]
  obtain ⟨m4, h6, k1, k2⟩ := loopH (L := fun m (q : Int64 × Int32) h => L_X9_digest_140 n m q.1 q.2 h) (f := fun k => (d4 S y k, nI k)) (I := fun _ h => ME h S) (N := (entS 1 S.1.2).length) (by
    intro m k h hk hI
    show ∃ h', L_X9_digest_140 n (m + 1) (d4 S y k) (nI k) h = L_X9_digest_140 n m (d4 S y (k + 1)) (nI (k + 1)) h' ∧ ME h' S
    obtain ⟨h1, a1, a2⟩ := m_wGuest (n := n) (k := k) (x := d4 S y k) ho hI hk hn
    rw [L_X9_digest_140, show h.1 75 6 = nI (entS 1 S.1.2).length from hI.2.2.1, if_neg (nI_ge hk (by omega)), a1, bS, nI_1]
    exact ⟨h1, rfl, a2⟩) (entS 1 S.1.2).length 0 n h5 (by omega) (by omega) j2
  have k1 : L_X9_digest_140 n n y 0 h5 = L_X9_digest_140 n (m4 + 1) (d4 S y (entS 1 S.1.2).length) (nI (entS 1 S.1.2).length) h6 := k1
  rw [k1, L_X9_digest_140, show h6.1 75 6 = nI (entS 1 S.1.2).length from k2.2.2.1, if_pos (nI_le (Nat.le_refl _) (by omega))]
  exact m_d163 ho k2 hn
theorem two_digest {n : Nat} (hn : 600 < n) : two (M_X8_digest n) (M_X9_digest n) := by
  intro S ho
  exact ⟨q_dig S, S, fun h hc => c_digest hc hn, fun h hm => m_digest ho hm hn⟩
