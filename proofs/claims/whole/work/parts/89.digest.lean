/-! digest -/
def jI (a : Int64) (v : Int32) : Int64 := 31 * a + Int32.toInt64 v
def jL (a v : Int64) : Int64 := 31 * a + v
theorem jI_c (a : Int64) (v : Int32) : M_X8_joined a (Int32.toInt64 v) = jI a v := rfl
theorem jL_c (a v : Int64) : M_X8_joined a v = jL a v := rfl
theorem jI_r (a : Int64) (v : Int32) : 31 * a + Int32.toInt64 v = jI a v := rfl
theorem jL_r (a v : Int64) : 31 * a + v = jL a v := rfl
def d0 (S : ST) : Nat → Int64
  | 0 => 17
  | k + 1 => jI (d0 S k) (q_cnt S k)
def d1 (S : ST) : Int64 := jI (jI (d0 S 8) (svI (fltS 0 S.1.1))) (svI (fltS 1 S.1.2))
def dmt (P : PL) (x : Int64) (t : Nat) : Nat → Int64
  | 0 => x
  | w + 1 => jI (dmt P x t w) (q_at P t w)
def d2 (P : PL) (x : Int64) : Nat → Int64
  | 0 => x
  | t + 1 => jI (dmt P (d2 P x t) t 6) (q_line P t)
def dpp (l : List T3) (x : Int64) (k : Nat) : Nat → Int64
  | 0 => x
  | w + 1 => jI (dpp l x k w) (qp l k w)
def dpk (S : ST) (x : Int64) (k : Nat) : Int64 := jI (jI (jI (dpp (entS 0 S.1.1) x k 3) (q_bet S k 0)) (q_bet S k 1)) (q_kin S k)
def d3 (S : ST) (x : Int64) : Nat → Int64
  | 0 => x
  | k + 1 => dpk S (d3 S x k) k
def dst (P : PL) (x : Int64) (t k : Nat) : Int64 := jI (jI x (q_is P t k 0)) (q_is P t k 1)
def dgk (S : ST) (x : Int64) (k : Nat) : Int64 := jL (jL (jI (jI (jI (dst (toldP S) (dst (toldP S) (dst (toldP S) (dpp (entS 1 S.1.2) x k 3) 4 k) 11 k) 23 k) (q_wai (toldP S) k)) (q_com S k 0)) (q_com S k 1)) (q_cha S 5 k 0)) (q_cha S 5 k 1)
def d4 (S : ST) (x : Int64) : Nat → Int64
  | 0 => x
  | k + 1 => dgk S (d4 S x k) k
def d5 (P : PL) (x : Int64) : Nat → Int64
  | 0 => x
  | w + 1 => jI (d5 P x w) (q_sum P w)
def d6 (S : ST) (x : Int64) : Int64 := jI (jI (jI (jI (jI (jI (jI (jI (jI (jI (jI (jI (jI x (q_first (toldP S))) (q_hot (toldP S) 0)) (q_hot (toldP S) 1)) (q_thi (toldP S))) (q_fill S 0)) (q_fill S 1)) (q_spa S 0)) (q_spa S 1)) (q_nev S)) (q_wat S)) (q_ask S)) (q_eve S 7 6 0)) (q_eve S 7 6 1)
def q_dig (S : ST) : Int64 := d6 S (d5 (toldP S) (d4 S (d3 S (d2 (toldP S) (d1 S) 24) (entS 0 S.1.1).length) (entS 1 S.1.2).length) 5)
theorem hasK {h : AH} {r k : Nat} {l : List T3} (hl : l.length ≤ 8) (he : entR h r l) (hk : k < l.length) : M_X1_has r (nI k) h = 1 := by
  unfold M_X1_has
  rw [if_neg (nI_pos (by omega)), he.1, if_neg (nI_ge hk (by omega)), show (8 : Int32) = nI 8 from rfl, if_neg (nI_ge (by omega) (by omega))]
/-! the class's -/
theorem c_min15 {n t : Nat} {S : ST} {h : AH} {x : Int64} {k5 : Int64 → Int32 → AH → Option (Int64 × AH)} (hc : CR h S) (ht : t < 24) (hn : 600 < n) : ∃ h', L_X8_withMinutes_15 n k5 n x (nI t) 0 h = k5 (jI (dmt (toldP S) x t 6) (q_line (toldP S) t)) (nI (t + 1)) h' ∧ CR h' S := by
  obtain ⟨m', h1, e1, e2⟩ := loopH (L := fun m (q : Int64 × Int32) h => L_X8_withMinutes_15 n k5 m q.1 (nI t) q.2 h) (f := fun w => (dmt (toldP S) x t w, nI w)) (I := fun _ h => CR h S) (N := 6) (by
    intro m w h hw hI
    show ∃ h', L_X8_withMinutes_15 n k5 (m + 1) (dmt (toldP S) x t w) (nI t) (nI w) h = L_X8_withMinutes_15 n k5 m (dmt (toldP S) x t (w + 1)) (nI t) (nI (w + 1)) h' ∧ CR h' S
    obtain ⟨h1, a1, a2⟩ := c_at (n := n) (t := t) (w := w) hI ht hw hn
    rw [L_X8_withMinutes_15, show (5 : Int32) = nI 5 from rfl, if_neg (nI_nlt (by omega) (by omega)), a1, bS, nI_1, jI_c]
    exact ⟨h1, rfl, a2⟩) 6 0 n h (by omega) (by omega) hc
  have e1 : L_X8_withMinutes_15 n k5 n x (nI t) 0 h = L_X8_withMinutes_15 n k5 (m' + 1) (dmt (toldP S) x t 6) (nI t) (nI 6) h1 := e1
  obtain ⟨h2, b1, b2⟩ := c_line (n := n) (t := t) e2 ht hn
  rw [e1, L_X8_withMinutes_15, if_pos (by decide), b1, bS, nI_1, jI_c]
  exact ⟨h2, rfl, b2⟩
theorem c_mins {n : Nat} {S : ST} {h : AH} {x : Int64} (hc : CR h S) (hn : 600 < n) : ∃ h', M_X8_withMinutes n x h = some (d2 (toldP S) x 24, h') ∧ CR h' S := by
  unfold M_X8_withMinutes
  obtain ⟨m', h1, e1, e2⟩ := loopH (L := fun m (q : Int64 × Int32) h => L_X8_withMinutes_5 n m q.1 q.2 h) (f := fun t => (d2 (toldP S) x t, nI t)) (I := fun _ h => CR h S) (N := 24) (by
    intro m t h ht hI
    show ∃ h', L_X8_withMinutes_5 n (m + 1) (d2 (toldP S) x t) (nI t) h = L_X8_withMinutes_5 n m (d2 (toldP S) x (t + 1)) (nI (t + 1)) h' ∧ CR h' S
    obtain ⟨h1, a1, a2⟩ := c_min15 (n := n) (t := t) (x := d2 (toldP S) x t) (k5 := L_X8_withMinutes_5 n m) hI ht hn
    rw [L_X8_withMinutes_5, show (24 : Int32) = nI 24 from rfl, if_neg (nI_ge ht (by omega)), a1]
    exact ⟨h1, rfl, a2⟩) 24 0 n h (by omega) (by omega) hc
  have e1 : L_X8_withMinutes_5 n n x 0 h = L_X8_withMinutes_5 n (m' + 1) (d2 (toldP S) x 24) (nI 24) h1 := e1
  rw [e1, L_X8_withMinutes_5, if_pos (by decide)]
  exact ⟨h1, rfl, e2⟩
theorem c_wPiece {n k : Nat} {S : ST} {h : AH} {x : Int64} (hc : CR h S) (hk : k < (entS 0 S.1.1).length) (hn : 600 < n) : ∃ h', M_X8_withPiece n x (nI k) h = some (dpk S x k, h') ∧ CR h' S := by
  have h8 := e8f hc.1
  have hs := hasK h8 hc.2.1.1.2.1 hk
  unfold M_X8_withPiece dpk
  obtain ⟨m', e1⟩ := loopP (L := fun m (q : Int64 × Int32) => L_X8_withPiece_6 n m (nI k) q.1 q.2 h) (f := fun w => (dpp (entS 0 S.1.1) x k w, nI w)) (N := 3) (by
    intro m w hw
    show L_X8_withPiece_6 n (m + 1) (nI k) (dpp (entS 0 S.1.1) x k w) (nI w) h = L_X8_withPiece_6 n m (nI k) (dpp (entS 0 S.1.1) x k (w + 1)) (nI (w + 1)) h
    have ep : M_X8_piece (nI k) (nI w) h = some (qp (entS 0 S.1.1) k w) := by
      unfold M_X8_piece
      rw [c_part h8 hc.2.1.1.2.1 hk hw hs]
      rfl
    rw [L_X8_withPiece_6, show (2 : Int32) = nI 2 from rfl, if_neg (nI_nlt (by omega) (by omega)), ep, oS, nI_1, jI_c]
    rfl) 3 0 n (by omega) (by omega)
  have e1 : L_X8_withPiece_6 n n (nI k) x 0 h = L_X8_withPiece_6 n (m' + 1) (nI k) (dpp (entS 0 S.1.1) x k 3) (nI 3) h := e1
  obtain ⟨h1, a1, a2⟩ := c_better (n := n) (w := 0) hc hk hs (by omega) hn
  have a1 : M_X8_better n (nI k) 0 h = _ := a1
  obtain ⟨h2, b1, b2⟩ := c_better (n := n) (w := 1) a2 hk (hasK h8 a2.2.1.1.2.1 hk) (by omega) hn
  have b1 : M_X8_better n (nI k) 1 h1 = _ := b1
  obtain ⟨h3, g1, g2⟩ := c_kind (n := n) b2 hk (hasK h8 b2.2.1.1.2.1 hk) hn
  rw [e1, L_X8_withPiece_6, if_pos (by decide), a1, bS, b1, bS, g1, bS, jI_c, jI_c, jI_c]
  exact ⟨h3, rfl, g2⟩
theorem c_stay {n t k : Nat} {S : ST} {h : AH} {x : Int64} (hc : CR h S) (ht : t < 24) (hk : k < (entS 1 S.1.2).length) (hn : 600 < n) : ∃ h', M_X8_withStay n x (nI t) (nI k) h = some (dst (toldP S) x t k, h') ∧ CR h' S := by
  have h8 := e8g hc.1
  obtain ⟨h1, a1, a2⟩ := c_is (n := n) (w := 0) hc ht hk (hasK h8 hc.2.1.2.1.2.1 hk) (by omega) hn
  have a1 : M_X8_is n (nI t) (nI k) 0 h = _ := a1
  obtain ⟨h2, b1, b2⟩ := c_is (n := n) (w := 1) a2 ht hk (hasK h8 a2.2.1.2.1.2.1 hk) (by omega) hn
  have b1 : M_X8_is n (nI t) (nI k) 1 h1 = _ := b1
  unfold M_X8_withStay dst
  rw [a1, bS, b1, bS, jI_c, jI_c]
  exact ⟨h2, rfl, b2⟩
theorem c_wGuest {n k : Nat} {S : ST} {h : AH} {x : Int64} (hc : CR h S) (hk : k < (entS 1 S.1.2).length) (hn : 600 < n) : ∃ h', M_X8_withGuest n x (nI k) h = some (dgk S x k, h') ∧ CR h' S := by
  have h8 := e8g hc.1
  have hs := hasK h8 hc.2.1.2.1.2.1 hk
  unfold M_X8_withGuest dgk
  obtain ⟨m', e1⟩ := loopP (L := fun m (q : Int64 × Int32) => L_X8_withGuest_6 n m (nI k) q.1 q.2 h) (f := fun w => (dpp (entS 1 S.1.2) x k w, nI w)) (N := 3) (by
    intro m w hw
    show L_X8_withGuest_6 n (m + 1) (nI k) (dpp (entS 1 S.1.2) x k w) (nI w) h = L_X8_withGuest_6 n m (nI k) (dpp (entS 1 S.1.2) x k (w + 1)) (nI (w + 1)) h
    have ep : M_X8_guest (nI k) (nI w) h = some (qp (entS 1 S.1.2) k w) := by
      unfold M_X8_guest
      rw [c_part h8 hc.2.1.2.1.2.1 hk hw hs]
      rfl
    rw [L_X8_withGuest_6, show (2 : Int32) = nI 2 from rfl, if_neg (nI_nlt (by omega) (by omega)), ep, oS, nI_1, jI_c]
    rfl) 3 0 n (by omega) (by omega)
  have e1 : L_X8_withGuest_6 n n (nI k) x 0 h = L_X8_withGuest_6 n (m' + 1) (nI k) (dpp (entS 1 S.1.2) x k 3) (nI 3) h := e1
  obtain ⟨h1, a1, a2⟩ := c_stay (n := n) (t := 4) (x := dpp (entS 1 S.1.2) x k 3) hc (by omega) hk hn
  have a1 : M_X8_withStay n (dpp (entS 1 S.1.2) x k 3) 4 (nI k) h = _ := a1
  obtain ⟨h2, b1, b2⟩ := c_stay (n := n) (t := 11) (x := dst (toldP S) (dpp (entS 1 S.1.2) x k 3) 4 k) a2 (by omega) hk hn
  have b1 : M_X8_withStay n (dst (toldP S) (dpp (entS 1 S.1.2) x k 3) 4 k) 11 (nI k) h1 = _ := b1
  obtain ⟨h3, g1, g2⟩ := c_stay (n := n) (t := 23) (x := dst (toldP S) (dst (toldP S) (dpp (entS 1 S.1.2) x k 3) 4 k) 11 k) b2 (by omega) hk hn
  have g1 : M_X8_withStay n (dst (toldP S) (dst (toldP S) (dpp (entS 1 S.1.2) x k 3) 4 k) 11 k) 23 (nI k) h2 = _ := g1
  obtain ⟨h4, i1, i2⟩ := c_waited (n := n) g2 hk (hasK h8 g2.2.1.2.1.2.1 hk) hn
  obtain ⟨h5, j1, j2⟩ := c_come (n := n) (w := 0) i2 hk (hasK h8 i2.2.1.2.1.2.1 hk) (by omega) hn
  have j1 : M_X8_come n (nI k) 0 h4 = _ := j1
  obtain ⟨h6, k1, k2⟩ := c_come (n := n) (w := 1) j2 hk (hasK h8 j2.2.1.2.1.2.1 hk) (by omega) hn
  have k1 : M_X8_come n (nI k) 1 h5 = _ := k1
  obtain ⟨h7, l1, l2⟩ := c_chance (n := n) (c := 5) (w := 0) k2 (by omega) hk (hasK h8 k2.2.1.2.1.2.1 hk) (by omega) hn
  have l1 : M_X8_chance n 5 (nI k) 0 h6 = _ := l1
  obtain ⟨h9, o1, o2⟩ := c_chance (n := n) (c := 5) (w := 1) l2 (by omega) hk (hasK h8 l2.2.1.2.1.2.1 hk) (by omega) hn
  have o1 : M_X8_chance n 5 (nI k) 1 h7 = _ := o1
  rw [e1, L_X8_withGuest_6, if_pos (by decide), a1, bS, b1, bS, g1, bS, i1, bS, j1, bS, k1, bS, l1, bS, o1, bS, jI_c, jI_c, jI_c, jL_c, jL_c]
  exact ⟨h9, rfl, o2⟩
theorem c_d129 {n : Nat} {S : ST} {h : AH} {x : Int64} (hc : CR h S) (hn : 600 < n) : ∃ h', L_X8_digest_129 n n x 0 h = some (d6 S (d5 (toldP S) x 5), h') ∧ CR h' S := by
  obtain ⟨m', h0, e1, e2⟩ := loopH (L := fun m (q : Int64 × Int32) h => L_X8_digest_129 n m q.1 q.2 h) (f := fun w => (d5 (toldP S) x w, nI w)) (I := fun _ h => CR h S) (N := 5) (by
    intro m w h hw hI
    show ∃ h', L_X8_digest_129 n (m + 1) (d5 (toldP S) x w) (nI w) h = L_X8_digest_129 n m (d5 (toldP S) x (w + 1)) (nI (w + 1)) h' ∧ CR h' S
    obtain ⟨h1, a1, a2⟩ := c_sum (n := n) (w := w) hI hw hn
    rw [L_X8_digest_129, show (4 : Int32) = nI 4 from rfl, if_neg (nI_nlt (by omega) (by omega)), a1, bS, nI_1, jI_c]
    exact ⟨h1, rfl, a2⟩) 5 0 n h (by omega) (by omega) hc
  have e1 : L_X8_digest_129 n n x 0 h = L_X8_digest_129 n (m' + 1) (d5 (toldP S) x 5) (nI 5) h0 := e1
  obtain ⟨h1, a1, a2⟩ := c_first (n := n) e2 hn
  obtain ⟨h2, b1, b2⟩ := c_hottest (n := n) (w := 0) a2 (by omega) hn
  have b1 : M_X8_hottest n 0 h1 = _ := b1
  obtain ⟨h3, g1, g2⟩ := c_hottest (n := n) (w := 1) b2 (by omega) hn
  have g1 : M_X8_hottest n 1 h2 = _ := g1
  obtain ⟨h4, i1, i2⟩ := c_thirst (n := n) g2 hn
  obtain ⟨h5, j1, j2⟩ := c_fillS (n := n) (w := 0) i2 (by omega) hn
  have j1 : M_X8_fill n 0 h4 = _ := j1
  obtain ⟨h6, k1, k2⟩ := c_fillS (n := n) (w := 1) j2 (by omega) hn
  have k1 : M_X8_fill n 1 h5 = _ := k1
  obtain ⟨h7, l1, l2⟩ := (c_spare (n := n) k2 hn).1
  obtain ⟨h9, o1, o2⟩ := (c_spare (n := n) l2 hn).2.1
  obtain ⟨h10, p1, p2⟩ := c_never (n := n) o2 hn
  obtain ⟨h11, q1, q2⟩ := c_waters (n := n) p2 hn
  obtain ⟨h12, r1, r2⟩ := c_ask (n := n) q2 hn
  obtain ⟨h13, s1, s2⟩ := c_eve (n := n) (c := 6) (w := 0) 7 r2 (by omega) (by omega) hn
  have s1 : M_X8_evenings n 7 6 0 h12 = _ := s1
  obtain ⟨h14, t1, t2⟩ := c_eve (n := n) (c := 6) (w := 1) 7 s2 (by omega) (by omega) hn
  have t1 : M_X8_evenings n 7 6 1 h13 = _ := t1
  rw [e1, L_X8_digest_129, if_pos (by decide), a1, bS, b1, bS, g1, bS, i1, bS, j1, bS, k1, bS, l1, bS, o1, bS, p1, bS, q1, bS, r1, bS, s1, bS, t1, bS, jI_c, jI_c, jI_c, jI_c, jI_c, jI_c, jI_c, jI_c, jI_c, jI_c, jI_c, jI_c, jI_c]
  exact ⟨h14, rfl, t2⟩
theorem c_digest {n : Nat} {S : ST} {h : AH} (hc : CR h S) (hn : 600 < n) : ∃ h', M_X8_digest n h = some (q_dig S, h') ∧ CR h' S := by
  have h8 := e8f hc.1
  have g8 := e8g hc.1
  unfold M_X8_digest q_dig
  obtain ⟨m1, h1, a1, a2⟩ := loopH (L := fun m (q : Int64 × Int32) h => L_X8_digest_6 n m q.1 q.2 h) (f := fun w => (d0 S w, nI w)) (I := fun _ h => CR h S) (N := 8) (by
    intro m w h hw hI
    show ∃ h', L_X8_digest_6 n (m + 1) (d0 S w) (nI w) h = L_X8_digest_6 n m (d0 S (w + 1)) (nI (w + 1)) h' ∧ CR h' S
    obtain ⟨h1, a1, a2⟩ := c_count (n := n) (w := w) hI (by omega) hn
    rw [L_X8_digest_6, show (7 : Int32) = nI 7 from rfl, if_neg (nI_nlt (by omega) (by omega)), a1, bS, nI_1, jI_c]
    exact ⟨h1, rfl, a2⟩) 8 0 n h (by omega) (by omega) hc
  have a1 : L_X8_digest_6 n n 17 0 h = L_X8_digest_6 n (m1 + 1) (d0 S 8) (nI 8) h1 := a1
  have f0 : M_X8_fault 0 h1 = svI (fltS 0 S.1.1) := a2.2.1.1.2.2
  have f1 : M_X8_fault 1 h1 = svI (fltS 1 S.1.2) := a2.2.1.2.1.2.2
  obtain ⟨h2, b1, b2⟩ := c_mins (n := n) (x := d1 S) a2 hn
  rw [a1, L_X8_digest_6, if_pos (by decide), f0, f1, jI_c, jI_c]
  have b1 : M_X8_withMinutes n (jI (jI (d0 S 8) (svI (fltS 0 S.1.1))) (svI (fltS 1 S.1.2))) h1 = some (d2 (toldP S) (d1 S) 24, h2) := b1
  rw [b1, bS]
  obtain ⟨x, hx⟩ : ∃ x, x = d2 (toldP S) (d1 S) 24 := ⟨_, rfl⟩
  rw [← hx]
  obtain ⟨m3, h3, g1, g2⟩ := loopH (L := fun m (q : Int64 × Int32) h => L_X8_digest_59 n m q.1 q.2 h) (f := fun k => (d3 S x k, nI k)) (I := fun _ h => CR h S) (N := (entS 0 S.1.1).length) (by
    intro m k h hk hI
    show ∃ h', L_X8_digest_59 n (m + 1) (d3 S x k) (nI k) h = L_X8_digest_59 n m (d3 S x (k + 1)) (nI (k + 1)) h' ∧ CR h' S
    obtain ⟨h1, a1, a2⟩ := c_wPiece (n := n) (k := k) (x := d3 S x k) hI hk hn
    rw [L_X8_digest_59, show (8 : Int32) = nI 8 from rfl, if_neg (nI_ge (by omega) (by omega)), hI.2.1.1.2.1.1, if_neg (nI_ge hk (by omega)), a1, bS, nI_1]
    exact ⟨h1, rfl, a2⟩) (entS 0 S.1.1).length 0 n h2 (by omega) (by omega) b2
  have g1 : L_X8_digest_59 n n x 0 h2 = L_X8_digest_59 n (m3 + 1) (d3 S x (entS 0 S.1.1).length) (nI (entS 0 S.1.1).length) h3 := g1
  have g3 : L_X8_digest_59 n (m3 + 1) (d3 S x (entS 0 S.1.1).length) (nI (entS 0 S.1.1).length) h3 = L_X8_digest_94 n n (d3 S x (entS 0 S.1.1).length) 0 h3 := by
    rw [L_X8_digest_59, g2.2.1.1.2.1.1]
    split
    · rfl
    · rw [if_pos (nI_le (Nat.le_refl _) (by omega))]
  rw [g1, g3]
  obtain ⟨y, hy⟩ : ∃ y, y = d3 S x (entS 0 S.1.1).length := ⟨_, rfl⟩
  rw [← hy]
  obtain ⟨m4, h4, i1, i2⟩ := loopH (L := fun m (q : Int64 × Int32) h => L_X8_digest_94 n m q.1 q.2 h) (f := fun k => (d4 S y k, nI k)) (I := fun _ h => CR h S) (N := (entS 1 S.1.2).length) (by
    intro m k h hk hI
    show ∃ h', L_X8_digest_94 n (m + 1) (d4 S y k) (nI k) h = L_X8_digest_94 n m (d4 S y (k + 1)) (nI (k + 1)) h' ∧ CR h' S
    obtain ⟨h1, a1, a2⟩ := c_wGuest (n := n) (k := k) (x := d4 S y k) hI hk hn
    rw [L_X8_digest_94, show (8 : Int32) = nI 8 from rfl, if_neg (nI_ge (by omega) (by omega)), hI.2.1.2.1.2.1.1, if_neg (nI_ge hk (by omega)), a1, bS, nI_1]
    exact ⟨h1, rfl, a2⟩) (entS 1 S.1.2).length 0 n h3 (by omega) (by omega) g2
  have i1 : L_X8_digest_94 n n y 0 h3 = L_X8_digest_94 n (m4 + 1) (d4 S y (entS 1 S.1.2).length) (nI (entS 1 S.1.2).length) h4 := i1
  have i3 : L_X8_digest_94 n (m4 + 1) (d4 S y (entS 1 S.1.2).length) (nI (entS 1 S.1.2).length) h4 = L_X8_digest_129 n n (d4 S y (entS 1 S.1.2).length) 0 h4 := by
    rw [L_X8_digest_94, i2.2.1.2.1.2.1.1]
    split
    · rfl
    · rw [if_pos (nI_le (Nat.le_refl _) (by omega))]
  rw [i1, i3]
  exact c_d129 i2 hn
