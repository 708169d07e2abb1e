/-! other evenings: what the reference holds while it tries them -/
def TB (h : AH) (S : ST) (fs gs : List T3) (w : Nat) (nv : Int32) : Prop := MT h S ∧ pcM h fs ∧ entM h 1 (entS 1 S.1.2) ∧ gsM h gs ∧ h.1 75 20 = nI w ∧ h.1 75 21 = nv
def fr_T (h h' : AH) : Prop := (∀ k, ¬ (22 ≤ k ∧ k ≤ 29) → ¬ k = 40 → ¬ k = 41 → h'.1 75 k = h.1 75 k) ∧ ∀ i, ¬ (90 ≤ i ∧ i ≤ 100) → ¬ i = 103 → h'.2.1 i = h.2.1 i
theorem fr_T.rf {h : AH} : fr_T h h := ⟨fun _ _ _ _ => rfl, fun _ _ _ => rfl⟩
theorem fr_T.tr {a b c : AH} (h1 : fr_T a b) (h2 : fr_T b c) : fr_T a c := ⟨fun k z y x => (h2.1 k z y x).trans (h1.1 k z y x), fun i z y => (h2.2 i z y).trans (h1.2 i z y)⟩
theorem fr_R.t {h h' : AH} (hf : fr_R h h') : fr_T h h' := ⟨fun k z _ _ => hf.1 _ _ (by omega), fun i z _ => hf.2.1 _ (by omega)⟩
theorem fr_T.s {h h' : AH} (hf : fr_T h h') : fr_S h h' := ⟨fun k z => hf.1 _ (by omega) (by omega) (by omega), fun i z => hf.2 _ (by omega) (by omega)⟩
theorem TB.fr {h h' : AH} {S : ST} {fs gs : List T3} {w : Nat} {nv : Int32} (ht : TB h S fs gs w nv) (hf : fr_T h h') : TB h' S fs gs w nv := by
  obtain ⟨a, b, c, d, e, f⟩ := ht
  refine ⟨a.fr hf.s, ⟨by rw [hf.1 _ (by omega) (by omega) (by omega)]; exact b.1, fun j x hx => ?_⟩, ⟨by rw [hf.1 _ (by unfold mF; omega) (by unfold mF; omega) (by unfold mF; omega)]; exact c.1, fun j x hx => ?_⟩, ⟨by rw [hf.1 _ (by omega) (by omega) (by omega)]; exact d.1, fun j x hx => ?_⟩, by rw [hf.1 _ (by omega) (by omega) (by omega)]; exact e, by rw [hf.1 _ (by omega) (by omega) (by omega)]; exact f⟩
  · rw [hf.2 _ (by omega) (by omega), hf.2 _ (by omega) (by omega), hf.2 _ (by omega) (by omega)]
    exact b.2 j x hx
  · rw [hf.2 _ (by unfold mA; omega) (by unfold mA; omega), hf.2 _ (by unfold mA; omega) (by unfold mA; omega), hf.2 _ (by unfold mA; omega) (by unfold mA; omega)]
    exact c.2 j x hx
  · rw [hf.2 _ (by omega) (by omega), hf.2 _ (by omega) (by omega), hf.2 _ (by omega) (by omega)]
    exact d.2 j x hx
theorem TB.me {h : AH} {S : ST} {gs : List T3} {w : Nat} {nv : Int32} (ht : TB h S (entS 0 S.1.1) gs w nv) : ME h S := ⟨ht.1, ⟨ht.2.1.1, fun j x hx => ht.2.1.2 j x hx⟩, ht.2.2.1⟩
theorem TB.plan {h : AH} {S : ST} {fs gs : List T3} {w : Nat} {nv : Int32} {sk : Nat → Bool} (ht : TB h S fs gs w nv) (hs : skM nv sk) : mplan h (fs, gs, S.2.2.1, w, S.2.1.2, sk) := ⟨ht.2.1, ht.2.2.2.1, ht.1.2.2.1, ht.2.2.2.2.1, ht.1.2.2.2.1.2, by rw [ht.2.2.2.2.2]; exact hs⟩
theorem skM_f : skM 0 (fun _ => false) := fun j hj => ⟨fun _ => rfl, fun _ => isIn0 ⟨j, hj⟩⟩
theorem m_asT {n : Nat} {S : ST} {h : AH} (ho : okST S) (hm : MT h S) (hn : 600 < n) : ∃ h', M_X9_asTold n h = some h' ∧ TB h' S (entS 0 S.1.1) (entS 1 S.1.2) S.2.1.1 0 := by
  obtain ⟨h1, a1, a2, a3, a4⟩ := m_asTold (n := n) ho hm (by omega)
  refine ⟨h1, a1, hm.fr a4.s, a2.1, a3, a2.2.1, a2.2.2.2.1, ?_⟩
  unfold M_X9_asTold at a1
  obtain ⟨h2, b1, b2, b3, b4⟩ := m_reads (n := n) ho hm (by omega)
  rw [b1, vS] at a1
  have key : ∀ (m : Nat) (x : Int32) (hx : AH), L_X9_asTold_14 n m x hx = some h1 → h1.1 75 21 = 0 := by
    intro m
    induction m with
    | zero =>
      intro x hx e
      cases e
    | succ m ih =>
      intro x hx e
      rw [L_X9_asTold_14] at e
      split at e
      · cases e
        exact sf_same _ _ _ _
      · obtain ⟨-, e⟩ := am_gS e
        obtain ⟨-, e⟩ := am_gS e
        obtain ⟨-, e⟩ := am_gS e
        obtain ⟨-, e⟩ := am_gS e
        obtain ⟨-, e⟩ := am_gS e
        obtain ⟨-, e⟩ := am_gS e
        exact ih _ _ e
  exact key _ _ _ a1
theorem m_run1 {n : Nat} {S : ST} {h : AH} {fs gs : List T3} {w : Nat} {nv : Int32} {sk : Nat → Bool} (ht : TB h S fs gs w nv) (hs : skM nv sk) (hp : okP (fs, gs, S.2.2.1, w, S.2.1.2, sk)) (hn : 600 < n) : ∃ h', M_X9_runs n h = some h' ∧ mevI h' (fs, gs, S.2.2.1, w, S.2.1.2, sk) 24 ∧ TB h' S fs gs w nv ∧ fr_R h h' := by
  obtain ⟨h1, a1, a2, a3⟩ := m_runs (n := n) hp (by omega) (ht.plan hs)
  exact ⟨h1, a1, a2, ht.fr a3.t, a3⟩
/-! the best of some -/
def bw (b0 : Int32) (g : Nat → Nat) : Nat → Int32 × Int32
  | 0 => (b0, -1)
  | k + 1 => (nI (hb g k), nI (g (hb g k)))
theorem bw_y {b0 : Int32} {g : Nat → Nat} {k : Nat} (hk : k ≤ 100) (hg : ∀ i, i ≤ k → g i ≤ 1000) (h : nI (g k) ≤ (bw b0 g k).2) : bw b0 g (k + 1) = bw b0 g k := by
  have g1 := hg k (Nat.le_refl _)
  cases k with
  | zero =>
    have h : nI (g 0) ≤ (-1 : Int32) := h
    rw [lit_m1, zI_n, zI_le (by omega) (by omega) (by omega) (by omega)] at h
    omega
  | succ k =>
    have := hb_le g k
    have g2 := hg (hb g k) (by omega)
    have h : nI (g (k + 1)) ≤ nI (g (hb g k)) := h
    have h : g (k + 1) ≤ g (hb g k) := by
      rw [zI_n, zI_n, zI_le (by omega) (by omega) (by omega) (by omega)] at h
      omega
    show (nI (hb g (k + 1)), nI (g (hb g (k + 1)))) = (nI (hb g k), nI (g (hb g k)))
    rw [hb, if_pos h]
theorem bw_n {b0 : Int32} {g : Nat → Nat} {k : Nat} (hk : k ≤ 100) (hg : ∀ i, i ≤ k → g i ≤ 1000) (h : ¬ nI (g k) ≤ (bw b0 g k).2) : bw b0 g (k + 1) = (nI k, nI (g k)) := by
  cases k with
  | zero => rfl
  | succ k =>
    have g1 := hg (k + 1) (Nat.le_refl _)
    have := hb_le g k
    have g2 := hg (hb g k) (by omega)
    have h : ¬ nI (g (k + 1)) ≤ nI (g (hb g k)) := h
    have h : ¬ g (k + 1) ≤ g (hb g k) := by
      rw [zI_n, zI_n, zI_le (by omega) (by omega) (by omega) (by omega)] at h
      omega
    show (nI (hb g (k + 1)), nI (g (hb g (k + 1)))) = _
    rw [hb, if_neg h]
def q_most (g : Nat → Nat) (N w : Nat) : Int32 := if w = 0 then nI (hb g (N - 1)) else nI (g (hb g (N - 1)))
theorem gl_le {P : PL} (hp : okP P) : glS P ≤ 1000 := by
  have := (pkS_b hp).1
  omega
set_option maxHeartbeats 1000000 in
theorem c_most {n fr N w : Nat} {S : ST} {h : AH} (hc : CR h S) (hf : fr + N ≤ 503) (hN : 0 < N) (hN2 : N ≤ 50) (hw : w < 2) (hn : 600 < n) : ∃ h', M_X8_mostGlasses n (nI fr) (nI N) (nI w) h = some (q_most (fun i => glS (altP S (fr + i))) N w, h') ∧ CR h' S := by
  obtain ⟨g, hg⟩ : ∃ g : Nat → Nat, g = (fun i => glS (altP S (fr + i))) := ⟨_, rfl⟩
  rw [← hg]
  have hg1 : ∀ i, i < N → g i ≤ 1000 := fun i hi => by rw [hg]; exact gl_le (altP_ok hc.1 (by omega))
  unfold M_X8_mostGlasses
  obtain ⟨m', h1, e1, e2⟩ := loopH (L := fun m (q : (Int32 × Int32) × Int32) h => L_X8_mostGlasses_9 n m (nI fr) (nI N) (nI w) q.1.1 q.1.2 q.2 h) (f := fun k => (bw 0 g k, nI k)) (I := fun _ h => CR h S) (N := N) (by
    intro m k h hk hI
    show ∃ h', L_X8_mostGlasses_9 n (m + 1) (nI fr) (nI N) (nI w) (bw 0 g k).1 (bw 0 g k).2 (nI k) h = L_X8_mostGlasses_9 n m (nI fr) (nI N) (nI w) (bw 0 g (k + 1)).1 (bw 0 g (k + 1)).2 (nI (k + 1)) h' ∧ CR h' S
    obtain ⟨h1, a1, a2⟩ := c_outcome (n := n) (t := fr + k) hI (by omega) (by omega)
    have hp := altP_ok (t := fr + k) hc.1 (by omega)
    have b := pkS_b hp
    have hu : M_X7_glassesIn (pkS (altP S (fr + k))) = nI (g k) := by rw [hg]; exact (unpk b.1 b.2.1 b.2.2.1 b.2.2.2).1
    rw [L_X8_mostGlasses_9, if_neg (nI_ge hk (by omega)), nI_add, a1, bS, hu, nI_1]
    refine ⟨h1, ?_, a2⟩
    by_cases q : nI (g k) ≤ (bw 0 g k).2
    · rw [if_pos q, bw_y (by omega) (fun i hi => hg1 i (by omega)) q]
    · rw [if_neg q, bw_n (by omega) (fun i hi => hg1 i (by omega)) q]) N 0 n h (by omega) (by omega) hc
  have e1 : L_X8_mostGlasses_9 n n (nI fr) (nI N) (nI w) 0 (-1) 0 h = L_X8_mostGlasses_9 n (m' + 1) (nI fr) (nI N) (nI w) (bw 0 g N).1 (bw 0 g N).2 (nI N) h1 := e1
  rw [e1, L_X8_mostGlasses_9, if_pos (nI_le (Nat.le_refl _) (by omega))]
  refine ⟨h1, ?_, e2⟩
  obtain ⟨N, rfl⟩ : ∃ q, N = q + 1 := ⟨N - 1, by omega⟩
  unfold q_most
  rcases (show w = 0 ∨ w = 1 by omega) with rfl | rfl <;> rfl
def BZ (h : AH) (g : Nat → Nat) (k : Nat) : Prop := h.1 75 40 = (bw (-1) g k).1 ∧ h.1 75 41 = (bw (-1) g k).2
theorem TB.sf {h : AH} {S : ST} {fs gs : List T3} {w k : Nat} {nv v : Int32} (ht : TB h S fs gs w nv) (hk : k = 40 ∨ k = 41) : TB (am_sf h 75 k v) S fs gs w nv := ht.fr ⟨fun j _ y x => sf_k _ _ (by omega), fun _ _ _ => rfl⟩
theorem m_tries {n k : Nat} {S : ST} {h : AH} {fs gs : List T3} {w : Nat} {g : Nat → Nat} (ht : TB h S fs gs w 0) (hp : okP (fs, gs, S.2.2.1, w, S.2.1.2, fun _ => false)) (hgk : g k = glS (fs, gs, S.2.2.1, w, S.2.1.2, fun _ => false)) (hb : BZ h g k) (hk : k ≤ 100) (hg : ∀ i, i ≤ k → g i ≤ 1000) (hn : 600 < n) : ∃ h', M_X9_tries n (nI k) h = some h' ∧ TB h' S fs gs w 0 ∧ BZ h' g (k + 1) := by
  unfold M_X9_tries B_X9_tries_26
  obtain ⟨h1, a1, a2, a3, a4⟩ := m_run1 (n := n) ht skM_f hp hn
  obtain ⟨b1, b2, b3, b4, b5, b6, b7, b8, b9, b10⟩ := a2
  have y0 := m_drunk (n := n) hp a3.2.2.2.1.1 b10 hn
  have f40 : h1.1 75 40 = (bw (-1) g k).1 := by rw [a4.1 _ _ (by omega)]; exact hb.1
  have f41 : h1.1 75 41 = (bw (-1) g k).2 := by rw [a4.1 _ _ (by omega)]; exact hb.2
  rw [a1, vS, y0, oS, ← hgk, f40, f41]
  by_cases q : nI (g k) ≤ (bw (-1) g k).2
  · rw [if_pos q, if_pos q]
    refine ⟨_, rfl, (a3.sf (Or.inl rfl)).sf (Or.inr rfl), ?_, ?_⟩
    · rw [bw_y hk hg q, sf_k _ _ (by omega), sf_same]
    · rw [bw_y hk hg q, sf_same]
  · rw [if_neg q, if_neg q]
    refine ⟨_, rfl, (a3.sf (Or.inl rfl)).sf (Or.inr rfl), ?_, ?_⟩
    · rw [bw_n hk hg q, sf_k _ _ (by omega), sf_same]
    · rw [bw_n hk hg q, sf_same]
theorem m_starts {n : Nat} {S : ST} {h : AH} (g : Nat → Nat) (ho : okST S) (hm : MT h S) (hn : 600 < n) : ∃ h', M_X9_starts n h = some h' ∧ TB h' S (entS 0 S.1.1) (entS 1 S.1.2) S.2.1.1 0 ∧ BZ h' g 0 := by
  unfold M_X9_starts
  obtain ⟨h1, a1, a2⟩ := m_asT (n := n) ho hm hn
  rw [a1, vS]
  exact ⟨_, rfl, (a2.sf (Or.inl rfl)).sf (Or.inr rfl), by rw [sf_k _ _ (by omega), sf_same]; rfl, by rw [sf_same]; rfl⟩
/-! fill -/
theorem altW {S : ST} {v : Nat} (hv : v ≤ 30) : altP S (256 + v) = (entS 0 S.1.1, entS 1 S.1.2, S.2.2.1, v, S.2.1.2, fun _ => false) := by
  unfold altP
  rw [if_neg (by omega), if_pos (by omega), show 256 + v - 256 = v by omega]
theorem TB.w {h : AH} {S : ST} {fs gs : List T3} {w v : Nat} {nv : Int32} (ht : TB h S fs gs w nv) : TB (am_sf h 75 20 (nI v)) S fs gs v nv := by
  obtain ⟨a, b, c, d, e, f⟩ := ht
  exact ⟨a.fr ⟨fun k z => sf_k _ _ (by omega), fun _ _ => rfl⟩, ⟨by rw [sf_k _ _ (by omega)]; exact b.1, b.2⟩, ⟨by rw [sf_k _ _ (by unfold mF; omega)]; exact c.1, c.2⟩, ⟨by rw [sf_k _ _ (by omega)]; exact d.1, d.2⟩, sf_same _ _ _ _, by rw [sf_k _ _ (by omega)]; exact f⟩
def q_fill (S : ST) (w : Nat) : Int32 := q_most (fun i => glS (altP S (256 + i))) 31 w
theorem c_fillS {n w : Nat} {S : ST} {h : AH} (hc : CR h S) (hw : w < 2) (hn : 600 < n) : ∃ h', M_X8_fill n (nI w) h = some (q_fill S w, h') ∧ CR h' S := by
  obtain ⟨h1, a1, a2⟩ := c_most (n := n) (fr := 256) (N := 31) (w := w) hc (by omega) (by omega) (by omega) hw hn
  have a1 : M_X8_mostGlasses n 256 31 (nI w) h = some (q_fill S w, h1) := a1
  unfold M_X8_fill
  rw [show (1 : Int32) = nI 1 from rfl, withinK (by omega) (by omega), if_neg (by decide), a1]
  exact ⟨h1, rfl, a2⟩
theorem m_fillOf {n w : Nat} {S : ST} {h : AH} (ho : okST S) (hm : MT h S) (hw : w < 2) (hn : 600 < n) : ∃ h', M_X9_fillOf n (nI w) h = some (q_fill S w, h') ∧ ME h' S := by
  obtain ⟨g, hg⟩ : ∃ g : Nat → Nat, g = (fun i => glS (altP S (256 + i))) := ⟨_, rfl⟩
  have hg1 : ∀ i, i ≤ 30 → g i ≤ 1000 := fun i hi => by rw [hg]; exact gl_le (altP_ok ho (by omega))
  unfold M_X9_fillOf q_fill
  rw [← hg]
  obtain ⟨h1, a1, a2, a3⟩ := m_starts (n := n) g ho hm hn
  rw [a1, vS]
  obtain ⟨m', h2, e1, ⟨u, e2⟩, e3⟩ := loopH (L := fun m (q : Int32) h => L_X9_fillOf_6 n m (nI w) q h) (f := fun k => nI k) (I := fun k h => (∃ u, TB h S (entS 0 S.1.1) (entS 1 S.1.2) u 0) ∧ BZ h g k) (N := 31) (by
    intro m k h hk hI
    obtain ⟨⟨u, i1⟩, i2⟩ := hI
    have hp := altP_ok (t := 256 + k) ho (by omega)
    rw [altW (by omega)] at hp
    obtain ⟨h2, b1, b2, b3⟩ := m_tries (n := n) (k := k) (g := g) (i1.w (v := k)) hp (by rw [hg, ← altW (by omega)]) ⟨by rw [sf_k _ _ (by omega)]; exact i2.1, by rw [sf_k _ _ (by omega)]; exact i2.2⟩ (by omega) (fun i hi => hg1 i (by omega)) hn
    show ∃ h', L_X9_fillOf_6 n (m + 1) (nI w) (nI k) h = L_X9_fillOf_6 n m (nI w) (nI (k + 1)) h' ∧ _
    rw [L_X9_fillOf_6, show (30 : Int32) = nI 30 from rfl, if_neg (nI_nlt (by omega) (by omega)), b1, vS, nI_1]
    exact ⟨h2, rfl, ⟨k, b2⟩, b3⟩) 31 0 n h1 (by omega) (by omega) ⟨⟨_, a2⟩, a3⟩
  have e1 : L_X9_fillOf_6 n n (nI w) 0 h1 = L_X9_fillOf_6 n (m' + 1) (nI w) (nI 31) h2 := e1
  rw [e1, L_X9_fillOf_6, if_pos (by decide), e3.1, e3.2]
  refine ⟨h2, ?_, e2.me⟩
  unfold q_most
  rcases (show w = 0 ∨ w = 1 by omega) with rfl | rfl <;> rfl
theorem two_fill {n : Nat} (hn : 600 < n) (a : Int32) : two (M_X8_fill n a) (M_X9_fill n a) := by
  intro S ho
  rcases arg (a := a) (N := 1) (by omega) with ⟨w, hw, rfl, w1, w2⟩ | ⟨na, w1, w2⟩
  · refine ⟨q_fill S w, S, fun h hc => c_fillS hc (by omega) hn, fun h hm => ?_⟩
    obtain ⟨h1, a1, a2⟩ := m_fillOf (n := n) ho hm (show w < 2 by omega) hn
    unfold M_X9_fill
    rw [if_neg (by rw [show M_X9_isTwo (nI w) = 1 from w2]; decide), a1]
    exact ⟨h1, rfl, a2.1⟩
  · refine ⟨-2, S, fun h hc => ?_, fun h hm => ?_⟩
    · unfold M_X8_fill
      rw [if_pos (show M_X8_within a 1 = 0 from w1)]
      exact ⟨h, rfl, hc⟩
    · unfold M_X9_fill
      rw [if_pos (show M_X9_isTwo a = 0 from w2)]
      exact ⟨h, rfl, hm⟩
