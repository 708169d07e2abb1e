/-- six things told of a minute -/
def t6 (f : Nat → Int32) (t : Nat) (a b c d e g : Int32) : Nat → Int32 := upd (upd (upd (upd (upd (upd f (6 * t) a) (6 * t + 1) b) (6 * t + 2) c) (6 * t + 3) d) (6 * t + 4) e) (6 * t + 5) g
theorem t6_old {f : Nat → Int32} {t u i : Nat} {a b c d e g : Int32} (h : u < t) (hi : i < 6) : t6 f t a b c d e g (6 * u + i) = f (6 * u + i) := by
  unfold t6 upd
  rw [if_neg (by omega), if_neg (by omega), if_neg (by omega), if_neg (by omega), if_neg (by omega), if_neg (by omega)]
theorem t6_new {f : Nat → Int32} {t : Nat} {a b c d e g : Int32} : t6 f t a b c d e g (6 * t) = a ∧ t6 f t a b c d e g (6 * t + 1) = b ∧ t6 f t a b c d e g (6 * t + 2) = c ∧ t6 f t a b c d e g (6 * t + 3) = d ∧ t6 f t a b c d e g (6 * t + 4) = e ∧ t6 f t a b c d e g (6 * t + 5) = g := by
  unfold t6 upd
  refine ⟨?_, ?_, ?_, ?_, ?_, ?_⟩
  · rw [if_neg (by omega), if_neg (by omega), if_neg (by omega), if_neg (by omega), if_neg (by omega), if_pos rfl]
  · rw [if_neg (by omega), if_neg (by omega), if_neg (by omega), if_neg (by omega), if_pos rfl]
  · rw [if_neg (by omega), if_neg (by omega), if_neg (by omega), if_pos rfl]
  · rw [if_neg (by omega), if_neg (by omega), if_pos rfl]
  · rw [if_neg (by omega), if_pos rfl]
  · rw [if_pos rfl]
set_option maxHeartbeats 8000000 in
theorem m_b181 {n t : Nat} {P : PL} {h : AH} (hp : okP P) (ht : t < 24) (hn : 24 < n) (hg : h.1 75 16 = nI P.2.1.length) (hc : mcm h (mn_v P t (stt P t)).2.2.2) (e22 : h.1 75 22 = nI (mn_h P t (stt P t))) (e23 : h.1 75 23 = nI (mn_v P t (stt P t)).2.2.1) (e24 : h.1 75 24 = nI (mn_v P t (stt P t)).2.1) (hT : mevT h P t) (hG : mevG h P t) (hW : mevW h P t) :
    ∃ h', B_X9_goesBy_181 n (nI t) (nI (mn_f P t (stt P t))) (bI (mn_b P t (stt P t))) (svI (mn_v P t (stt P t)).1) h = some h' ∧ mevT h' P (t + 1) ∧ mevG h' P (t + 1) ∧ mevW h' P (t + 1) ∧ mcm h' (stt P (t + 1)).2.2.2.2 ∧ (∀ i k, ¬ (i = 75 ∧ k = 29) → h'.1 i k = h.1 i k) ∧ (∀ i, ¬ (90 ≤ i ∧ i ≤ 99) → h'.2.1 i = h.2.1 i) ∧ h'.2.2 = h.2.2 := by
  have h8 := hp.2.1.1
  unfold B_X9_goesBy_181
  obtain ⟨h1, a1, a2, a3⟩ := m_away (n := n) ht hc (by omega)
  rw [a1]
  have a2 : mcm h1 (stt P (t + 1)).2.2.2.2 := a2
  have d1 : h1.1 75 22 = nI (mn_h P t (stt P t)) := by rw [a3.1 _ _ (by omega)]; exact e22
  have d2 : h1.1 75 23 = nI (mn_v P t (stt P t)).2.2.1 := by rw [a3.1 _ _ (by omega)]; exact e23
  have d3 : h1.1 75 24 = nI (mn_v P t (stt P t)).2.1 := by rw [a3.1 _ _ (by omega)]; exact e24
  have d4 : h1.1 75 29 = nI (stt P (t + 1)).2.2.2.2.1.length := a2.2.2.2.2.1
  have hif : ∃ hy, (bif am_in (6 * nI t) 144 then bif am_in (6 * nI t + 1) 144 then bif am_in (6 * nI t + 2) 144 then bif am_in (6 * nI t + 3) 144 then
      if bI (mn_b P t (stt P t)) = 0 then
            B_X9_goesBy_258 n (nI t) (svI (mn_v P t (stt P t)).1) (6 * nI t) 0 ((6 * nI t) + 4) (am_sa (am_sa (am_sa (am_sa h1 96 (upd (h1.2.1 96) (Int32.toNatClampNeg (6 * nI t)) (h1.1 75 22))) 96 (upd (upd (h1.2.1 96) (Int32.toNatClampNeg (6 * nI t)) (h1.1 75 22)) (Int32.toNatClampNeg ((6 * nI t) + 1)) (h1.1 75 23))) 96 (upd (upd (upd (h1.2.1 96) (Int32.toNatClampNeg (6 * nI t)) (h1.1 75 22)) (Int32.toNatClampNeg ((6 * nI t) + 1)) (h1.1 75 23)) (Int32.toNatClampNeg ((6 * nI t) + 2)) (h1.1 75 24))) 96 (upd (upd (upd (upd (h1.2.1 96) (Int32.toNatClampNeg (6 * nI t)) (h1.1 75 22)) (Int32.toNatClampNeg ((6 * nI t) + 1)) (h1.1 75 23)) (Int32.toNatClampNeg ((6 * nI t) + 2)) (h1.1 75 24)) (Int32.toNatClampNeg ((6 * nI t) + 3)) (nI (mn_f P t (stt P t)))))
          else
            B_X9_goesBy_258 n (nI t) (svI (mn_v P t (stt P t)).1) (6 * nI t) 1 ((6 * nI t) + 4) (am_sa (am_sa (am_sa (am_sa h1 96 (upd (h1.2.1 96) (Int32.toNatClampNeg (6 * nI t)) (h1.1 75 22))) 96 (upd (upd (h1.2.1 96) (Int32.toNatClampNeg (6 * nI t)) (h1.1 75 22)) (Int32.toNatClampNeg ((6 * nI t) + 1)) (h1.1 75 23))) 96 (upd (upd (upd (h1.2.1 96) (Int32.toNatClampNeg (6 * nI t)) (h1.1 75 22)) (Int32.toNatClampNeg ((6 * nI t) + 1)) (h1.1 75 23)) (Int32.toNatClampNeg ((6 * nI t) + 2)) (h1.1 75 24))) 96 (upd (upd (upd (upd (h1.2.1 96) (Int32.toNatClampNeg (6 * nI t)) (h1.1 75 22)) (Int32.toNatClampNeg ((6 * nI t) + 1)) (h1.1 75 23)) (Int32.toNatClampNeg ((6 * nI t) + 2)) (h1.1 75 24)) (Int32.toNatClampNeg ((6 * nI t) + 3)) (nI (mn_f P t (stt P t))))) else none else none else none else none) = L_X9_goesBy_283 n n (nI t) 0 hy ∧ hy.1 = h1.1 ∧ hy.2.1 96 = t6 (h1.2.1 96) t (nI (mn_h P t (stt P t))) (nI (mn_v P t (stt P t)).2.2.1) (nI (mn_v P t (stt P t)).2.1) (nI (mn_f P t (stt P t))) (bI (mn_b P t (stt P t))) (svI (mn_v P t (stt P t)).1) ∧ hy.2.1 97 = upd (h1.2.1 97) t (nI (stt P (t + 1)).2.2.2.2.1.length) ∧ (∀ i, ¬ (i = 96 ∨ i = 97) → hy.2.1 i = h1.2.1 i) ∧ hy.2.2 = h1.2.2 := by
    unfold B_X9_goesBy_258
    rw [d1, d2, d3, show (6 : Int32) = nI 6 from rfl, nI_mul, nI_1, show (2 : Int32) = nI 2 from rfl, show (3 : Int32) = nI 3 from rfl, show (4 : Int32) = nI 4 from rfl, show (5 : Int32) = nI 5 from rfl, nI_add, nI_add, nI_add, nI_add, am_inK (show 6 * t < 144 by omega) (by omega), am_inK (show 6 * t + 1 < 144 by omega) (by omega), am_inK (show 6 * t + 2 < 144 by omega) (by omega), am_inK (show 6 * t + 3 < 144 by omega) (by omega), am_inK (show 6 * t + 4 < 144 by omega) (by omega), am_inK (show 6 * t + 5 < 144 by omega) (by omega), am_inK ht (by omega), nK (show 6 * t ≤ 100000 by omega), nK (show 6 * t + 1 ≤ 100000 by omega), nK (show 6 * t + 2 ≤ 100000 by omega), nK (show 6 * t + 3 ≤ 100000 by omega), nK (show 6 * t + 4 ≤ 100000 by omega), nK (show 6 * t + 5 ≤ 100000 by omega), nK (show t ≤ 100000 by omega)]
    simp only [cond_true]
    cases mn_b P t (stt P t)
    · rw [if_pos (by decide)]
      refine ⟨_, rfl, rfl, ?_, ?_, ?_, rfl⟩
      · rw [sa_n _ _ (by omega), sa_s, sa_s]
        rfl
      · rw [sa_s]
        show upd (h1.2.1 97) t (h1.1 75 29) = _
        rw [d4]
      · intro i z
        rw [sa_n _ _ (by omega), sa_n _ _ (by omega), sa_n _ _ (by omega), sa_n _ _ (by omega), sa_n _ _ (by omega), sa_n _ _ (by omega), sa_n _ _ (by omega)]
    · rw [if_neg (by decide)]
      refine ⟨_, rfl, rfl, ?_, ?_, ?_, rfl⟩
      · rw [sa_n _ _ (by omega), sa_s, sa_s]
        rfl
      · rw [sa_s]
        show upd (h1.2.1 97) t (h1.1 75 29) = _
        rw [d4]
      · intro i z
        rw [sa_n _ _ (by omega), sa_n _ _ (by omega), sa_n _ _ (by omega), sa_n _ _ (by omega), sa_n _ _ (by omega), sa_n _ _ (by omega), sa_n _ _ (by omega)]
  obtain ⟨hy, y1, y2, y3, y4, y5, y6⟩ := hif
  have y1 : _ = L_X9_goesBy_283 n n (nI t) 0 hy := y1
  have hcy : mcm hy (stt P (t + 1)).2.2.2.2 := a2.cg (by rw [y2]) (fun i _ _ => y5 i (by omega))
  obtain ⟨h', z1, z2, z3, z4, z5, z6⟩ := m_b283 (n := n) (t := t) (m := n) (P := P) (h := hy) h8 ht (by rw [y2, a3.1 _ _ (by omega)]; exact hg) hcy rfl (fun u hu k hk => by rw [y5 _ (by omega), y5 _ (by omega), a3.2.1 _ (by omega), a3.2.1 _ (by omega)]; exact hG u hu k hk) (fun k hk => by rw [y5 _ (by omega), a3.2.1 _ (by omega)]; exact hW k hk) (by omega)
  refine ⟨h', Eq.trans y1 z1, ?_, z2, z3, ?_, ?_, ?_, ?_⟩
  · intro u hu
    rw [z5 _ (by omega), z5 _ (by omega), y3, y4]
    by_cases hut : u = t
    · subst hut
      obtain ⟨p1, p2, p3, p4, p5, p6⟩ := t6_new (f := h1.2.1 96) (t := u) (a := nI (mn_h P u (stt P u))) (b := nI (mn_v P u (stt P u)).2.2.1) (c := nI (mn_v P u (stt P u)).2.1) (d := nI (mn_f P u (stt P u))) (e := bI (mn_b P u (stt P u))) (g := svI (mn_v P u (stt P u)).1)
      exact ⟨p1, p2, p3, p4, p5, p6, if_pos rfl⟩
    · have hlt : u < t := by omega
      obtain ⟨p1, p2, p3, p4, p5, p6, p7⟩ := hT u hlt
      rw [← Nat.add_zero (6 * u), t6_old hlt (by omega), Nat.add_zero, t6_old hlt (by omega), t6_old hlt (by omega), t6_old hlt (by omega), t6_old hlt (by omega), t6_old hlt (by omega), a3.2.1 _ (by omega), show upd (h1.2.1 97) t (nI (stt P (t + 1)).2.2.2.2.1.length) u = h1.2.1 97 u from if_neg hut, a3.2.1 _ (by omega)]
      exact ⟨p1, p2, p3, p4, p5, p6, p7⟩
  · exact hcy.cg (by rw [z4]) (fun i _ _ => z5 i (by omega))
  · intro i k z
    rw [z4, y2, a3.1 _ _ z]
  · intro i z
    rw [z5 _ (by omega), y5 _ (by omega), a3.2.1 _ (by omega)]
  · rw [z6, y6, a3.2.2]
