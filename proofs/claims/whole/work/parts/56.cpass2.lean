theorem cm2.cg {h h' : AH} {rc T : Nat} {gs : List T3} {s : LS9} (hc : cm2 h rc gs s T) (e1 : ∀ k, h'.1 rc k = h.1 rc k) (e2 : ∀ i, rc < i → i ≤ rc + 4 → h'.2.1 i = h.2.1 i) : cm2 h' rc gs s T := by
  obtain ⟨⟨tk, sn, c1, c2, c3, c4, c5, c6, c7, c8⟩, g6, g7, g8⟩ := hc
  refine ⟨⟨tk, sn, ?_, ?_, ?_, ?_, ?_, ?_, c7, c8⟩, ?_, ?_, ?_⟩
  · rw [e2 _ (by omega) (by omega)]
    exact c1
  · rw [e2 _ (by omega) (by omega)]
    exact c2
  · rw [e2 _ (by omega) (by omega)]
    exact c3
  · rw [e2 _ (by omega) (by omega)]
    exact c4
  · rw [e1]
    exact c5
  · rw [e1]
    exact c6
  · rw [e1]
    exact g6
  · rw [e1]
    exact g7
  · rw [e1]
    exact g8
set_option maxHeartbeats 8000000 in
theorem c_min58 {n r r1 t T : Nat} {P : PL} {h1 h2 : AH} {k30 : Int32 → AH → Option AH} (hp : okP P) (ht : t < 24) (hr : hpl r r1) (hn : 24 < n) (hg : entR h2 (pl_g r1) P.2.1)
    (hR : evR h2 r P t) (hF : evF h2 r P (t + 1)) (hb : h2.1 r 10 = nI (bN (fun j => mn_b P j (stt P j)) t)) (f0 : h2.1 (r + 9) 0 = nI (mn_k P t (stt P t)).1) (f1 : h2.1 (r + 9) 1 = nI (mn_k P t (stt P t)).2.1) (f2 : h2.1 (r + 9) 2 = nI (mn_k P t (stt P t)).2.2.1) (f3 : h2.1 (r + 9) 3 = nI (stt P t).2.2.2.1) (hT : T ≤ 16 * t) (hc : cm2 h2 (r + 10) P.2.1 (stt P t).2.2.2.2 T) :
    ∃ h', B_X2_pass_58 n k30 r r1 (nI t) h2 = k30 (nI (t + 1)) h' ∧ evI h' r P (t + 1) ∧ fr_E r h2 h' := by
  have hok := stt_ok hp t (by omega)
  have hkk := mn_kok hok
  have hfl := mn_f_le (P := P) (t := t) (s := stt P t) hp
  obtain ⟨r2, r3, r4, r5⟩ := hr
  unfold B_X2_pass_58
  rw [am_inK ht (by omega), nK (by omega), hF t ht, if_pos (by omega)]
  simp only [cond_true]
  obtain ⟨h3, w1, w2, w3, w4, w5, w6⟩ := c_warm f0 f1 f3 hkk.1 hkk.2.1 hfl
  rw [w1]
  have w2 : h3.1 (r + 9) 0 = nI (mn_h P t (stt P t)) := w2
  have w3 : h3.1 (r + 9) 1 = nI (mn_w P t (stt P t)) := w3
  have w4 : h3.1 (r + 9) 3 = nI (mn P t (stt P t)).2.2.2.1 := w4
  have hwl := mn_w_le hok
  have hhl : mn_h P t (stt P t) ≤ 100 := Nat.min_le_left _ _
  have hc3 : cm2 h3 (r + 10) P.2.1 (stt P t).2.2.2.2 T := hc.cg (fun k => w5 _ _ (by omega)) (fun i _ _ => by rw [w6])
  have hg3 : entR h3 (pl_g r1) P.2.1 := ⟨by rw [w5 _ _ (by omega)]; exact hg.1, fun j x hx => by rw [w6]; exact hg.2 j x hx⟩
  obtain ⟨h4, T', l1, l2, l3, l4⟩ := c_lineUp (n := n) hp.2.1 ht (show pl_g r1 + 3 < r + 10 by omega) (by omega) hg3 hc3 hok.2.2.2.2
  show ∃ h', (am_v (M_X0_lineUp n (r + 10) (pl_g r1) (nI t) h3) fun h2 => _) = _ ∧ _
  rw [l1, c_boils w2 w3 hhl hwl]
  have l2 : cm2 h4 (r + 10) P.2.1 (mn_l P t (stt P t)) T' := l2
  have hmb : decide (80 ≤ mn_h P t (stt P t) ∧ 0 < mn_w P t (stt P t)) = mn_b P t (stt P t) := rfl
  rw [hmb]
  have hg4 : entR h4 (pl_g r1) P.2.1 := ⟨by rw [l4.1 _ _ (by omega) (by omega)]; exact hg3.1, fun j x hx => by rw [l4.2.1 _ (by omega), l4.2.1 _ (by omega), l4.2.1 _ (by omega)]; exact hg3.2 j x hx⟩
  have q1 : h4.1 (r + 9) 1 = nI (mn_w P t (stt P t)) := by rw [l4.1 _ _ (by omega) (by omega)]; exact w3
  have q2 : h4.1 (r + 9) 2 = nI (mn_k P t (stt P t)).2.2.1 := by rw [l4.1 _ _ (by omega) (by omega), w5 _ _ (by omega)]; exact f2
  have hsv : ∃ h5, (if bI (mn_b P t (stt P t)) = 0 then B_X2_pass_120 n k30 r r1 (nI t) (bI (mn_b P t (stt P t))) (-1) (nI t) h4 else am_b (M_X0_serve n (r + 10) (pl_g r1) (r + 9) (nI t) h4) fun v4 h3 => B_X2_pass_120 n k30 r r1 (nI t) (bI (mn_b P t (stt P t))) v4 (nI t) h3) = B_X2_pass_120 n k30 r r1 (nI t) (bI (mn_b P t (stt P t))) (svI (mn_v P t (stt P t)).1) (nI t) h5 ∧ cm2 h5 (r + 10) P.2.1 (mn_v P t (stt P t)).2.2.2 T' ∧ h5.1 (r + 9) 2 = nI (mn_v P t (stt P t)).2.1 ∧ h5.1 (r + 9) 1 = nI (mn_v P t (stt P t)).2.2.1 ∧ fr_s (r + 10) (r + 9) h4 h5 := by
    unfold mn_v
    cases hbb : mn_b P t (stt P t)
    · refine ⟨h4, ?_, ?_, ?_, ?_, fr_s.rf⟩
      · rw [if_pos (by decide)]
        rfl
      · exact l2
      · exact q2
      · exact q1
    · have hpos := (of_decide_eq_true (hmb.trans hbb)).2
      obtain ⟨h5, s1, s2, s3, s4, s5⟩ := c_serve (n := n) (rc := r + 10) (rg := pl_g r1) (rk := r + 9) (t := t) hp.2.1 ht (by omega) (by omega) hg4 q2 hkk.2.2 q1 hpos (by omega) l2 (ok9.mnl hp ht hok.2.2.2.2) (by omega)
      refine ⟨h5, ?_, s2, s3, s4, s5⟩
      rw [if_neg (by decide), s1]
      rfl
  obtain ⟨h5, s1, s2, s3, s4, s5⟩ := hsv
  show ∃ h', (if bI (mn_b P t (stt P t)) = 0 then B_X2_pass_120 n k30 r r1 (nI t) (bI (mn_b P t (stt P t))) (-1) (nI t) h4 else am_b (M_X0_serve n (r + 10) (pl_g r1) (r + 9) (nI t) h4) fun v4 h3 => B_X2_pass_120 n k30 r r1 (nI t) (bI (mn_b P t (stt P t))) v4 (nI t) h3) = _ ∧ _
  rw [s1]
  unfold B_X2_pass_120
  rw [am_inK ht (by omega), nK (by omega)]
  simp only [cond_true]
  obtain ⟨h6, p1, p2, p3⟩ := c_lose (n := n) (m := n) (rc := r + 10) (t := t) (h := am_sa h5 (r + 5) (upd (h5.2.1 (r + 5)) t (svI (mn_v P t (stt P t)).1))) ht (s2.cg (fun _ => rfl) (fun i _ _ => sa_n _ _ (by omega))) (by omega)
  have p1' : M_X0_losePatience n (r + 10) (nI t) (am_sa h5 (r + 5) (upd (h5.2.1 (r + 5)) t (svI (mn_v P t (stt P t)).1))) = some h6 := p1
  rw [p1']
  have hcell : ∀ k, h6.1 r k = h2.1 r k := fun k => by
    rw [p3.1 _ _ (by omega) (by omega), sa_1, s5.1 _ _ (by omega) (by omega), l4.1 _ _ (by omega) (by omega), w5 _ _ (by omega)]
  have hcol : ∃ h7, (if bI (mn_b P t (stt P t)) = 0 then B_X2_pass_145 n k30 r r1 (nI t) h6 else B_X2_pass_145 n k30 r r1 (nI t) (am_sf h6 r 10 (h6.1 r 10 ||| 1 <<< (nI t &&& 31)))) = B_X2_pass_145 n k30 r r1 (nI t) h7 ∧ h7.1 r 10 = nI (bN (fun j => mn_b P j (stt P j)) (t + 1)) ∧ (∀ i k, ¬ i = r → h7.1 i k = h6.1 i k) ∧ h7.2 = h6.2 := by
    cases hbb : mn_b P t (stt P t)
    · refine ⟨h6, if_pos rfl, ?_, fun _ _ _ => rfl, rfl⟩
      rw [hcell, hb, bN, if_neg (by rw [hbb]; decide)]
      rfl
    · refine ⟨_, if_neg (by decide), ?_, fun i k z => ?_, rfl⟩
      · rw [sf_same, hcell, hb, nI_bit (by omega), nI_or, bN_step (f := fun j => mn_b P j (stt P j)) hbb]
        · have := bN_lt (fun j => mn_b P j (stt P j)) t
          have h2 : 2 ^ t ≤ 2 ^ 24 := Nat.pow_le_pow_right (by omega) (by omega)
          omega
        · have h2 : 2 ^ t ≤ 2 ^ 24 := Nat.pow_le_pow_right (by omega) (by omega)
          omega
      · rw [sf_r _ _ _ _ z]
  obtain ⟨h7, o1, o2, o3, o4⟩ := hcol
  show ∃ h', (if bI (mn_b P t (stt P t)) = 0 then B_X2_pass_145 n k30 r r1 (nI t) h6 else B_X2_pass_145 n k30 r r1 (nI t) (am_sf h6 r 10 (h6.1 r 10 ||| 1 <<< (nI t &&& 31)))) = _ ∧ _
  rw [o1]
  unfold B_X2_pass_145
  have harr : ∀ i, ¬ (i = r + 5) → ¬ (r + 10 < i ∧ i ≤ r + 14) → h7.2.1 i = h2.2.1 i := fun i z1 z2 => by
    rw [o4, p3.2.1 _ (by omega), sa_n _ _ z1, s5.2.1 _ (by omega), l4.2.1 _ (by omega), w6]
  have p2 : cm2 h7 (r + 10) P.2.1 (sp_loseG t 8 (mn_v P t (stt P t)).2.2.2) T' := p2.cg (fun k => o3 _ _ (by omega)) (fun i _ _ => by rw [o4])
  obtain ⟨⟨tk, sn, k1, k2, k3, k4, k5, k6, k7, k8⟩, k9⟩ := id p2
  obtain ⟨h8, n1, n2, n3, n4, n5⟩ := c_note (r := r) (t := t) (P := P) (h := h7) (s := sp_loseG t 8 (mn_v P t (stt P t)).2.2.2) (he := mn_h P t (stt P t)) (wa := (mn_v P t (stt P t)).2.2.1) (br := (mn_v P t (stt P t)).2.1) (ln := (sp_loseG t 8 (mn_v P t (stt P t)).2.2.2).1.length) ht
    (by rw [o3 _ _ (by omega), p3.1 _ _ (by omega) (by omega), sa_1, s5.1 _ _ (by omega) (by omega), l4.1 _ _ (by omega) (by omega)]; exact w2)
    (by rw [o3 _ _ (by omega), p3.1 _ _ (by omega) (by omega), sa_1]; exact s4)
    (by rw [o3 _ _ (by omega), p3.1 _ _ (by omega) (by omega), sa_1]; exact s3)
    k6 k1 k2
    (fun u hu => by
      obtain ⟨a1, a2, a3, a4, a5, a6⟩ := hR u hu
      rw [harr (r + 1) (by omega) (by omega), harr (r + 2) (by omega) (by omega), harr (r + 3) (by omega) (by omega), harr (r + 6) (by omega) (by omega), harr (r + 7) (by omega) (by omega), harr (r + 8) (by omega) (by omega)]
      refine ⟨a1, a2, a3, ?_, a5, a6⟩
      rw [o4, p3.2.1 _ (by omega), sa_s]
      unfold upd
      rw [if_neg (by omega), s5.2.1 _ (by omega), l4.2.1 _ (by omega), w6]
      exact a4)
    (by
      rw [o4, p3.2.1 _ (by omega), sa_s]
      exact if_pos rfl) rfl rfl
  rw [n1, nI_1]
  refine ⟨h8, rfl, ⟨n2, ?_, ?_, ?_, ?_, ?_, ?_, T', by omega, ?_⟩, ?_, ?_, ?_⟩
  · intro u hu
    rw [n4 _ (by omega), harr _ (by omega) (by omega)]
    exact hF u hu
  · rw [n3]
    exact o2
  · rw [n3, o3 _ _ (by omega), p3.1 _ _ (by omega) (by omega), sa_1, s5.1 _ _ (by omega) (by omega), l4.1 _ _ (by omega) (by omega)]
    exact w2
  · rw [n3, o3 _ _ (by omega), p3.1 _ _ (by omega) (by omega), sa_1]
    exact s4
  · rw [n3, o3 _ _ (by omega), p3.1 _ _ (by omega) (by omega), sa_1]
    exact s3
  · rw [n3, o3 _ _ (by omega), p3.1 _ _ (by omega) (by omega), sa_1, s5.1 _ _ (by omega) (by omega), l4.1 _ _ (by omega) (by omega)]
    exact w4
  · exact p2.cg (fun k => by rw [n3]) (fun i _ _ => n4 i (by omega))
  · intro i k z
    rw [n3, o3 _ _ (by omega), p3.1 _ _ (by omega) (by omega), sa_1, s5.1 _ _ (by omega) (by omega), l4.1 _ _ (by omega) (by omega), w5 _ _ (by omega)]
  · intro i z
    rw [n4 _ (by omega)]
    exact harr i (by omega) (by omega)
  · rw [n5, o4, p3.2.2, sa_2, s5.2.2, l4.2.2, w6]
