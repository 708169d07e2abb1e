/-! Evening.pass -/
def evR (h : AH) (r : Nat) (P : PL) (t : Nat) : Prop := ∀ u, u < t → h.2.1 (r + 1) u = nI (stt P (u + 1)).1 ∧ h.2.1 (r + 2) u = nI (stt P (u + 1)).2.1 ∧ h.2.1 (r + 3) u = nI (stt P (u + 1)).2.2.1 ∧ h.2.1 (r + 5) u = svI (mn_v P u (stt P u)).1 ∧ h.2.1 (r + 6) u = nI (stt P (u + 1)).2.2.2.2.1.length ∧ ∀ k, k < 8 → h.2.1 (r + 7) (8 * u + k) = nI ((stt P (u + 1)).2.2.2.2.2.1 k) ∧ h.2.1 (r + 8) (8 * u + k) = nI ((stt P (u + 1)).2.2.2.2.2.2.1 k)
def evF (h : AH) (r : Nat) (P : PL) (t : Nat) : Prop := ∀ u, u < 24 → h.2.1 (r + 4) u = nI (if u < t then mn_f P u (stt P u) else sp_fire P.1 u P.1.length)
def evI (h : AH) (r : Nat) (P : PL) (t : Nat) : Prop := evR h r P t ∧ evF h r P t ∧ h.1 r 10 = nI (bN (fun j => mn_b P j (stt P j)) t) ∧ h.1 (r + 9) 0 = nI (stt P t).1 ∧ h.1 (r + 9) 1 = nI (stt P t).2.1 ∧ h.1 (r + 9) 2 = nI (stt P t).2.2.1 ∧ h.1 (r + 9) 3 = nI (stt P t).2.2.2.1 ∧ ∃ T, T ≤ 16 * t ∧ cm2 h (r + 10) P.2.1 (stt P t).2.2.2.2 T
theorem cp8 : ∀ t : Fin 24, am_cpok 0 (nI t.val * 8) 8 8 192 = true := by decide +kernel
theorem cp8n : ∀ t : Fin 24, Int32.toNatClampNeg (nI t.val * 8) = 8 * t.val := by decide +kernel
theorem cp0n : Int32.toNatClampNeg 0 = 0 := by decide +kernel
theorem cp8m : Int32.toNatClampNeg 8 = 8 := by decide +kernel
set_option maxHeartbeats 4000000 in
/-- note, and what stands recorded then -/
theorem c_note {r t he wa br ln : Nat} {P : PL} {h : AH} {s : LS9} (ht : t < 24) (e0 : h.1 (r + 9) 0 = nI he) (e1 : h.1 (r + 9) 1 = nI wa) (e2 : h.1 (r + 9) 2 = nI br) (e5 : h.1 (r + 10) 5 = nI ln) (c1 : ∀ k, k < 8 → h.2.1 (r + 11) k = nI (s.2.1 k)) (c2 : ∀ k, k < 8 → h.2.1 (r + 12) k = nI (s.2.2.1 k)) (hR : evR h r P t) (hsv : h.2.1 (r + 5) t = svI (mn_v P t (stt P t)).1) (hst : stt P (t + 1) = (he, wa, br, (stt P (t + 1)).2.2.2.1, s)) (hln : ln = s.1.length) :
    ∃ h', M_X2_note r (nI t) h = some h' ∧ evR h' r P (t + 1) ∧ h'.1 = h.1 ∧ (∀ i, ¬ (i = r + 1 ∨ i = r + 2 ∨ i = r + 3 ∨ i = r + 6 ∨ i = r + 7 ∨ i = r + 8) → h'.2.1 i = h.2.1 i) ∧ h'.2.2 = h.2.2 := by
  unfold M_X2_note
  rw [show (23 : Int32) = nI 23 from rfl, within_ok (by omega) (by omega), if_neg (by decide), am_inK ht (by omega), nK (by omega), cp8 ⟨t, ht⟩, cp8n ⟨t, ht⟩, cp0n, cp8m, e0, e1, e2, e5]
  simp only [cond_true]
  refine ⟨_, rfl, ?_, rfl, ?_, rfl⟩
  · intro u hu
    rw [sa_s, sa_n _ _ (by omega), sa_n _ _ (by omega), sa_n _ _ (by omega), sa_n _ _ (by omega), sa_n _ _ (by omega), sa_s, sa_n _ _ (by omega), sa_n _ _ (by omega), sa_n _ _ (by omega), sa_n _ _ (by omega), sa_s, sa_n _ _ (by omega), sa_n _ _ (by omega), sa_n _ _ (by omega), sa_s, sa_n _ _ (by omega), sa_n _ _ (by omega), sa_n _ _ (by omega), sa_n _ _ (by omega), sa_n _ _ (by omega), sa_n _ _ (by omega), sa_n _ _ (by omega), sa_n _ _ (by omega), sa_s, sa_n _ _ (by omega), sa_s]
    unfold upd va_cpy
    by_cases hut : u = t
    · subst hut
      rw [if_pos rfl, if_pos rfl, if_pos rfl, if_pos rfl, hst]
      refine ⟨rfl, rfl, rfl, hsv, by rw [hln], fun k hk => ?_⟩
      rw [if_pos ⟨by omega, by omega⟩, if_pos ⟨by omega, by omega⟩, show 0 + (8 * u + k - 8 * u) = k by omega]
      exact ⟨c1 k hk, c2 k hk⟩
    · obtain ⟨a1, a2, a3, a4, a5, a6⟩ := hR u (by omega)
      rw [if_neg hut, if_neg hut, if_neg hut, if_neg hut]
      refine ⟨a1, a2, a3, a4, a5, fun k hk => ?_⟩
      rw [if_neg (by omega), if_neg (by omega)]
      exact a6 k hk
  · intro i hi
    rw [sa_n _ _ (by omega), sa_n _ _ (by omega), sa_n _ _ (by omega), sa_n _ _ (by omega), sa_n _ _ (by omega), sa_n _ _ (by omega)]
