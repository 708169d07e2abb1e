set_option maxRecDepth 10000 in
set_option maxHeartbeats 20000000 in
theorem law_step {n L i m : Nat} {xs : Nat → Int32} {h : AH} {S : ST} (hn : 600 < n) (hi : i + 6 ≤ L) (hL : L ≤ 3072) (hc : CR h S) (hm : MT h S) : ∃ h2 S', L_L_law_18 n L xs (m + 1) (nI i) h = L_L_law_18 n L xs m (nI (i + 6)) h2 ∧ CR h2 S' ∧ MT h2 S' := by
  have e0 : ¬ (Int32.ofNat L - 6 : Int32) < nI i := by
    rw [show Int32.ofNat L = nI L from rfl, show (6 : Int32) = nI 6 from rfl, nI_sub (by omega)]
    exact nI_nlt (by omega) (by omega)
  have e1 : nI i + 1 = nI (i + 1) := nI_add i 1
  have e2 : nI i + 2 = nI (i + 2) := nI_add i 2
  have e3 : nI i + 3 = nI (i + 3) := nI_add i 3
  have e4 : nI i + 4 = nI (i + 4) := nI_add i 4
  have e5 : nI i + 5 = nI (i + 5) := nI_add i 5
  have e6 : nI i + 6 = nI (i + 6) := nI_add i 6
  have k0 : (nI i).toNatClampNeg = i := nK (by omega)
  have k1 : (nI (i + 1)).toNatClampNeg = i + 1 := nK (by omega)
  have k2 : (nI (i + 2)).toNatClampNeg = i + 2 := nK (by omega)
  have k3 : (nI (i + 3)).toNatClampNeg = i + 3 := nK (by omega)
  have k4 : (nI (i + 4)).toNatClampNeg = i + 4 := nK (by omega)
  have k5 : (nI (i + 5)).toNatClampNeg = i + 5 := nK (by omega)
  have j0 : am_in (nI i) L = true := am_inK (by omega) (by omega)
  have j1 : am_in (nI (i + 1)) L = true := am_inK (by omega) (by omega)
  have j2 : am_in (nI (i + 2)) L = true := am_inK (by omega) (by omega)
  have j3 : am_in (nI (i + 3)) L = true := am_inK (by omega) (by omega)
  have j4 : am_in (nI (i + 4)) L = true := am_inK (by omega) (by omega)
  have j5 : am_in (nI (i + 5)) L = true := am_inK (by omega) (by omega)
  rw [L_L_law_18, if_neg e0, e1, e2, e3, e4, e5, e6, k0, k1, k2, k3, k4, k5, j0, j1, j2, j3, j4, j5, cond_true]
  by_cases c0 : xs i &&& 63 = 0
  · rw [if_pos c0]
    obtain ⟨r, h1, h2, S', p1, p2, p3, p4⟩ := st_type hn (xs (i + 1)) (xs (i + 2)) hc hm
    refine ⟨h2, S', ?_, p3, p4⟩
    rw [p1]
    show (am_b (M_X9_type (xs (i + 1)) (xs (i + 2)) h1) fun v h3 => if r = v then L_L_law_18 n L xs m (nI (i + 6)) h3 else some (0, h3)) = _
    rw [p2]
    exact if_pos rfl
  rw [if_neg c0]
  by_cases c1 : xs i &&& 63 = 1
  · rw [if_pos c1]
    obtain ⟨r, h1, h2, S', p1, p2, p3, p4⟩ := st_wipe hn (xs (i + 1)) hc hm
    refine ⟨h2, S', ?_, p3, p4⟩
    rw [p1]
    show (am_b (M_X9_wipe (xs (i + 1)) h1) fun v h3 => if r = v then L_L_law_18 n L xs m (nI (i + 6)) h3 else some (0, h3)) = _
    rw [p2]
    exact if_pos rfl
  rw [if_neg c1]
  by_cases c2 : xs i &&& 63 = 2
  · rw [if_pos c2]
    obtain ⟨r, h1, h2, S', p1, p2, p3, p4⟩ := st_undo hn (xs (i + 1)) hc hm
    refine ⟨h2, S', ?_, p3, p4⟩
    rw [p1]
    show (am_b (M_X9_undo (xs (i + 1)) h1) fun v h3 => if r = v then L_L_law_18 n L xs m (nI (i + 6)) h3 else some (0, h3)) = _
    rw [p2]
    exact if_pos rfl
  rw [if_neg c2]
  by_cases c3 : xs i &&& 63 = 3
  · rw [if_pos c3]
    obtain ⟨h2, S', p2, p3, p4⟩ := st_fault hn (xs (i + 1)) hc hm
    refine ⟨h2, S', ?_, p3, p4⟩
    show (am_b (M_X9_fault n (xs (i + 1)) h) fun v h3 => if (M_X8_fault (xs (i + 1)) h) = v then L_L_law_18 n L xs m (nI (i + 6)) h3 else some (0, h3)) = _
    rw [p2]
    exact if_pos rfl
  rw [if_neg c3]
  by_cases c4 : xs i &&& 63 = 4
  · rw [if_pos c4]
    obtain ⟨r, h2, S', p1, p2, p3, p4⟩ := st_piece hn (xs (i + 1)) (xs (i + 2)) hc hm
    refine ⟨h2, S', ?_, p3, p4⟩
    rw [p1]
    show (am_b (M_X9_piece n (xs (i + 1)) (xs (i + 2)) h) fun v h3 => if r = v then L_L_law_18 n L xs m (nI (i + 6)) h3 else some (0, h3)) = _
    rw [p2]
    exact if_pos rfl
  rw [if_neg c4]
  by_cases c5 : xs i &&& 63 = 5
  · rw [if_pos c5]
    obtain ⟨r, h2, S', p1, p2, p3, p4⟩ := st_guest hn (xs (i + 1)) (xs (i + 2)) hc hm
    refine ⟨h2, S', ?_, p3, p4⟩
    rw [p1]
    show (am_b (M_X9_guest n (xs (i + 1)) (xs (i + 2)) h) fun v h3 => if r = v then L_L_law_18 n L xs m (nI (i + 6)) h3 else some (0, h3)) = _
    rw [p2]
    exact if_pos rfl
  rw [if_neg c5]
  by_cases c6 : xs i &&& 63 = 6
  · rw [if_pos c6]
    obtain ⟨r, h1, h2, S', p1, p2, p3, p4⟩ := st_set hn (xs (i + 1)) (xs (i + 2)) hc hm
    refine ⟨h2, S', ?_, p3, p4⟩
    rw [p1]
    show (am_b (M_X9_set (xs (i + 1)) (xs (i + 2)) h1) fun v h3 => if r = v then L_L_law_18 n L xs m (nI (i + 6)) h3 else some (0, h3)) = _
    rw [p2]
    exact if_pos rfl
  rw [if_neg c6]
  by_cases c7 : xs i &&& 63 = 7
  · rw [if_pos c7]
    obtain ⟨r, h1, h2, S', p1, p2, p3, p4⟩ := st_event hn (xs (i + 1)) (xs (i + 2)) (xs (i + 3)) hc hm
    refine ⟨h2, S', ?_, p3, p4⟩
    rw [p1]
    show (am_b (M_X9_event (xs (i + 1)) (xs (i + 2)) (xs (i + 3)) h1) fun v h3 => if r = v then L_L_law_18 n L xs m (nI (i + 6)) h3 else some (0, h3)) = _
    rw [p2]
    exact if_pos rfl
  rw [if_neg c7]
  by_cases c8 : xs i &&& 63 = 8
  · rw [if_pos c8]
    obtain ⟨r, h1, h2, S', p1, p2, p3, p4⟩ := st_back hn hc hm
    refine ⟨h2, S', ?_, p3, p4⟩
    rw [p1]
    show (am_b (M_X9_back h1) fun v h3 => if r = v then L_L_law_18 n L xs m (nI (i + 6)) h3 else some (0, h3)) = _
    rw [p2]
    exact if_pos rfl
  rw [if_neg c8]
  by_cases c9 : xs i &&& 63 = 9
  · rw [if_pos c9]
    obtain ⟨r, h1, h2, S', p1, p2, p3, p4⟩ := st_read hn (xs (i + 1)) hc hm
    refine ⟨h2, S', ?_, p3, p4⟩
    rw [p1]
    show (am_b (M_X9_read n (xs (i + 1)) h1) fun v h3 => if r = v then L_L_law_18 n L xs m (nI (i + 6)) h3 else some (0, h3)) = _
    rw [p2]
    exact if_pos rfl
  rw [if_neg c9]
  by_cases c10 : xs i &&& 63 = 10
  · rw [if_pos c10]
    obtain ⟨r, h1, h2, S', p1, p2, p3, p4⟩ := st_at hn (xs (i + 1)) (xs (i + 2)) hc hm
    refine ⟨h2, S', ?_, p3, p4⟩
    rw [p1]
    show (am_b (M_X9_at n (xs (i + 1)) (xs (i + 2)) h1) fun v h3 => if r = v then L_L_law_18 n L xs m (nI (i + 6)) h3 else some (0, h3)) = _
    rw [p2]
    exact if_pos rfl
  rw [if_neg c10]
  by_cases c11 : xs i &&& 63 = 11
  · rw [if_pos c11]
    obtain ⟨r, h1, h2, S', p1, p2, p3, p4⟩ := st_is hn (xs (i + 1)) (xs (i + 2)) (xs (i + 3)) hc hm
    refine ⟨h2, S', ?_, p3, p4⟩
    rw [p1]
    show (am_b (M_X9_is n (xs (i + 1)) (xs (i + 2)) (xs (i + 3)) h1) fun v h3 => if r = v then L_L_law_18 n L xs m (nI (i + 6)) h3 else some (0, h3)) = _
    rw [p2]
    exact if_pos rfl
  rw [if_neg c11]
  by_cases c12 : xs i &&& 63 = 12
  · rw [if_pos c12]
    obtain ⟨r, h1, h2, S', p1, p2, p3, p4⟩ := st_line hn (xs (i + 1)) hc hm
    refine ⟨h2, S', ?_, p3, p4⟩
    rw [p1]
    show (am_b (M_X9_line n (xs (i + 1)) h1) fun v h3 => if r = v then L_L_law_18 n L xs m (nI (i + 6)) h3 else some (0, h3)) = _
    rw [p2]
    exact if_pos rfl
  rw [if_neg c12]
  by_cases c13 : xs i &&& 63 = 13
  · rw [if_pos c13]
    obtain ⟨r, h1, h2, S', p1, p2, p3, p4⟩ := st_sum hn (xs (i + 1)) hc hm
    refine ⟨h2, S', ?_, p3, p4⟩
    rw [p1]
    show (am_b (M_X9_sum n (xs (i + 1)) h1) fun v h3 => if r = v then L_L_law_18 n L xs m (nI (i + 6)) h3 else some (0, h3)) = _
    rw [p2]
    exact if_pos rfl
  rw [if_neg c13]
  by_cases c14 : xs i &&& 63 = 14
  · rw [if_pos c14]
    obtain ⟨r, h1, h2, S', p1, p2, p3, p4⟩ := st_first hn hc hm
    refine ⟨h2, S', ?_, p3, p4⟩
    rw [p1]
    show (am_b (M_X9_first n h1) fun v h3 => if r = v then L_L_law_18 n L xs m (nI (i + 6)) h3 else some (0, h3)) = _
    rw [p2]
    exact if_pos rfl
  rw [if_neg c14]
  by_cases c15 : xs i &&& 63 = 15
  · rw [if_pos c15]
    obtain ⟨r, h1, h2, S', p1, p2, p3, p4⟩ := st_hottest hn (xs (i + 1)) hc hm
    refine ⟨h2, S', ?_, p3, p4⟩
    rw [p1]
    show (am_b (M_X9_hottest n (xs (i + 1)) h1) fun v h3 => if r = v then L_L_law_18 n L xs m (nI (i + 6)) h3 else some (0, h3)) = _
    rw [p2]
    exact if_pos rfl
  rw [if_neg c15]
  by_cases c16 : xs i &&& 63 = 16
  · rw [if_pos c16]
    obtain ⟨r, h1, h2, S', p1, p2, p3, p4⟩ := st_waited hn (xs (i + 1)) hc hm
    refine ⟨h2, S', ?_, p3, p4⟩
    rw [p1]
    show (am_b (M_X9_waited n (xs (i + 1)) h1) fun v h3 => if r = v then L_L_law_18 n L xs m (nI (i + 6)) h3 else some (0, h3)) = _
    rw [p2]
    exact if_pos rfl
  rw [if_neg c16]
  by_cases c17 : xs i &&& 63 = 17
  · rw [if_pos c17]
    obtain ⟨r, h1, h2, S', p1, p2, p3, p4⟩ := st_thirst hn hc hm
    refine ⟨h2, S', ?_, p3, p4⟩
    rw [p1]
    show (am_b (M_X9_thirst n h1) fun v h3 => if r = v then L_L_law_18 n L xs m (nI (i + 6)) h3 else some (0, h3)) = _
    rw [p2]
    exact if_pos rfl
  rw [if_neg c17]
  by_cases c18 : xs i &&& 63 = 18
  · rw [if_pos c18]
    obtain ⟨r, h1, h2, S', p1, p2, p3, p4⟩ := st_better hn (xs (i + 1)) (xs (i + 2)) hc hm
    refine ⟨h2, S', ?_, p3, p4⟩
    rw [p1]
    show (am_b (M_X9_better n (xs (i + 1)) (xs (i + 2)) h1) fun v h3 => if r = v then L_L_law_18 n L xs m (nI (i + 6)) h3 else some (0, h3)) = _
    rw [p2]
    exact if_pos rfl
  rw [if_neg c18]
  by_cases c19 : xs i &&& 63 = 19
  · rw [if_pos c19]
    obtain ⟨r, h1, h2, S', p1, p2, p3, p4⟩ := st_fill hn (xs (i + 1)) hc hm
    refine ⟨h2, S', ?_, p3, p4⟩
    rw [p1]
    show (am_b (M_X9_fill n (xs (i + 1)) h1) fun v h3 => if r = v then L_L_law_18 n L xs m (nI (i + 6)) h3 else some (0, h3)) = _
    rw [p2]
    exact if_pos rfl
  rw [if_neg c19]
  by_cases c20 : xs i &&& 63 = 20
  · rw [if_pos c20]
    obtain ⟨r, h1, h2, S', p1, p2, p3, p4⟩ := st_come hn (xs (i + 1)) (xs (i + 2)) hc hm
    refine ⟨h2, S', ?_, p3, p4⟩
    rw [p1]
    show (am_b (M_X9_come n (xs (i + 1)) (xs (i + 2)) h1) fun v h3 => if r = v then L_L_law_18 n L xs m (nI (i + 6)) h3 else some (0, h3)) = _
    rw [p2]
    exact if_pos rfl
  rw [if_neg c20]
  by_cases c21 : xs i &&& 63 = 21
  · rw [if_pos c21]
    obtain ⟨r, h1, h2, S', p1, p2, p3, p4⟩ := st_spare hn (xs (i + 1)) hc hm
    refine ⟨h2, S', ?_, p3, p4⟩
    rw [p1]
    show (am_b (M_X9_spare n (xs (i + 1)) h1) fun v h3 => if r = v then L_L_law_18 n L xs m (nI (i + 6)) h3 else some (0, h3)) = _
    rw [p2]
    exact if_pos rfl
  rw [if_neg c21]
  by_cases c22 : xs i &&& 63 = 22
  · rw [if_pos c22]
    obtain ⟨r, h1, h2, S', p1, p2, p3, p4⟩ := st_seen hn (xs (i + 1)) (xs (i + 2)) hc hm
    refine ⟨h2, S', ?_, p3, p4⟩
    rw [p1]
    show (am_b (M_X9_seen (xs (i + 1)) (xs (i + 2)) h1) fun v h3 => if r = v then L_L_law_18 n L xs m (nI (i + 6)) h3 else some (0, h3)) = _
    rw [p2]
    exact if_pos rfl
  rw [if_neg c22]
  by_cases c23 : xs i &&& 63 = 23
  · rw [if_pos c23]
    obtain ⟨r, h1, h2, S', p1, p2, p3, p4⟩ := st_forget hn hc hm
    refine ⟨h2, S', ?_, p3, p4⟩
    rw [p1]
    show (am_b (M_X9_forget h1) fun v h3 => if r = v then L_L_law_18 n L xs m (nI (i + 6)) h3 else some (0, h3)) = _
    rw [p2]
    exact if_pos rfl
  rw [if_neg c23]
  by_cases c24 : xs i &&& 63 = 24
  · rw [if_pos c24]
    obtain ⟨r, h1, h2, S', p1, p2, p3, p4⟩ := st_never hn hc hm
    refine ⟨h2, S', ?_, p3, p4⟩
    rw [p1]
    show (am_b (M_X9_never n h1) fun v h3 => if r = v then L_L_law_18 n L xs m (nI (i + 6)) h3 else some (0, h3)) = _
    rw [p2]
    exact if_pos rfl
  rw [if_neg c24]
  by_cases c25 : xs i &&& 63 = 25
  · rw [if_pos c25]
    obtain ⟨r, h1, h2, S', p1, p2, p3, p4⟩ := st_waters hn hc hm
    refine ⟨h2, S', ?_, p3, p4⟩
    rw [p1]
    show (am_b (M_X9_waters n h1) fun v h3 => if r = v then L_L_law_18 n L xs m (nI (i + 6)) h3 else some (0, h3)) = _
    rw [p2]
    exact if_pos rfl
  rw [if_neg c25]
  by_cases c26 : xs i &&& 63 = 26
  · rw [if_pos c26]
    obtain ⟨r, h1, h2, S', p1, p2, p3, p4⟩ := st_kind hn (xs (i + 1)) hc hm
    refine ⟨h2, S', ?_, p3, p4⟩
    rw [p1]
    show (am_b (M_X9_kind n (xs (i + 1)) h1) fun v h3 => if r = v then L_L_law_18 n L xs m (nI (i + 6)) h3 else some (0, h3)) = _
    rw [p2]
    exact if_pos rfl
  rw [if_neg c26]
  by_cases c27 : xs i &&& 63 = 27
  · rw [if_pos c27]
    obtain ⟨r, h1, h2, S', p1, p2, p3, p4⟩ := st_ask hn hc hm
    refine ⟨h2, S', ?_, p3, p4⟩
    rw [p1]
    show (am_b (M_X9_ask n h1) fun v h3 => if r = v then L_L_law_18 n L xs m (nI (i + 6)) h3 else some (0, h3)) = _
    rw [p2]
    exact if_pos rfl
  rw [if_neg c27]
  by_cases c28 : xs i &&& 63 = 28
  · rw [if_pos c28]
    obtain ⟨r, h1, h2, S', p1, p2, p3, p4⟩ := st_chance hn (xs (i + 1)) (xs (i + 2)) (xs (i + 3)) hc hm
    refine ⟨h2, S', ?_, p3, p4⟩
    rw [p1]
    show (am_b (M_X9_chance n (xs (i + 1)) (xs (i + 2)) (xs (i + 3)) h1) fun v h3 => if lg_cmp r v = 0 then L_L_law_18 n L xs m (nI (i + 6)) h3 else some (0, h3)) = _
    rw [p2]
    exact if_pos (lgE rfl)
  rw [if_neg c28]
  by_cases c29 : xs i &&& 63 = 29
  · rw [if_pos c29]
    obtain ⟨r, h1, h2, S', p1, p2, p3, p4⟩ := st_evenings hn (xs (i + 1)) (xs (i + 2)) (xs (i + 3)) hc hm
    refine ⟨h2, S', ?_, p3, p4⟩
    rw [p1]
    show (am_b (M_X9_evenings n (xs (i + 1)) (xs (i + 2)) (xs (i + 3)) h1) fun v h3 => if r = v then L_L_law_18 n L xs m (nI (i + 6)) h3 else some (0, h3)) = _
    rw [p2]
    exact if_pos rfl
  rw [if_neg c29]
  by_cases c30 : xs i &&& 63 = 30
  · rw [if_pos c30]
    obtain ⟨r, h1, h2, S', p1, p2, p3, p4⟩ := st_sheet hn (xs (i + 1)) (xs (i + 2)) (xs (i + 3)) hc hm
    refine ⟨h2, S', ?_, p3, p4⟩
    rw [p1]
    show (am_b (M_X9_sheet n (xs (i + 1)) (xs (i + 2)) (xs (i + 3)) h1) fun v h3 => if r = v then L_L_law_18 n L xs m (nI (i + 6)) h3 else some (0, h3)) = _
    rw [p2]
    exact if_pos rfl
  rw [if_neg c30]
  by_cases c31 : xs i &&& 63 = 31
  · rw [if_pos c31]
    obtain ⟨r, h1, h2, S', p1, p2, p3, p4⟩ := st_lose hn (xs (i + 1)) hc hm
    refine ⟨h2, S', ?_, p3, p4⟩
    rw [p1]
    show (am_b (M_X9_lose (xs (i + 1)) h1) fun v h3 => if r = v then L_L_law_18 n L xs m (nI (i + 6)) h3 else some (0, h3)) = _
    rw [p2]
    exact if_pos rfl
  rw [if_neg c31]
  by_cases c32 : xs i &&& 63 = 32
  · rw [if_pos c32]
    obtain ⟨r, h1, h2, S', p1, p2, p3, p4⟩ := st_put hn (xs (i + 1)) (xs (i + 2)) (xs (i + 3)) (xs (i + 4)) hc hm
    refine ⟨h2, S', ?_, p3, p4⟩
    rw [p1]
    show (am_b (M_X9_put (xs (i + 1)) (xs (i + 2)) (xs (i + 3)) (xs (i + 4)) h1) fun v h3 => if r = v then L_L_law_18 n L xs m (nI (i + 6)) h3 else some (0, h3)) = _
    rw [p2]
    exact if_pos rfl
  rw [if_neg c32]
  by_cases c33 : xs i &&& 63 = 33
  · rw [if_pos c33]
    obtain ⟨r, h1, h2, S', p1, p2, p3, p4⟩ := st_get hn (xs (i + 1)) (xs (i + 2)) (xs (i + 3)) hc hm
    refine ⟨h2, S', ?_, p3, p4⟩
    rw [p1]
    show (am_b (M_X9_get (xs (i + 1)) (xs (i + 2)) (xs (i + 3)) h1) fun v h3 => if r = v then L_L_law_18 n L xs m (nI (i + 6)) h3 else some (0, h3)) = _
    rw [p2]
    exact if_pos rfl
  rw [if_neg c33]
  by_cases c34 : xs i &&& 63 = 34
  · rw [if_pos c34]
    obtain ⟨r, h1, h2, S', p1, p2, p3, p4⟩ := st_copy hn (xs (i + 1)) (xs (i + 2)) (xs (i + 3)) (xs (i + 4)) (xs (i + 5)) hc hm
    refine ⟨h2, S', ?_, p3, p4⟩
    rw [p1]
    show (am_b (M_X9_copy n (xs (i + 1)) (xs (i + 2)) (xs (i + 3)) (xs (i + 4)) (xs (i + 5)) h1) fun v h3 => if r = v then L_L_law_18 n L xs m (nI (i + 6)) h3 else some (0, h3)) = _
    rw [p2]
    exact if_pos rfl
  rw [if_neg c34]
  by_cases c35 : xs i &&& 63 = 35
  · rw [if_pos c35]
    obtain ⟨r, h1, h2, S', p1, p2, p3, p4⟩ := st_write hn (xs (i + 1)) (xs (i + 2)) hc hm
    refine ⟨h2, S', ?_, p3, p4⟩
    rw [p1]
    show (am_b (M_X9_write n (xs (i + 1)) (xs (i + 2)) h1) fun v h3 => if r = v then L_L_law_18 n L xs m (nI (i + 6)) h3 else some (0, h3)) = _
    rw [p2]
    exact if_pos rfl
  rw [if_neg c35]
  by_cases c36 : xs i &&& 63 = 36
  · rw [if_pos c36]
    obtain ⟨r, h1, h2, S', p1, p2, p3, p4⟩ := st_count hn (xs (i + 1)) hc hm
    refine ⟨h2, S', ?_, p3, p4⟩
    rw [p1]
    show (am_b (M_X9_count n (xs (i + 1)) h1) fun v h3 => if r = v then L_L_law_18 n L xs m (nI (i + 6)) h3 else some (0, h3)) = _
    rw [p2]
    exact if_pos rfl
  rw [if_neg c36]
  by_cases c37 : xs i &&& 63 = 37
  · rw [if_pos c37]
    obtain ⟨r, h1, h2, S', p1, p2, p3, p4⟩ := st_digest hn hc hm
    refine ⟨h2, S', ?_, p3, p4⟩
    rw [p1]
    show (am_b (M_X9_digest n h1) fun v h3 => if lg_cmp r v = 0 then L_L_law_18 n L xs m (nI (i + 6)) h3 else some (0, h3)) = _
    rw [p2]
    exact if_pos (lgE rfl)
  rw [if_neg c37]
  exact ⟨h, S, rfl, hc, hm⟩
theorem law_loop {n L : Nat} {xs : Nat → Int32} (hn : 600 < n) (hL : L ≤ 3072) : ∀ (d i m : Nat) (h : AH) (S : ST), L < i + 6 * d + 6 → i ≤ 4000 → d < m → CR h S → MT h S → ∃ h', L_L_law_18 n L xs m (nI i) h = some (1, h') := by
  intro d
  have fin : ∀ (i m : Nat) (h : AH), L < i + 6 → i ≤ 4000 → L_L_law_18 n L xs (m + 1) (nI i) h = some (1, h) := by
    intro i m h hi hi2
    rw [L_L_law_18, if_pos]
    rw [show Int32.ofNat L = nI L from rfl, show (6 : Int32) = nI 6 from rfl, zI_n L, zI_n 6, zI_sub, zI_n i, zI_lt (by omega) (by omega) (by omega) (by omega)]
    omega
  induction d with
  | zero =>
    intro i m h S hi hi2 hm hc hmt
    obtain ⟨m, rfl⟩ : ∃ q, m = q + 1 := ⟨m - 1, by omega⟩
    exact ⟨h, fin i m h (by omega) hi2⟩
  | succ d ih =>
    intro i m h S hi hi2 hm hc hmt
    obtain ⟨m, rfl⟩ : ∃ q, m = q + 1 := ⟨m - 1, by omega⟩
    by_cases q : L < i + 6
    · exact ⟨h, fin i m h q hi2⟩
    · obtain ⟨h2, S', a1, a2, a3⟩ := law_step (n := n) (L := L) (i := i) (m := m) (xs := xs) hn (by omega) hL hc hmt
      rw [a1]
      exact ih (i + 6) m h2 S' (by omega) (by omega) (by omega) a2 a3
def S0 : ST := (([], []), (16, 16), [], [], (fun _ => (true, 0, 0, fun _ => 0)), 0)
theorem h0C : h0.1 1 4 = 0 ∧ h0.1 1 3 = 3 ∧ h0.1 2 3 = 0 ∧ h0.1 1 5 = -1 ∧ h0.1 7 4 = 0 ∧ h0.1 7 3 = 4 ∧ h0.1 8 3 = 0 ∧ h0.1 7 5 = -1 ∧ h0.1 13 3 = 0 ∧ h0.1 17 3 = 0 ∧ h0.1 21 3 = 16 ∧ h0.1 21 4 = 16 ∧ h0.1 21 5 = 0 ∧ h0.1 0 12 = 0 ∧ h0.1 0 11 = 0 ∧ h0.1 37 4 = 1 := by decide +kernel
theorem h0S : ∀ s : Fin 4, h0.1 (67 + 2 * s.val) 1 = 1 ∧ h0.1 (67 + 2 * s.val) 2 = 0 ∧ h0.1 (67 + 2 * s.val) 3 = 0 := by decide +kernel
theorem h0M : h0.1 75 12 = 0 ∧ h0.1 75 10 = 16 ∧ h0.1 75 11 = 16 ∧ h0.1 75 43 = 0 ∧ h0.1 75 52 = 0 := by decide +kernel
theorem S0_ok : okST S0 := ⟨⟨Nat.zero_le _, fun b hb => by cases hb⟩, ⟨Nat.zero_le _, fun b hb => by cases hb⟩, by decide, by decide, ⟨Nat.zero_le _, fun b hb => by cases hb⟩, ⟨Nat.zero_le _, fun b hb => by cases hb⟩, fun s _ => ⟨(by show 0 < 3; omega), (by show 0 ≤ 60; omega)⟩⟩
theorem CR0 : CR h0 S0 := by
  obtain ⟨a1, a2, a3, a4, b1, b2, b3, b4, c1, c2, d1, d2, d3, e1, e2, e3⟩ := h0C
  refine ⟨S0_ok, ⟨⟨⟨a1, fun j hj => absurd hj (Nat.not_lt_zero j), a2⟩, ⟨a3, fun j x hx => by cases hx⟩, a4⟩, ⟨⟨b1, fun j hj => absurd hj (Nat.not_lt_zero j), b2⟩, ⟨b3, fun j x hx => by cases hx⟩, b4⟩, ⟨c1, fun j x hx => by cases hx⟩, ⟨c2, fun j x hx => by cases hx⟩, ⟨d1, d2, d3⟩, fun s hs => ?_, e1⟩, Or.inl e2, Or.inl ⟨e3, fun t _ => rfl⟩⟩
  have := h0S ⟨s, hs⟩
  exact ⟨this.1, this.2.1, this.2.2, fun j _ => rfl⟩
theorem MT0 : MT h0 S0 := by
  obtain ⟨a1, a2, a3, a4, a5⟩ := h0M
  exact ⟨⟨rfl, fun j hj => absurd hj (Nat.not_lt_zero j)⟩, ⟨rfl, fun j hj => absurd hj (Nat.not_lt_zero j)⟩, ⟨a1, fun j x hx => by cases hx⟩, ⟨a2, a3⟩, ⟨a4, fun j x hx => by cases hx⟩, fun s hs => ⟨rfl, rfl, rfl, fun j _ => rfl⟩, a5⟩
theorem whole_pure (L : Nat) (xs : Nat → Int32) (hL : L ≤ 3072) : ∃ h', Ev (some (L, xs)) mr_L_law (16, bm_lv, [], h0) (some (.int 1)) h' := by
  obtain ⟨h', e⟩ := law_loop (n := 1000) (L := L) (xs := xs) (by omega) hL 512 0 1000 h0 S0 (by omega) (by omega) (by omega) CR0 MT0
  exact ⟨h', E_L_law 1000 L xs h0 1 h' e⟩
