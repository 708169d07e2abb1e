set_option maxHeartbeats 8000000 in
/-- from the water's boiling on -/
theorem m_b160 {n t : Nat} {P : PL} {h : AH} {y : Int32} (hp : okP P) (ht : t < 24) (hn : 24 < n) (hg : gsM h P.2.1) (hc : mcm h (stt P t).2.2.2.2) (e22 : h.1 75 22 = nI (mn_h P t (stt P t))) (e23 : h.1 75 23 = nI (mn_w P t (stt P t))) (e24 : h.1 75 24 = nI (mn_k P t (stt P t)).2.2.1) (e26 : h.1 75 26 = nI (mn P t (stt P t)).2.2.2.1) (e27 : h.1 75 27 = nI (cN (fun u => mn_b P u (stt P u)) (t + 1))) (hy : y = svI (sp_first (fun u => mn_b P u (stt P u)) (t + 1))) (hT : mevT h P t) (hG : mevG h P t) (hW : mevW h P t) :
    ∃ h', B_X9_goesBy_160 n (nI t) (nI (mn_f P t (stt P t))) (bI (mn_b P t (stt P t))) y h = some h' ∧ mevI h' P (t + 1) ∧ fr_R h h' := by
  have hok := stt_ok hp t (by omega)
  have hkk := mn_kok hok
  have h8 := hp.2.1.1
  unfold B_X9_goesBy_160 M_X9_comes
  have hz : ∀ (j : Nat) (x : T3), 0 ≤ j → P.2.1[j]? = some x → x.1 = t → (stt P t).2.2.2.2.2.1 j = 0 := fun j x _ hx hxt => (hok.2.2.2.2.2.2.1 j x hx).1 (by omega)
  have hg1 : gsM (am_sf h 75 28 y) P.2.1 := ⟨by rw [sf_k _ _ (by omega)]; exact hg.1, hg.2⟩
  obtain ⟨h1, a1, a2, a3⟩ := m_come1 (n := n) hp.2.1 ht (by omega) P.2.1.length 0 n (am_sf h 75 28 y) (stt P t).2.2.2.2 (by omega) (by omega) hg1 (hc.cg (by rw [sf_k _ _ (by omega)]) (fun _ _ _ => rfl)) hz
  rw [List.drop_zero] at a2
  have a2 : mcm h1 (mn_l P t (stt P t)) := a2
  have a1 : L_X9_comes_2 n n (nI t) 0 (am_sf h 75 28 y) = some h1 := a1
  rw [a1]
  have q23 : h1.1 75 23 = nI (mn_w P t (stt P t)) := by rw [a3.1 _ _ (by omega), sf_k _ _ (by omega)]; exact e23
  have q24 : h1.1 75 24 = nI (mn_k P t (stt P t)).2.2.1 := by rw [a3.1 _ _ (by omega), sf_k _ _ (by omega)]; exact e24
  have hmb : decide (80 ≤ mn_h P t (stt P t) ∧ 0 < mn_w P t (stt P t)) = mn_b P t (stt P t) := rfl
  have hsv : ∃ h2, (if bI (mn_b P t (stt P t)) = 0 then B_X9_goesBy_181 n (nI t) (nI (mn_f P t (stt P t))) (bI (mn_b P t (stt P t))) (-1) h1 else am_b (M_X9_serves n (nI t) h1) fun v3 h2 => B_X9_goesBy_181 n (nI t) (nI (mn_f P t (stt P t))) (bI (mn_b P t (stt P t))) v3 h2) = B_X9_goesBy_181 n (nI t) (nI (mn_f P t (stt P t))) (bI (mn_b P t (stt P t))) (svI (mn_v P t (stt P t)).1) h2 ∧ mcm h2 (mn_v P t (stt P t)).2.2.2 ∧ h2.1 75 24 = nI (mn_v P t (stt P t)).2.1 ∧ h2.1 75 23 = nI (mn_v P t (stt P t)).2.2.1 ∧ fr_v h1 h2 := by
    generalize hfv : mn_f P t (stt P t) = fv
    unfold mn_v
    cases hbb : mn_b P t (stt P t)
    · refine ⟨h1, ?_, a2, q24, q23, fun _ _ _ => rfl, fun _ _ => rfl, rfl⟩
      rw [if_pos (by decide)]
      rfl
    · have hpos := (of_decide_eq_true (hmb.trans hbb)).2
      obtain ⟨h2, s1, s2, s3, s4, s5⟩ := m_serves (n := n) (t := t) hp.2.1 ht (hg1.fr a3) q24 hkk.2.2 q23 hpos a2 (ok9.mnl hp ht hok.2.2.2.2) (by omega)
      refine ⟨h2, ?_, s2, s3, s4, s5⟩
      rw [if_neg (by decide), s1]
      rfl
  obtain ⟨h2, s1, s2, s3, s4, s5⟩ := hsv
  obtain ⟨h', b1, b2, b3, b4, b5, b6, b7, b8⟩ := m_b181 (n := n) (t := t) (P := P) (h := h2) hp ht hn (by rw [s5.1 _ _ (by omega), a3.1 _ _ (by omega), sf_k _ _ (by omega)]; exact hg.1) s2 (by rw [s5.1 _ _ (by omega), a3.1 _ _ (by omega), sf_k _ _ (by omega)]; exact e22) s4 s3
    (fun u hu => by rw [s5.2.1 _ (by omega), s5.2.1 _ (by omega), a3.2.1 _ (by omega), a3.2.1 _ (by omega)]; exact hT u hu)
    (fun u hu => by rw [s5.2.1 _ (by omega), s5.2.1 _ (by omega), a3.2.1 _ (by omega), a3.2.1 _ (by omega)]; exact hG u hu)
    (fun k hk => by rw [s5.2.1 _ (by omega), a3.2.1 _ (by omega)]; exact hW k hk)
  refine ⟨h', Eq.trans s1 b1, ⟨b2, b3, b4, ?_, ?_, ?_, ?_, ?_, ?_, b5⟩, ?_, ?_, ?_⟩
  · rw [b6 _ _ (by omega), s5.1 _ _ (by omega), a3.1 _ _ (by omega), sf_k _ _ (by omega)]
    exact e22
  · rw [b6 _ _ (by omega)]
    exact s4
  · rw [b6 _ _ (by omega)]
    exact s3
  · rw [b6 _ _ (by omega), s5.1 _ _ (by omega), a3.1 _ _ (by omega), sf_k _ _ (by omega)]
    exact e26
  · rw [b6 _ _ (by omega), s5.1 _ _ (by omega), a3.1 _ _ (by omega), sf_k _ _ (by omega)]
    exact e27
  · rw [b6 _ _ (by omega), s5.1 _ _ (by omega), a3.1 _ _ (by omega), sf_same]
    exact hy
  · intro i k z
    rw [b6 _ _ (by omega), s5.1 _ _ (by omega), a3.1 _ _ (by omega), sf_n (by omega)]
  · intro i z
    rw [b7 _ (by omega), s5.2.1 _ (by omega), a3.2.1 _ (by omega)]
    rfl
  · rw [b8, s5.2.2, a3.2.2]
    rfl
theorem svI_m1 {o : Option Nat} {t : Nat} (h : ∀ x, o = some x → x < t) (ht : t ≤ 24) : svI o = -1 ↔ o = none := by
  cases o with
  | none => exact ⟨fun _ => rfl, fun _ => rfl⟩
  | some x =>
    have := h x rfl
    refine ⟨fun z => ?_, fun z => by cases z⟩
    have z : nI x = -1 := z
    rw [lit_m1, zI_n, zI_eq (by omega) (by omega) (by omega) (by omega)] at z
    omega
set_option maxHeartbeats 8000000 in
theorem m_b99 {n t : Nat} {P : PL} {h : AH} (hp : okP P) (ht : t < 24) (hn : 24 < n) (hg : gsM h P.2.1) (hc : mcm h (stt P t).2.2.2.2) (e22 : h.1 75 22 = nI (mn_h P t (stt P t))) (e23 : h.1 75 23 = nI (mn_w P t (stt P t))) (e24 : h.1 75 24 = nI (mn_k P t (stt P t)).2.2.1) (e26 : h.1 75 26 = nI (mn P t (stt P t)).2.2.2.1) (e27 : h.1 75 27 = nI (cN (fun u => mn_b P u (stt P u)) t)) (e28 : h.1 75 28 = svI (sp_first (fun u => mn_b P u (stt P u)) t)) (hT : mevT h P t) (hG : mevG h P t) (hW : mevW h P t) :
    ∃ h', B_X9_goesBy_99 n (nI t) (nI (mn_f P t (stt P t))) h = some h' ∧ mevI h' P (t + 1) ∧ fr_R h h' := by
  have hok := stt_ok hp t (by omega)
  have hwl := mn_w_le hok
  have hhl : mn_h P t (stt P t) ≤ 100 := Nat.min_le_left _ _
  have e1 : B_X9_goesBy_99 n (nI t) (nI (mn_f P t (stt P t))) h = B_X9_goesBy_120 n (nI t) (nI (mn_f P t (stt P t))) (bI (mn_b P t (stt P t))) h := by
    unfold B_X9_goesBy_99 B_X9_goesBy_119 mn_b
    rw [e22, e23]
    by_cases c : 80 ≤ mn_h P t (stt P t)
    · rw [if_neg (by rw [show (80 : Int32) = nI 80 from rfl]; exact nI_nlt c (by omega))]
      by_cases cw : 0 < mn_w P t (stt P t)
      · rw [if_neg (by rw [show (0 : Int32) = nI 0 from rfl]; exact nI_ge (by omega) (by omega)), decide_eq_true (⟨c, cw⟩ : 80 ≤ mn_h P t (stt P t) ∧ 0 < mn_w P t (stt P t))]
        rfl
      · rw [if_pos (by rw [show (0 : Int32) = nI 0 from rfl]; exact nI_le (by omega) (by omega)), decide_eq_false (fun z : 80 ≤ mn_h P t (stt P t) ∧ 0 < mn_w P t (stt P t) => cw z.2)]
        rfl
    · rw [if_pos (by rw [show (80 : Int32) = nI 80 from rfl]; exact nI_lt (by omega) (by omega)), decide_eq_false (fun z : 80 ≤ mn_h P t (stt P t) ∧ 0 < mn_w P t (stt P t) => c z.1)]
      rfl
  rw [e1]
  have go : ∀ y : Int32, y = svI (sp_first (fun u => mn_b P u (stt P u)) (t + 1)) → ∃ h', B_X9_goesBy_160 n (nI t) (nI (mn_f P t (stt P t))) (bI (mn_b P t (stt P t))) y (am_sf h 75 27 (nI (cN (fun u => mn_b P u (stt P u)) (t + 1)))) = some h' ∧ mevI h' P (t + 1) ∧ fr_R h h' := by
    intro y hy
    obtain ⟨h', z1, z2, z3⟩ := m_b160 (n := n) (t := t) (P := P) (h := am_sf h 75 27 (nI (cN (fun u => mn_b P u (stt P u)) (t + 1)))) hp ht hn ⟨by rw [sf_k _ _ (by omega)]; exact hg.1, hg.2⟩ (hc.cg (by rw [sf_k _ _ (by omega)]) (fun _ _ _ => rfl)) (by rw [sf_k _ _ (by omega)]; exact e22) (by rw [sf_k _ _ (by omega)]; exact e23) (by rw [sf_k _ _ (by omega)]; exact e24) (by rw [sf_k _ _ (by omega)]; exact e26) (by rw [sf_same]) hy hT hG hW
    have fr0 : fr_R h (am_sf h 75 27 (nI (cN (fun u => mn_b P u (stt P u)) (t + 1)))) := ⟨fun i k z => sf_n (by omega), fun _ _ => rfl, rfl⟩
    exact ⟨h', z1, z2, fr0.tr z3⟩
  unfold B_X9_goesBy_120 B_X9_goesBy_135 B_X9_goesBy_156
  rw [e27, e28]
  have hfl := sp_first_lt (f := fun u => mn_b P u (stt P u)) t
  cases hbb : mn_b P t (stt P t)
  · rw [hbb] at go
    have e27 : nI (cN (fun u => mn_b P u (stt P u)) t) + 0 = nI (cN (fun u => mn_b P u (stt P u)) (t + 1)) := by
      rw [cN, if_neg (by rw [hbb]; decide), Nat.add_zero, Int32.add_zero]
    rw [if_pos (by decide), if_pos (by decide), e27, sf_k _ _ (by omega), e28]
    apply go
    rw [sp_first]
    cases hf : sp_first (fun u => mn_b P u (stt P u)) t with
    | some x => rfl
    | none =>
      show svI none = svI (if mn_b P t (stt P t) = true then some t else none)
      rw [hbb]
      rfl
  · rw [hbb] at go
    have e27 : nI (cN (fun u => mn_b P u (stt P u)) t) + 1 = nI (cN (fun u => mn_b P u (stt P u)) (t + 1)) := by
      rw [cN, if_pos hbb, nI_1]
    rw [if_neg (by decide), if_neg (by decide), e27, sf_k _ _ (by omega), e28]
    cases hf : sp_first (fun u => mn_b P u (stt P u)) t with
    | some x =>
      rw [hf] at hfl
      rw [if_neg (fun z => by have := (svI_m1 (t := t) (fun y hy => hfl y hy) (by omega)).mp z; cases this)]
      apply go
      rw [sp_first, hf]
    | none =>
      rw [if_pos (show svI none = -1 from rfl)]
      apply go
      rw [sp_first, hf]
      show nI t = svI (if mn_b P t (stt P t) = true then some t else none)
      rw [hbb]
      rfl
set_option maxHeartbeats 8000000 in
theorem m_goesBy {n t : Nat} {P : PL} {h : AH} (hp : okP P) (ht : t < 24) (hn : 24 < n) (hpl : mplan h P) (hI : mevI h P t) : ∃ h', M_X9_goesBy n (nI t) h = some h' ∧ mevI h' P (t + 1) ∧ fr_R h h' := by
  have hok := stt_ok hp t (by omega)
  have hkk := mn_kok hok
  have hfl := mn_f_le (P := P) (t := t) (s := stt P t) hp
  obtain ⟨i1, i2, i3, i4, i5, i6, i7, i8, i9, i10⟩ := hI
  unfold M_X9_goesBy M_X9_befalls
  obtain ⟨h1, a1, a2, a3, a4, a5, a6⟩ := m_befalls_loop (n := n) (t := t) (es := P.2.2.1) (sk := P.2.2.2.2.2) hp.2.2.1 ht P.2.2.1.length 0 n (am_sf h 75 25 0) ((stt P t).1, (stt P t).2.1, (stt P t).2.2.1, false) (by omega) (by have := hp.2.2.1.1; omega) ⟨by rw [sf_k _ _ (by omega)]; exact hpl.2.2.1.1, hpl.2.2.1.2⟩ (by rw [sf_k _ _ (by omega)]; exact hpl.2.2.2.2.2) (by rw [sf_k _ _ (by omega)]; exact i4) (by rw [sf_k _ _ (by omega)]; exact i5) (by rw [sf_k _ _ (by omega)]; exact i6) (by rw [sf_same]; rfl) ⟨hok.1, hok.2.1, hok.2.2.1⟩
  rw [List.drop_zero] at a2 a3 a4 a5
  have a1 : L_X9_befalls_7 n n (nI t) 0 (am_sf h 75 25 0) = some h1 := a1
  have a2 : h1.1 75 22 = nI (mn_k P t (stt P t)).1 := a2
  have a3 : h1.1 75 23 = nI (mn_k P t (stt P t)).2.1 := a3
  have a4 : h1.1 75 24 = nI (mn_k P t (stt P t)).2.2.1 := a4
  have a5 : h1.1 75 25 = bI (mn_k P t (stt P t)).2.2.2 := a5
  rw [a1]
  have fr1 : fr_R h h1 := ⟨fun i k z => by rw [a6.1 _ _ (by omega), sf_n (by omega)], fun i z => by rw [a6.2]; rfl, by rw [a6.2]; rfl⟩
  have hp1 := hpl.fr fr1
  have hfire := m_fireAt (n := n) (t := t) (fs := P.1) (h := h1) hp.1 hp1.1 a5 ht (by omega)
  have hfire : M_X9_fireAt n (nI t) h1 = some (nI (mn_f P t (stt P t))) := hfire
  show ∃ h', (am_o (M_X9_fireAt n (nI t) h1) fun v2 => _) = _ ∧ _
  rw [hfire]
  obtain ⟨z, hz⟩ : ∃ z : Int, z = (mn_k P t (stt P t)).1 + ((mn_f P t (stt P t) : Int) - 2 - ((mn_k P t (stt P t)).2.1 / 5 : Nat)) := ⟨_, rfl⟩
  have ez : h1.1 75 22 + ((nI (mn_f P t (stt P t)) - 2) - h1.1 75 23 / 5) = zI z := by
    rw [a2, a3, show (5 : Int32) = nI 5 from rfl, nI_div (by have := hkk.2.1; omega) (by omega), show (2 : Int32) = nI 2 from rfl, zI_n, zI_n, zI_n, zI_n, zI_sub, zI_sub, zI_add, hz]
    rfl
  have b1 := hkk.1
  have b2 := hkk.2.1
  have key : ∀ hx : AH, (∀ i k, ¬ (i = 75 ∧ k = 22) → hx.1 i k = h1.1 i k) → hx.2 = h1.2 → ∃ h', B_X9_goesBy_60 n (nI t) (nI (mn_f P t (stt P t))) (nI (mn_h P t (stt P t))) hx = some h' ∧ mevI h' P (t + 1) ∧ fr_R h h' := by
    intro hx x1 x2
    have go : ∀ hw : AH, hw.1 75 22 = nI (mn_h P t (stt P t)) → hw.1 75 23 = nI (mn_w P t (stt P t)) → hw.1 75 26 = nI (mn P t (stt P t)).2.2.2.1 → (∀ i k, ¬ (i = 75 ∧ (k = 22 ∨ k = 23 ∨ k = 26)) → hw.1 i k = h1.1 i k) → hw.2 = h1.2 → ∃ h', B_X9_goesBy_99 n (nI t) (nI (mn_f P t (stt P t))) hw = some h' ∧ mevI h' P (t + 1) ∧ fr_R h h' := by
      intro hw w1 w2 w3 w4 w5
      have frw : fr_R h hw := fr1.tr ⟨fun i k z => w4 _ _ (by omega), fun i _ => by rw [w5], by rw [w5]⟩
      obtain ⟨h', y1, y2, y3⟩ := m_b99 (n := n) (t := t) (P := P) (h := hw) hp ht hn (hpl.fr frw).2.1 (i10.cg (by rw [w4 _ _ (by omega), a6.1 _ _ (by omega), sf_k _ _ (by omega)]) (fun i _ _ => by rw [w5, a6.2]; rfl)) w1 w2 (by rw [w4 _ _ (by omega)]; exact a4) w3 (by rw [w4 _ _ (by omega), a6.1 _ _ (by omega), sf_k _ _ (by omega)]; exact i8) (by rw [w4 _ _ (by omega), a6.1 _ _ (by omega), sf_k _ _ (by omega)]; exact i9)
        (fun u hu => by rw [w5, a6.2]; exact i1 u hu) (fun u hu => by rw [w5, a6.2]; exact i2 u hu) (fun k hk => by rw [w5, a6.2]; exact i3 k hk)
      exact ⟨h', y1, y2, frw.tr y3⟩
    have hhl : mn_h P t (stt P t) ≤ 100 := Nat.min_le_left _ _
    have x23 : hx.1 75 23 = nI (mn_k P t (stt P t)).2.1 := by rw [x1 _ _ (by omega)]; exact a3
    have x26 : hx.1 75 26 = nI (stt P t).2.2.2.1 := by rw [x1 _ _ (by omega), a6.1 _ _ (by omega), sf_k _ _ (by omega)]; exact i7
    unfold B_X9_goesBy_60
    rw [x23, x26]
    by_cases c : mn_h P t (stt P t) = 100
    · rw [if_pos (by rw [c]; rfl)]
      by_cases cw : 0 < (mn_k P t (stt P t)).2.1
      · have hs : mn_s P t (stt P t) = true := decide_eq_true ⟨c, cw⟩
        rw [if_neg (by rw [show (0 : Int32) = nI 0 from rfl]; exact nI_ge (by omega) (by omega))]
        apply go
        · rw [sf_k _ _ (by omega), sf_k _ _ (by omega), sf_same]
        · rw [sf_k _ _ (by omega), sf_same, show (1 : Int32) = nI 1 from rfl, nI_sub (by omega)]
          unfold mn_w
          rw [if_pos hs]
        · rw [sf_same, nI_1]
          unfold mn
          rw [hs]
          rfl
        · intro i k z
          rw [sf_n (by omega), sf_n (by omega), sf_n (by omega), x1 _ _ (by omega)]
        · exact x2
      · have hs : mn_s P t (stt P t) = false := decide_eq_false (fun z => cw z.2)
        rw [if_pos (by rw [show (0 : Int32) = nI 0 from rfl]; exact nI_le (by omega) (by omega))]
        apply go
        · rw [sf_same]
        · rw [sf_k _ _ (by omega), x23]
          unfold mn_w
          rw [hs]
          rfl
        · rw [sf_k _ _ (by omega), x26]
          unfold mn
          rw [hs]
          rfl
        · intro i k z
          rw [sf_n (by omega), x1 _ _ (by omega)]
        · exact x2
    · have hs : mn_s P t (stt P t) = false := decide_eq_false (fun z => c z.1)
      rw [if_neg (by rw [show (100 : Int32) = nI 100 from rfl]; exact kF c (by omega) (by omega))]
      apply go
      · rw [sf_same]
      · rw [sf_k _ _ (by omega), x23]
        unfold mn_w
        rw [hs]
        rfl
      · rw [sf_k _ _ (by omega), x26]
        unfold mn
        rw [hs]
        rfl
      · intro i k z
        rw [sf_n (by omega), x1 _ _ (by omega)]
      · exact x2
  show ∃ h', (if 0 ≤ (h1.1 75 22 + ((nI (mn_f P t (stt P t)) - 2) - h1.1 75 23 / 5)) then (if (h1.1 75 22 + ((nI (mn_f P t (stt P t)) - 2) - h1.1 75 23 / 5)) ≤ 100 then B_X9_goesBy_60 n (nI t) (nI (mn_f P t (stt P t))) (h1.1 75 22 + ((nI (mn_f P t (stt P t)) - 2) - h1.1 75 23 / 5)) (am_sf h1 75 22 (h1.1 75 22 + ((nI (mn_f P t (stt P t)) - 2) - h1.1 75 23 / 5))) else B_X9_goesBy_60 n (nI t) (nI (mn_f P t (stt P t))) 100 (am_sf h1 75 22 (h1.1 75 22 + ((nI (mn_f P t (stt P t)) - 2) - h1.1 75 23 / 5)))) else B_X9_goesBy_60 n (nI t) (nI (mn_f P t (stt P t))) 0 (am_sf h1 75 22 (h1.1 75 22 + ((nI (mn_f P t (stt P t)) - 2) - h1.1 75 23 / 5)))) = _ ∧ _
  rw [ez]
  have hx := key (am_sf h1 75 22 (zI z)) (fun i k w => sf_n w) rfl
  by_cases c0 : 0 ≤ z
  · rw [if_pos (by rw [show (0 : Int32) = zI 0 from rfl]; exact (zI_le (by omega) (by omega) (by omega) (by omega)).mpr c0)]
    by_cases c1 : z ≤ 100
    · rw [if_pos (by rw [show (100 : Int32) = zI 100 from rfl]; exact (zI_le (by omega) (by omega) (by omega) (by omega)).mpr c1)]
      have e : nI (mn_h P t (stt P t)) = zI z := by
        rw [zI_n]
        congr 1
        unfold mn_h
        omega
      rw [e] at hx
      exact hx
    · rw [if_neg (fun w => c1 ((by rw [show (100 : Int32) = zI 100 from rfl] at w; exact (zI_le (by omega) (by omega) (by omega) (by omega)).mp w)))]
      have e : nI (mn_h P t (stt P t)) = 100 := by
        rw [show (100 : Int32) = nI 100 from rfl]
        congr 1
        unfold mn_h
        omega
      rw [e] at hx
      exact hx
  · rw [if_neg (fun w => c0 ((by rw [show (0 : Int32) = zI 0 from rfl] at w; exact (zI_le (by omega) (by omega) (by omega) (by omega)).mp w)))]
    have e : nI (mn_h P t (stt P t)) = 0 := by
      rw [show (0 : Int32) = nI 0 from rfl]
      congr 1
      unfold mn_h
      omega
    rw [e] at hx
    exact hx
set_option maxHeartbeats 8000000 in
theorem m_runs {n : Nat} {P : PL} {h : AH} (hp : okP P) (hn : 24 < n) (hpl : mplan h P) : ∃ h', M_X9_runs n h = some h' ∧ mevI h' P 24 ∧ fr_R h h' := by
  have h8 := hp.2.1.1
  unfold M_X9_runs
  obtain ⟨hs, hhs⟩ : ∃ hs, hs = (am_sf (am_sf (am_sf (am_sf (am_sf (am_sf (am_sf h 75 22 0) 75 23 (h.1 75 20)) 75 24 (h.1 75 11)) 75 26 0) 75 27 0) 75 28 (-1)) 75 29 0) := ⟨_, rfl⟩
  rw [← hhs]
  obtain ⟨m', q1, h1, e1, e2, e3, e4, e5, e6⟩ := loopV (ρ := Int32) (L := fun m q h => L_X9_runs_43 n m q h) (N := 8) (I := fun k q h1 => q = nI k ∧ (∀ j, j < k → h1.2.1 91 j = 0 ∧ h1.2.1 92 j = 0 ∧ h1.2.1 94 j = 0 ∧ h1.2.1 95 j = 0) ∧ h1.1 = hs.1 ∧ (∀ i, ¬ (91 ≤ i ∧ i ≤ 95) → h1.2.1 i = h.2.1 i) ∧ h1.2.2 = h.2.2) (by
    intro m k q h1 hk hI
    obtain ⟨i1, i2, i3, i4, i5⟩ := hI
    subst i1
    rw [L_X9_runs_43, show (8 : Int32) = nI 8 from rfl, if_neg (nI_ge (by omega) (by omega)), am_inK hk (by omega), nK (by omega), nI_1]
    simp only [cond_true]
    refine ⟨nI (k + 1), _, rfl, rfl, ?_, i3, ?_, i5⟩
    · intro j hj
      rw [sa_n _ _ (by omega), sa_n _ _ (by omega), sa_n _ _ (by omega), sa_n _ _ (by omega), sa_s, sa_n _ _ (by omega), sa_n _ _ (by omega), sa_n _ _ (by omega), sa_s, sa_n _ _ (by omega), sa_s, sa_s]
      unfold upd
      by_cases hjk : j = k
      · rw [if_pos hjk, if_pos hjk, if_pos hjk, if_pos hjk]
        exact ⟨rfl, rfl, rfl, rfl⟩
      · rw [if_neg hjk, if_neg hjk, if_neg hjk, if_neg hjk]
        exact i2 j (by omega)
    · intro i z
      rw [sa_n _ _ (by omega), sa_n _ _ (by omega), sa_n _ _ (by omega), sa_n _ _ (by omega), sa_n _ _ (by omega)]
      exact i4 i z) 8 0 n 0 hs (by omega) (by omega) ⟨rfl, fun j hj => by omega, rfl, fun i _ => by rw [hhs]; rfl, by rw [hhs]; rfl⟩
  subst e2
  rw [e1, L_X9_runs_43, show (8 : Int32) = nI 8 from rfl, if_pos (nI_le (Nat.le_refl _) (by omega))]
  have fr1 : fr_R h h1 := by
    refine ⟨fun i k z => ?_, fun i z => e5 i (by omega), e6⟩
    rw [e4, hhs, sf_n (by omega), sf_n (by omega), sf_n (by omega), sf_n (by omega), sf_n (by omega), sf_n (by omega), sf_n (by omega)]
  have i0 : mevI h1 P 0 := by
    refine ⟨fun u hu => by omega, fun u hu => by omega, fun k hk => ?_, ?_, ?_, ?_, ?_, ?_, ?_, ?_, ?_, ?_, ?_, ?_, ?_, ?_⟩
    · rw [(e3 k (by omega)).2.2.2]
      rfl
    · rw [e4, hhs, sf_k _ _ (by omega), sf_k _ _ (by omega), sf_k _ _ (by omega), sf_k _ _ (by omega), sf_k _ _ (by omega), sf_k _ _ (by omega), sf_same]
      rfl
    · rw [e4, hhs, sf_k _ _ (by omega), sf_k _ _ (by omega), sf_k _ _ (by omega), sf_k _ _ (by omega), sf_k _ _ (by omega), sf_same]
      exact hpl.2.2.2.1
    · rw [e4, hhs, sf_k _ _ (by omega), sf_k _ _ (by omega), sf_k _ _ (by omega), sf_k _ _ (by omega), sf_same]
      exact hpl.2.2.2.2.1
    · rw [e4, hhs, sf_k _ _ (by omega), sf_k _ _ (by omega), sf_k _ _ (by omega), sf_same]
      rfl
    · rw [e4, hhs, sf_k _ _ (by omega), sf_k _ _ (by omega), sf_same]
      rfl
    · rw [e4, hhs, sf_k _ _ (by omega), sf_same]
      rfl
    · intro k hk
      rw [(e3 k hk).1]
      rfl
    · intro k hk
      rw [(e3 k hk).2.1]
      rfl
    · intro k hk
      rw [(e3 k hk).2.2.1]
      rfl
    · intro k hk z
      have z : (0 : Nat) = 2 := z
      omega
    · rw [e4, hhs, sf_same]
      rfl
    · intro j x hx
      cases hx
    · exact (ok9_0 hp.2.1).1
  obtain ⟨m2, q2, h2, g1, g2, g3, g4⟩ := loopV (ρ := Int32) (L := fun m q h => L_X9_runs_92 n m q h) (N := 24) (I := fun t q hx => q = nI t ∧ mevI hx P t ∧ fr_R h hx) (by
    intro m t q hx ht hI
    obtain ⟨i1, i2, i3⟩ := hI
    subst i1
    rw [L_X9_runs_92, show (24 : Int32) = nI 24 from rfl, if_neg (nI_ge (by omega) (by omega))]
    obtain ⟨h', z1, z2, z3⟩ := m_goesBy (n := n) (t := t) hp ht hn (hpl.fr i3) i2
    rw [z1, nI_1]
    exact ⟨nI (t + 1), h', rfl, rfl, z2, i3.tr z3⟩) 24 0 n 0 h1 (by omega) (by omega) ⟨rfl, i0, fr1⟩
  subst g2
  rw [g1, L_X9_runs_92, show (24 : Int32) = nI 24 from rfl, if_pos (nI_le (Nat.le_refl _) (by omega))]
  exact ⟨h2, rfl, g3, g4⟩
