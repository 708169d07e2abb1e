theorem nI_back (v : Int32) : v = nI v.toBitVec.toNat := by
  apply Int32.toBitVec_inj.mp
  show v.toBitVec = BitVec.ofNat 32 v.toBitVec.toNat
  rw [BitVec.ofNat_toNat, BitVec.setWidth_eq]
theorem sN_0 : ∀ n, sN (fun _ => 0) n = 0
  | 0 => rfl
  | n + 1 => by rw [sN, sN_0 n]
theorem bN_0 {f : Nat → Bool} (h : ∀ j, f j = false) : ∀ n, bN f n = 0
  | 0 => rfl
  | n + 1 => by rw [bN, bN_0 h n, h n]; rfl
set_option maxHeartbeats 4000000 in
theorem c_begin {n rc : Nat} {gs : List T3} {h : AH} (h1 : am_lna (rc + 1) = 8) (h2 : am_lna (rc + 2) = 8) (hn : 8 < n) : ∃ h', M_X0_begin n rc h = some h' ∧ cm2 h' rc gs ls0 0 ∧ (∀ i k, ¬ i = rc → h'.1 i k = h.1 i k) ∧ (∀ i, ¬ (rc < i ∧ i ≤ rc + 4) → h'.2.1 i = h.2.1 i) ∧ h'.2.2 = h.2.2 := by
  unfold M_X0_begin
  obtain ⟨ha, a1, a2, a3, a4, a5⟩ := c_fill (n := n) (r := rc + 1) (v := 0) (h := h) h1 (by omega) hn
  rw [a1]
  obtain ⟨hb, b1, b2, b3, b4, b5⟩ := c_fill (n := n) (r := rc + 2) (v := 0) (h := ha) h2 (by omega) hn
  show ∃ h', (am_v (M_J14_fill_I n (rc + 2) 0 ha) fun h2 => _) = _ ∧ _
  rw [b1]
  refine ⟨_, rfl, ⟨⟨fun k => (hb.2.1 (rc + 4) k).toBitVec.toNat, fun k => (hb.2.1 (rc + 3) k).toBitVec.toNat, ?_, ?_, fun k _ => nI_back _, fun k _ => nI_back _, ?_, ?_, ⟨List.Pairwise.nil, fun k hk => (by cases hk), fun k hk => ⟨fun z => ?_, fun z => (by cases z)⟩⟩, fun k hk => ⟨Nat.zero_le _, fun z => ?_, fun z => ?_, fun z => ?_⟩⟩, ?_, ?_, ?_⟩, ?_, ?_, ?_⟩
  · intro k hk
    show hb.2.1 (rc + 1) k = nI 0
    rw [b4 _ (by omega)]
    exact a2 k hk
  · intro k hk
    exact b2 k hk
  · rw [sf_k _ _ (by omega), sf_k _ _ (by omega), sf_k _ _ (by omega), sf_k _ _ (by omega), sf_same]
    rfl
  · rw [sf_k _ _ (by omega), sf_k _ _ (by omega), sf_k _ _ (by omega), sf_same]
    rfl
  · have z : (0 : Nat) = 1 := z
    omega
  · have z : (0 : Nat) = 1 ∨ (0 : Nat) = 2 := z
    omega
  · have z : (0 : Nat) = 1 := z
    omega
  · have z : (0 : Nat) = 2 := z
    omega
  · rw [sf_k _ _ (by omega), sf_k _ _ (by omega), sf_same]
    show (0 : Int32) = nI (sN (fun _ => 0) 8)
    rw [sN_0]
    rfl
  · rw [sf_k _ _ (by omega), sf_same]
    show (0 : Int32) = nI (bN _ 8)
    rw [bN_0 (f := fun k => ls0.2.1 k == 3) (fun _ => rfl)]
    rfl
  · rw [sf_same]
    show (0 : Int32) = nI (bN _ 8)
    rw [bN_0 (f := fun k => ls0.2.1 k == 4) (fun _ => rfl)]
    rfl
  · intro i k z
    rw [sf_r _ _ _ _ z, sf_r _ _ _ _ z, sf_r _ _ _ _ z, sf_r _ _ _ _ z, sf_r _ _ _ _ z, b3, a3]
  · intro i z
    show hb.2.1 i = _
    rw [b4 _ (by omega), a4 _ (by omega)]
  · show hb.2.2 = _
    rw [b5, a5]
set_option maxHeartbeats 8000000 in
theorem c_pass {n r r1 : Nat} {P : PL} {h : AH} (hp : okP P) (hr : hpl r r1) (hn : 24 < n) (l4 : am_lna (r + 4) = 24) (l11 : am_lna (r + 11) = 8) (l12 : am_lna (r + 12) = 8) (hpr : planR h r1 P) : ∃ h', M_X2_pass n r r1 h = some h' ∧ evI h' r P 24 ∧ fr_E r h h' := by
  obtain ⟨r2, r3, r4, r5⟩ := id hr
  unfold M_X2_pass M_X3_begin
  show ∃ h', (am_v (M_X0_begin n (r + 10) _) fun h2 => _) = _ ∧ _
  obtain ⟨h2, b1, b2, b3, b4, b5⟩ := c_begin (n := n) (rc := r + 10) (gs := P.2.1) (h := am_sf (am_sf (am_sf (am_sf h (r + 9) 0 0) (r + 9) 1 (h.1 r1 3)) (r + 9) 2 (h.1 r1 4)) (r + 9) 3 0) l11 l12 (by omega)
  rw [b1]
  have fr2 : fr_E r h (am_sf h2 r 10 0) := by
    refine ⟨fun i k z => ?_, fun i z => ?_, ?_⟩
    · rw [sf_r _ _ _ _ (by omega), b3 _ _ (by omega), sf_r _ _ _ _ (by omega), sf_r _ _ _ _ (by omega), sf_r _ _ _ _ (by omega), sf_r _ _ _ _ (by omega)]
    · rw [sf_2, b4 _ (by omega)]
      rfl
    · rw [sf_2, b5]
      rfl
  have hp2 := hpr.frE fr2 hr
  obtain ⟨h3, c1, c2, c3, c4, c5⟩ := c_light (n := n) (r0 := r) (r1 := pl_f r1) (fs := P.1) (h := am_sf h2 r 10 0) hp.1 l4 hp2.1 r2 hn
  show ∃ h', (am_v (M_X2_light n r (pl_f r1) (am_sf h2 r 10 0)) fun h3 => _) = _ ∧ _
  rw [c1]
  have fr3 : fr_E r h h3 := fr2.tr ⟨fun i k _ => by rw [c3], fun i z => c4 i (by omega), c5⟩
  show ∃ h', L_X2_pass_30 n r r1 n 0 h3 = some h' ∧ _
  have i0 : evI h3 r P 0 := by
    refine ⟨fun u hu => by omega, fun u hu => ?_, ?_, ?_, ?_, ?_, ?_, 0, Nat.le_refl _, ?_⟩
    · rw [c2 u hu, if_neg (by omega)]
    · rw [c3, sf_same]
      rfl
    · rw [c3, sf_r _ _ _ _ (by omega), b3 _ _ (by omega), sf_k _ _ (by omega), sf_k _ _ (by omega), sf_k _ _ (by omega), sf_same]
      rfl
    · rw [c3, sf_r _ _ _ _ (by omega), b3 _ _ (by omega), sf_k _ _ (by omega), sf_k _ _ (by omega), sf_same]
      exact hpr.2.2.2.1
    · rw [c3, sf_r _ _ _ _ (by omega), b3 _ _ (by omega), sf_k _ _ (by omega), sf_same]
      exact hpr.2.2.2.2.1
    · rw [c3, sf_r _ _ _ _ (by omega), b3 _ _ (by omega), sf_same]
      rfl
    · exact b2.cg (fun k => by rw [c3, sf_r _ _ _ _ (by omega)]) (fun i _ _ => by rw [c4 _ (by omega), sf_2])
  obtain ⟨m', q1, h4, e1, e2, e3, e4⟩ := loopV (ρ := Int32) (L := fun m q h => L_X2_pass_30 n r r1 m q h) (N := 24) (I := fun t q h1 => q = nI t ∧ evI h1 r P t ∧ fr_E r h h1) (by
    intro m t q h1 ht hI
    obtain ⟨i1, i2, i3⟩ := hI
    subst i1
    have hok := stt_ok hp t (by omega)
    have hp1 := hpr.frE i3 hr
    obtain ⟨a1, a2, a3, a4, a5, a6, a7, T, a8, a9⟩ := i2
    rw [L_X2_pass_30, show (24 : Int32) = nI 24 from rfl, if_neg (nI_ge (by omega) (by omega))]
    unfold M_X3_meet
    obtain ⟨h2, g1, g2, g3, g4, g5⟩ := c_meet_loop (n := n) (r0 := r + 9) (r1 := r1) (t := t) (es := P.2.2.1) (sk := P.2.2.2.2.2) hp.2.2.1 ht (by omega) (by omega) P.2.2.1.length 0 n h1 ((stt P t).1, (stt P t).2.1, (stt P t).2.2.1, false) (by omega) (by have := hp.2.2.1.1; omega) hp1.2.2.1 hp1.2.2.2.2.2 a4 a5 a6 ⟨hok.1, hok.2.1, hok.2.2.1⟩
    rw [List.drop_zero] at g1 g2 g3 g4
    have g1 : L_X3_meet_11 n (r + 9) r1 n (nI t) 0 0 h1 = some (bI (mn_k P t (stt P t)).2.2.2, h2) := g1
    rw [g1]
    have hgo : ∀ hx : AH, hx.1 = h2.1 → evF hx r P (t + 1) → (∀ i, ¬ i = r + 4 → hx.2.1 i = h2.2.1 i) → hx.2.2 = h2.2.2 → ∃ h', B_X2_pass_58 n (L_X2_pass_30 n r r1 m) r r1 (nI t) hx = L_X2_pass_30 n r r1 m (nI (t + 1)) h' ∧ evI h' r P (t + 1) ∧ fr_E r h h' := by
      intro hx x1 x2 x3 x4
      have frx : fr_E r h1 hx := ⟨fun i k z => by rw [x1, g5.1 _ _ (by omega)], fun i z => by rw [x3 _ (by omega), g5.2], by rw [x4, g5.2]⟩
      obtain ⟨h', y1, y2, y3⟩ := c_min58 (n := n) (r := r) (r1 := r1) (t := t) (T := T) (P := P) (h1 := h1) (h2 := hx) (k30 := L_X2_pass_30 n r r1 m) hp ht hr hn (hp1.frE frx hr).2.1
        (fun u hu => by
          rw [x3 _ (by omega), x3 _ (by omega), x3 _ (by omega), x3 _ (by omega), x3 _ (by omega), x3 _ (by omega), x3 _ (by omega), g5.2]
          exact a1 u hu) x2 (by rw [x1, g5.1 _ _ (by omega)]; exact a3) (by rw [x1]; exact g2) (by rw [x1]; exact g3) (by rw [x1]; exact g4) (by rw [x1, g5.1 _ _ (by omega)]; exact a7) a8
        (a9.cg (fun k => by rw [x1, g5.1 _ _ (by omega)]) (fun i _ _ => by rw [x3 _ (by omega), g5.2]))
      exact ⟨h', y1, y2, i3.tr (frx.tr y3)⟩
    have hres : ∃ h', (if bI (mn_k P t (stt P t)).2.2.2 = 0 then B_X2_pass_58 n (L_X2_pass_30 n r r1 m) r r1 (nI t) h2 else bif am_in (nI t) 24 then bif am_in (nI t) 24 then B_X2_pass_58 n (L_X2_pass_30 n r r1 m) r r1 (nI t) (am_sa h2 (r + 4) (upd (h2.2.1 (r + 4)) (Int32.toNatClampNeg (nI t)) (h2.2.1 (r + 4) (Int32.toNatClampNeg (nI t)) * 2))) else none else none) = L_X2_pass_30 n r r1 m (nI (t + 1)) h' ∧ evI h' r P (t + 1) ∧ fr_E r h h' := by
      cases hbt : (mn_k P t (stt P t)).2.2.2
      · rw [if_pos (by decide)]
        refine hgo h2 rfl (fun u hu => ?_) (fun _ _ => rfl) rfl
        rw [g5.2, a2 u hu]
        by_cases hut : u = t
        · subst hut
          rw [if_neg (by omega), if_pos (by omega)]
          unfold mn_f
          rw [hbt]
          rfl
        · by_cases c : u < t
          · rw [if_pos c, if_pos (by omega)]
          · rw [if_neg c, if_neg (by omega)]
      · rw [if_neg (by decide), am_inK ht (by omega), nK (by omega)]
        refine hgo _ rfl (fun u hu => ?_) (fun i z => sa_n _ _ z) rfl
        rw [sa_s, g5.2]
        unfold upd
        by_cases hut : u = t
        · subst hut
          rw [if_pos rfl, a2 u hu, if_neg (by omega), if_pos (by omega), show (2 : Int32) = nI 2 from rfl, nI_mul]
          unfold mn_f
          rw [hbt, if_pos rfl, Nat.mul_comm]
        · rw [if_neg hut, a2 u hu]
          by_cases c : u < t
          · rw [if_pos c, if_pos (by omega)]
          · rw [if_neg c, if_neg (by omega)]
    obtain ⟨h', z1, z2, z3⟩ := hres
    exact ⟨nI (t + 1), h', z1, rfl, z2, z3⟩) 24 0 n 0 h3 (by omega) (by omega) ⟨rfl, i0, fr3⟩
  subst e2
  rw [e1, L_X2_pass_30, show (24 : Int32) = nI 24 from rfl, if_pos (nI_le (Nat.le_refl _) (by omega))]
  exact ⟨h4, rfl, e3, e4⟩
