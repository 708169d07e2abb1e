theorem fr_o.tr {a b c : AH} (h1 : fr_o a b) (h2 : fr_o b c) : fr_o a c := ⟨fun i k z => (h2.1 i k z).trans (h1.1 i k z), fun i z => (h2.2.1 i z).trans (h1.2.1 i z), h2.2.2.trans h1.2.2⟩
set_option maxHeartbeats 4000000 in
theorem c_alter {S : ST} {h : AH} {t : Nat} (ht : t < 503) (he : entR h 40 (entS 0 S.1.1) ∧ entR h 44 (entS 1 S.1.2) ∧ entR h 48 S.2.2.1) (hf : h.1 39 3 = nI S.2.1.1 ∧ h.1 39 4 = nI S.2.1.2 ∧ h.1 39 5 = 0) : ∃ h', M_X7_alter (nI t) h = some h' ∧ planR h' 39 (altP S t) ∧ fr_o h h' := by
  obtain ⟨e1, e2, e3⟩ := he
  obtain ⟨f1, f2, f3⟩ := hf
  unfold M_X7_alter altP
  by_cases c1 : t < 256
  · rw [if_neg (by rw [show (256 : Int32) = nI 256 from rfl]; exact nI_ge c1 (by omega)), if_pos c1]
    refine ⟨_, rfl, ⟨e1.cg (sf_n (by decide)) (fun _ _ _ => rfl), e2.cg (sf_n (by decide)) (fun _ _ _ => rfl), e3.cg (sf_n (by decide)) (fun _ _ _ => rfl), by rw [sf_k _ _ (by omega)]; exact f1, by rw [sf_k _ _ (by omega)]; exact f2, by rw [sf_same]; exact skR_n c1⟩, fun i k z => sf_n (by omega), fun _ _ => rfl, rfl⟩
  · rw [if_pos (by rw [show (256 : Int32) = nI 256 from rfl]; exact nI_le (by omega) (by omega)), if_neg c1]
    by_cases c2 : t < 287
    · rw [if_neg (by rw [show (287 : Int32) = nI 287 from rfl]; exact nI_ge c2 (by omega)), if_pos c2, show (256 : Int32) = nI 256 from rfl, nI_sub (by omega)]
      refine ⟨_, rfl, ⟨e1.cg (sf_n (by decide)) (fun _ _ _ => rfl), e2.cg (sf_n (by decide)) (fun _ _ _ => rfl), e3.cg (sf_n (by decide)) (fun _ _ _ => rfl), by rw [sf_same], by rw [sf_k _ _ (by omega)]; exact f2, by rw [sf_k _ _ (by omega), f3]; exact skR_f⟩, fun i k z => sf_n (by omega), fun _ _ => rfl, rfl⟩
    · rw [if_pos (by rw [show (287 : Int32) = nI 287 from rfl]; exact nI_le (by omega) (by omega)), if_neg c2]
      by_cases c3 : t < 311
      · rw [if_neg (by rw [show (311 : Int32) = nI 311 from rfl]; exact nI_ge c3 (by omega)), if_pos c3, show (287 : Int32) = nI 287 from rfl, nI_sub (by omega), show (3 : Int32) = nI 3 from rfl, modN (by omega) (by omega), nI_div (by omega) (by omega), am_inK (show (t - 287) / 3 < 8 by omega) (by omega), nK (by omega)]
        refine ⟨_, rfl, ⟨entR_mod e1 (Or.inr rfl) (fun z => absurd z (by decide)) (fun _ x => ⟨rfl, rfl, rfl⟩), e2.cg rfl (fun i z y => sa_n _ _ (by have : pl_g 39 = 44 := rfl; omega)), e3.cg rfl (fun i z y => sa_n _ _ (by have : pl_e 39 = 48 := rfl; omega)), f1, f2, ?_⟩, fun i k z => rfl, fun i z => sa_n _ _ (by omega), rfl⟩
        show skR (h.1 39 5) _
        rw [f3]
        exact skR_f
      · rw [if_pos (by rw [show (311 : Int32) = nI 311 from rfl]; exact nI_le (by omega) (by omega)), if_neg c3, if_neg (by rw [show (503 : Int32) = nI 503 from rfl]; exact nI_ge ht (by omega)), show (311 : Int32) = nI 311 from rfl, nI_sub (by omega), show (24 : Int32) = nI 24 from rfl, modN (by omega) (by omega), nI_div (by omega) (by omega), am_inK (show (t - 311) / 24 < 8 by omega) (by omega), nK (by omega)]
        refine ⟨_, rfl, ⟨e1.cg rfl (fun i z y => sa_n _ _ (by have : pl_f 39 = 40 := rfl; omega)), entR_mod e2 (Or.inl rfl) (fun _ x => ⟨rfl, rfl⟩) (fun z => absurd z (by decide)), e3.cg rfl (fun i z y => sa_n _ _ (by have : pl_e 39 = 48 := rfl; omega)), f1, f2, ?_⟩, fun i k z => rfl, fun i z => sa_n _ _ (by omega), rfl⟩
        show skR (h.1 39 5) _
        rw [f3]
        exact skR_f
theorem sN_le {f : Nat → Nat} {b : Nat} (h : ∀ k, f k ≤ b) : ∀ n, sN f n ≤ b * n
  | 0 => Nat.le_refl _
  | n + 1 => by
    have h1 := sN_le h n
    have h2 := h n
    rw [sN, Nat.mul_succ]
    omega
theorem had_le {P : PL} (hp : okP P) (k : Nat) : (stt P 24).2.2.2.2.2.2.1 k ≤ 4 := by
  have ho := (stt_ok hp 24 (Nat.le_refl _)).2.2.2.2
  by_cases c : k < P.2.1.length
  · obtain ⟨x, hx, -⟩ := dropC (l := P.2.1) c
    have h1 := ho.2.2.1 k x hx
    have h2 := (hp.2.1.2 x (List.mem_of_getElem? hx)).2.2.2
    by_cases c3 : (stt P 24).2.2.2.2.2.1 k = 3
    · have := h1.2.1 c3
      omega
    · have := h1.2.2 c3
      omega
  · have := (ho.2.2.2 k (by omega)).2
    omega
theorem pkS_b {P : PL} (hp : okP P) : glS P < 256 ∧ goS P < 256 ∧ coS P < 256 ∧ boS P < 16777216 := by
  have h1 := sN_le (had_le hp) 8
  have h2 := bN_lt (fun k => (stt P 24).2.2.2.2.2.1 k == 4) 8
  have h3 := bN_lt (fun k => (stt P 24).2.2.2.2.2.1 k == 3) 8
  have h4 := bN_lt (fun j => mn_b P j (stt P j)) 24
  exact ⟨by unfold glS; omega, h2, h3, h4⟩
theorem pack_at {h : AH} {P : PL} (he : evI h 52 P 24) : M_X7_pack 52 h = pkS P := by
  obtain ⟨a1, a2, a3, a4, a5, a6, a7, T, a8, a9⟩ := he
  unfold pkS
  show pk (h.1 (52 + 10) 6) (h.1 (52 + 10) 8) (h.1 (52 + 10) 7) (h.1 52 10) = _
  rw [a9.2.1, a9.2.2.2, a9.2.2.1, a3]
  rfl
theorem lg0 {x : Int64} : lg_cmp x 0 = 0 ↔ x = 0 := by
  unfold lg_cmp
  constructor
  · intro h
    by_cases c : x > 0
    · rw [if_pos c] at h
      exact absurd h (by decide)
    · rw [if_neg c] at h
      by_cases c2 : x = 0
      · exact c2
      · rw [if_neg c2] at h
        exact absurd h (by decide)
  · intro h
    subst h
    decide
theorem lgE {x y : Int64} (h : x = y) : lg_cmp x y = 0 := by
  subst h
  unfold lg_cmp
  rw [if_neg (by rw [gt_iff_lt, Int64.lt_iff_toInt_lt]; omega), if_pos rfl]
set_option maxHeartbeats 4000000 in
theorem c_outcome {n t : Nat} {S : ST} {h : AH} (hc : CR h S) (ht : t < 503) (hn : 24 < n) : ∃ h', M_X7_outcome n (nI t) h = some (pkS (altP S t), h') ∧ CR h' S := by
  obtain ⟨ho, hct, hk1, hk2⟩ := id hc
  unfold M_X7_outcome B_X7_outcome_69
  rw [if_neg (nI_pos (by omega)), show (503 : Int32) = nI 503 from rfl, if_pos (nI_lt ht (by omega)), am_inK ht (by omega), nK (by omega)]
  simp only [cond_true]
  by_cases c : h.2.2 38 t = 0
  · rw [if_pos (lg0.mpr c)]
    obtain ⟨h1, a1, a2, a3, a4⟩ := c_like ho hct
    rw [a1, vS]
    obtain ⟨h2, b1, b2, b3⟩ := c_alter ht a2 a3
    rw [b1, vS]
    have hok := altP_ok ho ht
    obtain ⟨h3, p1, p2, p3⟩ := c_pass (n := n) (r := 52) (r1 := 39) hok (by unfold hpl; decide) hn lna22.2.2.2.1 lna22.2.2.2.2.1 lna22.2.2.2.2.2 b2
    rw [p1, vS, pack_at p2]
    have b4 := a4.tr b3
    have ff : ∀ i k, ¬ (39 ≤ i ∧ i ≤ 66) → h3.1 i k = h.1 i k := fun i k z => by rw [p3.1 _ _ (by omega), b4.1 _ _ (by omega)]
    have fa : ∀ i, ¬ (39 ≤ i ∧ i ≤ 66) → h3.2.1 i = h.2.1 i := fun i z => by rw [p3.2.1 _ (by omega), b4.2.1 _ (by omega)]
    have fl : h3.2.2 = h.2.2 := by rw [p3.2.2, b4.2.2]
    have eL : (am_sf (am_sl h3 38 (vp_updL (h3.2.2 38) t (pkS (altP S t)))) 37 4 0).2.2 38 = vp_updL (h3.2.2 38) t (pkS (altP S t)) := by simp [am_sf, am_sl]
    refine ⟨am_sf (am_sl h3 38 (vp_updL (h3.2.2 38) t (pkS (altP S t)))) 37 4 0, ?_, ho, hct.fr ⟨fun i k z => ?_, ?_, fun i z => ?_⟩, ?_, ?_⟩
    · rw [eL]
      show some (vp_updL (h3.2.2 38) t (pkS (altP S t)) t, _) = _
      rw [show vp_updL (h3.2.2 38) t (pkS (altP S t)) t = pkS (altP S t) from if_pos rfl]
    · rw [sf_r _ _ _ _ (by omega)]
      exact ff i k (by omega)
    · rw [sf_r _ _ _ _ (by omega)]
      exact ff 0 12 (by omega)
    · exact fa i (by omega)
    · rw [sf_r _ _ _ _ (by omega), show (am_sl h3 38 (vp_updL (h3.2.2 38) t (pkS (altP S t)))).1 0 11 = h.1 0 11 from ff 0 11 (by omega)]
      rcases hk1 with k0 | ⟨k1, k2⟩
      · exact Or.inl k0
      · exact Or.inr ⟨k1, k2.cg (fun i k z y => by rw [sf_r _ _ _ _ (by omega)]; exact ff i k (by omega)) (fun i z y => fa i (by omega))⟩
    · right
      refine ⟨by rw [sf_same], fun u hu => ?_⟩
      rw [eL]
      unfold vp_updL
      by_cases hut : u = t
      · rw [if_pos hut, hut]
        exact Or.inr rfl
      · rw [if_neg hut, fl]
        rcases hk2 with ⟨_, k2⟩ | ⟨_, k2⟩
        · exact Or.inl (k2 u hu)
        · exact k2 u hu
  · rw [if_neg (fun z => c (lg0.mp z))]
    refine ⟨h, ?_, hc⟩
    rcases hk2 with ⟨_, k2⟩ | ⟨_, k2⟩
    · exact absurd (k2 t ht) c
    · rcases k2 t ht with k3 | k3
      · exact absurd k3 c
      · rw [k3]
/-! guests by lots -/
def nx (s : Int32) : Int32 := 1103515245 * s + 12345
def sd (s : Int32) : Nat := s.toBitVec.toNat / 65536
def sdN (s : Int32) : Nat → Int32
  | 0 => s
  | k + 1 => nx (nx (nx (sdN s k)))
def lot (s : Int32) : T3 := (sd (nx s) % 24, sd (nx (nx s)) % 2, sd (nx (nx (nx s))) % 4 + 1)
def lotL (s : Int32) : Nat → List T3
  | 0 => []
  | k + 1 => lotL s k ++ [lot (sdN s k)]
def lotP (S : ST) (s : Int32) (n : Nat) : PL := (entS 0 S.1.1, lotL s n, S.2.2.1, S.2.1.1, S.2.1.2, fun _ => false)
theorem lotL_len (s : Int32) : ∀ k, (lotL s k).length = k
  | 0 => rfl
  | k + 1 => by rw [lotL, List.length_append, lotL_len s k]; rfl
theorem lotL_ok (s : Int32) : ∀ k, ∀ x ∈ lotL s k, x.1 < 24 ∧ x.2.1 < 2 ∧ 1 ≤ x.2.2 ∧ x.2.2 ≤ 4
  | 0, x, hx => by cases hx
  | k + 1, x, hx => by
    rw [lotL] at hx
    rcases List.mem_append.mp hx with z | z
    · exact lotL_ok s k x z
    · rw [List.mem_singleton] at z
      subst z
      unfold lot
      refine ⟨?_, ?_, ?_, ?_⟩ <;> dsimp only <;> omega
theorem lotP_ok {S : ST} {n : Nat} (s : Int32) (ho : okST S) (hn : n ≤ 8) : okP (lotP S s n) := by
  have hp := toldP_ok ho
  exact ⟨hp.1, ⟨by rw [show (lotP S s n).2.1 = lotL s n from rfl, lotL_len]; exact hn, lotL_ok s n⟩, hp.2.2⟩
theorem sd_lt (s : Int32) : sd s < 65536 := by
  have := s.toBitVec.isLt
  unfold sd
  omega
theorem ush16 (s : Int32) : (Int32.toUInt32 s >>> (Int32.toUInt32 16 &&& Int32.toUInt32 31)).toInt32 = nI (sd s) := by
  apply Int32.toBitVec_inj.mp
  apply BitVec.eq_of_toNat_eq
  have h1 := sd_lt s
  show (Int32.toUInt32 s >>> (Int32.toUInt32 16 &&& Int32.toUInt32 31)).toNat = (BitVec.ofNat 32 (sd s)).toNat
  have hk : (Int32.toUInt32 16 &&& Int32.toUInt32 31).toNat % 32 = 16 := by decide +kernel
  rw [BitVec.toNat_ofNat, Nat.mod_eq_of_lt (by omega), UInt32.toNat_shiftRight, hk, Nat.shiftRight_eq_div_pow]
  rfl
set_option maxHeartbeats 4000000 in
theorem c_lots {n c : Nat} {S : ST} {h : AH} (s : Int32) (hc : CR h S) (hcn : c ≤ 8) (hn : 24 < n) : ∃ h', M_X7_outcomeByLots n s (nI c) h = some (pkS (lotP S s c), h') ∧ CR h' S := by
  obtain ⟨ho, hct, hk1, hk2⟩ := id hc
  unfold M_X7_outcomeByLots
  obtain ⟨h1, a1, a2, a3, a4⟩ := c_like ho hct
  rw [a1, vS]
  obtain ⟨m', q', h2, e1, e2, e3, e4⟩ := loopV (ρ := Int32 × Int32) (L := fun m q h => L_X7_outcomeByLots_27 n m (nI c) q.1 q.2 h) (N := c) (I := fun k q h2 => q = (sdN s k, nI k) ∧ (entR h2 40 (entS 0 S.1.1) ∧ entR h2 44 (lotL s k) ∧ entR h2 48 S.2.2.1 ∧ h2.1 39 3 = nI S.2.1.1 ∧ h2.1 39 4 = nI S.2.1.2 ∧ h2.1 39 5 = 0) ∧ fr_o h h2) (by
    intro m k q h2 hk hI
    obtain ⟨i1, ⟨i2, i3, i4, i5, i6, i7⟩, i8⟩ := hI
    subst i1
    show ∃ (r' : Int32 × Int32) (h' : AH), L_X7_outcomeByLots_27 n (m + 1) (nI c) (sdN s k) (nI k) h2 = L_X7_outcomeByLots_27 n m (nI c) r'.1 r'.2 h' ∧ _
    rw [L_X7_outcomeByLots_27, if_neg (nI_ge hk (by omega)), show (8 : Int32) = nI 8 from rfl, if_neg (nI_ge (by omega) (by omega))]
    have en : ∀ x, M_X7_nextSeed x = nx x := fun _ => rfl
    have b1 := sd_lt (nx (sdN s k))
    have b2 := sd_lt (nx (nx (sdN s k)))
    have b3 := sd_lt (nx (nx (nx (sdN s k))))
    rw [en, en, en, ush16, ush16, ush16, show (24 : Int32) = nI 24 from rfl, modN (by omega) (by omega), show (2 : Int32) = nI 2 from rfl, modN (by omega) (by omega), show (4 : Int32) = nI 4 from rfl, modN (by omega) (by omega), nI_1, nI_1]
    obtain ⟨h3, y1, y2, y3, y4, y5⟩ := entR_add (a := sd (nx (sdN s k)) % 24) (b := sd (nx (nx (sdN s k))) % 2) (c := sd (nx (nx (nx (sdN s k)))) % 4 + 1) i3 (by rw [lotL_len]; omega)
    rw [y1, vS]
    exact ⟨(sdN s (k + 1), nI (k + 1)), h3, rfl, rfl, ⟨i2.cg (y3 _ _ (by omega)) (fun i _ _ => y4 _ (by omega)), y2, i4.cg (y3 _ _ (by omega)) (fun i _ _ => y4 _ (by omega)), by rw [y3 _ _ (by omega)]; exact i5, by rw [y3 _ _ (by omega)]; exact i6, by rw [y3 _ _ (by omega)]; exact i7⟩, i8.tr ⟨fun i j z => y3 _ _ (by omega), fun i z => y4 _ (by omega), y5⟩⟩) c 0 n (s, 0) (am_sf h1 44 3 0) (by omega) (by omega) ⟨rfl, ⟨a2.1.cg (sf_n (by decide)) (fun _ _ _ => rfl), ⟨by rw [sf_same]; rfl, fun j x hx => by cases hx⟩, a2.2.2.cg (sf_n (by decide)) (fun _ _ _ => rfl), by rw [sf_r _ _ _ _ (by omega)]; exact a3.1, by rw [sf_r _ _ _ _ (by omega)]; exact a3.2.1, by rw [sf_r _ _ _ _ (by omega)]; exact a3.2.2⟩, a4.tr ⟨fun i k z => sf_r _ _ _ _ (by omega), fun _ _ => rfl, rfl⟩⟩
  subst e2
  have e1 : L_X7_outcomeByLots_27 n n (nI c) s 0 (am_sf h1 44 3 0) = L_X7_outcomeByLots_27 n (m' + 1) (nI c) (sdN s c) (nI c) h2 := e1
  rw [e1, L_X7_outcomeByLots_27, if_pos (nI_le (Nat.le_refl _) (by omega))]
  unfold B_X7_outcomeByLots_100
  have hpr : planR h2 39 (lotP S s c) := ⟨e3.1, e3.2.1, e3.2.2.1, e3.2.2.2.1, e3.2.2.2.2.1, by rw [e3.2.2.2.2.2]; exact skR_f⟩
  obtain ⟨h3, p1, p2, p3⟩ := c_pass (n := n) (r := 52) (r1 := 39) (lotP_ok s ho hcn) (by unfold hpl; decide) hn lna22.2.2.2.1 lna22.2.2.2.2.1 lna22.2.2.2.2.2 hpr
  rw [p1, vS, pack_at p2]
  have ff : ∀ i k, ¬ (39 ≤ i ∧ i ≤ 66) → h3.1 i k = h.1 i k := fun i k z => by rw [p3.1 _ _ (by omega), e4.1 _ _ (by omega)]
  have fa : ∀ i, ¬ (39 ≤ i ∧ i ≤ 66) → h3.2.1 i = h.2.1 i := fun i z => by rw [p3.2.1 _ (by omega), e4.2.1 _ (by omega)]
  have fl : h3.2.2 = h.2.2 := by rw [p3.2.2, e4.2.2]
  refine ⟨_, rfl, ho, hct.fr ⟨fun i k z => ff i k (by omega), ff 0 12 (by omega), fun i z => fa i (by omega)⟩, ?_, ?_⟩
  · rw [ff 0 11 (by omega)]
    rcases hk1 with k0 | ⟨k1, k2⟩
    · exact Or.inl k0
    · exact Or.inr ⟨k1, k2.cg (fun i k z y => ff i k (by omega)) (fun i z y => fa i (by omega))⟩
  · rw [ff 37 4 (by omega), fl]
    exact hk2
