/-! the fire -/
def dur (k : Nat) : Nat := if k = 0 then 3 else if k = 1 then 5 else 9
def fpk (k : Nat) : Nat := if k = 1 then 4 else 3
def fir1 (x : T3) (t : Nat) : Nat := if x.1 ≤ t ∧ t < x.1 + dur x.2.1 then fpk x.2.1 * x.2.2 else 0
def sp_fire (fs : List T3) (t : Nat) : Nat → Nat
  | 0 => 0
  | k + 1 => sp_fire fs t k + fir1 (fs.getD k (0, 0, 0)) t
theorem fir1_le {x : T3} {t : Nat} (h : x.2.2 ≤ 3) : fir1 x t ≤ 12 := by
  unfold fir1 fpk
  split
  · split <;> omega
  · omega
theorem sp_fire_le {fs : List T3} {t : Nat} (hf : okE fs 3 1 3) : ∀ k, sp_fire fs t k ≤ 12 * k
  | 0 => Nat.le_refl _
  | k + 1 => by
    have ih := sp_fire_le (t := t) hf k
    have h1 : fir1 (fs.getD k (0, 0, 0)) t ≤ 12 := by
      apply fir1_le
      rw [List.getD_eq_getElem?_getD]
      cases hx : fs[k]? with
      | none => exact (by decide : (0 : Nat) ≤ 3)
      | some x => exact (hf.2 x (List.mem_of_getElem? hx)).2.2.2
    rw [sp_fire]
    omega
theorem getD_at {gs : List T3} {k : Nat} {x : T3} (h : gs[k]? = some x) : gs.getD k (0, 0, 0) = x := by
  rw [List.getD_eq_getElem?_getD, h]
  rfl
theorem inZ {a lo hi : Int} (a1 : -100000 ≤ a) (a2 : a ≤ 100000) (b1 : -100000 ≤ lo) (b2 : lo ≤ 100000) (c1 : -100000 ≤ hi) (c2 : hi ≤ 100000) : M_X9_in (zI a) (zI lo) (zI hi) = if lo ≤ a ∧ a ≤ hi then 1 else 0 := by
  unfold M_X9_in
  by_cases h1 : lo ≤ a
  · rw [if_neg (fun z => by have := (zI_lt (by omega) (by omega) (by omega) (by omega)).mp z; omega)]
    by_cases h2 : a ≤ hi
    · rw [if_neg (fun z => by have := (zI_lt (by omega) (by omega) (by omega) (by omega)).mp z; omega), if_pos ⟨h1, h2⟩]
    · rw [if_pos ((zI_lt (by omega) (by omega) (by omega) (by omega)).mpr (by omega)), if_neg (fun z => h2 z.2)]
  · rw [if_pos ((zI_lt (by omega) (by omega) (by omega) (by omega)).mpr (by omega)), if_neg (fun z => h1 z.1)]
set_option maxHeartbeats 4000000 in
theorem c_fill {n r N : Nat} {v : Int32} {h : AH} (hl : am_lna r = N) (hN : N ≤ 1000) (hn : N < n) : ∃ h', M_J14_fill_I n r v h = some h' ∧ (∀ j, j < N → h'.2.1 r j = v) ∧ h'.1 = h.1 ∧ (∀ a, ¬ a = r → h'.2.1 a = h.2.1 a) ∧ h'.2.2 = h.2.2 := by
  unfold M_J14_fill_I
  obtain ⟨m', q1, h1, e1, e2, e3, e4, e5, e6⟩ := loopV (ρ := Int32) (L := fun m q h => L_J14_fill_I_5 n r m v q (Int32.ofNat N) h) (N := N) (I := fun k q h1 => q = nI k ∧ (∀ j, j < k → h1.2.1 r j = v) ∧ h1.1 = h.1 ∧ (∀ a, ¬ a = r → h1.2.1 a = h.2.1 a) ∧ h1.2.2 = h.2.2) (by
    intro m k q h1 hk hI
    obtain ⟨i1, i2, i3, i4, i5⟩ := hI
    subst i1
    rw [L_J14_fill_I_5, show Int32.ofNat N = nI N from rfl, if_neg (nI_ge (by omega) (by omega)), hl, am_inK hk (by omega), nK (by omega)]
    simp only [cond_true]
    rw [nI_1]
    refine ⟨nI (k + 1), _, rfl, rfl, ?_, i3, ?_, i5⟩
    · intro j hj
      rw [sa_s]
      unfold upd
      by_cases hjk : j = k
      · rw [if_pos hjk]
      · rw [if_neg hjk]
        exact i2 j (by omega)
    · intro a ha
      rw [sa_n _ _ ha]
      exact i4 a ha) N 0 n 0 h (by omega) (by omega) ⟨rfl, fun j hj => by omega, rfl, fun _ _ => rfl, rfl⟩
  subst e2
  rw [hl, e1, L_J14_fill_I_5, show Int32.ofNat N = nI N from rfl, if_pos (nI_le (Nat.le_refl _) (by omega))]
  exact ⟨h1, rfl, e3, e4, e5, e6⟩
theorem fpk_get : ∀ kd : Fin 3, ([3, 4, 3] : List Int32).getD (Int32.toNatClampNeg (nI kd.val)) 0 = nI (fpk kd.val) := by decide +kernel
theorem dur_get : ∀ kd : Fin 3, ([3, 5, 9] : List Int32).getD (Int32.toNatClampNeg (nI kd.val)) 0 = nI (dur kd.val) := by decide +kernel
set_option maxHeartbeats 4000000 in
theorem c_light70 {n r0 r1 i kd en fr nb m : Nat} {k10 : Int32 → AH → Option AH} {h : AH} (hi : i < 8) (hk : kd < 3) (hfe : fr ≤ en) (hen : en ≤ 24) (hx3 : h.2.1 (r1 + 3) i = nI nb) (hr : r1 + 3 < r0) (hm : 24 < m) :
    ∃ h', L_X2_light_70 n k10 r0 r1 m (nI i) (nI kd) (nI en) (nI fr) h = k10 (nI (i + 1)) h' ∧ (∀ u, u < 24 → h'.2.1 (r0 + 4) u = h.2.1 (r0 + 4) u + nI (if fr ≤ u ∧ u < en then fpk kd * nb else 0)) ∧ h'.1 = h.1 ∧ (∀ a, ¬ a = r0 + 4 → h'.2.1 a = h.2.1 a) ∧ h'.2.2 = h.2.2 := by
  obtain ⟨m', q1, h1, e1, e2, ef, e3, e4, e5, e6⟩ := loopV (ρ := Int32) (L := fun m q h => L_X2_light_70 n k10 r0 r1 m (nI i) (nI kd) (nI en) q h) (N := en) (I := fun k q h1 => q = nI k ∧ fr ≤ k ∧ (∀ u, u < 24 → h1.2.1 (r0 + 4) u = h.2.1 (r0 + 4) u + nI (if fr ≤ u ∧ u < k then fpk kd * nb else 0)) ∧ h1.1 = h.1 ∧ (∀ a, ¬ a = r0 + 4 → h1.2.1 a = h.2.1 a) ∧ h1.2.2 = h.2.2) (by
    intro m k q h1 hk' hI
    obtain ⟨i1, ifr, i2, i3, i4, i5⟩ := hI
    subst i1
    rw [L_X2_light_70, if_neg (nI_ge (by omega) (by omega)), am_inK (show k < 24 by omega) (by omega), am_inK hk (by omega), am_inK hi (by omega), nK (show k ≤ 100000 by omega), nK (show i ≤ 100000 by omega), fpk_get ⟨kd, hk⟩, i4 (r1 + 3) (by omega), hx3, nI_mul, nI_1]
    simp only [cond_true]
    refine ⟨nI (k + 1), _, rfl, rfl, by omega, ?_, i3, ?_, i5⟩
    · intro u hu
      rw [sa_s]
      unfold upd
      by_cases huk : u = k
      · subst huk
        rw [if_pos rfl, i2 u hu, if_neg (by omega), if_pos ⟨ifr, by omega⟩, show nI 0 = 0 from rfl, Int32.add_zero]
      · rw [if_neg huk, i2 u hu]
        by_cases c : fr ≤ u ∧ u < k
        · rw [if_pos c, if_pos ⟨c.1, by omega⟩]
        · rw [if_neg c, if_neg (by omega)]
    · intro a ha
      rw [sa_n _ _ ha]
      exact i4 a ha) (en - fr) fr m (nI fr) h (by omega) (by omega) ⟨rfl, Nat.le_refl _, fun u hu => by rw [if_neg (by omega), show nI 0 = 0 from rfl, Int32.add_zero], rfl, fun _ _ => rfl, rfl⟩
  subst e2
  rw [e1, L_X2_light_70, if_pos (nI_le (Nat.le_refl _) (by omega)), nI_1]
  exact ⟨h1, rfl, e3, e4, e5, e6⟩
theorem dur_pos (k : Nat) : 3 ≤ dur k ∧ dur k ≤ 9 := by
  unfold dur
  split
  · omega
  · split <;> omega
theorem within_ok {a b : Nat} (h : a ≤ b) (hb : b ≤ 100000) : M_X8_within (nI a) (nI b) = 1 := by
  unfold M_X8_within
  rw [if_neg (nI_pos (by omega)), if_neg (nI_nlt h (by omega))]
set_option maxHeartbeats 4000000 in
theorem c_light {n r0 r1 : Nat} {fs : List T3} {h : AH} (hf : okE fs 3 1 3) (hl : am_lna (r0 + 4) = 24) (he : entR h r1 fs) (hr : r1 + 3 < r0) (hn : 24 < n) :
    ∃ h', M_X2_light n r0 r1 h = some h' ∧ (∀ u, u < 24 → h'.2.1 (r0 + 4) u = nI (sp_fire fs u fs.length)) ∧ h'.1 = h.1 ∧ (∀ a, ¬ a = r0 + 4 → h'.2.1 a = h.2.1 a) ∧ h'.2.2 = h.2.2 := by
  have h8 := hf.1
  unfold M_X2_light
  obtain ⟨h0, f1, f2, f3, f4, f5⟩ := c_fill (n := n) (r := r0 + 4) (v := 0) (h := h) hl (by omega) (by omega)
  rw [f1]
  show ∃ h', L_X2_light_10 n r0 r1 n 0 h0 = some h' ∧ _
  obtain ⟨m', q1, h1, e1, e2, e3, e4, e5, e6⟩ := loopV (ρ := Int32) (L := fun m q h => L_X2_light_10 n r0 r1 m q h) (N := fs.length) (I := fun k q h1 => q = nI k ∧ (∀ u, u < 24 → h1.2.1 (r0 + 4) u = nI (sp_fire fs u k)) ∧ h1.1 = h.1 ∧ (∀ a, ¬ a = r0 + 4 → h1.2.1 a = h.2.1 a) ∧ h1.2.2 = h.2.2) (by
    intro m k q h1 hk hI
    obtain ⟨i1, i2, i3, i4, i5⟩ := hI
    subst i1
    obtain ⟨x, hx, -⟩ := dropC (l := fs) (k := k) (by omega)
    obtain ⟨x1, x2, x3⟩ := he.2 k x hx
    obtain ⟨b1, b2, b3, b4⟩ := hf.2 x (List.mem_of_getElem? hx)
    have hd := dur_pos x.2.1
    rw [L_X2_light_10, i3, he.1, if_neg (nI_ge (by omega) (by omega)), show (8 : Int32) = nI 8 from rfl, if_neg (nI_ge (by omega) (by omega)), am_inK (show k < 8 by omega) (by omega), nK (show k ≤ 100000 by omega), i4 (r1 + 2) (by omega), i4 (r1 + 1) (by omega), x1, x2, show (2 : Int32) = nI 2 from rfl, within_ok (by omega) (by omega), am_inK b2 (by omega), dur_get ⟨x.2.1, b2⟩]
    simp only [cond_true]
    rw [if_neg (by decide)]
    have em : am_max 0 (nI x.1) = nI x.1 := by
      rw [zI_n, max0 (by omega) (by omega), zI_n]
      congr 1
    rw [em, nI_add, show (24 : Int32) = nI 24 from rfl, minN (by omega) (by omega)]
    obtain ⟨h2, g1, g2, g3, g4, g5⟩ := c_light70 (n := n) (r0 := r0) (r1 := r1) (i := k) (kd := x.2.1) (en := min 24 (x.1 + dur x.2.1)) (fr := x.1) (nb := x.2.2) (m := n) (k10 := L_X2_light_10 n r0 r1 m) (h := h1) (by omega) b2 (by omega) (by omega) (by rw [i4 _ (by omega)]; exact x3) hr hn
    refine ⟨nI (k + 1), h2, g1, rfl, ?_, g3.trans i3, fun a ha => (g4 a ha).trans (i4 a ha), g5.trans i5⟩
    intro u hu
    rw [g2 u hu, i2 u hu, nI_add, sp_fire, getD_at hx]
    congr 2
    unfold fir1
    by_cases c : x.1 ≤ u ∧ u < x.1 + dur x.2.1
    · rw [if_pos c, if_pos ⟨c.1, by omega⟩]
    · rw [if_neg c, if_neg (by omega)]) fs.length 0 n 0 h0 (by omega) (by omega) ⟨rfl, f2, f3, f4, f5⟩
  subst e2
  rw [e1, L_X2_light_10, e4, he.1, if_pos (nI_le (Nat.le_refl _) (by omega))]
  exact ⟨h1, rfl, e3, e4, e5, e6⟩
/-- the reference's pieces -/
def pcM (h : AH) (fs : List T3) : Prop := h.1 75 2 = nI fs.length ∧ ∀ (j : Nat) (x : T3), fs[j]? = some x → h.2.1 78 j = nI x.1 ∧ h.2.1 79 j = nI x.2.1 ∧ h.2.1 80 j = nI x.2.2
set_option maxHeartbeats 4000000 in
theorem m_fireAt {n t : Nat} {fs : List T3} {h : AH} {b : Bool} (hf : okE fs 3 1 3) (he : pcM h fs) (hb : h.1 75 25 = bI b) (ht : t < 24) (hn : 8 < n) : M_X9_fireAt n (nI t) h = some (nI (if b = true then 2 * sp_fire fs t fs.length else sp_fire fs t fs.length)) := by
  have h8 := hf.1
  unfold M_X9_fireAt
  obtain ⟨s', e1, e2, e3⟩ := loopU (σ := Int32 × Int32) (L := fun m q => L_X9_fireAt_4 n m (nI t) q.1 q.2 h) (N := fs.length) (I := fun k q => q.2 = nI k ∧ q.1 = nI (sp_fire fs t k)) (by
    intro m k q hk hI
    obtain ⟨q1, q2⟩ := q
    obtain ⟨i1, i2⟩ := hI
    dsimp only at i1 i2 ⊢
    subst i1 i2
    obtain ⟨x, hx, -⟩ := dropC (l := fs) (k := k) (by omega)
    obtain ⟨x1, x2, x3⟩ := he.2 k x hx
    obtain ⟨b1, b2, b3, b4⟩ := hf.2 x (List.mem_of_getElem? hx)
    have hd := dur_pos x.2.1
    refine ⟨(nI (sp_fire fs t (k + 1)), nI (k + 1)), ?_, rfl, rfl⟩
    have key : B_X9_fireAt_51 n (L_X9_fireAt_4 n m) (nI t) (nI (sp_fire fs t k)) (nI k) (nI t - nI x.1) (nI (dur x.2.1)) h = L_X9_fireAt_4 n m (nI t) (nI (sp_fire fs t (k + 1))) (nI (k + 1)) h := by
      unfold B_X9_fireAt_51 B_X9_fireAt_93 B_X9_fireAt_88 B_X9_fireAt_93
      rw [am_inK (show k < 9 by omega) (by omega), nK (show k ≤ 100000 by omega), x2, x3, zI_n t, zI_n x.1, zI_sub, zI_n (dur _), show (1 : Int32) = zI 1 from rfl, zI_sub, show (0 : Int32) = zI 0 from rfl, inZ (by omega) (by omega) (by omega) (by omega) (by omega) (by omega), sp_fire, getD_at hx, ← zI_n t, show zI 1 = 1 from rfl, show zI 0 = 0 from rfl]
      simp only [cond_true]
      unfold fir1
      by_cases c : x.1 ≤ t ∧ t < x.1 + dur x.2.1
      · rw [if_pos c, if_neg (by rw [if_pos ⟨by omega, by omega⟩]; decide)]
        have ek : (if nI x.2.1 = 1 then L_X9_fireAt_4 n m (nI t) (nI (sp_fire fs t k) + nI x.2.2 * 4) (nI k + 1) h else L_X9_fireAt_4 n m (nI t) (nI (sp_fire fs t k) + nI x.2.2 * 3) (nI k + 1) h) = L_X9_fireAt_4 n m (nI t) (nI (sp_fire fs t k + fpk x.2.1 * x.2.2)) (nI (k + 1)) h := by
          unfold fpk
          by_cases ck : x.2.1 = 1
          · rw [if_pos (by rw [ck]; rfl), if_pos ck, show (4 : Int32) = nI 4 from rfl, nI_mul, nI_add, nI_1, Nat.mul_comm]
          · rw [if_neg (by rw [show (1 : Int32) = nI 1 from rfl]; exact kF ck (by omega) (by omega)), if_neg ck, show (3 : Int32) = nI 3 from rfl, nI_mul, nI_add, nI_1, Nat.mul_comm]
        exact ek
      · rw [if_neg c, if_pos (by rw [if_neg (by omega)]), Int32.add_zero, Nat.add_zero, nI_1]
    show L_X9_fireAt_4 n (m + 1) (nI t) (nI (sp_fire fs t k)) (nI k) h = L_X9_fireAt_4 n m (nI t) (nI (sp_fire fs t (k + 1))) (nI (k + 1)) h
    rw [L_X9_fireAt_4, he.1, if_neg (nI_ge (by omega) (by omega)), am_inK (show k < 9 by omega) (by omega), nK (show k ≤ 100000 by omega), x1, x2]
    simp only [cond_true]
    rw [← key]
    unfold dur
    by_cases c0 : x.2.1 = 0
    · rw [if_pos (by rw [c0]; rfl), if_pos c0]
      rfl
    · rw [if_neg (by rw [show (0 : Int32) = nI 0 from rfl]; exact kF c0 (by omega) (by omega)), if_neg c0]
      by_cases c1 : x.2.1 = 1
      · rw [if_pos (by rw [c1]; rfl), if_pos c1]
        rfl
      · rw [if_neg (by rw [show (1 : Int32) = nI 1 from rfl]; exact kF c1 (by omega) (by omega)), if_neg c1]
        rfl) fs.length 0 n (0, 0) (by omega) (by omega) ⟨rfl, rfl⟩
  obtain ⟨q1, q2⟩ := s'
  dsimp only at e1 e2 e3
  subst e2 e3
  rw [e1, show n - fs.length = (n - fs.length - 1) + 1 by omega, L_X9_fireAt_4, he.1, if_pos (nI_le (Nat.le_refl _) (by omega)), hb]
  cases b
  · rw [if_neg (by decide)]
    rfl
  · rw [if_pos (by decide), show (2 : Int32) = nI 2 from rfl, nI_mul]
    rfl
