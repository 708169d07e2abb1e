/-! copy -/
theorem nonneg {a : Int32} (h : ¬ a < 0) : ∃ k, k < 2147483648 ∧ a = nI k := by
  have t3 : (0 : Int32).toInt = 0 := by decide
  rw [Int32.lt_iff_toInt_lt] at h
  have h2 := Int32.toInt_lt a
  refine ⟨a.toInt.toNat, by omega, Int32.toInt_inj.mp ?_⟩
  rw [nI_toInt (by omega)]
  omega
theorem hasS {q i m z : Nat} {h : AH} (hi : i < 2147483648) (hm : m < 2147483648) (hz : z ≤ 60) (e : h.1 q 3 = nI z) : M_X5_hasSome q (nI i) (nI m) h = if z < i + m then 0 else 1 := by
  unfold M_X5_hasSome
  rw [if_neg (nI_pos (by omega)), if_neg (nI_pos (by omega)), e, zI_n z, zI_n i, zI_sub, zI_n m]
  by_cases c : z < i + m
  · rw [if_pos c, if_pos ((zI_lt (by omega) (by omega) (by omega) (by omega)).mpr (by omega))]
  · rw [if_neg c, if_neg (fun y => c (by have := (zI_lt (by omega) (by omega) (by omega) (by omega)).mp y; omega))]
theorem hasS_n {q : Nat} {a b : Int32} {h : AH} (hn : a < 0 ∨ b < 0) : M_X5_hasSome q a b h = 0 := by
  unfold M_X5_hasSome
  by_cases c : a < 0
  · rw [if_pos c]
  · rcases hn with z | z
    · exact absurd z c
    · rw [if_neg c, if_pos z]
theorem nL_add (a b : Nat) : nL a + nL b = nL (a + b) := (Int64.ofNat_add a b).symm
theorem nL_lt {a b : Nat} (ha : a < 2 ^ 63) (hb : b < 2 ^ 63) : nL a < nL b ↔ a < b := by
  rw [Int64.lt_iff_toInt_lt, nL_toInt ha, nL_toInt hb]
  omega
theorem nL_le {a b : Nat} (ha : a < 2 ^ 63) (hb : b < 2 ^ 63) : nL a ≤ nL b ↔ a ≤ b := by
  rw [Int64.le_iff_toInt_le, nL_toInt ha, nL_toInt hb]
  omega
theorem cpS {i j m : Nat} (h1 : i + m ≤ 60) (h2 : j + m ≤ 60) : am_cpok (nI i) (nI j) (nI m) 60 60 = true := by
  unfold am_cpok
  rw [nK (by omega), nK (by omega), nK (by omega), decide_eq_false (nI_pos (by omega)), decide_eq_false (nI_pos (by omega)), decide_eq_false (nI_pos (by omega)), decide_eq_true h1, decide_eq_true h2]
  rfl
def cpX (x y : SH) (i j m : Nat) : SH := (y.1, y.2.1, y.2.2.1, fun p => if j ≤ p ∧ p < j + m then x.2.2.2 (i + (p - j)) else y.2.2.2 p)
theorem c_cpy {s t i j m : Nat} {S : ST} {h : AH} (hc : CR h S) (hs : s < 4) (ht : t < 4) (h1 : i + m ≤ 60) (h2 : j + m ≤ 60) : CR (am_sa h (67 + 2 * t + 1) (va_cpy (h.2.1 (67 + 2 * s + 1)) (h.2.1 (67 + 2 * t + 1)) i j m)) (setH S t (cpX (S.2.2.2.2.1 s) (S.2.2.2.2.1 t) i j m)) := by
  have hok := hc.1.2.2.2.2.2.2 t ht
  obtain ⟨f1, f2, f3, f4⟩ := hc.2.1.2.2.2.2.2.1 t ht
  obtain ⟨-, -, -, g4⟩ := hc.2.1.2.2.2.2.2.1 s hs
  refine CR_sh hc ht hok.1 hok.2 ⟨f1, f2, f3, fun p hp => ?_⟩ (fun i k q => rfl) (fun i q => sa_n _ _ (by omega)) rfl
  rw [show 68 + 2 * t = 67 + 2 * t + 1 by omega, sa_s]
  show va_cpy (h.2.1 (67 + 2 * s + 1)) (h.2.1 (67 + 2 * t + 1)) i j m p = if j ≤ p ∧ p < j + m then (S.2.2.2.2.1 s).2.2.2 (i + (p - j)) else (S.2.2.2.2.1 t).2.2.2 p
  unfold va_cpy
  by_cases q : j ≤ p ∧ p < j + m
  · rw [if_pos q, if_pos q, show 67 + 2 * s + 1 = 68 + 2 * s by omega, g4 _ (by omega)]
  · rw [if_neg q, if_neg q, show 67 + 2 * t + 1 = 68 + 2 * t by omega, f4 _ hp]
set_option maxHeartbeats 1000000 in
theorem m_cpy {n s t i j m : Nat} {S : ST} {h : AH} (hm : MT h S) (hs : s < 4) (ht : t < 4) (h1 : i + m ≤ 60) (h2 : j + m ≤ 60) (hn : 600 < n) : ∃ h', L_X9_copy_120 n n (nI s) (nI i) (nI t) (nI j) (nI m) 0 h = some (1, h') ∧ MT h' (setH S t (cpX (S.2.2.2.2.1 s) (S.2.2.2.2.1 t) i j m)) := by
  obtain ⟨m1, ha, e1, e2, e3, e4⟩ := loopH (L := fun f (q : Int32) h => L_X9_copy_120 n f (nI s) (nI i) (nI t) (nI j) (nI m) q h) (f := fun k => nI k) (I := fun k hx => hx.1 = h.1 ∧ (∀ a, ¬ a = 108 → hx.2.1 a = h.2.1 a) ∧ ∀ p, p < k → hx.2.1 108 p = h.2.1 107 (60 * s + i + p)) (N := m) (by
    intro f k hx hk hI
    obtain ⟨i1, i2, i3⟩ := hI
    show ∃ h', L_X9_copy_120 n (f + 1) (nI s) (nI i) (nI t) (nI j) (nI m) (nI k) hx = L_X9_copy_120 n f (nI s) (nI i) (nI t) (nI j) (nI m) (nI (k + 1)) h' ∧ _
    rw [L_X9_copy_120, if_neg (nI_ge hk (by omega)), show (60 : Int32) = nI 60 from rfl, nI_mul, nI_add, nI_add, am_inK (show 60 * s + i + k < 240 by omega) (by omega), am_inK (show k < 60 by omega) (by omega), nK (by omega), nK (by omega), i2 107 (by omega), nI_1]
    refine ⟨_, rfl, i1, fun a z => by rw [sa_n _ _ z]; exact i2 a z, fun p hp => ?_⟩
    rw [sa_s]
    unfold upd
    by_cases q : p = k
    · rw [if_pos q, q]
    · rw [if_neg q]
      exact i3 p (by omega)) m 0 n h (by omega) (by omega) ⟨rfl, fun _ _ => rfl, fun p hp => by omega⟩
  have e1 : L_X9_copy_120 n n (nI s) (nI i) (nI t) (nI j) (nI m) 0 h = L_X9_copy_120 n (m1 + 1) (nI s) (nI i) (nI t) (nI j) (nI m) (nI m) ha := e1
  rw [e1, L_X9_copy_120, if_pos (nI_le (Nat.le_refl _) (by omega))]
  obtain ⟨m2, hb, g1, g2, g3, g4⟩ := loopH (L := fun f (q : Int32) h => L_X9_copy_157 n f (nI t) (nI j) (nI m) q h) (f := fun k => nI k) (I := fun k hx => hx.1 = h.1 ∧ (∀ a, ¬ a = 107 → hx.2.1 a = ha.2.1 a) ∧ ∀ p, hx.2.1 107 p = if 60 * t + j ≤ p ∧ p < 60 * t + j + k then h.2.1 107 (60 * s + i + (p - (60 * t + j))) else h.2.1 107 p) (N := m) (by
    intro f k hx hk hI
    obtain ⟨i1, i2, i3⟩ := hI
    show ∃ h', L_X9_copy_157 n (f + 1) (nI t) (nI j) (nI m) (nI k) hx = L_X9_copy_157 n f (nI t) (nI j) (nI m) (nI (k + 1)) h' ∧ _
    rw [L_X9_copy_157, if_neg (nI_ge hk (by omega)), show (60 : Int32) = nI 60 from rfl, nI_mul, nI_add, nI_add, am_inK (show k < 60 by omega) (by omega), am_inK (show 60 * t + j + k < 240 by omega) (by omega), nK (by omega), nK (by omega), i2 108 (by omega), e4 k hk, nI_1]
    refine ⟨_, rfl, i1, fun a z => by rw [sa_n _ _ z]; exact i2 a z, fun p => ?_⟩
    rw [sa_s]
    unfold upd
    by_cases q : p = 60 * t + j + k
    · rw [if_pos q, if_pos (by omega), show p - (60 * t + j) = k by omega]
    · rw [if_neg q, i3 p]
      by_cases q2 : 60 * t + j ≤ p ∧ p < 60 * t + j + k
      · rw [if_pos q2, if_pos (by omega)]
      · rw [if_neg q2, if_neg (by omega)]) m 0 n ha (by omega) (by omega) ⟨e2, fun _ _ => rfl, fun p => by rw [if_neg (by omega), e3 _ (by omega)]⟩
  have g1 : L_X9_copy_157 n n (nI t) (nI j) (nI m) 0 ha = L_X9_copy_157 n (m2 + 1) (nI t) (nI j) (nI m) (nI m) hb := g1
  rw [g1, L_X9_copy_157, if_pos (nI_le (Nat.le_refl _) (by omega))]
  obtain ⟨f1, f2, f3, f4⟩ := hm.2.2.2.2.2.1 t ht
  obtain ⟨-, -, -, k4⟩ := hm.2.2.2.2.2.1 s hs
  have fa : ∀ a, ¬ (a = 107 ∨ a = 108) → hb.2.1 a = h.2.1 a := fun a z => by rw [g3 a (by omega), e3 a (by omega)]
  refine ⟨hb, rfl, MT_sh ht hm ⟨?_, ?_, ?_, fun p hp => ?_⟩ (fun r hr q => ⟨?_, ?_, ?_, fun p hp => ?_⟩) g2 (fun a z => fa a (by omega))⟩
  · rw [fa _ (by omega)]
    exact f1
  · rw [fa _ (by omega)]
    exact f2
  · rw [fa _ (by omega)]
    exact f3
  · rw [g4]
    show _ = if j ≤ p ∧ p < j + m then (S.2.2.2.2.1 s).2.2.2 (i + (p - j)) else (S.2.2.2.2.1 t).2.2.2 p
    by_cases q : j ≤ p ∧ p < j + m
    · rw [if_pos q, if_pos (by omega), show 60 * t + p - (60 * t + j) = p - j by omega, Nat.add_assoc]
      exact k4 _ (by omega)
    · rw [if_neg q, if_neg (by omega)]
      exact f4 p hp
  · rw [fa _ (by omega)]
  · rw [fa _ (by omega)]
  · rw [fa _ (by omega)]
  · rw [g4, if_neg (by omega)]
theorem copy_bad {a1 a2 a3 a4 a5 : Int32} {h : AH} (n1 : ∀ k, k ≤ 3 → ¬ a1 = nI k) : M_X8_copy a1 a2 a3 a4 a5 h = some (-2, h) := by
  unfold M_X8_copy
  rw [if_neg (show ¬ a1 = 0 from n1 0 (by omega)), if_neg (show ¬ a1 = 1 from n1 1 (by omega)), if_neg (show ¬ a1 = 2 from n1 2 (by omega)), if_neg (show ¬ a1 = 3 from n1 3 (by omega))]
  split
  · rfl
  · split
    · rfl
    · split
      · rfl
      · split <;> rfl
set_option maxHeartbeats 2000000 in
theorem two_copy {n : Nat} (hn : 600 < n) (a b c d e : Int32) : two (M_X8_copy a b c d e) (M_X9_copy n a b c d e) := by
  intro S ho
  rcases arg (a := a) (N := 3) (by omega) with ⟨s, hs, rfl, w1, w2⟩ | ⟨na, w1, w2⟩
  · have w2 : M_X9_isSheet (nI s) = 1 := w2
    have hs : s < 4 := by omega
    have e7 : ∀ h, M_X8_copy (nI s) b c d e h = B_X8_copy_7 b c d e (67 + 2 * s) h := by
      intro h
      unfold M_X8_copy
      rcases (show s = 0 ∨ s = 1 ∨ s = 2 ∨ s = 3 by omega) with rfl | rfl | rfl | rfl
      · rw [if_pos (show nI 0 = (0 : Int32) from rfl)]
      · rw [if_neg (show ¬ nI 1 = (0 : Int32) by decide), if_pos (show nI 1 = (1 : Int32) from rfl)]
      · rw [if_neg (show ¬ nI 2 = (0 : Int32) by decide), if_neg (show ¬ nI 2 = (1 : Int32) by decide), if_pos (show nI 2 = (2 : Int32) from rfl)]
      · rw [if_neg (show ¬ nI 3 = (0 : Int32) by decide), if_neg (show ¬ nI 3 = (1 : Int32) by decide), if_neg (show ¬ nI 3 = (2 : Int32) by decide), if_pos (show nI 3 = (3 : Int32) from rfl)]
    rcases arg (a := c) (N := 3) (by omega) with ⟨t, ht, rfl, v1, v2⟩ | ⟨nc, v1, v2⟩
    · have v2 : M_X9_isSheet (nI t) = 1 := v2
      have ht : t < 4 := by omega
      have e8 : ∀ h, M_X8_copy (nI s) b (nI t) d e h = B_X8_copy_14 b d e (67 + 2 * s) (67 + 2 * t) h := by
        intro h
        rw [e7]
        unfold B_X8_copy_7
        rcases (show t = 0 ∨ t = 1 ∨ t = 2 ∨ t = 3 by omega) with rfl | rfl | rfl | rfl
        · rw [if_pos (show nI 0 = (0 : Int32) from rfl)]
        · rw [if_neg (show ¬ nI 1 = (0 : Int32) by decide), if_pos (show nI 1 = (1 : Int32) from rfl)]
        · rw [if_neg (show ¬ nI 2 = (0 : Int32) by decide), if_neg (show ¬ nI 2 = (1 : Int32) by decide), if_pos (show nI 2 = (2 : Int32) from rfl)]
        · rw [if_neg (show ¬ nI 3 = (0 : Int32) by decide), if_neg (show ¬ nI 3 = (1 : Int32) by decide), if_neg (show ¬ nI 3 = (2 : Int32) by decide), if_pos (show nI 3 = (3 : Int32) from rfl)]
      have oks := ho.2.2.2.2.2.2 s hs
      have okt := ho.2.2.2.2.2.2 t ht
      have fnd : ∀ v : Int32, (∀ h, CR h S → M_X8_copy (nI s) b (nI t) d e h = some (-10 - v, am_sf h 0 12 v)) → (∀ h, MT h S → M_X9_copy n (nI s) b (nI t) d e h = some (-10 - v, am_sf h 75 52 v)) → ∃ (r : Int32) (S' : ST), (∀ h, CR h S → ∃ h1, M_X8_copy (nI s) b (nI t) d e h = some (r, h1) ∧ CR h1 S') ∧ (∀ h, MT h S → ∃ h2, M_X9_copy n (nI s) b (nI t) d e h = some (r, h2) ∧ MT h2 S') := fun v p q => ⟨-10 - v, setF S v, fun h hc => ⟨_, p h hc, CR_fd hc⟩, fun h hm => ⟨_, q h hm, MT_fd hm⟩⟩
      have m0 : ∀ h, MT h S → (S.2.2.2.2.1 s).1 = true ∨ (S.2.2.2.2.1 t).1 = true → M_X9_copy n (nI s) b (nI t) d e h = some (-10 - 1, am_sf h 75 52 1) := by
        intro h hm hl
        unfold M_X9_copy B_X9_copy_35 M_X9_meets
        rw [if_neg (by rw [w2]; decide), if_neg (by rw [v2]; decide), am_inK hs (by omega), am_inK ht (by omega), nK (by omega), nK (by omega), (hm.2.2.2.2.2.1 s hs).1, (hm.2.2.2.2.2.1 t ht).1]
        simp only [cond_true]
        cases h1 : (S.2.2.2.2.1 s).1
        · rw [if_neg (by decide)]
          cases h2 : (S.2.2.2.2.1 t).1
          · rw [h1, h2] at hl
            rcases hl with z | z <;> cases z
          · rw [if_pos (by decide)]
            rfl
        · rw [if_pos (by decide)]
          rfl
      cases ls : (S.2.2.2.2.1 s).1
      · cases lt : (S.2.2.2.2.1 t).1
        · have m1 : ∀ h, MT h S → M_X9_copy n (nI s) b (nI t) d e h = if nI (S.2.2.2.2.1 s).2.1 = nI (S.2.2.2.2.1 t).2.1 then (if b < 0 then B_X9_copy_111 n h else if d < 0 then B_X9_copy_111 n h else if e < 0 then B_X9_copy_111 n h else if 0 < lg_cmp (Int32.toInt64 b + Int32.toInt64 e) (Int32.toInt64 (nI (S.2.2.2.2.1 s).2.2.1)) then B_X9_copy_111 n h else if lg_cmp (Int32.toInt64 d + Int32.toInt64 e) (Int32.toInt64 (nI (S.2.2.2.2.1 t).2.2.1)) ≤ 0 then L_X9_copy_120 n n (nI s) b (nI t) d e 0 h else B_X9_copy_111 n h) else some (-10 - 4, am_sf h 75 52 4) := by
            intro h hm
            obtain ⟨f1, f2, f3, -⟩ := hm.2.2.2.2.2.1 s hs
            obtain ⟨g1, g2, g3, -⟩ := hm.2.2.2.2.2.1 t ht
            unfold M_X9_copy M_X9_meets
            rw [if_neg (by rw [w2]; decide), if_neg (by rw [v2]; decide), am_inK hs (by omega), am_inK ht (by omega), nK (by omega), nK (by omega), f1, g1, f2, g2, f3, g3, ls, lt, if_neg (by decide), if_neg (by decide)]
            rfl
          have c1 : ∀ h, CR h S → M_X8_copy (nI s) b (nI t) d e h = if nI (S.2.2.2.2.1 s).2.1 = nI (S.2.2.2.2.1 t).2.1 then (if M_X5_hasSome (67 + 2 * s) b e h = 0 then B_X8_copy_91 h else if M_X5_hasSome (67 + 2 * t) d e h = 0 then B_X8_copy_91 h else bif am_cpok b d e 60 60 then some (1, am_sa h (67 + 2 * t + 1) (va_cpy (h.2.1 (67 + 2 * s + 1)) (h.2.1 (67 + 2 * t + 1)) (Int32.toNatClampNeg b) (Int32.toNatClampNeg d) (Int32.toNatClampNeg e))) else none) else some (-10 - 4, am_sf h 0 12 4) := by
            intro h hc
            obtain ⟨f1, f2, f3, -⟩ := hc.2.1.2.2.2.2.2.1 s hs
            obtain ⟨g1, g2, g3, -⟩ := hc.2.1.2.2.2.2.2.1 t ht
            rw [e8]
            unfold B_X8_copy_14 M_X8_found
            rw [f1, g1, f2, g2, ls, lt, if_pos (by decide), if_pos (by decide)]
            rfl
          by_cases cf : (S.2.2.2.2.1 s).2.1 = (S.2.2.2.2.1 t).2.1
          · have ix : (∀ h, CR h S → M_X5_hasSome (67 + 2 * s) b e h = 0 ∨ M_X5_hasSome (67 + 2 * t) d e h = 0) → (∀ h, MT h S → M_X9_copy n (nI s) b (nI t) d e h = B_X9_copy_111 n h) → ∃ (r : Int32) (S' : ST), (∀ h, CR h S → ∃ h1, M_X8_copy (nI s) b (nI t) d e h = some (r, h1) ∧ CR h1 S') ∧ (∀ h, MT h S → ∃ h2, M_X9_copy n (nI s) b (nI t) d e h = some (r, h2) ∧ MT h2 S') := by
              intro p q
              refine fnd 2 (fun h hc => ?_) (fun h hm => by rw [q h hm]; rfl)
              rw [c1 h hc, if_pos (by rw [cf])]
              by_cases c2 : M_X5_hasSome (67 + 2 * s) b e h = 0
              · rw [if_pos c2]
                rfl
              · rw [if_neg c2, if_pos ((p h hc).resolve_left c2)]
                rfl
            by_cases b0 : b < 0
            · exact ix (fun h hc => Or.inl (hasS_n (Or.inl b0))) (fun h hm => by rw [m1 h hm, if_pos (by rw [cf]), if_pos b0])
            · by_cases d0 : d < 0
              · exact ix (fun h hc => Or.inr (hasS_n (Or.inl d0))) (fun h hm => by rw [m1 h hm, if_pos (by rw [cf]), if_neg b0, if_pos d0])
              · by_cases e0 : e < 0
                · exact ix (fun h hc => Or.inl (hasS_n (Or.inr e0))) (fun h hm => by rw [m1 h hm, if_pos (by rw [cf]), if_neg b0, if_neg d0, if_pos e0])
                · obtain ⟨i, hi, rfl⟩ := nonneg b0
                  obtain ⟨j, hj, rfl⟩ := nonneg d0
                  obtain ⟨m, hm0, rfl⟩ := nonneg e0
                  have l1 : (0 < lg_cmp (Int32.toInt64 (nI i) + Int32.toInt64 (nI m)) (Int32.toInt64 (nI (S.2.2.2.2.1 s).2.2.1))) ↔ (S.2.2.2.2.1 s).2.2.1 < i + m := by
                    rw [lg_cmp_gt, toL (by omega), toL (by omega), toL (by omega), nL_add, nL_lt (by omega) (by omega)]
                  have l2 : (lg_cmp (Int32.toInt64 (nI j) + Int32.toInt64 (nI m)) (Int32.toInt64 (nI (S.2.2.2.2.1 t).2.2.1)) ≤ 0) ↔ j + m ≤ (S.2.2.2.2.1 t).2.2.1 := by
                    rw [lg_cmp_le, toL (by omega), toL (by omega), toL (by omega), nL_add, nL_le (by omega) (by omega)]
                  have k1 : ∀ h, CR h S → M_X5_hasSome (67 + 2 * s) (nI i) (nI m) h = if (S.2.2.2.2.1 s).2.2.1 < i + m then 0 else 1 := fun h hc => hasS hi hm0 oks.2 (hc.2.1.2.2.2.2.2.1 s hs).2.2.1
                  have k2 : ∀ h, CR h S → M_X5_hasSome (67 + 2 * t) (nI j) (nI m) h = if (S.2.2.2.2.1 t).2.2.1 < j + m then 0 else 1 := fun h hc => hasS hj hm0 okt.2 (hc.2.1.2.2.2.2.2.1 t ht).2.2.1
                  by_cases z1 : (S.2.2.2.2.1 s).2.2.1 < i + m
                  · exact ix (fun h hc => Or.inl (by rw [k1 h hc, if_pos z1])) (fun h hm => by rw [m1 h hm, if_pos (by rw [cf]), if_neg b0, if_neg d0, if_neg e0, if_pos (l1.mpr z1)])
                  · by_cases z2 : (S.2.2.2.2.1 t).2.2.1 < j + m
                    · exact ix (fun h hc => Or.inr (by rw [k2 h hc, if_pos z2])) (fun h hm => by rw [m1 h hm, if_pos (by rw [cf]), if_neg b0, if_neg d0, if_neg e0, if_neg (fun y => z1 (l1.mp y)), if_neg (fun y => by have := l2.mp y; omega)])
                    · have o1 := oks.2
                      have o2 := okt.2
                      refine ⟨1, setH S t (cpX (S.2.2.2.2.1 s) (S.2.2.2.2.1 t) i j m), fun h hc => ?_, fun h hm => ?_⟩
                      · rw [c1 h hc, if_pos (by rw [cf]), k1 h hc, if_neg z1, if_neg (by decide), k2 h hc, if_neg z2, if_neg (by decide), cpS (by omega) (by omega), nK (by omega), nK (by omega), nK (by omega)]
                        exact ⟨_, rfl, c_cpy hc hs ht (by omega) (by omega)⟩
                      · rw [m1 h hm, if_pos (by rw [cf]), if_neg b0, if_neg d0, if_neg e0, if_neg (fun y => z1 (l1.mp y)), if_pos (l2.mpr (by omega))]
                        exact m_cpy hm hs ht (by omega) (by omega) hn
          · have o1 := oks.1
            have o2 := okt.1
            exact fnd 4 (fun h hc => by rw [c1 h hc, if_neg (kF cf (by omega) (by omega))]) (fun h hm => by rw [m1 h hm, if_neg (kF cf (by omega) (by omega))])
        · refine fnd 1 (fun h hc => ?_) (fun h hm => m0 h hm (Or.inr lt))
          rw [e8]
          unfold B_X8_copy_14 B_X8_copy_43 M_X8_found
          rw [(hc.2.1.2.2.2.2.2.1 s hs).1, ls, if_pos (by decide), (hc.2.1.2.2.2.2.2.1 t ht).1, lt, if_neg (by decide)]
          rfl
      · refine fnd 1 (fun h hc => ?_) (fun h hm => m0 h hm (Or.inl ls))
        rw [e8]
        unfold B_X8_copy_14 B_X8_copy_43 M_X8_found
        rw [(hc.2.1.2.2.2.2.2.1 s hs).1, ls, if_neg (by decide)]
        rfl
    · refine ⟨-2, S, fun h hc => ?_, fun h hm => ?_⟩
      · rw [e7]
        unfold B_X8_copy_7
        rw [if_neg (show ¬ c = 0 from nc 0 (by omega)), if_neg (show ¬ c = 1 from nc 1 (by omega)), if_neg (show ¬ c = 2 from nc 2 (by omega)), if_neg (show ¬ c = 3 from nc 3 (by omega))]
        exact ⟨h, rfl, hc⟩
      · unfold M_X9_copy
        rw [if_neg (by rw [w2]; decide), if_pos (show M_X9_isSheet c = 0 from v2)]
        exact ⟨h, rfl, hm⟩
  · refine ⟨-2, S, fun h hc => ⟨h, copy_bad na, hc⟩, fun h hm => ?_⟩
    unfold M_X9_copy
    rw [if_pos (show M_X9_isSheet a = 0 from w2)]
    exact ⟨h, rfl, hm⟩
