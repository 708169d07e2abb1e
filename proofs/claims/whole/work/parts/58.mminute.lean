/-! a minute of the reference -/
def cN (f : Nat → Bool) : Nat → Nat
  | 0 => 0
  | n + 1 => cN f n + (if f n = true then 1 else 0)
theorem cN_le (f : Nat → Bool) : ∀ n, cN f n ≤ n
  | 0 => Nat.le_refl _
  | n + 1 => by
    have := cN_le f n
    rw [cN]
    split <;> omega
def sp_first (f : Nat → Bool) : Nat → Option Nat
  | 0 => none
  | t + 1 => match sp_first f t with
    | some x => some x
    | none => if f t = true then some t else none
theorem sp_first_lt {f : Nat → Bool} : ∀ (t x : Nat), sp_first f t = some x → x < t
  | 0, x, h => by cases h
  | t + 1, x, h => by
    rw [sp_first] at h
    cases hf : sp_first f t with
    | some y =>
      rw [hf] at h
      cases h
      have := sp_first_lt t x hf
      omega
    | none =>
      rw [hf] at h
      by_cases c : f t = true
      · have h : (if f t = true then some t else none) = some x := h
        rw [if_pos c] at h
        cases h
        omega
      · have h : (if f t = true then some t else none) = some x := h
        rw [if_neg c] at h
        cases h
def fr_R (h h' : AH) : Prop := (∀ i k, ¬ (i = 75 ∧ 22 ≤ k ∧ k ≤ 29) → h'.1 i k = h.1 i k) ∧ (∀ i, ¬ (90 ≤ i ∧ i ≤ 99) → h'.2.1 i = h.2.1 i) ∧ h'.2.2 = h.2.2
theorem fr_R.rf {h : AH} : fr_R h h := ⟨fun _ _ _ => rfl, fun _ _ => rfl, rfl⟩
theorem fr_R.tr {a b c : AH} (h1 : fr_R a b) (h2 : fr_R b c) : fr_R a c := ⟨fun i k z => (h2.1 i k z).trans (h1.1 i k z), fun i z => (h2.2.1 i z).trans (h1.2.1 i z), h2.2.2.trans h1.2.2⟩
def mplan (h : AH) (P : PL) : Prop := pcM h P.1 ∧ gsM h P.2.1 ∧ evM h P.2.2.1 ∧ h.1 75 20 = nI P.2.2.2.1 ∧ h.1 75 11 = nI P.2.2.2.2.1 ∧ skM (h.1 75 21) P.2.2.2.2.2
theorem mplan.fr {h h' : AH} {P : PL} (hp : mplan h P) (hf : fr_R h h') : mplan h' P := by
  obtain ⟨a, b, c, d, e, f⟩ := hp
  refine ⟨⟨by rw [hf.1 _ _ (by omega)]; exact a.1, fun j x hx => ?_⟩, ⟨by rw [hf.1 _ _ (by omega)]; exact b.1, fun j x hx => ?_⟩, ⟨by rw [hf.1 _ _ (by omega)]; exact c.1, fun j x hx => ?_⟩, by rw [hf.1 _ _ (by omega)]; exact d, by rw [hf.1 _ _ (by omega)]; exact e, by rw [hf.1 _ _ (by omega)]; exact f⟩
  · rw [hf.2.1 _ (by omega), hf.2.1 _ (by omega), hf.2.1 _ (by omega)]
    exact a.2 j x hx
  · rw [hf.2.1 _ (by omega), hf.2.1 _ (by omega), hf.2.1 _ (by omega)]
    exact b.2 j x hx
  · rw [hf.2.1 _ (by omega), hf.2.1 _ (by omega), hf.2.1 _ (by omega)]
    exact c.2 j x hx
def mevT (h : AH) (P : PL) (t : Nat) : Prop := ∀ u, u < t → h.2.1 96 (6 * u) = nI (stt P (u + 1)).1 ∧ h.2.1 96 (6 * u + 1) = nI (stt P (u + 1)).2.1 ∧ h.2.1 96 (6 * u + 2) = nI (stt P (u + 1)).2.2.1 ∧ h.2.1 96 (6 * u + 3) = nI (mn_f P u (stt P u)) ∧ h.2.1 96 (6 * u + 4) = bI (mn_b P u (stt P u)) ∧ h.2.1 96 (6 * u + 5) = svI (mn_v P u (stt P u)).1 ∧ h.2.1 97 u = nI (stt P (u + 1)).2.2.2.2.1.length
def mevG (h : AH) (P : PL) (t : Nat) : Prop := ∀ u, u < t → ∀ k, k < P.2.1.length → h.2.1 98 (8 * u + k) = nI ((stt P (u + 1)).2.2.2.2.2.1 k) ∧ h.2.1 99 (8 * u + k) = nI ((stt P (u + 1)).2.2.2.2.2.2.1 k)
def mevW (h : AH) (P : PL) (t : Nat) : Prop := ∀ k, k < P.2.1.length → h.2.1 95 k = nI (cN (fun u => (stt P (u + 1)).2.2.2.2.2.1 k == 1) t)
def mevI (h : AH) (P : PL) (t : Nat) : Prop := mevT h P t ∧ mevG h P t ∧ mevW h P t ∧ h.1 75 22 = nI (stt P t).1 ∧ h.1 75 23 = nI (stt P t).2.1 ∧ h.1 75 24 = nI (stt P t).2.2.1 ∧ h.1 75 26 = nI (stt P t).2.2.2.1 ∧ h.1 75 27 = nI (cN (fun u => mn_b P u (stt P u)) t) ∧ h.1 75 28 = svI (sp_first (fun u => mn_b P u (stt P u)) t) ∧ mcm h (stt P t).2.2.2.2
theorem mcm.cg {h h' : AH} {s : LS9} (hc : mcm h s) (e1 : h'.1 75 29 = h.1 75 29) (e2 : ∀ i, 90 ≤ i → i ≤ 94 → h'.2.1 i = h.2.1 i) : mcm h' s := by
  obtain ⟨c1, c2, c3, c4, c5, c6, c7⟩ := hc
  refine ⟨?_, ?_, ?_, ?_, ?_, ?_, c7⟩
  · rw [e2 _ (by omega) (by omega)]
    exact c1
  · rw [e2 _ (by omega) (by omega)]
    exact c2
  · rw [e2 _ (by omega) (by omega)]
    exact c3
  · rw [e2 _ (by omega) (by omega)]
    exact c4
  · rw [e1]
    exact c5
  · rw [e2 _ (by omega) (by omega)]
    exact c6
set_option maxHeartbeats 4000000 in
/-- the loop at a minute's end -/
theorem m_b283 {n t m : Nat} {P : PL} {h : AH} {s : LS9} (h8 : P.2.1.length ≤ 8) (ht : t < 24) (hg : h.1 75 16 = nI P.2.1.length) (hc : mcm h s) (hs : s = (stt P (t + 1)).2.2.2.2) (hG : mevG h P t) (hW : mevW h P t) (hm : 8 < m) :
    ∃ h', L_X9_goesBy_283 n m (nI t) 0 h = some h' ∧ mevG h' P (t + 1) ∧ mevW h' P (t + 1) ∧ h'.1 = h.1 ∧ (∀ i, ¬ (i = 95 ∨ i = 98 ∨ i = 99) → h'.2.1 i = h.2.1 i) ∧ h'.2.2 = h.2.2 := by
  obtain ⟨c1, c2, c3, c4, c5, c6, c7⟩ := hc
  obtain ⟨m', q1, h1, e1, e2, e3, e4, e5, e6, e7⟩ := loopV (ρ := Int32) (L := fun m q h => L_X9_goesBy_283 n m (nI t) q h) (N := P.2.1.length) (I := fun k q h1 => q = nI k ∧ (∀ u j, u ≤ t → j < P.2.1.length → (u < t ∨ j < k) → h1.2.1 98 (8 * u + j) = nI ((stt P (u + 1)).2.2.2.2.2.1 j) ∧ h1.2.1 99 (8 * u + j) = nI ((stt P (u + 1)).2.2.2.2.2.2.1 j)) ∧ (∀ j, j < P.2.1.length → h1.2.1 95 j = nI (cN (fun u => (stt P (u + 1)).2.2.2.2.2.1 j == 1) (if j < k then t + 1 else t))) ∧ h1.1 = h.1 ∧ (∀ i, ¬ (i = 95 ∨ i = 98 ∨ i = 99) → h1.2.1 i = h.2.1 i) ∧ h1.2.2 = h.2.2) (by
    intro m k q h1 hk hI
    obtain ⟨i1, i2, i3, i4, i5, i6⟩ := hI
    subst i1
    have hs4 := (c7.2.2.2 k (by omega)).1
    rw [L_X9_goesBy_283, i4, hg, if_neg (nI_ge (by omega) (by omega)), show (8 : Int32) = nI 8 from rfl, nI_mul, nI_add, am_inK (show k < 8 by omega) (by omega), am_inK (show 8 * t + k < 192 by omega) (by omega), nK (show k ≤ 100000 by omega), nK (show 8 * t + k ≤ 100000 by omega), i5 91 (by omega), i5 92 (by omega), c1 k (by omega), c2 k (by omega)]
    simp only [cond_true]
    unfold B_X9_goesBy_354
    have key : ∀ y : Int32, y = nI (if s.2.1 k = 1 then 1 else 0) → ∃ r' h', (bif am_in (nI k) 8 then L_X9_goesBy_283 n m (nI t) (nI k + 1) (am_sa (am_sa (am_sa h1 98 (upd (h1.2.1 98) (8 * t + k) (nI (s.2.1 k)))) 99 (upd (h1.2.1 99) (8 * t + k) (nI (s.2.2.1 k)))) 95 (upd ((am_sa (am_sa h1 98 (upd (h1.2.1 98) (8 * t + k) (nI (s.2.1 k)))) 99 (upd (h1.2.1 99) (8 * t + k) (nI (s.2.2.1 k)))).2.1 95) (Int32.toNatClampNeg (nI k)) (h1.2.1 95 k + y))) else none) = L_X9_goesBy_283 n m (nI t) r' h' ∧ r' = nI (k + 1) ∧ (∀ u j, u ≤ t → j < P.2.1.length → (u < t ∨ j < k + 1) → h'.2.1 98 (8 * u + j) = nI ((stt P (u + 1)).2.2.2.2.2.1 j) ∧ h'.2.1 99 (8 * u + j) = nI ((stt P (u + 1)).2.2.2.2.2.2.1 j)) ∧ (∀ j, j < P.2.1.length → h'.2.1 95 j = nI (cN (fun u => (stt P (u + 1)).2.2.2.2.2.1 j == 1) (if j < k + 1 then t + 1 else t))) ∧ h'.1 = h.1 ∧ (∀ i, ¬ (i = 95 ∨ i = 98 ∨ i = 99) → h'.2.1 i = h.2.1 i) ∧ h'.2.2 = h.2.2 := by
      intro y hy
      rw [am_inK (show k < 8 by omega) (by omega), nK (show k ≤ 100000 by omega), nI_1]
      refine ⟨nI (k + 1), _, rfl, rfl, ?_, ?_, i4, ?_, i6⟩
      · intro u j hu hj huj
        rw [sa_n _ _ (by omega), sa_n _ _ (by omega), sa_s, sa_n _ _ (by omega), sa_s]
        unfold upd
        by_cases c : 8 * u + j = 8 * t + k
        · have hut : u = t := by omega
          have hjk : j = k := by omega
          rw [if_pos c, if_pos c, hut, hjk, ← hs]
          exact ⟨rfl, rfl⟩
        · rw [if_neg c, if_neg c]
          exact i2 u j hu hj (by omega)
      · intro j hj
        rw [sa_s]
        unfold upd
        by_cases hjk : j = k
        · subst hjk
          rw [if_pos rfl, if_pos (by omega), i3 j hj, if_neg (by omega), hy, nI_add, cN, ← hs]
          congr 2
          by_cases c : s.2.1 j = 1
          · rw [if_pos c, if_pos (by rw [c]; rfl)]
          · rw [if_neg c, if_neg (by rw [beq_iff_eq]; exact c)]
        · rw [if_neg hjk, sa_n _ _ (by omega), sa_n _ _ (by omega), i3 j hj]
          by_cases c : j < k
          · rw [if_pos c, if_pos (by omega)]
          · rw [if_neg c, if_neg (by omega)]
      · intro i z
        rw [sa_n _ _ (by omega), sa_n _ _ (by omega), sa_n _ _ (by omega)]
        exact i5 i z
    by_cases cs : s.2.1 k = 1
    · rw [if_pos (by rw [cs]; rfl)]
      exact key 1 (by rw [if_pos cs]; rfl)
    · rw [if_neg (by rw [show (1 : Int32) = nI 1 from rfl]; exact kF cs (by omega) (by omega))]
      exact key 0 (by rw [if_neg cs]; rfl)) P.2.1.length 0 m 0 h (by omega) (by omega) ⟨rfl, fun u j hu hj z => hG u (by omega) j hj, fun j hj => by rw [if_neg (by omega)]; exact hW j hj, rfl, fun _ _ => rfl, rfl⟩
  subst e2
  rw [e1, L_X9_goesBy_283, e5, hg, if_pos (nI_le (Nat.le_refl _) (by omega))]
  refine ⟨h1, rfl, fun u hu k hk => e3 u k (by omega) hk (by omega), fun k hk => ?_, e5, e6, e7⟩
  have := e4 k hk
  rw [if_pos hk] at this
  exact this
