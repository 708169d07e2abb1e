/-! what was told, and how both sides hold it -/
/-- lost, form, size, items -/
abbrev SH : Type := Bool × Nat × Nat × (Nat → Int32)
/-- (bytes of the fuel, of the guests), (water, brew), events, seen, sheets, finding -/
abbrev ST : Type := (List Nat × List Nat) × (Nat × Nat) × List T3 × List T3 × (Nat → SH) × Int32
def okST (S : ST) : Prop := (S.1.1.length ≤ 31 ∧ ∀ b ∈ S.1.1, b ≤ 255) ∧ (S.1.2.length ≤ 31 ∧ ∀ b ∈ S.1.2, b ≤ 255) ∧ S.2.1.1 ≤ 30 ∧ S.2.1.2 ≤ 40 ∧ okE S.2.2.1 3 0 9 ∧ okE S.2.2.2.1 2 0 0 ∧ ∀ s, s < 4 → (S.2.2.2.2.1 s).2.1 < 3 ∧ (S.2.2.2.2.1 s).2.2.1 ≤ 60
def toldP (S : ST) : PL := (entS 0 S.1.1, entS 1 S.1.2, S.2.2.1, S.2.1.1, S.2.1.2, fun _ => false)
def setK (l : List T3) (i k : Nat) : List T3 := l.modify i (fun x => (x.1, k, x.2.2))
def setM (l : List T3) (i t : Nat) : List T3 := l.modify i (fun x => (t, x.2.1, x.2.2))
def altP (S : ST) (t : Nat) : PL :=
  if t < 256 then (entS 0 S.1.1, entS 1 S.1.2, S.2.2.1, S.2.1.1, S.2.1.2, fun j => t.testBit j)
  else if t < 287 then (entS 0 S.1.1, entS 1 S.1.2, S.2.2.1, t - 256, S.2.1.2, fun _ => false)
  else if t < 311 then (setK (entS 0 S.1.1) ((t - 287) / 3) ((t - 287) % 3), entS 1 S.1.2, S.2.2.1, S.2.1.1, S.2.1.2, fun _ => false)
  else (entS 0 S.1.1, setM (entS 1 S.1.2) ((t - 311) / 24) ((t - 311) % 24), S.2.2.1, S.2.1.1, S.2.1.2, fun _ => false)
def pk (a b c d : Int32) : Int64 := ((((281474976710656 ||| ((Int32.toInt64 a) <<< (Int32.toInt64 40 &&& 63))) ||| ((Int32.toInt64 b) <<< (Int32.toInt64 32 &&& 63))) ||| ((Int32.toInt64 c) <<< (Int32.toInt64 24 &&& 63))) ||| (Int32.toInt64 d))
def glS (P : PL) : Nat := sN (stt P 24).2.2.2.2.2.2.1 8
def coS (P : PL) : Nat := bN (fun k => (stt P 24).2.2.2.2.2.1 k == 3) 8
def goS (P : PL) : Nat := bN (fun k => (stt P 24).2.2.2.2.2.1 k == 4) 8
def boS (P : PL) : Nat := bN (fun j => mn_b P j (stt P j)) 24
def pkS (P : PL) : Int64 := pk (nI (glS P)) (nI (goS P)) (nI (coS P)) (nI (boS P))
def CT (h : AH) (S : ST) : Prop := (txC h 1 0 S.1.1 ∧ entR h 2 (entS 0 S.1.1) ∧ h.1 1 5 = svI (fltS 0 S.1.1)) ∧ (txC h 7 1 S.1.2 ∧ entR h 8 (entS 1 S.1.2) ∧ h.1 7 5 = svI (fltS 1 S.1.2)) ∧ entR h 13 S.2.2.1 ∧ entR h 17 S.2.2.2.1 ∧ (h.1 21 3 = nI S.2.1.1 ∧ h.1 21 4 = nI S.2.1.2 ∧ h.1 21 5 = 0) ∧ (∀ s, s < 4 → h.1 (67 + 2 * s) 1 = bI (S.2.2.2.2.1 s).1 ∧ h.1 (67 + 2 * s) 2 = nI (S.2.2.2.2.1 s).2.1 ∧ h.1 (67 + 2 * s) 3 = nI (S.2.2.2.2.1 s).2.2.1 ∧ ∀ j, j < 60 → h.2.1 (68 + 2 * s) j = (S.2.2.2.2.1 s).2.2.2 j) ∧ h.1 0 12 = S.2.2.2.2.2
def CK (h : AH) (S : ST) : Prop := (h.1 0 11 = 0 ∨ (h.1 0 11 = 1 ∧ evI h 22 (toldP S) 24)) ∧ ((h.1 37 4 = 1 ∧ ∀ t, t < 503 → h.2.2 38 t = 0) ∨ (h.1 37 4 = 0 ∧ ∀ t, t < 503 → h.2.2 38 t = 0 ∨ h.2.2 38 t = pkS (altP S t)))
def CR (h : AH) (S : ST) : Prop := okST S ∧ CT h S ∧ CK h S
def MT (h : AH) (S : ST) : Prop := txM h 0 S.1.1 ∧ txM h 1 S.1.2 ∧ evM h S.2.2.1 ∧ (h.1 75 10 = nI S.2.1.1 ∧ h.1 75 11 = nI S.2.1.2) ∧ (h.1 75 43 = nI S.2.2.2.1.length ∧ ∀ (j : Nat) (x : T3), S.2.2.2.1[j]? = some x → h.2.1 101 j = nI x.1 ∧ h.2.1 102 j = nI x.2.1) ∧ (∀ s, s < 4 → h.2.1 104 s = bI (!(S.2.2.2.2.1 s).1) ∧ h.2.1 105 s = nI (S.2.2.2.2.1 s).2.1 ∧ h.2.1 106 s = nI (S.2.2.2.2.1 s).2.2.1 ∧ ∀ j, j < 60 → h.2.1 107 (60 * s + j) = (S.2.2.2.2.1 s).2.2.2 j) ∧ h.1 75 52 = S.2.2.2.2.2
def fr_CT (h h' : AH) : Prop := (∀ i k, (1 ≤ i ∧ i ≤ 21) ∨ (67 ≤ i ∧ i ≤ 74) → h'.1 i k = h.1 i k) ∧ h'.1 0 12 = h.1 0 12 ∧ ∀ i, (1 ≤ i ∧ i ≤ 21) ∨ (67 ≤ i ∧ i ≤ 74) → h'.2.1 i = h.2.1 i
theorem entR.cg {h h' : AH} {r : Nat} {l : List T3} (he : entR h r l) (e1 : h'.1 r 3 = h.1 r 3) (e2 : ∀ i, r < i → i ≤ r + 3 → h'.2.1 i = h.2.1 i) : entR h' r l := by
  refine ⟨by rw [e1]; exact he.1, fun j x hx => ?_⟩
  rw [e2 _ (by omega) (by omega), e2 _ (by omega) (by omega), e2 _ (by omega) (by omega)]
  exact he.2 j x hx
theorem txC.cg {h h' : AH} {r tx : Nat} {bs : List Nat} (he : txC h r tx bs) (e1 : ∀ k, k < 5 → h'.1 r k = h.1 r k) (e2 : h'.2.1 (r + 5) = h.2.1 (r + 5)) : txC h' r tx bs := ⟨by rw [e1 _ (by omega)]; exact he.1, by rw [e2]; exact he.2.1, by rw [e1 _ (by omega)]; exact he.2.2⟩
theorem CT.fr {h h' : AH} {S : ST} (hc : CT h S) (hf : fr_CT h h') : CT h' S := by
  obtain ⟨⟨a1, a2, a3⟩, ⟨b1, b2, b3⟩, c, d, ⟨e1, e2, e3⟩, f, g⟩ := hc
  obtain ⟨f1, f2, f3⟩ := hf
  refine ⟨⟨a1.cg (fun k _ => f1 _ _ (by omega)) (f3 _ (by omega)), a2.cg (f1 _ _ (by omega)) (fun i _ _ => f3 _ (by omega)), by rw [f1 _ _ (by omega)]; exact a3⟩, ⟨b1.cg (fun k _ => f1 _ _ (by omega)) (f3 _ (by omega)), b2.cg (f1 _ _ (by omega)) (fun i _ _ => f3 _ (by omega)), by rw [f1 _ _ (by omega)]; exact b3⟩, c.cg (f1 _ _ (by omega)) (fun i _ _ => f3 _ (by omega)), d.cg (f1 _ _ (by omega)) (fun i _ _ => f3 _ (by omega)), ⟨by rw [f1 _ _ (by omega)]; exact e1, by rw [f1 _ _ (by omega)]; exact e2, by rw [f1 _ _ (by omega)]; exact e3⟩, fun s hs => ?_, by rw [f2]; exact g⟩
  rw [f1 _ _ (by omega), f1 _ _ (by omega), f1 _ _ (by omega), f3 _ (by omega)]
  exact f s hs
/-- what the reference was told stands -/
def fr_S (h h' : AH) : Prop := (∀ k, k = 10 ∨ k = 11 ∨ k = 12 ∨ k = 43 ∨ k = 52 → h'.1 75 k = h.1 75 k) ∧ ∀ i, i = 76 ∨ i = 77 ∨ (84 ≤ i ∧ i ≤ 86) ∨ i = 101 ∨ i = 102 ∨ (104 ≤ i ∧ i ≤ 107) → h'.2.1 i = h.2.1 i
theorem fr_S.rf {h : AH} : fr_S h h := ⟨fun _ _ => rfl, fun _ _ => rfl⟩
theorem fr_S.tr {a b c : AH} (h1 : fr_S a b) (h2 : fr_S b c) : fr_S a c := ⟨fun k z => (h2.1 k z).trans (h1.1 k z), fun i z => (h2.2 i z).trans (h1.2 i z)⟩
theorem MT.fr {h h' : AH} {S : ST} (hm : MT h S) (hf : fr_S h h') : MT h' S := by
  obtain ⟨a, b, c, d, e, f, g⟩ := hm
  obtain ⟨f1, f2⟩ := hf
  refine ⟨⟨by rw [f2 _ (by omega)]; exact a.1, by rw [f2 _ (by omega)]; exact a.2⟩, ⟨by rw [f2 _ (by omega)]; exact b.1, by rw [f2 _ (by omega)]; exact b.2⟩, ⟨by rw [f1 _ (by omega)]; exact c.1, fun j x hx => by rw [f2 _ (by omega), f2 _ (by omega), f2 _ (by omega)]; exact c.2 j x hx⟩, ⟨by rw [f1 _ (by omega)]; exact d.1, by rw [f1 _ (by omega)]; exact d.2⟩, ⟨by rw [f1 _ (by omega)]; exact e.1, fun j x hx => by rw [f2 _ (by omega), f2 _ (by omega)]; exact e.2 j x hx⟩, fun s hs => ?_, by rw [f1 _ (by omega)]; exact g⟩
  rw [f2 _ (by omega), f2 _ (by omega), f2 _ (by omega), f2 _ (by omega)]
  exact f s hs
theorem fr_R.s {h h' : AH} (hf : fr_R h h') : fr_S h h' := ⟨fun k z => hf.1 _ _ (by omega), fun i z => hf.2.1 _ (by omega)⟩
/-- an argument, and whether it lies in 0 .. N -/
theorem arg {a : Int32} {N : Nat} (hN : N ≤ 100000) : (∃ k, k ≤ N ∧ a = nI k ∧ M_X8_within a (nI N) = 1 ∧ M_X9_in a 0 (nI N) = 1) ∨ ((∀ k, k ≤ N → ¬ a = nI k) ∧ M_X8_within a (nI N) = 0 ∧ M_X9_in a 0 (nI N) = 0) := by
  by_cases c1 : a < 0
  · right
    refine ⟨fun k hk e => ?_, ?_, ?_⟩
    · rw [e] at c1
      exact nI_pos (by omega) c1
    · unfold M_X8_within
      rw [if_pos c1]
    · unfold M_X9_in
      rw [if_pos c1]
  · by_cases c2 : nI N < a
    · right
      refine ⟨fun k hk e => ?_, ?_, ?_⟩
      · rw [e] at c2
        exact nI_nlt hk (by omega) c2
      · unfold M_X8_within
        rw [if_neg c1, if_pos c2]
      · unfold M_X9_in
        rw [if_neg c1, if_pos c2]
    · left
      have h1 : ¬ a.toInt < 0 := fun z => c1 (by rw [Int32.lt_iff_toInt_lt]; exact z)
      have h2 : ¬ (N : Int) < a.toInt := fun z => c2 (by rw [Int32.lt_iff_toInt_lt, nI_toInt (by omega)]; exact z)
      refine ⟨a.toInt.toNat, by omega, ?_, ?_, ?_⟩
      · apply Int32.toInt_inj.mp
        rw [nI_toInt (by omega)]
        omega
      · unfold M_X8_within
        rw [if_neg c1, if_neg c2]
      · unfold M_X9_in
        rw [if_neg c1, if_neg c2]
set_option maxHeartbeats 4000000 in
theorem c_changed {n : Nat} {h : AH} (hn : 503 < n) (hk : (h.1 37 4 = 1 ∧ ∀ t, t < 503 → h.2.2 38 t = 0) ∨ h.1 37 4 = 0) : ∃ h', M_X8_changed n h = some h' ∧ h'.1 0 11 = 0 ∧ h'.1 37 4 = 1 ∧ (∀ t, t < 503 → h'.2.2 38 t = 0) ∧ (∀ i k, ¬ (i = 0 ∧ k = 11) → ¬ (i = 37 ∧ k = 4) → h'.1 i k = h.1 i k) ∧ h'.2.1 = h.2.1 := by
  unfold M_X8_changed M_X7_drop
  rw [sf_r _ _ _ _ (by omega)]
  rcases hk with ⟨k1, k2⟩ | k1
  · rw [if_neg (by rw [k1]; decide)]
    exact ⟨_, rfl, by rw [sf_same], by rw [sf_r _ _ _ _ (by omega)]; exact k1, k2, fun i k z _ => sf_n z, rfl⟩
  · rw [if_pos k1]
    unfold M_J14_fill_J
    have hl : am_lna 38 = 503 := by decide +kernel
    rw [hl]
    obtain ⟨m', q1, h1, e1, e2, e3, e4, e5⟩ := loopV (ρ := Int32) (L := fun m q h => L_J14_fill_J_6 n 38 m 0 q (Int32.ofNat 503) h) (N := 503) (I := fun k q h1 => q = nI k ∧ (∀ j, j < k → h1.2.2 38 j = 0) ∧ h1.1 = (am_sf h 0 11 0).1 ∧ h1.2.1 = h.2.1) (by
      intro m k q h1 hk hI
      obtain ⟨i1, i2, i3, i4⟩ := hI
      subst i1
      rw [L_J14_fill_J_6, show Int32.ofNat 503 = nI 503 from rfl, if_neg (nI_ge (by omega) (by omega)), hl, am_inK hk (by omega), nK (by omega)]
      simp only [cond_true]
      rw [nI_1]
      refine ⟨nI (k + 1), _, rfl, rfl, ?_, i3, i4⟩
      intro j hj
      show (if 38 = 38 then vp_updL (h1.2.2 38) k 0 else h1.2.2 38) j = 0
      rw [if_pos rfl]
      unfold vp_updL
      by_cases hjk : j = k
      · rw [if_pos hjk]
      · rw [if_neg hjk]
        exact i2 j (by omega)) 503 0 n 0 (am_sf h 0 11 0) (by omega) (by omega) ⟨rfl, fun j hj => by omega, rfl, rfl⟩
    subst e2
    rw [e1, L_J14_fill_J_6, show Int32.ofNat 503 = nI 503 from rfl, if_pos (nI_le (Nat.le_refl _) (by omega))]
    refine ⟨_, rfl, ?_, by rw [sf_same], e3, fun i k z y => ?_, e5⟩
    · rw [sf_r _ _ _ _ (by omega), e4, sf_same]
    · rw [sf_n y, e4, sf_n z]
