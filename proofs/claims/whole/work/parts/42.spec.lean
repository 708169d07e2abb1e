/-! the evening, said plainly -/
/-- minute, kind, number -/
abbrev T3 : Type := Nat × Nat × Nat
/-- heat, water, brew, whether the boot was on -/
abbrev KS : Type := Nat × Nat × Nat × Bool
def sp_e1 (x : T3) (s : KS) : KS := if x.2.1 = 0 then (s.1 - 4 * min x.2.2 (30 - s.2.1), s.2.1 + min x.2.2 (30 - s.2.1), s.2.2.1, s.2.2.2) else if x.2.1 = 1 then (s.1, s.2.1, min 40 (s.2.2.1 + x.2.2), s.2.2.2) else (s.1, s.2.1, s.2.2.1, true)
def sp_ev (t : Nat) (sk : Nat → Bool) : List T3 → Nat → KS → KS
  | [], _, s => s
  | x :: es, k, s => sp_ev t sk es (k + 1) (if x.1 = t ∧ sk k = false then sp_e1 x s else s)
def okK (s : KS) : Prop := s.1 ≤ 100 ∧ s.2.1 ≤ 30 ∧ s.2.2.1 ≤ 40
theorem sp_e1_ok {x : T3} {s : KS} (h : okK s) : okK (sp_e1 x s) := by
  obtain ⟨a, b, c⟩ := h
  unfold sp_e1
  split
  · exact ⟨by dsimp only; omega, by dsimp only; omega, c⟩
  · split
    · exact ⟨a, b, by dsimp only; omega⟩
    · exact ⟨a, b, c⟩
def bI (b : Bool) : Int32 := if b = true then 1 else 0
theorem bI_b01 (b : Bool) : am_b01 (bI b) = true := by cases b <;> rfl
/-- a row of entries -/
def entR (h : AH) (r : Nat) (es : List T3) : Prop := h.1 r 3 = nI es.length ∧ ∀ (j : Nat) (x : T3), es[j]? = some x → h.2.1 (r + 1) j = nI x.1 ∧ h.2.1 (r + 2) j = nI x.2.1 ∧ h.2.1 (r + 3) j = nI x.2.2
def okE (es : List T3) (kinds lo hi : Nat) : Prop := es.length ≤ 8 ∧ ∀ x ∈ es, x.1 < 24 ∧ x.2.1 < kinds ∧ lo ≤ x.2.2 ∧ x.2.2 ≤ hi
/-- only int fields of one cell, below a slot, have changed -/
def fr_f (r k0 : Nat) (h h' : AH) : Prop := (∀ i k, ¬ (i = r ∧ k < k0) → h'.1 i k = h.1 i k) ∧ h'.2 = h.2
theorem fr_f.rf {r k0 : Nat} {h : AH} : fr_f r k0 h h := ⟨fun _ _ _ => rfl, rfl⟩
theorem fr_f.tr {r k0 : Nat} {a b c : AH} (h1 : fr_f r k0 a b) (h2 : fr_f r k0 b c) : fr_f r k0 a c := ⟨fun i k z => (h2.1 i k z).trans (h1.1 i k z), h2.2.trans h1.2⟩
theorem fr_f.sf {r k0 k : Nat} {h : AH} {v : Int32} (hk : k < k0) : fr_f r k0 h (am_sf h r k v) := by
  refine ⟨fun i j z => ?_, rfl⟩
  unfold am_sf
  dsimp only
  split
  · rename_i hi
    rw [if_neg]
    intro hj
    exact z ⟨hi, by omega⟩
  · rfl
theorem sf_same (h : AH) (r k : Nat) (v : Int32) : (am_sf h r k v).1 r k = v := by simp [am_sf]
theorem sf_k (h : AH) {r k j : Nat} (v : Int32) (hj : ¬ j = k) : (am_sf h r k v).1 r j = h.1 r j := by simp [am_sf, hj]
theorem sf_r (h : AH) {r i : Nat} (k j : Nat) (v : Int32) (hi : ¬ i = r) : (am_sf h r k v).1 i j = h.1 i j := by simp [am_sf, hi]
theorem sf_2 (h : AH) (r k : Nat) (v : Int32) : (am_sf h r k v).2 = h.2 := rfl
theorem max0 {z : Int} (h1 : -100000 ≤ z) (h2 : z ≤ 100000) : am_max 0 (zI z) = nI z.toNat := by
  unfold am_max
  have e0 : (0 : Int32) = zI 0 := rfl
  rw [e0]
  by_cases h : (0 : Int) < z
  · rw [if_pos ((zI_lt (by omega) (by omega) (by omega) (by omega)).mpr h), zI_n]
    congr 1
    omega
  · rw [if_neg (fun q => h ((zI_lt (by omega) (by omega) (by omega) (by omega)).mp q)), zI_n]
    congr 1
    omega
theorem minN {a b : Nat} (ha : a ≤ 100000) (hb : b ≤ 100000) : am_min (nI a) (nI b) = nI (min a b) := by
  unfold am_min
  by_cases h : b < a
  · rw [if_pos (nI_lt h (by omega)), Nat.min_eq_right (by omega)]
  · rw [if_neg (nI_nlt (by omega) (by omega)), Nat.min_eq_left (by omega)]
theorem dropC {α : Type} {l : List α} {k : Nat} (h : k < l.length) : ∃ x, l[k]? = some x ∧ l.drop k = x :: l.drop (k + 1) := by
  exact ⟨l[k], List.getElem?_eq_getElem h, List.drop_eq_getElem_cons h⟩
theorem kI (a k : Nat) (ha : a < 2 ^ 31) (hk : k < 2 ^ 31) : (nI a = nI k) = (a = k) := propext (nI_eq ha hk)
/-- the events' bits that are left out -/
def skR (v : Int32) (sk : Nat → Bool) : Prop := ∀ j, j < 8 → ((((v >>> (nI j &&& 31)) &&& 1) = 0) ↔ sk j = false)
set_option maxHeartbeats 4000000 in
/-- Kettle.meet -/
theorem c_meet_loop {n r0 r1 t : Nat} {es : List T3} {sk : Nat → Bool} (hes : okE es 3 0 9) (ht : t < 24) (hd1 : ¬ pl_e r1 = r0) (hd2 : ¬ r1 = r0) : ∀ (d k m : Nat) (h : AH) (s : KS), k + d = es.length → d < m → entR h (pl_e r1) es → skR (h.1 r1 5) sk → h.1 r0 0 = nI s.1 → h.1 r0 1 = nI s.2.1 → h.1 r0 2 = nI s.2.2.1 → okK s →
    ∃ h', L_X3_meet_11 n r0 r1 m (nI t) (bI s.2.2.2) (nI k) h = some (bI (sp_ev t sk (es.drop k) k s).2.2.2, h') ∧ h'.1 r0 0 = nI (sp_ev t sk (es.drop k) k s).1 ∧ h'.1 r0 1 = nI (sp_ev t sk (es.drop k) k s).2.1 ∧ h'.1 r0 2 = nI (sp_ev t sk (es.drop k) k s).2.2.1 ∧ fr_f r0 3 h h' := by
  intro d
  induction d with
  | zero =>
    intro k m h s hk hm he hsk e0 e1 e2 hs
    obtain ⟨m, rfl⟩ : ∃ q, m = q + 1 := ⟨m - 1, by omega⟩
    rw [show es.drop k = [] from List.drop_eq_nil_iff.mpr (by omega)]
    rw [L_X3_meet_11, he.1, if_pos (nI_le (by omega) (by have := hes.1; omega)), bI_b01]
    exact ⟨h, rfl, e0, e1, e2, fr_f.rf⟩
  | succ d ih =>
    intro k m h s hk hm he hsk e0 e1 e2 hs
    obtain ⟨m, rfl⟩ : ∃ q, m = q + 1 := ⟨m - 1, by omega⟩
    have h8 := hes.1
    obtain ⟨x, hx, hdr⟩ := dropC (l := es) (k := k) (by omega)
    obtain ⟨x1, x2, x3⟩ := he.2 k x hx
    obtain ⟨b1, b2, b3, b4⟩ := hes.2 x (List.mem_of_getElem? hx)
    obtain ⟨o1, o2, o3⟩ := id hs
    rw [hdr]
    have next : ∀ (h1 : AH) (s1 : KS), fr_f r0 3 h h1 → h1.1 r0 0 = nI s1.1 → h1.1 r0 1 = nI s1.2.1 → h1.1 r0 2 = nI s1.2.2.1 → okK s1 → s1 = (if x.1 = t ∧ sk k = false then sp_e1 x s else s) → ∃ h', L_X3_meet_11 n r0 r1 m (nI t) (bI s1.2.2.2) (nI k + 1) h1 = some (bI (sp_ev t sk (x :: es.drop (k + 1)) k s).2.2.2, h') ∧ h'.1 r0 0 = nI (sp_ev t sk (x :: es.drop (k + 1)) k s).1 ∧ h'.1 r0 1 = nI (sp_ev t sk (x :: es.drop (k + 1)) k s).2.1 ∧ h'.1 r0 2 = nI (sp_ev t sk (x :: es.drop (k + 1)) k s).2.2.1 ∧ fr_f r0 3 h h' := by
      intro h1 s1 hf f0 f1 f2 hs1 hs1e
      have q := ih (k + 1) m h1 s1 (by omega) (by omega) ⟨by rw [hf.1 _ _ (fun z => hd1 z.1)]; exact he.1, fun j y hy => by rw [hf.2]; exact he.2 j y hy⟩ (by rw [hf.1 _ _ (fun z => hd2 z.1)]; exact hsk) f0 f1 f2 hs1
      rw [sp_ev, ← hs1e, nI_1]
      obtain ⟨h', g1, g2, g3, g4, g5⟩ := q
      exact ⟨h', g1, g2, g3, g4, hf.tr g5⟩
    rw [L_X3_meet_11, he.1, if_neg (nI_ge (by omega) (by omega)), show (8 : Int32) = nI 8 from rfl, if_neg (nI_ge (by omega) (by omega)), am_inK (by omega) (by omega), nK (by omega), x1, x2, x3]
    simp only [cond_true]
    by_cases ct : x.1 = t
    · rw [if_pos (by rw [ct])]
      by_cases cs : sk k = false
      · rw [if_pos ((hsk k (by omega)).mpr cs)]
        rw [if_pos ⟨ct, cs⟩] at next
        by_cases c0 : x.2.1 = 0
        · rw [if_pos (by rw [c0]; rfl)]
          have e3 : am_min (nI x.2.2) (30 - h.1 r0 1) = nI (min x.2.2 (30 - s.2.1)) := by
            rw [e1, show (30 : Int32) = nI 30 from rfl, nI_sub o2, minN (by omega) (by omega)]
          rw [e3]
          have hs1 : sp_e1 x s = (s.1 - 4 * min x.2.2 (30 - s.2.1), s.2.1 + min x.2.2 (30 - s.2.1), s.2.2.1, s.2.2.2) := by unfold sp_e1; rw [if_pos c0]
          have q := next (am_sf (am_sf h r0 1 (h.1 r0 1 + nI (min x.2.2 (30 - s.2.1)))) r0 0 (am_max 0 (h.1 r0 0 - 4 * nI (min x.2.2 (30 - s.2.1))))) (sp_e1 x s) ((fr_f.sf (by omega)).tr (fr_f.sf (by omega))) ?_ ?_ ?_ (sp_e1_ok hs) rfl
          · rw [hs1] at q
            exact q
          · rw [sf_same, hs1, e0, show (4 : Int32) = nI 4 from rfl, nI_mul, zI_n, zI_n (4 * _), zI_sub, max0 (by omega) (by omega)]
            congr 1
            omega
          · rw [sf_k _ _ (by omega), sf_same, hs1, e1, nI_add]
          · rw [sf_k _ _ (by omega), sf_k _ _ (by omega), hs1, e2]
        · rw [if_neg (by rw [show (0 : Int32) = nI 0 from rfl, kI _ _ (by omega) (by omega)]; exact c0)]
          by_cases c1 : x.2.1 = 1
          · rw [if_pos (by rw [c1]; rfl)]
            have hs1 : sp_e1 x s = (s.1, s.2.1, min 40 (s.2.2.1 + x.2.2), s.2.2.2) := by unfold sp_e1; rw [if_neg c0, if_pos c1]
            have q := next (am_sf h r0 2 (am_min 40 (h.1 r0 2 + nI x.2.2))) (sp_e1 x s) (fr_f.sf (by omega)) ?_ ?_ ?_ (sp_e1_ok hs) rfl
            · rw [hs1] at q
              exact q
            · rw [sf_k _ _ (by omega), hs1, e0]
            · rw [sf_k _ _ (by omega), hs1, e1]
            · rw [sf_same, hs1, e2, nI_add, show (40 : Int32) = nI 40 from rfl, minN (by omega) (by omega)]
          · rw [if_neg (by rw [show (1 : Int32) = nI 1 from rfl, kI _ _ (by omega) (by omega)]; exact c1)]
            have hs1 : sp_e1 x s = (s.1, s.2.1, s.2.2.1, true) := by unfold sp_e1; rw [if_neg c0, if_neg c1]
            have q := next h (sp_e1 x s) fr_f.rf (by rw [hs1]; exact e0) (by rw [hs1]; exact e1) (by rw [hs1]; exact e2) (sp_e1_ok hs) rfl
            rw [hs1] at q
            exact q
      · rw [if_neg (fun z => cs ((hsk k (by omega)).mp z))]
        rw [if_neg (fun z => cs z.2)] at next
        exact next h s fr_f.rf e0 e1 e2 hs rfl
    · rw [if_neg (by rw [kI _ _ (by omega) (by omega)]; exact ct)]
      rw [if_neg (fun z => ct z.1)] at next
      exact next h s fr_f.rf e0 e1 e2 hs rfl
