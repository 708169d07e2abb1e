/-! guests in a line, said plainly -/
/-- the line, states, glasses had, since when they wait, when they come back -/
abbrev LS9 : Type := List Nat × (Nat → Nat) × (Nat → Nat) × (Nat → Nat) × (Nat → Nat)
def up (f : Nat → Nat) (k x : Nat) : Nat → Nat := fun j => if j = k then x else f j
theorem up_s (f : Nat → Nat) (k x : Nat) : up f k x k = x := if_pos rfl
theorem up_n (f : Nat → Nat) {k j : Nat} (x : Nat) (h : ¬ j = k) : up f k x j = f j := if_neg h
def sp_join (t k : Nat) (s : LS9) : LS9 := (s.1 ++ [k], up s.2.1 k 1, s.2.2.1, up s.2.2.2.1 k t, s.2.2.2.2)
def sp_come1 (t : Nat) : List T3 → Nat → LS9 → LS9
  | [], _, s => s
  | x :: gs, k, s => sp_come1 t gs (k + 1) (if x.1 = t then sp_join t k s else s)
def sp_come2 (t : Nat) : List T3 → Nat → LS9 → LS9
  | [], _, s => s
  | _ :: gs, k, s => sp_come2 t gs (k + 1) (if s.2.1 k = 2 ∧ s.2.2.2.2 k = t then sp_join t k s else s)
theorem upd_nI {f : Nat → Int32} {g : Nat → Nat} {N k x : Nat} (h : ∀ j, j < N → f j = nI (g j)) : ∀ j, j < N → upd f k (nI x) j = nI (up g k x j) := by
  intro j hj
  unfold upd up
  split
  · rfl
  · exact h j hj
theorem sa_s (h : AH) (a : Nat) (g : Nat → Int32) : (am_sa h a g).2.1 a = g := by simp [am_sa]
theorem sa_n (h : AH) {a b : Nat} (g : Nat → Int32) (hb : ¬ b = a) : (am_sa h a g).2.1 b = h.2.1 b := by simp [am_sa, hb]
theorem sa_1 (h : AH) (a : Nat) (g : Nat → Int32) : (am_sa h a g).1 = h.1 := rfl
theorem sa_2 (h : AH) (a : Nat) (g : Nat → Int32) : (am_sa h a g).2.2 = h.2.2 := rfl
/-- who stands in the line: by tickets -/
def tkR (tk : Nat → Nat) (T : Nat) (line : List Nat) (sta : Nat → Nat) : Prop := line.Pairwise (fun a b => tk a < tk b) ∧ (∀ k ∈ line, tk k < T ∧ k < 8) ∧ ∀ k, k < 8 → (sta k = 1 ↔ k ∈ line)
/-- the class's guests: states, glasses, since, tickets; T tickets given -/
def cmp (h : AH) (rc : Nat) (dark : Nat → Nat) (s : LS9) (T : Nat) : Prop := ∃ tk sn : Nat → Nat,
  (∀ k, k < 8 → h.2.1 (rc + 1) k = nI (s.2.1 k)) ∧ (∀ k, k < 8 → h.2.1 (rc + 2) k = nI (s.2.2.1 k)) ∧ (∀ k, k < 8 → h.2.1 (rc + 3) k = nI (sn k)) ∧ (∀ k, k < 8 → h.2.1 (rc + 4) k = nI (tk k)) ∧ h.1 rc 4 = nI T ∧ h.1 rc 5 = nI s.1.length ∧ tkR tk T s.1 s.2.1 ∧ (∀ k, k < 8 → s.2.1 k ≤ 4 ∧ (s.2.1 k = 1 ∨ s.2.1 k = 2 → sn k ≤ 24) ∧ (s.2.1 k = 1 → sn k = s.2.2.2.1 k) ∧ (s.2.1 k = 2 → sn k + 3 + dark k = s.2.2.2.2 k))
theorem tkR_join {tk : Nat → Nat} {T k : Nat} {line : List Nat} {sta : Nat → Nat} (h : tkR tk T line sta) (hk : k < 8) (hn : ¬ sta k = 1) : tkR (up tk k T) (T + 1) (line ++ [k]) (up sta k 1) := by
  obtain ⟨h1, h2, h3⟩ := h
  have hnk : k ∉ line := fun z => hn ((h3 k hk).mpr z)
  refine ⟨?_, ?_, ?_⟩
  · rw [List.pairwise_append]
    refine ⟨?_, List.pairwise_singleton _ _, ?_⟩
    · refine h1.imp_of_mem ?_
      intro a b ha hb hab
      rw [up_n _ _ (fun z => hnk (by rw [← z]; exact ha)), up_n _ _ (fun z => hnk (by rw [← z]; exact hb))]
      exact hab
    · intro a ha b hb
      rw [List.mem_singleton] at hb
      subst hb
      rw [up_n _ _ (fun z => hnk (by rw [← z]; exact ha)), up_s]
      exact (h2 a ha).1
  · intro j hj
    rcases List.mem_append.mp hj with z | z
    · rw [up_n _ _ (fun q => hnk (by rw [← q]; exact z))]
      exact ⟨by have := (h2 j z).1; omega, (h2 j z).2⟩
    · rw [List.mem_singleton] at z
      subst z
      rw [up_s]
      exact ⟨by omega, hk⟩
  · intro j hj
    by_cases hjk : j = k
    · subst hjk
      rw [up_s]
      simp
    · rw [up_n _ _ hjk, h3 j hj]
      simp [hjk]
/-- cells of the guests' part alone have changed -/
def fr_c (rc : Nat) (h h' : AH) : Prop := (∀ i k, ¬ i = rc → h'.1 i k = h.1 i k) ∧ (∀ k, 6 ≤ k → h'.1 rc k = h.1 rc k) ∧ (∀ i, ¬ (rc < i ∧ i ≤ rc + 4) → h'.2.1 i = h.2.1 i) ∧ h'.2.2 = h.2.2
theorem fr_c.rf {rc : Nat} {h : AH} : fr_c rc h h := ⟨fun _ _ _ => rfl, fun _ _ => rfl, fun _ _ => rfl, rfl⟩
theorem fr_c.tr {rc : Nat} {a b c : AH} (h1 : fr_c rc a b) (h2 : fr_c rc b c) : fr_c rc a c := ⟨fun i k z => (h2.1 i k z).trans (h1.1 i k z), fun k z => (h2.2.1 k z).trans (h1.2.1 k z), fun i z => (h2.2.2.1 i z).trans (h1.2.2.1 i z), h2.2.2.2.trans h1.2.2.2⟩
set_option maxHeartbeats 4000000 in
/-- Company.join -/
theorem c_join {rc t k T : Nat} {dark : Nat → Nat} {h : AH} {s : LS9} (hk : k < 8) (ht : t < 24) (hc : cmp h rc dark s T) (hn : ¬ s.2.1 k = 1) : ∃ h', M_X0_join rc (nI k) (nI t) h = some h' ∧ cmp h' rc dark (sp_join t k s) (T + 1) ∧ fr_c rc h h' := by
  obtain ⟨tk, sn, c1, c2, c3, c4, c5, c6, c7, c8⟩ := hc
  unfold M_X0_join
  rw [if_neg (nI_pos (by omega)), show (8 : Int32) = nI 8 from rfl, if_pos (nI_lt hk (by omega)), am_inK hk (by omega), nK (by omega)]
  simp only [cond_true]
  refine ⟨_, rfl, ⟨up tk k T, up sn k t, ?_, ?_, ?_, ?_, ?_, ?_, tkR_join c7 hk hn, ?_⟩, ?_⟩
  · rw [sf_2, sf_2, sa_n _ _ (by omega), sa_n _ _ (by omega), sa_s]
    exact upd_nI (x := 1) c1
  · rw [sf_2, sf_2, sa_n _ _ (by omega), sa_n _ _ (by omega), sa_n _ _ (by omega)]
    exact c2
  · rw [sf_2, sf_2, sa_n _ _ (by omega), sa_s]
    exact upd_nI c3
  · rw [sf_2, sf_2, sa_s, c5]
    exact upd_nI c4
  · rw [sf_k _ _ (by omega), sf_same, c5, nI_1]
  · rw [sf_same, c6, nI_1]
    show _ = nI (s.1 ++ [k]).length
    rw [List.length_append]
    rfl
  · intro j hj
    obtain ⟨d1, d2, d3, d4⟩ := c8 j hj
    show up s.2.1 k 1 j ≤ 4 ∧ (up s.2.1 k 1 j = 1 ∨ up s.2.1 k 1 j = 2 → up sn k t j ≤ 24) ∧ (up s.2.1 k 1 j = 1 → up sn k t j = up s.2.2.2.1 k t j) ∧ (up s.2.1 k 1 j = 2 → up sn k t j + 3 + dark j = s.2.2.2.2 j)
    by_cases hjk : j = k
    · subst hjk
      rw [up_s, up_s, up_s]
      exact ⟨by omega, fun _ => by omega, fun _ => rfl, fun z => by omega⟩
    · rw [up_n _ _ hjk, up_n _ _ hjk, up_n _ _ hjk]
      exact ⟨d1, d2, d3, d4⟩
  · refine ⟨fun i j z => ?_, fun j z => ?_, fun i z => ?_, rfl⟩
    · rw [sf_r _ _ _ _ z, sf_r _ _ _ _ z]
      rfl
    · rw [sf_k _ _ (by omega), sf_k _ _ (by omega)]
      rfl
    · rw [sf_2, sf_2, sa_n _ _ (by omega), sa_n _ _ (by omega), sa_n _ _ (by omega)]
