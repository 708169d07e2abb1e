/-! Company.serve -/
def al (gs : List T3) (k : Nat) : Nat := (gs.getD k (0, 0, 0)).2.2
theorem al_at {gs : List T3} {k : Nat} {x : T3} (h : gs[k]? = some x) : al gs k = x.2.2 := by
  unfold al
  rw [List.getD_eq_getElem?_getD, h]
  rfl
def canS (gs : List T3) (br k : Nat) : Bool := decide (1 + 2 * dk gs k ≤ br)
def sp_srv (gs : List T3) (t k : Nat) (s : LS9) : LS9 := (s.1.erase k, up s.2.1 k (if s.2.2.1 k + 1 = al gs k then 3 else 2), up s.2.2.1 k (s.2.2.1 k + 1), s.2.2.2.1, up s.2.2.2.2 k (t + 3 + dk gs k))
def sp_serve (gs : List T3) (t br wa : Nat) (s : LS9) : Option Nat × Nat × Nat × LS9 := match s.1.find? (canS gs br) with
  | none => (none, br, wa, s)
  | some k => (some k, br - (1 + 2 * dk gs k), wa - 1, sp_srv gs t k s)
def svI : Option Nat → Int32
  | none => -1
  | some k => nI k
/-- what holds of guests before minute t -/
def ok9 (gs : List T3) (t : Nat) (s : LS9) : Prop := lnOK s ∧ (∀ k ∈ s.1, k < gs.length) ∧ (∀ k x, gs[k]? = some x → (t ≤ x.1 → s.2.1 k = 0) ∧ (s.2.1 k = 3 → s.2.2.1 k = x.2.2) ∧ (¬ s.2.1 k = 3 → s.2.2.1 k < x.2.2)) ∧ ∀ k, gs.length ≤ k → s.2.1 k = 0 ∧ s.2.2.1 k = 0
def cm2 (h : AH) (rc : Nat) (gs : List T3) (s : LS9) (T : Nat) : Prop := cmp h rc (dk gs) s T ∧ h.1 rc 6 = nI (sN s.2.2.1 8) ∧ h.1 rc 7 = nI (bN (fun k => s.2.1 k == 3) 8) ∧ h.1 rc 8 = nI (bN (fun k => s.2.1 k == 4) 8)
theorem find_min {p : Nat → Bool} {tk : Nat → Nat} {j : Nat} : ∀ (l : List Nat), l.Pairwise (fun a b => tk a < tk b) → j ∈ l → p j = true → (∀ i ∈ l, p i = true → tk j ≤ tk i) → l.find? p = some j
  | [], _, hj, _, _ => by cases hj
  | a :: l, hp, hj, pj, hm => by
    rw [List.pairwise_cons] at hp
    by_cases pa : p a = true
    · rcases List.mem_cons.mp hj with e | e
      · rw [List.find?_cons_of_pos pa, e]
      · have h1 := hp.1 j e
        have h2 := hm a List.mem_cons_self pa
        omega
    · rw [List.find?_cons_of_neg pa]
      rcases List.mem_cons.mp hj with e | e
      · rw [e] at pj
        exact absurd pj pa
      · exact find_min l hp.2 e pj (fun i hi pi => hm i (List.mem_cons_of_mem _ hi) pi)
theorem m1neg : (-1 : Int32) < 0 := by decide +kernel
set_option maxHeartbeats 4000000 in
theorem c_srv_loop {n rc rg rk t br T : Nat} {gs : List T3} {h : AH} {s : LS9} {tk : Nat → Nat} (hgs : okE gs 2 1 4) (he : entR h rg gs) (hb : h.1 rk 2 = nI br) (hbr : br ≤ 40) (hT : T ≤ 100000) (c1 : ∀ k, k < 8 → h.2.1 (rc + 1) k = nI (s.2.1 k)) (c4 : ∀ k, k < 8 → h.2.1 (rc + 4) k = nI (tk k)) (ct : tkR tk T s.1 s.2.1) (hs4 : ∀ k, k < 8 → s.2.1 k ≤ 4) (hl : ∀ k ∈ s.1, k < gs.length) {m : Nat} (hm : 8 < m) :
    L_X0_serve_6 n rc rg rk m (nI t) (-1) 0 h = B_X0_serve_83 n rc rg rk (nI t) (svI (s.1.find? (canS gs br))) h := by
  have h8 := hgs.1
  obtain ⟨s', e1, e2, e3⟩ := loopU (σ := Int32 × Int32) (L := fun m q => L_X0_serve_6 n rc rg rk m (nI t) q.1 q.2 h) (N := gs.length) (I := fun k q => q.2 = nI k ∧ ((q.1 = -1 ∧ ∀ i, i < k → ¬ (s.2.1 i = 1 ∧ canS gs br i = true)) ∨ ∃ j, j < k ∧ q.1 = nI j ∧ s.2.1 j = 1 ∧ canS gs br j = true ∧ ∀ i, i < k → s.2.1 i = 1 → canS gs br i = true → tk j ≤ tk i)) (by
    intro m k q hk hi
    obtain ⟨q1, q2⟩ := q
    obtain ⟨i1, i2⟩ := hi
    dsimp only at i1 i2 ⊢
    subst i1
    obtain ⟨x, hx, -⟩ := dropC (l := gs) (k := k) (by omega)
    obtain ⟨x1, x2, x3⟩ := he.2 k x hx
    obtain ⟨b1, b2, b3, b4⟩ := hgs.2 x (List.mem_of_getElem? hx)
    have d4 := hs4 k (by omega)
    have hcs : canS gs br k = decide (1 + 2 * x.2.1 ≤ br) := by unfold canS; rw [dk_at hx]
    rw [L_X0_serve_6, he.1, if_neg (nI_ge (by omega) (by omega)), show (8 : Int32) = nI 8 from rfl, if_neg (nI_ge (by omega) (by omega)), am_inK (by omega) (by omega), nK (by omega), c1 k (by omega), x2, hb]
    simp only [cond_true]
    by_cases cs : s.2.1 k = 1
    · rw [if_pos (by rw [cs]; rfl), show (1 : Int32) = nI 1 from rfl, show (2 : Int32) = nI 2 from rfl, nI_mul, nI_add]
      by_cases cn : 1 + 2 * x.2.1 ≤ br
      · rw [if_neg (nI_nlt cn (by omega))]
        have hck : canS gs br k = true := by rw [hcs]; exact decide_eq_true cn
        rcases i2 with ⟨e, hno⟩ | ⟨j, hj, e, sj, cj, hmin⟩
        · subst e
          rw [if_pos m1neg, B_X0_serve_73, nI_1]
          refine ⟨(nI k, nI (k + 1)), rfl, rfl, Or.inr ⟨k, by omega, rfl, cs, hck, ?_⟩⟩
          intro i hi si ci
          by_cases hik : i = k
          · rw [hik]
            exact Nat.le_refl _
          · exact absurd ⟨si, ci⟩ (hno i (by omega))
        · subst e
          have tj := (ct.2.1 j ((ct.2.2 j (by omega)).mp sj)).1
          have tq := (ct.2.1 k ((ct.2.2 k (by omega)).mp cs)).1
          rw [if_neg (nI_pos (by omega)), am_inK (show j < 8 by omega) (by omega), nK (show j ≤ 100000 by omega), c4 j (by omega), c4 k (by omega)]
          simp only [cond_true]
          by_cases ctt : tk j ≤ tk k
          · rw [if_pos (nI_le ctt (by omega)), show nI k + nI 1 = nI (k + 1) from nI_1 k]
            refine ⟨(nI j, nI (k + 1)), rfl, rfl, Or.inr ⟨j, by omega, rfl, sj, cj, ?_⟩⟩
            intro i hi si ci
            by_cases hik : i = k
            · rw [hik]
              exact ctt
            · exact hmin i (by omega) si ci
          · rw [if_neg (nI_ge (by omega) (by omega)), B_X0_serve_73, nI_1]
            refine ⟨(nI k, nI (k + 1)), rfl, rfl, Or.inr ⟨k, by omega, rfl, cs, hck, ?_⟩⟩
            intro i hi si ci
            by_cases hik : i = k
            · rw [hik]
              exact Nat.le_refl _
            · have := hmin i (by omega) si ci
              omega
      · rw [if_pos (nI_lt (by omega) (by omega)), show nI k + nI 1 = nI (k + 1) from nI_1 k]
        have hck : ¬ canS gs br k = true := by rw [hcs]; simp [cn]
        refine ⟨(q1, nI (k + 1)), rfl, rfl, ?_⟩
        rcases i2 with ⟨e, hno⟩ | ⟨j, hj, e, sj, cj, hmin⟩
        · refine Or.inl ⟨e, fun i hi z => ?_⟩
          by_cases hik : i = k
          · rw [hik] at z
            exact hck z.2
          · exact hno i (by omega) z
        · refine Or.inr ⟨j, by omega, e, sj, cj, fun i hi si ci => ?_⟩
          by_cases hik : i = k
          · rw [hik] at ci
            exact absurd ci hck
          · exact hmin i (by omega) si ci
    · rw [if_neg (by rw [show (1 : Int32) = nI 1 from rfl]; exact kF cs (by omega) (by omega)), nI_1]
      refine ⟨(q1, nI (k + 1)), rfl, rfl, ?_⟩
      rcases i2 with ⟨e, hno⟩ | ⟨j, hj, e, sj, cj, hmin⟩
      · refine Or.inl ⟨e, fun i hi z => ?_⟩
        by_cases hik : i = k
        · rw [hik] at z
          exact cs z.1
        · exact hno i (by omega) z
      · refine Or.inr ⟨j, by omega, e, sj, cj, fun i hi si ci => ?_⟩
        by_cases hik : i = k
        · rw [hik] at si
          exact absurd si cs
        · exact hmin i (by omega) si ci) gs.length 0 m ((-1), 0) (by omega) (by omega) ⟨rfl, Or.inl ⟨rfl, fun i hi => by omega⟩⟩
  obtain ⟨q1, q2⟩ := s'
  dsimp only at e1 e2 e3
  subst e2
  rw [e1, show m - gs.length = (m - gs.length - 1) + 1 by omega, L_X0_serve_6, he.1, if_pos (nI_le (Nat.le_refl _) (by omega))]
  congr 1
  rcases e3 with ⟨e, hno⟩ | ⟨j, hj, e, sj, cj, hmin⟩
  · rw [e, List.find?_eq_none.mpr (fun i hi => ?_)]
    · rfl
    · intro z
      exact hno i (hl i hi) ⟨(ct.2.2 i (ct.2.1 i hi).2).mpr hi, z⟩
  · rw [e, find_min s.1 ct.1 ((ct.2.2 j (by omega)).mp sj) cj (fun i hi ci => hmin i (hl i hi) ((ct.2.2 i (ct.2.1 i hi).2).mpr hi) ci)]
    rfl
def fr_s (rc rk : Nat) (h h' : AH) : Prop := (∀ i k, ¬ i = rc → ¬ (i = rk ∧ (k = 1 ∨ k = 2)) → h'.1 i k = h.1 i k) ∧ (∀ i, ¬ (rc < i ∧ i ≤ rc + 4) → h'.2.1 i = h.2.1 i) ∧ h'.2.2 = h.2.2
theorem tkR_out {tk : Nat → Nat} {T k x : Nat} {line : List Nat} {sta : Nat → Nat} (h : tkR tk T line sta) (hx : ¬ x = 1) : tkR tk T (line.erase k) (up sta k x) := by
  obtain ⟨h1, h2, h3⟩ := h
  have hnd : line.Nodup := h1.imp (fun {a b} hab => fun z => by rw [z] at hab; omega)
  refine ⟨h1.sublist List.erase_sublist, fun j hj => h2 j (List.mem_of_mem_erase hj), fun j hj => ?_⟩
  rw [hnd.mem_erase_iff]
  by_cases hjk : j = k
  · subst hjk
    rw [up_s]
    exact ⟨fun z => absurd z hx, fun z => absurd rfl z.1⟩
  · rw [up_n _ _ hjk, h3 j hj]
    exact ⟨fun z => ⟨hjk, z⟩, fun z => z.2⟩
set_option maxHeartbeats 4000000 in
theorem c_serve {n rc rg rk t t' br wa T : Nat} {gs : List T3} {h : AH} {s : LS9} (hgs : okE gs 2 1 4) (ht : t < 24) (hr : rg + 3 < rc) (hrk : ¬ rk = rc) (he : entR h rg gs) (hb : h.1 rk 2 = nI br) (hbr : br ≤ 40) (hw : h.1 rk 1 = nI wa) (hwa : 0 < wa) (hT : T ≤ 100000) (hc : cm2 h rc gs s T) (hok : ok9 gs t' s) (hn : 8 < n) :
    ∃ h', M_X0_serve n rc rg rk (nI t) h = some (svI (sp_serve gs t br wa s).1, h') ∧ cm2 h' rc gs (sp_serve gs t br wa s).2.2.2 T ∧ h'.1 rk 2 = nI (sp_serve gs t br wa s).2.1 ∧ h'.1 rk 1 = nI (sp_serve gs t br wa s).2.2.1 ∧ fr_s rc rk h h' := by
  obtain ⟨⟨tk, sn, c1, c2, c3, c4, c5, c6, c7, c8⟩, g6, g7, g8⟩ := id hc
  obtain ⟨ln, ol, oh, oz⟩ := hok
  have h8 := hgs.1
  unfold M_X0_serve
  rw [c_srv_loop (t := t) hgs he hb hbr hT c1 c4 c7 (fun k hk => (c8 k hk).1) ol hn]
  unfold sp_serve
  cases hf : s.1.find? (canS gs br) with
  | none =>
    unfold B_X0_serve_83
    refine ⟨h, ?_, hc, hb, hw, fun _ _ _ _ => rfl, fun _ _ => rfl, rfl⟩
    rfl
  | some k =>
    have hk1 := List.mem_of_find?_eq_some hf
    have hkl := ol k hk1
    have hk8 : k < 8 := by omega
    have hs1 := (c7.2.2 k hk8).mpr hk1
    have hcan : 1 + 2 * dk gs k ≤ br := by have z : canS gs br k = true := List.find?_some hf; exact of_decide_eq_true z
    obtain ⟨x, hx, -⟩ := dropC (l := gs) (k := k) hkl
    obtain ⟨x1, x2, x3⟩ := he.2 k x hx
    obtain ⟨b1, b2, b3, b4⟩ := hgs.2 x (List.mem_of_getElem? hx)
    have hh := (oh k x hx).2.2 (by omega)
    have hdk := dk_at hx
    have hal := al_at hx
    show ∃ h', B_X0_serve_83 n rc rg rk (nI t) (nI k) h = some (nI k, h') ∧ cm2 h' rc gs (sp_srv gs t k s) T ∧ h'.1 rk 2 = nI (br - (1 + 2 * dk gs k)) ∧ h'.1 rk 1 = nI (wa - 1) ∧ fr_s rc rk h h'
    unfold B_X0_serve_83
    rw [if_pos (by rw [show (0 : Int32) = nI 0 from rfl]; exact nI_le (by omega) (by omega)), am_inK hk8 (by omega), nK (by omega)]
    simp only [cond_true]
    have eu : upd (h.2.1 (rc + 2)) k (h.2.1 (rc + 2) k + 1) k = nI (s.2.2.1 k + 1) := by
      unfold upd
      rw [if_pos rfl, c2 k hk8, nI_1]
    rw [eu, x3, x2, hb, hw, c6, g6, g7, c2 k hk8, nI_1, nI_1, show (2 : Int32) = nI 2 from rfl, nI_mul, show (1 : Int32) = nI 1 from rfl, nI_add, nI_sub (by omega), nI_sub (by omega)]
    have hlen : (s.1.erase k).length = s.1.length - 1 := List.length_erase_of_mem hk1
    have hlp : 0 < s.1.length := List.length_pos_of_mem hk1
    have key : ∀ (v : Nat) (b7 : Nat) (h1 : AH), v = (if s.2.2.1 k + 1 = al gs k then 3 else 2) → b7 = bN (fun j => up s.2.1 k v j == 3) 8 →
        h1.1 = (am_sf (am_sf (am_sf (am_sf (am_sf h rk 2 (nI (br - (1 + 2 * x.2.1)))) rk 1 (nI (wa - 1))) rc 5 (nI s.1.length - nI 1)) rc 6 (nI (sN s.2.2.1 8 + 1))) rc 7 (nI b7)).1 → h1.2 = (am_sa (am_sa (am_sa h (rc + 2) (upd (h.2.1 (rc + 2)) k (nI (s.2.2.1 k + 1)))) (rc + 3) (upd (h.2.1 (rc + 3)) k (nI t))) (rc + 1) (upd (h.2.1 (rc + 1)) k (nI v))).2 →
        cm2 h1 rc gs (sp_srv gs t k s) T ∧ h1.1 rk 2 = nI (br - (1 + 2 * dk gs k)) ∧ h1.1 rk 1 = nI (wa - 1) ∧ fr_s rc rk h h1 := by
      intro v b7 h1 hv hb7 f1 f2
      have hv3 : v ≤ 3 ∧ 2 ≤ v := by rw [hv]; split <;> omega
      have hsp : sp_srv gs t k s = (s.1.erase k, up s.2.1 k v, up s.2.2.1 k (s.2.2.1 k + 1), s.2.2.2.1, up s.2.2.2.2 k (t + 3 + dk gs k)) := by unfold sp_srv; rw [← hv]
      rw [hsp]
      refine ⟨⟨⟨tk, up sn k t, ?_, ?_, ?_, ?_, ?_, ?_, tkR_out c7 (by omega), ?_⟩, ?_, ?_, ?_⟩, ?_, ?_, ?_, ?_, ?_⟩
      · rw [f2, sa_s]
        exact upd_nI c1
      · rw [f2, sa_n _ _ (by omega), sa_n _ _ (by omega), sa_s]
        exact upd_nI c2
      · rw [f2, sa_n _ _ (by omega), sa_s]
        exact upd_nI c3
      · rw [f2, sa_n _ _ (by omega), sa_n _ _ (by omega), sa_n _ _ (by omega)]
        exact c4
      · rw [f1, sf_k _ _ (by omega), sf_k _ _ (by omega), sf_k _ _ (by omega), sf_r _ _ _ _ (fun z => hrk z.symm), sf_r _ _ _ _ (fun z => hrk z.symm)]
        exact c5
      · rw [f1, sf_k _ _ (by omega), sf_k _ _ (by omega), sf_same, nI_sub (by omega), hlen]
      · intro j hj
        obtain ⟨d1, d2, d3, d4⟩ := c8 j hj
        show up s.2.1 k v j ≤ 4 ∧ (up s.2.1 k v j = 1 ∨ up s.2.1 k v j = 2 → up sn k t j ≤ 24) ∧ (up s.2.1 k v j = 1 → up sn k t j = s.2.2.2.1 j) ∧ (up s.2.1 k v j = 2 → up sn k t j + 3 + dk gs j = up s.2.2.2.2 k (t + 3 + dk gs k) j)
        by_cases hjk : j = k
        · subst hjk
          rw [up_s, up_s, up_s]
          exact ⟨by omega, fun _ => by omega, fun z => by omega, fun _ => rfl⟩
        · rw [up_n _ _ hjk, up_n _ _ hjk, up_n _ _ hjk]
          exact ⟨d1, d2, d3, d4⟩
      · rw [f1, sf_k _ _ (by omega), sf_same, sN_up 8 hk8]
      · rw [f1, sf_same, hb7]
      · rw [f1, sf_k _ _ (by omega), sf_k _ _ (by omega), sf_k _ _ (by omega), sf_r _ _ _ _ (fun z => hrk z.symm), sf_r _ _ _ _ (fun z => hrk z.symm), g8]
        congr 1
        apply bN_congr
        intro j hj
        show _ = (up s.2.1 k v j == 4)
        by_cases hjk : j = k
        · subst hjk
          rw [up_s, hs1]
          simp
          omega
        · rw [up_n _ _ hjk]
      · rw [f1, sf_r _ _ _ _ hrk, sf_r _ _ _ _ hrk, sf_r _ _ _ _ hrk, sf_k _ _ (by omega), sf_same, hdk]
      · rw [f1, sf_r _ _ _ _ hrk, sf_r _ _ _ _ hrk, sf_r _ _ _ _ hrk, sf_same]
      · intro i j hi hij
        rw [f1, sf_r _ _ _ _ hi, sf_r _ _ _ _ hi, sf_r _ _ _ _ hi, sf_n (by omega), sf_n (by omega)]
      · intro i hi
        rw [f2, sa_n _ _ (by omega), sa_n _ _ (by omega), sa_n _ _ (by omega)]
      · rw [f2]
        rfl
    by_cases ca : s.2.2.1 k + 1 = al gs k
    · rw [if_neg (nI_nlt (by omega) (by omega))]
      refine ⟨_, rfl, key 3 (bN (fun j => up s.2.1 k 3 j == 3) 8) _ (by rw [if_pos ca]) rfl ?_ rfl⟩
      rw [show nI 1 <<< (nI k &&& 31) = nI (2 ^ k) from nI_bit (by omega), nI_or _ _ (by have := bN_lt (fun k => s.2.1 k == 3) 8; omega) (by have : 2 ^ k ≤ 2 ^ 8 := Nat.pow_le_pow_right (by omega) (by omega); omega), bN_or (g := fun j => up s.2.1 k 3 j == 3) hk8 (by rw [up_s]; rfl) (fun j hj hjk => by rw [up_n _ _ hjk])]
      rfl
    · rw [if_pos (nI_lt (by omega) (by omega))]
      refine ⟨_, rfl, key 2 (bN (fun j => s.2.1 j == 3) 8) _ (by rw [if_neg ca]) ?_ ?_ rfl⟩
      · apply bN_congr
        intro j hj
        show _ = (up s.2.1 k 2 j == 3)
        by_cases hjk : j = k
        · subst hjk
          rw [up_s, hs1]
          rfl
        · rw [up_n _ _ hjk]
      · funext i j
        show _ = (am_sf _ rc 7 _).1 i j
        by_cases hi : i = rc ∧ j = 7
        · obtain ⟨rfl, rfl⟩ := hi
          rw [sf_same]
          show (am_sf (am_sf (am_sf (am_sf h rk 2 _) rk 1 _) i 5 _) i 6 _).1 i 7 = _
          rw [sf_k _ _ (by omega), sf_k _ _ (by omega), sf_r _ _ _ _ (fun z => hrk z.symm), sf_r _ _ _ _ (fun z => hrk z.symm), g7]
        · rw [sf_n hi]
          rfl
