theorem flt_at {tx i : Nat} {bs : List Nat} (h1 : (ps tx bs i).1 = none) (hi : i ≤ bs.length) (h2 : i < bs.length → fitS tx (ps tx bs i).2.length (i % 4) (bt bs i) = false) (h3 : i = bs.length → ¬ (bs.length = 0 ∨ bs.length % 4 = 3)) : fltS tx bs = some i := by
  by_cases c : i < bs.length
  · have e := ps_no h1 (h2 c)
    have e2 : (ps tx bs bs.length).1 = some i := ps_stop (i := i + 1) (by rw [e]) bs.length (by omega)
    unfold fltS
    rw [e2]
  · have c : i = bs.length := by omega
    unfold fltS
    rw [← c, h1]
    show (if i = 0 ∨ i % 4 = 3 then none else some i) = some i
    have := h3 c
    rw [← c] at this
    rw [if_neg this]
def fr_x (tx : Nat) (h h' : AH) : Prop := (∀ i k, ¬ (i = 75 ∧ k = mF tx) → h'.1 i k = h.1 i k) ∧ (∀ i, ¬ (mA tx ≤ i ∧ i ≤ mA tx + 2) → h'.2.1 i = h.2.1 i) ∧ h'.2.2 = h.2.2
theorem fr_x.rf {tx : Nat} {h : AH} : fr_x tx h h := ⟨fun _ _ _ => rfl, fun _ _ => rfl, rfl⟩
theorem fr_x.tr {tx : Nat} {a b c : AH} (h1 : fr_x tx a b) (h2 : fr_x tx b c) : fr_x tx a c := ⟨fun i k z => (h2.1 i k z).trans (h1.1 i k z), fun i z => (h2.2.1 i z).trans (h1.2.1 i z), h2.2.2.trans h1.2.2⟩
theorem mA_b {tx : Nat} (h : tx < 2) : 78 ≤ mA tx ∧ mA tx + 2 ≤ 83 := by unfold mA; omega
theorem m_b136 {tx n a b c : Nat} {l : List T3} {h : AH} {x4 x6 x7 : Int32} (ht : tx < 2) (hn : n < 8) (hl : l.length = n) (ha : arrM h tx l) (e4 : x4 = nI a) (e6 : x6 = nI b) (e7 : x7 = nI c) : ∃ h', B_X9_readsPart_136 (nI tx) (nI n) x4 x6 x7 1 1 1 h = some (3, h') ∧ arrM h' tx (l ++ [(a, b, c)]) ∧ h'.1 = h.1 ∧ (∀ i, ¬ (mA tx ≤ i ∧ i ≤ mA tx + 2) → h'.2.1 i = h.2.1 i) ∧ h'.2.2 = h.2.2 := by
  unfold B_X9_readsPart_136
  have key : ∀ A : Nat, A = mA tx → arrM (am_sa (am_sa (am_sa h A (upd (h.2.1 A) n x4)) (A + 1) (upd (h.2.1 (A + 1)) n x6)) (A + 2) (upd (h.2.1 (A + 2)) n x7)) tx (l ++ [(a, b, c)]) ∧ (∀ i, ¬ (mA tx ≤ i ∧ i ≤ mA tx + 2) → (am_sa (am_sa (am_sa h A (upd (h.2.1 A) n x4)) (A + 1) (upd (h.2.1 (A + 1)) n x6)) (A + 2) (upd (h.2.1 (A + 2)) n x7)).2.1 i = h.2.1 i) := by
    intro A hA
    subst hA
    refine ⟨fun j x hx => ?_, fun i z => ?_⟩
    · rw [sa_n _ _ (by omega), sa_n _ _ (by omega), sa_s, sa_n _ _ (by omega), sa_s, sa_s]
      unfold upd
      by_cases hj : j = n
      · rw [if_pos hj, if_pos hj, if_pos hj, e4, e6, e7]
        rw [hj, ← hl, List.getElem?_append_right (Nat.le_refl _), Nat.sub_self] at hx
        cases hx
        exact ⟨rfl, rfl, rfl⟩
      · rw [if_neg hj, if_neg hj, if_neg hj]
        have hlt := (List.getElem?_eq_some_iff.mp hx).1
        rw [List.length_append] at hlt
        have hlt : j < l.length + 1 := hlt
        rw [List.getElem?_append_left (by omega)] at hx
        exact ha j x hx
    · rw [sa_n _ _ (by omega), sa_n _ _ (by omega), sa_n _ _ (by omega)]
  rw [show M_X9_in 1 1 1 = 1 by decide, if_neg (by decide), am_inK (show n < 9 by omega) (by omega), nK (by omega)]
  simp only [cond_true]
  by_cases c0 : tx = 0
  · rw [if_pos (by rw [c0]; rfl)]
    have k := key 78 (by rw [c0]; rfl)
    exact ⟨_, rfl, k.1, rfl, k.2, rfl⟩
  · rw [if_neg (by rw [show (0 : Int32) = nI 0 from rfl]; exact kF c0 (by omega) (by omega))]
    have k := key 81 (by rw [show tx = 1 by omega]; rfl)
    exact ⟨_, rfl, k.1, rfl, k.2, rfl⟩
set_option maxHeartbeats 8000000 in
theorem m_rt37 {N tx : Nat} {bs : List Nat} (ht : tx < 2) (hl : bs.length ≤ 31) (hb : ∀ b ∈ bs, b ≤ 255) : ∀ (d n m : Nat) (h : AH), n + d = 8 → d < m → 4 * n ≤ bs.length → (ps tx bs (4 * n)).1 = none → arrM h tx (ps tx bs (4 * n)).2 → txM h tx bs → h.1 75 (mF tx) = 0 →
    ∃ h', L_X9_readsText_37 N m (nI tx) (nI n) (nI (4 * n)) h = some (svI (fltS tx bs), h') ∧ entM h' tx (entS tx bs) ∧ fr_x tx h h' := by
  intro d
  induction d with
  | zero =>
    intro n m h hn
    omega
  | succ d ih =>
    intro n m h hnd hm hn hps harr hx hz
    obtain ⟨m, rfl⟩ : ∃ q, m = q + 1 := ⟨m - 1, by omega⟩
    have hlen := ps_len _ hps
    have hlen : (ps tx bs (4 * n)).2.length = n := by omega
    have hmA := mA_b ht
    have hfault : ∀ f, fltS tx bs = some f → entM h tx (entS tx bs) := fun f hf => by
      unfold entS
      rw [hf, if_neg (by simp)]
      exact ⟨by rw [hz]; rfl, fun j x hx => by cases hx⟩
    rw [L_X9_readsText_37, am_inK ht (by omega), nK (by omega), hx.1]
    simp only [cond_true]
    by_cases c00 : bs.length = 0
    · have hn0 : n = 0 := by omega
      rw [if_neg (nI_nlt (by omega) (by omega)), if_pos (by rw [hn0]; decide)]
      have ebs : bs = [] := List.length_eq_zero_iff.mp c00
      have e3 : fltS tx bs = none := by rw [ebs]; rfl
      have e4 : entS tx bs = [] := by rw [ebs]; rfl
      rw [e3, e4]
      exact ⟨h, rfl, ⟨by rw [hz]; rfl, fun j x hx => by cases hx⟩, fr_x.rf⟩
    · have eif : (if nI (4 * n) < nI bs.length then B_X9_readsText_51 N (L_X9_readsText_37 N m) (nI tx) (nI n) (nI (4 * n)) h else if nI (4 * n) ≤ 0 then some (-1, h) else B_X9_readsText_51 N (L_X9_readsText_37 N m) (nI tx) (nI n) (nI (4 * n)) h) = B_X9_readsText_51 N (L_X9_readsText_37 N m) (nI tx) (nI n) (nI (4 * n)) h := by
        by_cases c : 4 * n < bs.length
        · rw [if_pos (nI_lt c (by omega))]
        · rw [if_neg (nI_nlt (by omega) (by omega)), if_neg (by rw [show (0 : Int32) = nI 0 from rfl]; exact nI_ge (by omega) (by omega))]
      rw [eif]
      unfold B_X9_readsText_51
      have out : ∀ (g : Nat) (gI : Int32), gI = nI g → g ≤ 2 → (ps tx bs (4 * n + g)).1 = none → 4 * n + g ≤ bs.length → (4 * n + g < bs.length → fitS tx (ps tx bs (4 * n + g)).2.length ((4 * n + g) % 4) (bt bs (4 * n + g)) = false) → ∃ h', (am_b (some (gI, h)) fun v2 h1 => if 3 ≤ v2 then bif am_in (nI tx) 2 then if nI (4 * n) + 3 = h1.2.1 76 (Int32.toNatClampNeg (nI tx)) then if nI tx = 0 then B_X9_readsText_100 N (nI tx) (nI n + 1) (nI n + 1) h1 else B_X9_readsText_100 N (nI tx) (nI n + 1) (h1.1 75 2) h1 else am_o (M_X9_byteAt (nI tx) (nI (4 * n) + 3) h1) fun v3 => if v3 = 59 then L_X9_readsText_37 N m (nI tx) (nI n + 1) (nI (4 * n) + 3 + 1) h1 else some (nI (4 * n) + 3, h1) else none else some (nI (4 * n) + v2, h1)) = some (svI (fltS tx bs), h') ∧ entM h' tx (entS tx bs) ∧ fr_x tx h h' := by
        intro g gI hg hg2 hp hle hfit
        subst hg
        have hf := flt_at hp hle hfit (fun z => by omega)
        refine ⟨h, ?_, hfault _ hf, fr_x.rf⟩
        show (if 3 ≤ nI g then _ else some (nI (4 * n) + nI g, h)) = _
        rw [if_neg (by rw [show (3 : Int32) = nI 3 from rfl]; exact nI_ge (by omega) (by omega)), hf, nI_add]
        rfl
      by_cases f0 : 4 * n < bs.length ∧ fitS tx n 0 (bt bs (4 * n)) = true
      · have y0 := ps_yes hps (by rw [hlen, show 4 * n % 4 = 0 by omega]; exact f0.2)
        rw [if_neg (by omega)] at y0
        by_cases f1 : 4 * n + 1 < bs.length ∧ fitS tx n 1 (bt bs (4 * n + 1)) = true
        · have y1 := ps_yes (i := 4 * n + 1) (by rw [y0]) (by rw [y0, hlen, show (4 * n + 1) % 4 = 1 by omega]; exact f1.2)
          rw [if_neg (by omega), y0] at y1
          rw [m_p2 ht hl hb hx (by omega) (by omega) f0 f1]
          by_cases f2 : 4 * n + 2 < bs.length ∧ fitS tx n 2 (bt bs (4 * n + 2)) = true
          · have y2 := ps_yes (i := 4 * n + 2) (by rw [y1]) (by rw [y1, hlen, show (4 * n + 2) % 4 = 2 by omega]; exact f2.2)
            rw [if_pos (by omega), y1] at y2
            rw [if_pos f2]
            have g0 := f0.2
            have g2 := f2.2
            rw [fit0] at g0
            rw [fit2] at g2
            have g0 := of_decide_eq_true g0
            have g2 := of_decide_eq_true g2
            obtain ⟨h1, z1, z2, z3, z4, z5⟩ := m_b136 (tx := tx) (n := n) (a := bt bs (4 * n) - 97) (b := (kd tx (bt bs (4 * n + 1))).getD 0) (c := bt bs (4 * n + 2) - 48) (l := (ps tx bs (4 * n)).2) (h := h) (x4 := zI (bz bs (4 * n) - 97)) (x6 := svI (kz tx bs (4 * n + 1))) (x7 := zI (bz bs (4 * n + 2)) - 48) ht (by omega) hlen harr
              (by unfold bz; rw [if_pos f0.1, zI_n]; congr 1; omega) (m_p1y f1).1 (by unfold bz; rw [if_pos f2.1, show (48 : Int32) = zI 48 from rfl, zI_sub, zI_n]; congr 1; omega)
            rw [z1]
            have hx1 : txM h1 tx bs := ⟨by rw [z4 _ (by omega)]; exact hx.1, fun j hj => by rw [z4 _ (by omega)]; exact hx.2 j hj⟩
            have y2 : ps tx bs (4 * n + 3) = (none, (ps tx bs (4 * n)).2 ++ [(bt bs (4 * n) - 97, (kd tx (bt bs (4 * n + 1))).getD 0, bt bs (4 * n + 2) - 48)]) := y2
            show ∃ h', (if 3 ≤ (3 : Int32) then bif am_in (nI tx) 2 then if nI (4 * n) + 3 = h1.2.1 76 (Int32.toNatClampNeg (nI tx)) then if nI tx = 0 then B_X9_readsText_100 N (nI tx) (nI n + 1) (nI n + 1) h1 else B_X9_readsText_100 N (nI tx) (nI n + 1) (h1.1 75 2) h1 else am_o (M_X9_byteAt (nI tx) (nI (4 * n) + 3) h1) fun v3 => if v3 = 59 then L_X9_readsText_37 N m (nI tx) (nI n + 1) (nI (4 * n) + 3 + 1) h1 else some (nI (4 * n) + 3, h1) else none else some (nI (4 * n) + 3, h1)) = _ ∧ _
            rw [if_pos (by decide), am_inK ht (by omega), nK (by omega), hx1.1, show (3 : Int32) = nI 3 from rfl, nI_add, nI_1, nI_1]
            simp only [cond_true]
            have frh : fr_x tx h h1 := ⟨fun i k _ => by rw [z3], fun i z => z4 i z, z5⟩
            by_cases ce : 4 * n + 3 = bs.length
            · rw [if_pos (by rw [ce])]
              have e3 : fltS tx bs = none := by
                unfold fltS
                rw [← ce, y2]
                exact if_pos (Or.inr (by omega))
              have e4 : entS tx bs = (ps tx bs (4 * n)).2 ++ [(bt bs (4 * n) - 97, (kd tx (bt bs (4 * n + 1))).getD 0, bt bs (4 * n + 2) - 48)] := by
                unfold entS
                rw [if_pos e3, ← ce, y2]
              have e5 : (entS tx bs).length = n + 1 := by
                rw [e4, List.length_append, hlen]
                rfl
              rw [e3]
              have fin : ∀ (y z : Int32), (tx = 0 → y = nI (n + 1) ∧ z = h1.1 75 6) → (¬ tx = 0 → y = h1.1 75 2 ∧ z = nI (n + 1)) → entM (am_sf (am_sf h1 75 2 y) 75 6 z) tx (entS tx bs) ∧ fr_x tx h (am_sf (am_sf h1 75 2 y) 75 6 z) := by
                intro y z q1 q2
                by_cases c0 : tx = 0
                · obtain ⟨qa, qb⟩ := q1 c0
                  subst c0
                  refine ⟨⟨?_, by rw [e4]; exact z2⟩, frh.tr ⟨fun i k w => ?_, fun _ _ => rfl, rfl⟩⟩
                  · show (am_sf (am_sf h1 75 2 y) 75 6 z).1 75 2 = _
                    rw [sf_k _ _ (by omega), sf_same, e5, qa]
                  · have w : ¬ (i = 75 ∧ k = 2) := w
                    by_cases c6 : i = 75 ∧ k = 6
                    · rw [c6.1, c6.2, sf_same, qb]
                    · rw [sf_n c6, sf_n w]
                · obtain ⟨qa, qb⟩ := q2 c0
                  have c1 : tx = 1 := by omega
                  subst c1
                  refine ⟨⟨?_, by rw [e4]; exact z2⟩, frh.tr ⟨fun i k w => ?_, fun _ _ => rfl, rfl⟩⟩
                  · show (am_sf (am_sf h1 75 2 y) 75 6 z).1 75 6 = _
                    rw [sf_same, e5, qb]
                  · have w : ¬ (i = 75 ∧ k = 6) := w
                    rw [sf_n w]
                    by_cases c6 : i = 75 ∧ k = 2
                    · rw [c6.1, c6.2, sf_same, qa]
                    · rw [sf_n c6]
              unfold B_X9_readsText_100
              by_cases c0 : tx = 0
              · rw [if_pos (by rw [c0]; rfl), if_neg (by rw [c0]; decide)]
                have q := fin (nI (n + 1)) (h1.1 75 6) (fun _ => ⟨rfl, rfl⟩) (fun w => absurd c0 w)
                exact ⟨_, rfl, q.1, q.2⟩
              · rw [if_neg (by rw [show (0 : Int32) = nI 0 from rfl]; exact kF c0 (by omega) (by omega)), if_pos (by rw [show tx = 1 by omega]; rfl)]
                have q := fin (h1.1 75 2) (nI (n + 1)) (fun w => absurd w c0) (fun _ => ⟨rfl, rfl⟩)
                exact ⟨_, rfl, q.1, q.2⟩
            · rw [if_neg (kF ce (by omega) (by omega)), m_byteAt ht hl hx1 (by omega)]
              have hbz : bz bs (4 * n + 3) = (bt bs (4 * n + 3) : Int) := if_pos (by omega)
              have hb3 := bt_lt hb (4 * n + 3)
              show ∃ h', (if zI (bz bs (4 * n + 3)) = 59 then L_X9_readsText_37 N m (nI tx) (nI (n + 1)) (nI (4 * n + 3 + 1)) h1 else some (nI (4 * n + 3), h1)) = _ ∧ _
              rw [hbz, zI_cast]
              by_cases c59 : bt bs (4 * n + 3) = 59
              · rw [if_pos (by rw [c59]; rfl)]
                have y3 := ps_yes (i := 4 * n + 3) (by rw [y2]) (by rw [y2, show (4 * n + 3) % 4 = 3 by omega, fit3]; exact decide_eq_true c59)
                rw [if_neg (by omega), y2] at y3
                obtain ⟨h', w1, w2, w3⟩ := ih (n + 1) m h1 (by omega) (by omega) (by omega) (by rw [show 4 * (n + 1) = 4 * n + 3 + 1 by omega, y3]) (by rw [show 4 * (n + 1) = 4 * n + 3 + 1 by omega, y3]; exact z2) hx1 (by rw [z3]; exact hz)
                exact ⟨h', w1, w2, frh.tr w3⟩
              · rw [if_neg (by rw [show (59 : Int32) = nI 59 from rfl]; exact kF c59 (by omega) (by omega))]
                have hf := flt_at (i := 4 * n + 3) (by rw [y2]) (by omega) (fun _ => by rw [show (4 * n + 3) % 4 = 3 by omega, fit3]; exact decide_eq_false c59) (fun w => by omega)
                rw [hf]
                refine ⟨h1, rfl, ?_, frh⟩
                unfold entS
                rw [hf, if_neg (by simp)]
                exact ⟨by rw [z3, hz]; rfl, fun j x hx => by cases hx⟩
          · rw [if_neg f2]
            refine out 2 2 rfl (by omega) (by rw [y1]) (by omega) (fun w => ?_)
            rw [y1, hlen, show (4 * n + 2) % 4 = 2 by omega]
            cases q : fitS tx n 2 (bt bs (4 * n + 2)) with
            | false => rfl
            | true => exact absurd ⟨w, q⟩ f2
        · rw [m_p1 ht hl hb hx (by omega) (by omega) f0 f1]
          refine out 1 1 rfl (by omega) (by rw [y0]) (by omega) (fun w => ?_)
          rw [y0, hlen, show (4 * n + 1) % 4 = 1 by omega]
          cases q : fitS tx n 1 (bt bs (4 * n + 1)) with
          | false => rfl
          | true => exact absurd ⟨w, q⟩ f1
      · rw [m_p0 ht hl hb hx (by omega) (by omega) f0]
        refine out 0 0 rfl (by omega) hps (by omega) (fun w => ?_)
        show fitS tx (ps tx bs (4 * n)).2.length (4 * n % 4) (bt bs (4 * n)) = false
        rw [hlen, show 4 * n % 4 = 0 by omega]
        cases q : fitS tx n 0 (bt bs (4 * n)) with
        | false => rfl
        | true => exact absurd ⟨w, q⟩ f0
