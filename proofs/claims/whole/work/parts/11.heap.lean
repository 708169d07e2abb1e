/-! steps at the heap -/
section AMH
variable {p : Program} {l : Launch} {e : Env} {Rm : Room} {s : State} {m : MethodId} {args : Array Value} {below : List Frame} {meth : Method} {c : Code} {cells slots : Nat} {Q : State → Prop} {D : va_G} {tc : Nat → ClassId} {ad : Nat → Nat} {A : Nat → Prop} {R : MR} {sc : Option (Nat × (Nat → Int32))}
variable {pc : Nat} {lv : LV} {st : List Value} {h : AH} {B : AS}
theorem am_n_get (X : am_FX p s m args c Rm cells slots D tc ad A sc R) {idx a ci k : Nat} {ex : List Nat} {v : Value} {r : List Value} (hd : decode (mr_b R) pc = .ok (.getfield idx, 3)) (hf : am_fl (mr_o R) idx (ci :: k :: ex) = true) (hv : am_fv h a ci k = some v) (kk : am_WA p l e Rm s m args below meth c cells slots Q D tc ad A R (pc + 3, lv, v :: r, h)) :
    am_WA p l e Rm s m args below meth c cells slots Q D tc ad A R (pc, lv, .ref a :: r, h) := by
  obtain ⟨hx, hb, hml, hown, hts, hK, hRO, hD, -⟩ := X
  intro ls H locs hl hP hS
  have kk := kk ls H locs hl hP hS
  cases ex with
  | nil => cases hf
  | cons pp ex =>
    unfold am_fl at hf
    unfold am_fv at hv
    split at hv
    · rename_i q hq
      split at hv
      · rename_i hci
        by_cases h100 : ci = 100
        · exfalso
          subst h100
          have hb2 : am_shp.all (fun z => match z with | .inr q => decide (q.1 < 10) | .inl _ => true) = true := by decide +kernel
          have h3 := List.all_eq_true.mp hb2 _ (List.mem_of_getElem? hq)
          simp only [decide_eq_true_eq] at h3
          omega
        · simp only [if_neg h100] at hf
          split at hf
          · rename_i qq hqq
            simp only [Bool.and_eq_true, decide_eq_true_eq] at hf
            obtain ⟨hk, hw⟩ := hf
            have hfv : (q.2.mapIdx (am_ff ad h a))[k]? = some (am_cv ad v) := by
              rw [List.getElem?_mapIdx]
              split at hv
              · rename_i j hj
                cases hv
                rw [hj]
                rfl
              · rename_i hj
                cases hv
                rw [hj]
                rfl
              · cases hv
            have he := am_W_at (tc := tc) (ad := ad) (h := h) hq
            rw [← hci] at hqq
            exact va_get (D := D) (ci := q.1) (v := am_cv ad v) (C := qq.1) (T := qq.2.1) (N := qq.2.2) hx hb hts (am_inc hqq) hown hK hP a he hqq k hk (hts _ (am_wd_mem hw)) (fun _ z => z) hfv hd kk
          · cases hf
      · cases hv
    · cases hv
    · split at hv
      · rename_i hci
        obtain ⟨h100, hi⟩ := hci
        subst h100
        dsimp only at hf
        rw [if_pos rfl, Bool.and_eq_true, decide_eq_true_eq] at hf
        obtain ⟨hk, hw⟩ := hf
        have hE : ∀ i, i < 2 → _ := hRO.1.1
        have hi2 : ∃ i, i < 2 ∧ a = 200 + i := by
          rcases hi with rfl | rfl
          · exact ⟨0, by omega, rfl⟩
          · exact ⟨1, by omega, rfl⟩
        obtain ⟨i, hi2, rfl⟩ := hi2
        obtain ⟨-, e1, e2, -⟩ := hE i hi2
        by_cases hk0 : k = 0
        · subst hk0
          rw [if_pos rfl] at hv
          cases hv
          exact vk_getf hx hb e1 hS hown (hts _ (am_wd_mem hw)) (fun _ z => z) hd kk
        · rw [if_neg hk0] at hv
          cases hv
          rw [if_neg hk0, if_neg hk0] at hw
          rw [show 200 + i + 4 = 204 + i by omega] at kk
          exact vk_getf hx hb e2 hS hown (hts _ (am_wd_mem hw)) (fun _ z => z) hd kk
      · cases hv
theorem am_n_put (X : am_FX p s m args c Rm cells slots D tc ad A sc R) {idx a ci k pp b : Nat} {v : Int32} {r : List Value} (hd : decode (mr_b R) pc = .ok (.putfield idx, 3)) (hf : am_pl (mr_o R) idx [ci, k, pp, b] = true) (hw : am_wr a ci k = true) (hb0 : b = 0 ∨ v = 0 ∨ v = 1) (kk : am_WA p l e Rm s m args below meth c cells slots Q D tc ad A R (pc + 3, lv, r, am_sf h a k v)) :
    am_WA p l e Rm s m args below meth c cells slots Q D tc ad A R (pc, lv, .int v :: .ref a :: r, h) := by
  obtain ⟨hx, hb, hml, hown, hts, hK, hRO, hD, -⟩ := X
  intro ls H locs hl hP hS
  unfold am_pl at hf
  unfold am_wr at hw
  split at hw
  · rename_i q hq
    simp only [Bool.and_eq_true, decide_eq_true_eq] at hw
    obtain ⟨hci, hkn⟩ := hw
    dsimp only at hf
    split at hf
    · rename_i qq hqq
      simp only [Bool.and_eq_true, decide_eq_true_eq, Bool.not_eq_true'] at hf
      obtain ⟨hk, hwd, hfin, hpd⟩ := hf
      have he := am_W_at (tc := tc) (ad := ad) (h := h) hq
      rw [← hci] at hqq
      obtain ⟨⟨ty0, hty⟩, hnm⟩ := am_tyc hqq
      have hlen : k < (q.2.mapIdx (am_ff ad h a)).length := by
        rw [List.length_mapIdx]
        exact (List.getElem?_eq_some_iff.mp hkn).1
      have hn : narrow (if b = 0 then FieldType.int else FieldType.boolean) (Value.int v) = Value.int v := by
        rcases hb0 with z | z | z
        · rw [if_pos z]
          rfl
        · subst z
          split
          · rfl
          · decide
        · subst z
          split
          · rfl
          · decide
      have hfit : fits (if b = 0 then FieldType.int else FieldType.boolean) (Value.int v) = true := by
        rcases hb0 with z | z | z
        · rw [if_pos z]
          rfl
        · subst z
          split
          · rfl
          · decide
        · subst z
          split
          · rfl
          · decide
      refine va_put (D := D) (ci := q.1) (v := .int v) (C := qq.1) (T := qq.2.1) (N := qq.2.2) hx hb hts (am_inc hqq) ty0 hty hnm hown hK hP (hD h) hS a he hqq k hk (hts _ (am_wd_mem hwd)) (fun _ z => z) hfin hpd hn hfit hlen hd (fun H1 locs1 hP1 hD1 hS1 => ?_)
      have e1 := am_W_sf (tc := tc) (ad := ad) (h := h) v hq hkn
      have hP1 : va_P D am_cl ((am_W tc ad h).set a (ad a, .inr (q.1, (q.2.mapIdx (am_ff ad h a)).set k (.int v)))) H1 := hP1
      rw [e1] at hP1
      exact kk ls H1 locs1 hl hP1 hS1
    · cases hf
  · cases hw
theorem am_kind_tc {tc : Nat → ClassId} {ad : Nat → Nat} {h : AH} {a : Nat} {q : Nat × Nat} (hq : ¬ q.1 = 1) : am_ce tc ad h a (.inl q) = (ad a, .inl (tc q.1, q.2, .inl (h.2.1 a))) := by
  unfold am_ce
  simp only [if_neg hq]
theorem am_n_iald (X : am_FX p s m args c Rm cells slots D tc ad A sc R) {a : Nat} {j : Int32} {q : Nat × (Nat → Int32)} {r : List Value} (hd : decode (mr_b R) pc = .ok (.iaload, 1)) (ha : am_aI sc h a = some q) (hin : am_in j q.1 = true) (kk : am_WA p l e Rm s m args below meth c cells slots Q D tc ad A R (pc + 1, lv, .int (q.2 j.toNatClampNeg) :: r, h)) :
    am_WA p l e Rm s m args below meth c cells slots Q D tc ad A R (pc, lv, .int j :: .ref a :: r, h) := by
  obtain ⟨hx, hb, hml, hown, hts, hK, hRO, hD, hA, hrm, hsc, -⟩ := X
  intro ls H locs hl hP hS
  have kk := kk ls H locs hl hP hS
  unfold am_aI at ha
  split at ha
  · rename_i w hw
    split at ha
    · rename_i h0
      cases ha
      have he := am_W_at (tc := tc) (ad := ad) (h := h) hw
      rw [am_kind_tc (by omega), h0] at he
      exact va_iald hx hb hK hP a 0 he rfl (am_in_vp hin) hd kk
    · cases ha
  · cases ha
  · unfold am_roI at ha
    split at ha
    · cases ha
      exact va_ti hx hb hRO.2.2.1.2 hS (am_in_vp hin) rfl hd kk
    · cases ha
      exact va_ti hx hb hRO.2.2.2.1.2 hS (am_in_vp hin) rfl hd kk
    · obtain ⟨L, xs⟩ := q
      obtain ⟨g1, g2, g3⟩ := hsc L xs ha
      exact va_sld hx hb g1 g2 g3 hS (am_in_vp hin) hd kk
    · cases ha
theorem am_n_bald (X : am_FX p s m args c Rm cells slots D tc ad A sc R) {a : Nat} {j : Int32} {q : Nat × (Nat → Int32)} {r : List Value} (hd : decode (mr_b R) pc = .ok (.baload, 1)) (ha : am_aB h a = some q) (hin : am_in j q.1 = true) (kk : am_WA p l e Rm s m args below meth c cells slots Q D tc ad A R (pc + 1, lv, .int (q.2 j.toNatClampNeg) :: r, h)) :
    am_WA p l e Rm s m args below meth c cells slots Q D tc ad A R (pc, lv, .int j :: .ref a :: r, h) := by
  obtain ⟨hx, hb, hml, hown, hts, hK, hRO, hD, hA, hrm, hsc, -⟩ := X
  intro ls H locs hl hP hS
  have kk := kk ls H locs hl hP hS
  unfold am_aB at ha
  split at ha
  · rename_i w hw
    split at ha
    · rename_i h0
      cases ha
      have he := am_W_at (tc := tc) (ad := ad) (h := h) hw
      rw [am_kind_tc (by omega), h0] at he
      exact va_zald hx hb hK hP a 2 he rfl (am_in_vp hin) hd kk
    · cases ha
  · cases ha
  · unfold am_roB at ha
    split at ha
    · cases ha
      exact va_tb hx hb (hRO.1.1 0 (by omega)).2.2.2 hS (am_in_vp hin) rfl hd kk
    · cases ha
      exact va_tb hx hb (hRO.1.1 1 (by omega)).2.2.2 hS (am_in_vp hin) rfl hd kk
    · cases ha
theorem am_wa_at {a kind n : Nat} (ha : am_wa a kind = some n) : am_shp[a]? = some (.inl (kind, n)) := by
  unfold am_wa at ha
  split at ha
  · rename_i q hq
    split at ha
    · rename_i hk
      cases ha
      rw [hq, ← hk]
    · cases ha
  · cases ha
theorem am_n_lald (X : am_FX p s m args c Rm cells slots D tc ad A sc R) {a n : Nat} {j : Int32} {r : List Value} (hd : decode (mr_b R) pc = .ok (.laload, 1)) (ha : am_wa a 1 = some n) (hin : am_in j n = true) (kk : am_WA p l e Rm s m args below meth c cells slots Q D tc ad A R (pc + 1, lv, .long (h.2.2 a j.toNatClampNeg) :: r, h)) :
    am_WA p l e Rm s m args below meth c cells slots Q D tc ad A R (pc, lv, .int j :: .ref a :: r, h) := by
  obtain ⟨hx, hb, hml, hown, hts, hK, hRO, hD, hA, hrm, hsc, -⟩ := X
  intro ls H locs hl hP hS
  have kk := kk ls H locs hl hP hS
  have he := am_W_at (tc := tc) (ad := ad) (h := h) (am_wa_at ha)
  exact va_lald hx hb hK hP a 1 he rfl (am_in_vp hin) hd kk
theorem am_n_iast (X : am_FX p s m args c Rm cells slots D tc ad A sc R) {a n : Nat} {j x : Int32} {r : List Value} (hd : decode (mr_b R) pc = .ok (.iastore, 1)) (ha : am_wa a 0 = some n) (hin : am_in j n = true) (kk : am_WA p l e Rm s m args below meth c cells slots Q D tc ad A R (pc + 1, lv, r, am_sa h a (upd (h.2.1 a) j.toNatClampNeg x))) :
    am_WA p l e Rm s m args below meth c cells slots Q D tc ad A R (pc, lv, .int x :: .int j :: .ref a :: r, h) := by
  obtain ⟨hx, hb, hml, hown, hts, hK, hRO, hD, hA, hrm, hsc, -⟩ := X
  intro ls H locs hl hP hS
  have hq := am_wa_at ha
  have he := am_W_at (tc := tc) (ad := ad) (h := h) hq
  refine va_iast hx hb hK hP (hD h) hS a 0 he rfl (am_in_vp hin) hd (fun H1 locs1 hP1 hD1 hS1 => ?_)
  have e1 := am_W_sa (tc := tc) (ad := ad) (h := h) (upd (h.2.1 a) j.toNatClampNeg x) hq (by show ¬ 0 = 1; omega)
  exact kk ls H1 locs1 hl (by rw [← e1]; exact hP1) hS1
theorem am_n_bast (X : am_FX p s m args c Rm cells slots D tc ad A sc R) {a n : Nat} {j x : Int32} {r : List Value} (hd : decode (mr_b R) pc = .ok (.bastore, 1)) (ha : am_wa a 2 = some n) (hin : am_in j n = true) (kk : am_WA p l e Rm s m args below meth c cells slots Q D tc ad A R (pc + 1, lv, r, am_sa h a (upd (h.2.1 a) j.toNatClampNeg (vp_nar .boolean x)))) :
    am_WA p l e Rm s m args below meth c cells slots Q D tc ad A R (pc, lv, .int x :: .int j :: .ref a :: r, h) := by
  obtain ⟨hx, hb, hml, hown, hts, hK, hRO, hD, hA, hrm, hsc, -⟩ := X
  intro ls H locs hl hP hS
  have hq := am_wa_at ha
  have he := am_W_at (tc := tc) (ad := ad) (h := h) hq
  refine va_zast hx hb hK hP (hD h) hS a 2 he rfl (am_in_vp hin) hd (fun H1 locs1 hP1 hD1 hS1 => ?_)
  have e1 := am_W_sa (tc := tc) (ad := ad) (h := h) (upd (h.2.1 a) j.toNatClampNeg (vp_nar .boolean x)) hq (by show ¬ 2 = 1; omega)
  exact kk ls H1 locs1 hl (by rw [← e1]; exact hP1) hS1
theorem am_n_last (X : am_FX p s m args c Rm cells slots D tc ad A sc R) {a n : Nat} {j : Int32} {x : Int64} {r : List Value} (hd : decode (mr_b R) pc = .ok (.lastore, 1)) (ha : am_wa a 1 = some n) (hin : am_in j n = true) (kk : am_WA p l e Rm s m args below meth c cells slots Q D tc ad A R (pc + 1, lv, r, am_sl h a (vp_updL (h.2.2 a) j.toNatClampNeg x))) :
    am_WA p l e Rm s m args below meth c cells slots Q D tc ad A R (pc, lv, .long x :: .int j :: .ref a :: r, h) := by
  obtain ⟨hx, hb, hml, hown, hts, hK, hRO, hD, hA, hrm, hsc, -⟩ := X
  intro ls H locs hl hP hS
  have hq := am_wa_at ha
  have he := am_W_at (tc := tc) (ad := ad) (h := h) hq
  refine va_last hx hb hK hP (hD h) hS a 1 he rfl (am_in_vp hin) hd (fun H1 locs1 hP1 hD1 hS1 => ?_)
  have e1 := am_W_sl (tc := tc) (ad := ad) (h := h) (vp_updL (h.2.2 a) j.toNatClampNeg x) hq rfl
  exact kk ls H1 locs1 hl (by rw [← e1]; exact hP1) hS1
theorem am_shp_kind {a : Nat} {q : Nat × Nat} (hq : am_shp[a]? = some (.inl q)) : q.1 < 3 := by
  have hb2 : am_shp.all (fun z => match z with | .inl q => decide (q.1 < 3) | .inr _ => true) = true := by decide +kernel
  have h3 := List.all_eq_true.mp hb2 _ (List.mem_of_getElem? hq)
  simpa only [decide_eq_true_eq] using h3
theorem am_n_alen (X : am_FX p s m args c Rm cells slots D tc ad A sc R) {a n : Nat} {r : List Value} (hd : decode (mr_b R) pc = .ok (.arraylength, 1)) (ha : am_alen sc a = some n) (kk : am_WA p l e Rm s m args below meth c cells slots Q D tc ad A R (pc + 1, lv, .int (Int32.ofNat n) :: r, h)) :
    am_WA p l e Rm s m args below meth c cells slots Q D tc ad A R (pc, lv, .ref a :: r, h) := by
  obtain ⟨hx, hb, hml, hown, hts, hK, hRO, hD, hA, hrm, hsc, -⟩ := X
  intro ls H locs hl hP hS
  have kk := kk ls H locs hl hP hS
  unfold am_alen at ha
  split at ha
  · rename_i q hq
    cases ha
    have hk := am_shp_kind hq
    obtain ⟨kd, n⟩ := q
    have he := am_W_at (tc := tc) (ad := ad) (h := h) hq
    have h3 : kd = 0 ∨ kd = 1 ∨ kd = 2 := by
      have hk : kd < 3 := hk
      omega
    rcases h3 with rfl | rfl | rfl
    · exact va_alen hx hb hK hP a 0 he rfl rfl hd kk
    · exact va_alen hx hb hK hP a 1 he rfl rfl hd kk
    · exact va_alen hx hb hK hP a 2 he rfl rfl hd kk
  · cases ha
  · split at ha
    · rename_i q hq
      cases ha
      unfold am_roB at hq
      split at hq
      · cases hq
        exact va_tlen hx hb (hRO.1.1 0 (by omega)).2.2.2 hS rfl hd kk
      · cases hq
        exact va_tlen hx hb (hRO.1.1 1 (by omega)).2.2.2 hS rfl hd kk
      · cases hq
    · split at ha
      · rename_i q hq
        cases ha
        unfold am_roI at hq
        split at hq
        · cases hq
          exact va_tlen hx hb hRO.2.2.1.2 hS rfl hd kk
        · cases hq
          exact va_tlen hx hb hRO.2.2.2.1.2 hS rfl hd kk
        · obtain ⟨L, xs⟩ := q
          obtain ⟨g1, g2, g3⟩ := hsc L xs hq
          exact va_slen hx hb g1 g2 g3 hS hd kk
        · cases hq
      · cases ha
theorem am_n_copy (X : am_FX p s m args c Rm cells slots D tc ad A sc R) {idx pp : Nat} (hd : decode (mr_b R) pc = .ok (.invokestatic idx, 3)) (hw : am_wd pp (.methodLink (am_cn (mr_o R)) idx arraycopyName) = true) (he : am_copy R pc lv st h = some (.inl B)) (kk : am_WA p l e Rm s m args below meth c cells slots Q D tc ad A R B) :
    am_WA p l e Rm s m args below meth c cells slots Q D tc ad A R (pc, lv, st, h) := by
  obtain ⟨hx, hb, hml, hown, hts, hK, hRO, hD, hA, hrm, hsc, -⟩ := X
  unfold am_copy at he
  split at he
  · rename_i n dp b sp a r
    split at he
    · rename_i na nb ha hb2
      cases h1 : Nat.ble 1 (mr_f R) && Nat.ble (am_cat r + 18) (mr_w R) with
      | false => rw [h1] at he; cases he
      | true =>
        rw [h1] at he
        cases h2 : am_cpok sp dp n na nb with
        | false => rw [h2] at he; cases he
        | true =>
          rw [h2] at he
          cases he
          rw [Bool.and_eq_true] at h1
          simp only [am_cpok, Bool.and_eq_true, Bool.not_eq_true', decide_eq_false_iff_not, decide_eq_true_eq] at h2
          obtain ⟨c1, c2, c3, c4, c5⟩ := h2
          have r1 := Nat.le_of_ble_eq_true h1.1
          have r2 := Nat.le_of_ble_eq_true h1.2
          have qa := am_wa_at ha
          have qb := am_wa_at hb2
          have ea := am_W_at (tc := tc) (ad := ad) (h := h) qa
          have eb := am_W_at (tc := tc) (ad := ad) (h := h) qb
          intro ls H locs hl hP hS
          refine va_copyi (ty := .int) hx hb (by rw [hml]; exact hl.1.symm) hown (hts _ (am_wd_mem hw)) (hts _ w_acN) (hts _ w_acS) (hts _ w_acI) hK hP (hD h) hS a b 0 0 ea eb rfl rfl rfl c1 c2 c3 c4 c5 (fun _ _ => rfl) (by omega) (by rw [am_cat_cv]; show _ + (7 + 11) ≤ _; omega) hd (fun H1 locs1 hP1 hD1 hS1 => ?_)
          have e1 := am_W_sa (tc := tc) (ad := ad) (h := h) (va_cpy (h.2.1 a) (h.2.1 b) sp.toNatClampNeg dp.toNatClampNeg n.toNatClampNeg) qb (by show ¬ 0 = 1; omega)
          exact kk ls H1 locs1 hl (by rw [← e1]; exact hP1) hS1
    · cases he
  · cases he
theorem am_n_mm (X : am_FX p s m args c Rm cells slots D tc ad A sc R) {f : Int32 → Int32 → Int32} (he : am_mm R pc lv st h f = some (.inl B)) (kk : am_WA p l e Rm s m args below meth c cells slots Q D tc ad A R B)
    (row : ∀ {ls : Array Slot} {H : Heap} {locs : List Loc} {rest : List Value} {x y : Int32}, c.maxLocals = ls.size → 1 ≤ Rm.frames → (rest.map fun v => v.category).sum + 13 ≤ Rm.locals → W p l e Rm s m args below meth c H locs cells slots Q (F0 m (pc + 3) ls (.int (f x y) :: rest)) → W p l e Rm s m args below meth c H locs cells slots Q (F0 m pc ls (.int y :: .int x :: rest))) :
    am_WA p l e Rm s m args below meth c cells slots Q D tc ad A R (pc, lv, st, h) := by
  obtain ⟨hx, hb, hml, hown, hts, hK, hRO, hD, hA, hrm, hsc, -⟩ := X
  unfold am_mm at he
  split at he
  · rename_i y x r
    cases h1 : Nat.ble 1 (mr_f R) && Nat.ble (am_cat r + 13) (mr_w R) with
    | false => rw [h1] at he; cases he
    | true =>
      rw [h1] at he
      cases he
      rw [Bool.and_eq_true] at h1
      have r1 := Nat.le_of_ble_eq_true h1.1
      have r2 := Nat.le_of_ble_eq_true h1.2
      intro ls H locs hl hP hS
      exact row (by rw [hml]; exact hl.1.symm) (by omega) (by rw [am_cat_cv]; omega) (kk ls H locs hl hP hS)
  · cases he
end AMH
