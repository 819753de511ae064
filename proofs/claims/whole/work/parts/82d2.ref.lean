/-! the reference: the deeds of a graft -/
theorem t_Mo_grafts {X : zz_X} {σ : zz_M} {m n u v on : Nat} {I : zz_I} (hR : RV σ m I.law I.C I.k (IH I) I.D) (ok : i_ok I) (h1 : I.ho = 1) (hv : v ≤ I.k) (hon : on ≤ I.k) (hn : zd_wn I.D u v = (n : Nat)) (hwm : σ.1 1251 m = (n : Nat)) (hww : ∀ i, i < n → σ.2 (m + 22) i = ((zd_w I.D v n i + 1 : Nat) : Int)) : zz_T X 6 p_Mo_grafts [zP 12 0 0 m, zI (on : Nat)] σ (fun r σ' => r = some (zI (g_rs I v n on)) ∧ (NQ σ' m (g_rq I v n on) ∧ σ'.1 1254 m = g_rc I v n on) ∧ (Fr m (IH I).n σ σ' ∧ zz_F (A_rf m) σ σ') ∧ σ'.1 1251 m = σ.1 1251 m ∧ ∀ i, σ'.2 (m + 22) i = σ.2 (m + 22) i) := by
  refine zz_mk k_Mo_grafts o_Mo_grafts rfl rfl (Nat.le_of_ble_eq_true rfl) ?_
  show zz_G X 6 p_Mo_grafts 0 [zP 12 0 0 m, zI (on : Nat), zU, zU, zU, zU, zU] [] σ _
  obtain ⟨⟨r1, r2, r3⟩, r4, r5, r6, r7⟩ := id hR
  have zok := i_zd ok
  have hk6 := ok.1.2.2.1
  have hCC := (i_ho ok (by rw [h1]; decide)).2
  obtain ⟨hS, hq1, hq2⟩ := r4 on hon
  obtain ⟨hI0, h11, -⟩ := (h_inv ok.1).1 on hon
  have hql := h_ql ok hon
  have zw2 := zd_w_lt zok hv hn
  have hdv : dpp I.D v ≤ v := zd_dep_le zok v v hv
  have hn60 : n ≤ 60 := by have := zw2.1; omega
  have hon60 : on ≤ 60 := by omega
  have hbz : r_bd I.law on (IH I).n 0 (hw (IH I) on) := r_bd.z ok.1 hon
  have hkd := g_kd_w ok hv hn
  refine zz_gsn 6 rfl ?_
  refine zz_cv (n := 3) rfl rfl (t_Mo_copies (s := on) (t := 122) (by omega) (by decide) (by omega)) (Nat.le_of_ble_eq_true rfl) (Nat.le_of_ble_eq_true rfl) (Nat.le_of_ble_eq_true rfl) (fun r6 σ6 q6 => ?_)
  obtain ⟨rfl, u6, v6, w6⟩ := q6
  obtain ⟨P6, -⟩ := hS.copy u6 v6 w6
  have F6 : Fz m (IH I).n σ σ6 := cp_z v6 w6 (by decide)
  have s6 : σ6.2 (m + 12) on = (((IH I).Q on).1 : Nat) := (w6 _ _ (by omega)).trans hq1
  refine zz_gsn 4 rfl ?_
  refine zz_ald rfl (⟨by omega, by omega⟩) ?_
  rw [show σ6.2 (m + 12) ((on : Nat) : Int).toNat = (((IH I).Q on).1 : Nat) from s6]
  refine zz_gsn 3 rfl ?_
  have A6 : ∀ i, i < ((IH I).Q on).1 → σ6.2 (m + 11) (64 * on + i) = ((IH I).Q on).2 i := fun i hi => (w6 _ _ (by omega)).trans (hq2 i hi)
  refine lp_rgn (q0 := (IH I).Q on) (σ0 := zz_sf σ6 1253 m (((IH I).Q on).1 : Nat)) (by omega) (by have := hql.1; omega) (fun i hi => A6 i hi) (fun σ2 y Q2 F2 => ?_) ((IH I).Q on).1 0 _ (Nat.zero_add _) (sf_h _ _ _ _) (fun j hj => absurd hj (Nat.not_lt_zero j)) Fn.rf
  refine zz_gsn 7 rfl ?_
  obtain ⟨σ3, h3⟩ : ∃ s, s = zz_sf σ2 1254 m (-1) := ⟨_, rfl⟩
  refine zz_sge (σ' := σ3) h3 ?_
  have G2 : Fn m σ6 σ2 := Fn.sf.tr F2
  have P3 : MP σ3 m 122 (hw (IH I) on) := by rw [h3]; exact (P6.fn G2).fd (by decide)
  have Q3 : NQ σ3 m ((IH I).Q on) := by rw [h3]; exact ⟨(sf_f _ _ (by decide)).trans Q2.1, Q2.2⟩
  have c3 : σ3.1 1254 m = -1 := by rw [h3, sf_h]
  have F3 : Fz m (IH I).n σ σ3 := by rw [h3]; exact (F6.tr G2.z).tr Fz.c
  have D3 : ∀ i, i < I.k → σ3.2 (m + 6) (i + 1) = (I.D i).1 ∧ σ3.2 (m + 7) (i + 1) = (I.D i).2.2 := fun i hi => ⟨(F3.1.2.1 _ _ (by unfold pa; omega)).trans (r5 i hi).2.2.1, (F3.1.2.1 _ _ (by unfold pa; omega)).trans (r5 i hi).2.2.2⟩
  have W3 : ∀ i, i < n → σ3.2 (m + 22) i = ((zd_w I.D v n i + 1 : Nat) : Int) ∧ zd_w I.D v n i < I.k := fun i hi => ⟨(F3.2.2 i).trans (hww i hi), (zw2.2 i hi).1⟩
  refine lp_rgraft (on := on) (B0 := on) (n0 := (IH I).n) (law := I.law) (C := I.C) (D := I.D) (W0 := hw (IH I) on) (q0 := (IH I).Q on) (σ0 := σ3) hk6 D3 (F3.2.1.trans hwm) W3 hn60 hI0 (by omega) ((F3.1.1 1205 (by unfold pf; omega) (by decide)).trans r1) ((F3.1.1 1206 (by unfold pf; omega) (by decide)).trans r2) ⟨hCC.1, hCC.2.1⟩ h11 (by have := hql.1; omega) hkd (fun σ4 y y5 y6 Q4 c4 F4 => ?_) n 0 0 σ3 _ _ (Nat.zero_add n) rfl (fun x hx => absurd hx (Nat.not_lt_zero x)) P3 Q3 hbz rfl ⟨Int.le_refl _, Int.le_refl _⟩ c3 Fz.rf
  refine zz_gsn 4 rfl ?_
  refine zz_ri rfl (Or.inl rfl) ?_
  have F := F3.tr F4
  obtain ⟨R, Z⟩ := F.1.cl
  have es : zz_sum (gS I.law I.C (g_e I.D v n) (fun j => (g_e I.D v n j).2.2) (hw (IH I) on)) (g_c (g_ct (g_e I.D v n) ((IH I).Q on)) n 0) = g_rs I v n on := zz_sum_c (fun j hj => gS_eq hkd (by have := (g_c_b (g_ct (g_e I.D v n) ((IH I).Q on)) n 0).2; omega))
  refine ⟨congrArg (fun z => some (zI z)) es, ⟨⟨(sf_f _ _ (by decide)).trans Q4.1, Q4.2⟩, (sf_f _ _ (by decide)).trans c4⟩, ⟨R, Z⟩, (sf_f _ _ (by decide)).trans F.2.1, F.2.2⟩
