/-! the class: acts along a way -/
theorem lp_acts {X : zz_X} {h v n on : Nat} {I : zz_I} {σ0 : zz_M} {Post : Option zz_V → zz_M → Prop} (ok : i_ok I) (fx : i_fx I) (h1 : I.ho = 1) (hon : on ≤ I.k) (hkn : I.k + n ≤ 60) (hw : ∀ i, i < n → zd_w I.D v n i < I.k) (hc : ∀ i, i < n → g_ct (g_e I.D v n) ((IH I).Q on) i = false) (hW : ∀ i, i < n → σ0.2 (h + 17) i = (zd_w I.D v n i : Nat))
    (kk : ∀ σ', CH σ' h (i_gr I v n on n).1 → zz_F (A_hc h) σ0 σ' → σ'.1 105 (h + 6) = σ0.1 105 (h + 6) → Post (some (zI ((i_gr I v n on n).2 : Nat))) σ') :
    ∀ (r i : Nat) (u5 : zz_V) (σ : zz_M), i + r = n → CH σ h (i_gr I v n on i).1 → zz_F (A_hc h) σ0 σ → σ.1 105 (h + 6) = σ0.1 105 (h + 6) → zz_G X 8 p_History_actAlongWay 4 [zP 3 0 0 h, zI (n : Nat), zI (on : Nat), zI ((i_gr I v n on i).2 : Nat), zI (i : Nat), u5] [] σ Post := by
  intro r
  induction r with
  | zero =>
    intro i u5 σ hi hH hF h5
    obtain rfl : i = n := hi
    refine zz_gsn 2 rfl ?_
    refine zz_br rfl (fun h6 => ?_) (fun h6 => absurd h6 (by omega))
    refine zz_gsn 1 rfl ?_
    refine zz_ri rfl (Or.inl rfl) ?_
    exact kk σ hH hF h5
  | succ r ih =>
    intro i u5 σ hi hH hF h5
    have hin : i < n := by omega
    have hi60 : i < 60 := by omega
    obtain ⟨⟨ho, fx1⟩, ⟨b1, b2, b3, b4, b5⟩, c1, c2, c3⟩ := i_gr_ok ok fx h1 hon hkn hw hc i (by omega)
    have hwi := hw i hin
    obtain ⟨s1, s2, s3, s4, s5⟩ := ok.1.2.2.2 (zd_w I.D v n i) hwi
    have hp := g_ct_p (hc i hin)
    have d3' := c3 (zd_w I.D v n i) hwi
    have e1 : i_gr I v n on (i + 1) = (i_act (i_gr I v n on i).1 (g_e I.D v n i).1 (i_gr I v n on i).2 (g_e I.D v n i).2.2, (i_gr I v n on i).1.k + 1) := rfl
    have hst : h_st (i_gr I v n on i).1.law (i_gr I v n on i).1.k ((g_e I.D v n i).1, (i_gr I v n on i).2, (g_e I.D v n i).2.2) (IH (i_gr I v n on i).1) := by
      rw [b2]
      exact ⟨by show (i_gr I v n on i).2 ≤ (i_gr I v n on i).1.k; rw [b5]; exact c1, s2, s3, fun z => by
        show 0 < ((IH (i_gr I v n on i).1).Q (i_gr I v n on i).2).1
        rw [c2]
        exact hp z, s5⟩
    have hWi : σ.2 (h + 17) i = (zd_w I.D v n i : Nat) := ((hF (h + 17) (by unfold A_hc A_hi; omega)).2 i).trans (hW i hin)
    have ev : g_e I.D v n i = I.D (zd_w I.D v n i) := rfl
    rw [← d3'] at ev
    have hk6 : (i_gr I v n on i).1.k < 60 := by rw [b5]; omega
    have hwk : zd_w I.D v n i < (i_gr I v n on i).1.k := by rw [b5]; omega
    obtain ⟨j, hj⟩ : ∃ j, j = zd_w I.D v n i := ⟨_, rfl⟩
    obtain ⟨P, hP⟩ : ∃ P, P = (i_gr I v n on i).1 := ⟨_, rfl⟩
    obtain ⟨w, hw'⟩ : ∃ w, w = (i_gr I v n on i).2 := ⟨_, rfl⟩
    obtain ⟨kind, hkd⟩ : ∃ z, z = (g_e I.D v n i).1 := ⟨_, rfl⟩
    obtain ⟨x, hx⟩ : ∃ z, z = (g_e I.D v n i).2.2 := ⟨_, rfl⟩
    have ek : (P.D j).1 = kind := by rw [hkd, ev, ← hP, ← hj]
    have ex : (P.D j).2.2 = x := by rw [hx, ev, ← hP, ← hj]
    rw [← hP, ← hw', ← hkd, ← hx] at e1 hst
    rw [← hP] at ho b1 b2 b3 b4 b5 hk6 hwk hH
    rw [← hj] at hWi hwk
    rw [← hw']
    have ih2 := ih (i + 1)
    rw [e1] at ih2
    have i9 : i + 1 + r = n := by omega
    have hzi : zw ((i : Int) + 1) = ((i + 1 : Nat) : Int) := zw_s (by omega)
    have i6 : ¬ ((i : Nat) : Int) ≥ (n : Nat) := by omega
    clear ih hP hw' hkd hx hj e1 ev d3' c1 c2 c3 s1 s2 s3 s4 s5 hp fx1 hwi hi
    obtain ⟨hD, hV⟩ := id hH
    obtain ⟨d1, d2, d3, d4, dR⟩ := id hD
    obtain ⟨d5, d6, d7⟩ := id dR
    obtain ⟨m1, m2, m3⟩ := d7 j hwk
    have hho : P.ho ≠ 0 := by rw [b1]; decide
    have hC := (i_ho ho hho).2
    have hC : 2 ≤ P.C ∧ P.C ≤ 4 := ⟨hC.1, hC.2.1⟩
    have hk : P.k < 60 := hk6
    have hin : h_in P.law P.k (IH P) := h_inv ho.1
    refine zz_gsn 2 rfl ?_
    refine zz_br rfl (fun h6 => absurd h6 i6) (fun h6 => ?_)
    refine zz_gsn 2 rfl ?_
    refine zz_cv (n := 2) rfl rfl (t_History_wayDeed (i := i) hi60) (Nat.le_of_ble_eq_true rfl) (Nat.le_of_ble_eq_true rfl) (Nat.le_of_ble_eq_true rfl) (fun r9 σ9 q9 => ?_)
    obtain ⟨rfl, rfl⟩ := q9
    rw [hWi]
    refine zz_gsn 4 rfl ?_
    refine zz_cv (n := 2) rfl rfl (t_Deeds_hasDeed) (Nat.le_of_ble_eq_true rfl) (Nat.le_of_ble_eq_true rfl) (Nat.le_of_ble_eq_true rfl) (fun r14 σ14 q14 => ?_)
    obtain ⟨rfl, n14, rfl, e14⟩ := q14
    replace e14 := vd_of dR e14
    replace e14 : n14 = 1 := e14.elim (fun z => z.1) (fun z => absurd ⟨by omega, by omega⟩ z.2)
    refine zz_br rfl (fun h15 => absurd (e14.symm.trans h15) (by decide)) (fun h15 => ?_)
    refine zz_gsn 6 rfl ?_
    refine zz_ald rfl (⟨by omega, by omega⟩) ?_
    rw [show σ.2 (h + 1 + 1) ((j : Nat) : Int).toNat = kind from m1.trans ek]
    refine zz_gsn 5 rfl ?_
    refine zz_ald rfl (⟨by omega, by omega⟩) ?_
    rw [show σ.2 (h + 1 + 3) ((j : Nat) : Int).toNat = x from m3.trans ex]
    refine zz_cv (n := 4) rfl rfl (t_Deeds_add (base := w) dR hk) (Nat.le_of_ble_eq_true rfl) (Nat.le_of_ble_eq_true rfl) (Nat.le_of_ble_eq_true rfl) (fun r29 σ29 q29 => ?_)
    obtain ⟨rfl, p29, g29, b29⟩ := q29
    have D1 : DF σ29 (h + 1) P.ho P.law P.C (P.told : Nat) (P.k + 1) (zu P.D P.k (kind, w, x)) := ⟨(b29 200 (by decide)).trans d1, (b29 201 (by decide)).trans d2, (b29 202 (by decide)).trans d3, (b29 203 (by decide)).trans d4, p29⟩
    have V1 : CV σ29 h P.law P.C P.k (IH P) := hV.f d6 g29 (fun a z y => by have z2 : h + 1 ≤ a ∧ a ≤ h + 1 + 3 := z; omega)
    
    refine zz_gsn 6 rfl ?_
    refine zz_ste (st' := [zI (P.k : Nat), zP 3 0 0 h]) (congrArg (fun z : Int => ([zI z, zP 3 0 0 h] : List zz_V)) ((congrArg (fun z : Int => zw (z - 1)) p29.1).trans (zw_p (n := P.k + 1) (Nat.succ_pos _) (by omega)))) ?_
    refine zz_cv (n := 2) rfl rfl (t_History_enact (σ := σ29) (D := zu P.D P.k (kind, w, x)) (H := IH P) D1 hho (Nat.lt_succ_self P.k) V1 hin hC (by rw [zu_s]; exact hst)) (Nat.le_of_ble_eq_true rfl) (Nat.le_of_ble_eq_true rfl) (Nat.le_of_ble_eq_true rfl) (fun r36 σ36 q36 => ?_)
    obtain ⟨rfl, p36, f36, g36, k36⟩ := q36
    refine zz_gsn 5 rfl ?_
    refine zz_jp rfl ?_
    have GF : zz_F (A_hc h) σ σ36 := (g29.mono (fun a z => by have z2 : h + 1 ≤ a ∧ a ≤ h + 1 + 3 := z; unfold A_hc A_hi; omega)).tr (g36.mono (fun a z => Or.inl z))
    have G5 : σ36.1 105 (h + 6) = σ.1 105 (h + 6) := k36.trans ((g29 (h + 6) (fun z => by have z2 : h + 1 ≤ h + 6 ∧ h + 6 ≤ h + 1 + 3 := z; omega)).1 105)
    rw [hzi, show σ36.1 204 (h + 1) = ((P.k + 1 : Nat) : Int) from f36.2.2.2.2.1]
    exact ih2 _ σ36 i9 (CH.act (σ := σ36) (σ1 := σ36) f36 p36) (hF.tr GF) (G5.trans h5)
theorem t_History_actAlongWay {X : zz_X} {σ : zz_M} {h v n on : Nat} {I : zz_I} (hH : CH σ h I) (ok : i_ok I) (fx : i_fx I) (h1 : I.ho = 1) (hon : on ≤ I.k) (hkn : I.k + n ≤ 60) (hw : ∀ i, i < n → zd_w I.D v n i < I.k) (hc : ∀ i, i < n → g_ct (g_e I.D v n) ((IH I).Q on) i = false) (hW : ∀ i, i < n → σ.2 (h + 17) i = (zd_w I.D v n i : Nat)) : zz_T X 8 p_History_actAlongWay [zP 3 0 0 h, zI (n : Nat), zI (on : Nat)] σ (fun r σ' => r = some (zI ((i_gr I v n on n).2 : Nat)) ∧ CH σ' h (i_gr I v n on n).1 ∧ zz_F (A_hc h) σ σ' ∧ σ'.1 105 (h + 6) = σ.1 105 (h + 6)) := by
  refine zz_mk k_History_actAlongWay o_History_actAlongWay rfl rfl (Nat.le_of_ble_eq_true rfl) ?_
  show zz_G X 8 p_History_actAlongWay 0 [zP 3 0 0 h, zI (n : Nat), zI (on : Nat), zU, zU, zU] [] σ _
  refine zz_gsn 4 rfl ?_
  exact lp_acts ok fx h1 hon hkn hw hc hW (fun σ' a c d => ⟨rfl, a, c, d⟩) n 0 _ σ (Nat.zero_add n) hH zz_F.rf rfl
