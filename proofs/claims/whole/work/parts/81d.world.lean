/-! the class: a way done from another version on -/
theorem t_History_hasAll {X : zz_X} {σ : zz_M} {h k : Nat} {ho law C told u v w : Int} {D : zz_D} (hD : DF σ (h + 1) ho law C told k D) : zz_T X 3 p_History_hasAll [zP 3 0 0 h, zI u, zI v, zI w] σ (fun r σ' => σ = σ' ∧ ∃ n : Int, r = some (zI n) ∧ ((n = 1 ∧ vz ho k u ∧ vz ho k v ∧ vz ho k w) ∨ (n = 0 ∧ ¬ (vz ho k u ∧ vz ho k v ∧ vz ho k w)))) := by
  refine zz_mk k_History_hasAll o_History_hasAll rfl rfl (Nat.le_of_ble_eq_true rfl) ?_
  show zz_G X 3 p_History_hasAll 0 [zP 3 0 0 h, zI u, zI v, zI w] [] σ _
  refine zz_gsn 3 rfl ?_
  refine zz_cv (n := 2) rfl rfl (t_Deeds_hasVersion) (Nat.le_of_ble_eq_true rfl) (Nat.le_of_ble_eq_true rfl) (Nat.le_of_ble_eq_true rfl) (fun r3 σ3 q3 => ?_)
  obtain ⟨rfl, n3, rfl, e3⟩ := q3
  replace e3 := vz_of hD e3
  refine zz_br rfl (fun h4 => ?_) (fun h4 => ?_)
  · refine zz_gsn 1 rfl ?_
    refine zz_ri rfl (Or.inr ⟨rfl, by first | exact Or.inl rfl | exact Or.inr rfl | omega⟩) ?_
    exact ⟨rfl, _, rfl, Or.inr ⟨rfl, fun z => e3.elim (fun y => absurd (y.1.symm.trans h4) (by decide)) (fun y => y.2 z.1)⟩⟩
  · refine zz_gsn 3 rfl ?_
    refine zz_cv (n := 2) rfl rfl (t_Deeds_hasVersion) (Nat.le_of_ble_eq_true rfl) (Nat.le_of_ble_eq_true rfl) (Nat.le_of_ble_eq_true rfl) (fun r8 σ8 q8 => ?_)
    obtain ⟨rfl, n8, rfl, e8⟩ := q8
    replace e8 := vz_of hD e8
    refine zz_br rfl (fun h9 => ?_) (fun h9 => ?_)
    · refine zz_gsn 1 rfl ?_
      refine zz_ri rfl (Or.inr ⟨rfl, by first | exact Or.inl rfl | exact Or.inr rfl | omega⟩) ?_
      exact ⟨rfl, _, rfl, Or.inr ⟨rfl, fun z => e8.elim (fun y => absurd (y.1.symm.trans h9) (by decide)) (fun y => y.2 z.2.1)⟩⟩
    · refine zz_gsn 3 rfl ?_
      refine zz_cv (n := 2) rfl rfl (t_Deeds_hasVersion) (Nat.le_of_ble_eq_true rfl) (Nat.le_of_ble_eq_true rfl) (Nat.le_of_ble_eq_true rfl) (fun r13 σ13 q13 => ?_)
      obtain ⟨rfl, n13, rfl, e13⟩ := q13
      replace e13 := vz_of hD e13
      refine zz_br rfl (fun h14 => ?_) (fun h14 => ?_)
      · refine zz_gsn 1 rfl ?_
        refine zz_ri rfl (Or.inr ⟨rfl, by first | exact Or.inl rfl | exact Or.inr rfl | omega⟩) ?_
        exact ⟨rfl, _, rfl, Or.inr ⟨rfl, fun z => e13.elim (fun y => absurd (y.1.symm.trans h14) (by decide)) (fun y => y.2 z.2.2)⟩⟩
      · refine zz_gsn 1 rfl ?_
        refine zz_jp rfl ?_
        refine zz_ri rfl (Or.inr ⟨rfl, by first | exact Or.inl rfl | exact Or.inr rfl | omega⟩) ?_
        exact ⟨rfl, _, rfl, Or.inl ⟨rfl, e3.elim (fun z => z.2) (fun z => absurd z.1 h4), e8.elim (fun z => z.2) (fun z => absurd z.1 h9), e13.elim (fun z => z.2) (fun z => absurd z.1 h14)⟩⟩
theorem t_Trial_graftWay {X : zz_X} {σ : zz_M} {t h u v on : Nat} {I : zz_I} (hH : CH σ h I) (ok : i_ok I) (hth : h + 571 ≤ t) (hho : I.ho = 1) (hu : u ≤ I.k) (hv : v ≤ I.k) (hon : on ≤ I.k) : zz_T X 8 p_Trial_graftWay [zP 10 0 0 t, zP 3 0 0 h, zI (u : Nat), zI (v : Nat), zI (on : Nat)] σ (fun r σ' => r = some (zI (zd_wn I.D u v)) ∧ (∀ n : Nat, zd_wn I.D u v = (n : Nat) → (QR σ' (t + 1) (g_rq I v n on) ∧ σ'.1 1001 t = g_rs I v n on ∧ σ'.1 1002 t = g_rc I v n on) ∧ ∀ i, i < n → σ'.2 (h + 17) i = (zd_w I.D v n i : Nat)) ∧ zz_F (fun a => A_tr t a ∨ a = h + 17) σ σ') := by
  refine zz_mk k_Trial_graftWay o_Trial_graftWay rfl rfl (Nat.le_of_ble_eq_true rfl) ?_
  show zz_G X 8 p_Trial_graftWay 0 [zP 10 0 0 t, zP 3 0 0 h, zI (u : Nat), zI (v : Nat), zI (on : Nat), zU, zU, zU, zU] [] σ _
  obtain ⟨hD, hV⟩ := id hH
  obtain ⟨d1, d2, d3, d4, dR⟩ := id hD
  have zok := i_zd ok
  have hk6 := ok.1.2.2.1
  have hCC := i_ho ok (by rw [hho]; decide)
  have hvo : vz I.ho I.k ((on : Nat) : Int) := ⟨by rw [hho]; decide, by omega, by omega⟩
  obtain ⟨hS, hQ1, hQ2⟩ := hV.2.2.1 on hon
  obtain ⟨hI0, h11, -⟩ := (h_inv ok.1).1 on hon
  have hql := h_ql ok hon
  have hS3 : SP σ 1890 (h + 5) (h + 22 + 9 * on) (hw (IH I) on) := hS
  rcases (show (∃ n : Nat, zd_wn I.D u v = (n : Nat)) ∨ zd_wn I.D u v = -1 from by unfold zd_wn; split; exact Or.inl ⟨_, rfl⟩; exact Or.inr rfl) with ⟨n, hn⟩ | hn
  · have zw2 := zd_w_lt zok hv hn
    have hdv : dpp I.D v ≤ v := zd_dep_le zok v v hv
    have hn60 : n ≤ 60 := by have := zw2.1; omega
    rw [hn]
    refine zz_gsn 3 rfl ?_
    refine zz_cv (n := 3) rfl rfl (t_History_findWay (h := h) hD zok hu hv) (Nat.le_of_ble_eq_true rfl) (Nat.le_of_ble_eq_true rfl) (Nat.le_of_ble_eq_true rfl) (fun r3 σ3 q3 => ?_)
    obtain ⟨rfl, p3, g3⟩ := q3
    rw [hn]
    have hD3 := hD.f g3 (fun c y1 y2 z => by omega)
    have S3 := hS3.f g3 (fun a y1 y2 z => by omega) (fun _ a y1 y2 z => by omega)
    have Q3 : QR σ3 (h + 29 + 9 * on) ((IH I).Q on) := QR.f ⟨hQ1, hQ2⟩ g3 (by omega) (by omega)
    refine zz_gsn 3 rfl ?_
    refine zz_cv (n := 2) rfl rfl (t_History_stateOf_y (v := on) hD3 hvo) (Nat.le_of_ble_eq_true rfl) (Nat.le_of_ble_eq_true rfl) (Nat.le_of_ble_eq_true rfl) (fun r7 σ7 q7 => ?_)
    obtain ⟨rfl, rfl⟩ := q7
    refine zz_gsn 3 rfl ?_
    refine zz_cv (n := 2) rfl rfl (t_History_queueOf_y (v := on) hD3 hvo) (Nat.le_of_ble_eq_true rfl) (Nat.le_of_ble_eq_true rfl) (Nat.le_of_ble_eq_true rfl) (fun r11 σ11 q11 => ?_)
    obtain ⟨rfl, rfl⟩ := q11
    refine zz_gsn 3 rfl ?_
    refine zz_br rfl (fun h15 => absurd h15 (by omega)) (fun h15 => ?_)
    refine zz_gsn 1 rfl ?_
    refine zz_jp rfl ?_
    refine zz_gsn 1 rfl ?_
    refine zz_jp rfl ?_
    refine zz_gsn 4 rfl ?_
    refine zz_cv (n := 3) rfl rfl (t_Trial_begin (t := t) (d := h + 1) S3 (Or.inl (by omega)) (Or.inl (by omega))) (Nat.le_of_ble_eq_true rfl) (Nat.le_of_ble_eq_true rfl) (Nat.le_of_ble_eq_true rfl) (fun r26 σ26 q26 => ?_)
    obtain ⟨rfl, T26, z26, g26⟩ := q26
    rw [hD3.2.1, hD3.2.2.1] at T26
    refine zz_gsn 3 rfl ?_
    refine zz_cv (n := 2) rfl rfl (t_Numbers_become (a := t + 1) (b := h + 29 + 9 * on) (q := (IH I).Q on) (Q3.f g26 (by unfold A_tr; omega) (by unfold A_tr; omega)) (Or.inr (by omega)) (by omega) (by omega) (by omega) (by decide)) (Nat.le_of_ble_eq_true rfl) (Nat.le_of_ble_eq_true rfl) (Nat.le_of_ble_eq_true rfl) (fun r30 σ30 q30 => ?_)
    obtain ⟨rfl, Q30, g30⟩ := q30
    refine zz_gsn 5 rfl ?_
    obtain ⟨σ33, h33⟩ : ∃ x, x = zz_sf σ30 1002 t (-1) := ⟨_, rfl⟩
    refine zz_sge (σ' := σ33) h33 ?_
    have F3 : zz_F (fun a => A_tr t a ∨ a = h + 17) σ σ3 := g3.mono (fun a z => Or.inr z)
    have F33 : zz_F (A_tr t) σ3 σ33 := by
      rw [h33]
      exact (g26.tr (g30.mono (fun a z => by unfold zz_A2 at z; unfold A_tr; omega))).tr (zz_F.sf (by unfold A_tr; omega))
    have T33 : TT σ33 t I.law I.C (hw (IH I) on) := by
      rw [h33]
      exact (T26.f g30 (fun a y1 y2 z => by unfold zz_A2 at z; omega)).sf
    have Q33 : QR σ33 (t + 1) ((IH I).Q on) := by
      rw [h33]
      exact Q30.f (A := fun a => a = t) (zz_F.sf rfl) (by omega) (by omega)
    have a33 : σ33.1 1001 t = 0 := by
      rw [h33, sf_f _ _ (by decide), (g30 t (by unfold zz_A2; omega)).1]
      exact z26
    have b33 : σ33.1 1002 t = -1 := by rw [h33, sf_h]
    have hWW : ∀ i, i < n → σ33.2 (h + 17) i = (zd_w I.D v n i : Nat) ∧ zd_w I.D v n i < I.k := fun i hi => ⟨((F33 (h + 17) (by unfold A_tr; omega)).2 i).trans (p3 n hn i hi), (zw2.2 i hi).1⟩
    have hD33 := hD3.f F33 (fun c y1 y2 z => by unfold A_tr at z; omega)
    clear h33
    refine lp_graft (on := on) (B0 := on) (law := I.law) (C := I.C) (W0 := hw (IH I) on) (q0 := (IH I).Q on) (σ0 := σ33) hD33 hth hWW hn60 hI0 (by omega) ⟨hCC.2.1, hCC.2.2.1⟩ h11 (by omega) (g_kd_w ok hv hn) (fun σ' y1 y2 y3 F => ?_) n 0 0 σ33 (Nat.zero_add n) rfl (fun x hx => absurd hx (Nat.not_lt_zero x)) T33 Q33 a33 rfl ⟨Int.le_refl _, Int.le_refl _⟩ b33 zz_F.rf
    refine ⟨congrArg (fun z => some (zI z)) rfl, fun n2 z2 => ?_, F3.tr ((F33.tr F).mono (fun a z => Or.inl z))⟩
    have z3 : n2 = n := Int.ofNat_inj.mp z2.symm
    subst z3
    exact ⟨⟨y1, y2, y3⟩, fun i hi => ((F (h + 17) (by unfold A_tr; omega)).2 i).trans (hWW i hi).1⟩
  · rw [hn]
    refine zz_gsn 3 rfl ?_
    refine zz_cv (n := 3) rfl rfl (t_History_findWay (h := h) hD zok hu hv) (Nat.le_of_ble_eq_true rfl) (Nat.le_of_ble_eq_true rfl) (Nat.le_of_ble_eq_true rfl) (fun r3 σ3 q3 => ?_)
    obtain ⟨rfl, p3, g3⟩ := q3
    rw [hn]
    have hD3 := hD.f g3 (fun c y1 y2 z => by omega)
    have S3 := hS3.f g3 (fun a y1 y2 z => by omega) (fun _ a y1 y2 z => by omega)
    have Q3 : QR σ3 (h + 29 + 9 * on) ((IH I).Q on) := QR.f ⟨hQ1, hQ2⟩ g3 (by omega) (by omega)
    refine zz_gsn 3 rfl ?_
    refine zz_cv (n := 2) rfl rfl (t_History_stateOf_y (v := on) hD3 hvo) (Nat.le_of_ble_eq_true rfl) (Nat.le_of_ble_eq_true rfl) (Nat.le_of_ble_eq_true rfl) (fun r7 σ7 q7 => ?_)
    obtain ⟨rfl, rfl⟩ := q7
    refine zz_gsn 3 rfl ?_
    refine zz_cv (n := 2) rfl rfl (t_History_queueOf_y (v := on) hD3 hvo) (Nat.le_of_ble_eq_true rfl) (Nat.le_of_ble_eq_true rfl) (Nat.le_of_ble_eq_true rfl) (fun r11 σ11 q11 => ?_)
    obtain ⟨rfl, rfl⟩ := q11
    refine zz_gsn 3 rfl ?_
    refine zz_br rfl (fun h15 => ?_) (fun h15 => absurd rfl (by first | exact h15 | exact h15))
    refine zz_gsn 1 rfl ?_
    refine zz_ri rfl (Or.inl rfl) ?_
    exact ⟨rfl, fun n z => absurd (show (-1 : Int) = (n : Nat) from z) (by omega), g3.mono (fun a z => Or.inr z)⟩
