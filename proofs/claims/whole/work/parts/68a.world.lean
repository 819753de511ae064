/-! the class: acts, taken back -/
theorem clH {b : Nat} {σ σ' : zz_M} (h : zz_F (A_hc (b + 11)) σ σ') : zz_F (A_cl b) σ σ' := h.mono (fun a z => by unfold A_hc A_hi at z; unfold A_cl; omega)
def a_put (G : zz_J) (kind v x : Int) : Int × zz_J := ((ap G.I kind v x).1, ((ap G.I kind v x).2, G.2))
def a_take (G : zz_J) (kind v : Int) : Int × zz_J := ((aq G.I kind v).1, ((aq G.I kind v).2, G.2))
def a_fore (G : zz_J) (v x : Int) : Int × zz_J := if G.I.law = 2 then a_put G 2 v x else (-2, G)
def a_last (G : zz_J) (v : Int) : Int × zz_J := if G.I.law = 2 then a_take G 3 v else (-2, G)
def a_undo (G : zz_J) : Int × zz_J := if G.I.ho = 0 then (-2, G) else if G.I.k = G.I.told then (-5, G) else ((((G.I.k - 1 : Nat) : Int) - (G.I.told : Nat)), (i_cut G.I (G.I.k - 1), G.2))
def a_anew (G : zz_J) : Int × zz_J := if G.I.ho = 0 then (-2, G) else (((G.I.k : Nat) : Int) - (G.I.told : Nat), (i_cut G.I G.I.told, G.2))
theorem g_ok.I {G : zz_J} {I' : zz_I} (ok : g_ok G) (h : i_ok I' ∧ i_fx I') : g_ok (I', G.2) := ⟨h, ok.2.1, ok.2.2.1, ok.2.2.2⟩
theorem t_TQ_put {X : zz_X} {σ : zz_M} {b : Nat} {B : Int} {G : zz_J} {v x : Int} (hG : CG σ b B G) (ok : g_ok G) : zz_T X 9 p_TQ_put [zP 11 0 0 b, zI v, zI x] σ (fun r σ' => r = some (zI (a_put G 0 v x).1) ∧ CG σ' b B (a_put G 0 v x).2 ∧ zz_F (A_cl b) σ σ') := by
  refine zz_mk k_TQ_put o_TQ_put rfl rfl (Nat.le_of_ble_eq_true rfl) ?_
  show zz_G X 9 p_TQ_put 0 [zP 11 0 0 b, zI v, zI x] [] σ _
  refine zz_gsn 5 rfl ?_
  refine zz_cv (n := 4) rfl rfl (t_History_actPutting (kind := 0) (v := v) (x := x) hG.1 ok.1.1 (Or.inl rfl)) (Nat.le_of_ble_eq_true rfl) (Nat.le_of_ble_eq_true rfl) (Nat.le_of_ble_eq_true rfl) (fun r5 σ5 q5 => ?_)
  obtain ⟨rfl, p5, g5, k5⟩ := q5
  refine zz_ri rfl (Or.inl rfl) ?_
  exact ⟨rfl, hG.h p5 g5 k5, clH g5⟩
theorem t_TQ_take {X : zz_X} {σ : zz_M} {b : Nat} {B : Int} {G : zz_J} {v : Int} (hG : CG σ b B G) (ok : g_ok G) : zz_T X 9 p_TQ_take [zP 11 0 0 b, zI v] σ (fun r σ' => r = some (zI (a_take G 1 v).1) ∧ CG σ' b B (a_take G 1 v).2 ∧ zz_F (A_cl b) σ σ') := by
  refine zz_mk k_TQ_take o_TQ_take rfl rfl (Nat.le_of_ble_eq_true rfl) ?_
  show zz_G X 9 p_TQ_take 0 [zP 11 0 0 b, zI v] [] σ _
  refine zz_gsn 4 rfl ?_
  refine zz_cv (n := 3) rfl rfl (t_History_actTaking (kind := 1) (v := v) hG.1 ok.1.1 (Or.inl rfl)) (Nat.le_of_ble_eq_true rfl) (Nat.le_of_ble_eq_true rfl) (Nat.le_of_ble_eq_true rfl) (fun r4 σ4 q4 => ?_)
  obtain ⟨rfl, p5, g5, k5⟩ := q4
  refine zz_ri rfl (Or.inl rfl) ?_
  exact ⟨rfl, hG.h p5 g5 k5, clH g5⟩
theorem t_TQ_fore {X : zz_X} {σ : zz_M} {b : Nat} {B : Int} {G : zz_J} {v x : Int} (hG : CG σ b B G) (ok : g_ok G) : zz_T X 9 p_TQ_fore [zP 11 0 0 b, zI v, zI x] σ (fun r σ' => r = some (zI (a_fore G v x).1) ∧ CG σ' b B (a_fore G v x).2 ∧ zz_F (A_cl b) σ σ') := by
  refine zz_mk k_TQ_fore o_TQ_fore rfl rfl (Nat.le_of_ble_eq_true rfl) ?_
  show zz_G X 9 p_TQ_fore 0 [zP 11 0 0 b, zI v, zI x] [] σ _
  obtain ⟨hH, hBt, hBo, hft, him, hmk, htr⟩ := id hG
  obtain ⟨⟨ho, hfx⟩, okt, oko, okm⟩ := id ok
  obtain ⟨hD, hV⟩ := id hH
  obtain ⟨d1, d2, d3, d4, dR⟩ := id hD
  obtain ⟨d5, d6, d7⟩ := id dR
  rcases Classical.em (G.I.law = 2) with hl | hl
  · refine zz_gsn 5 rfl ?_
    refine zz_br rfl (fun h5 => absurd (d2.trans hl) h5) (fun h5 => ?_)
    refine zz_gsn 5 rfl ?_
    refine zz_cv (n := 4) rfl rfl (t_History_actPutting (kind := 2) (v := v) (x := x) hG.1 ok.1.1 (Or.inr ⟨rfl, hl⟩)) (Nat.le_of_ble_eq_true rfl) (Nat.le_of_ble_eq_true rfl) (Nat.le_of_ble_eq_true rfl) (fun r11 σ11 q11 => ?_)
    obtain ⟨rfl, p11, g11, k11⟩ := q11
    refine zz_jp rfl ?_
    refine zz_ri rfl (Or.inl rfl) ?_
    rw [show a_fore G v x = a_put G 2 v x from if_pos hl]
    exact ⟨rfl, hG.h p11 g11 k11, clH g11⟩
  · refine zz_gsn 5 rfl ?_
    refine zz_br rfl (fun h5 => ?_) (fun h5 => absurd (d2.symm.trans (by first | exact h5 | exact Decidable.not_not.mp h5)) hl)
    refine zz_gsn 1 rfl ?_
    refine zz_ri rfl (Or.inl rfl) ?_
    rw [show a_fore G v x = (-2, G) from if_neg hl]
    exact ⟨rfl, hG, zz_F.rf⟩
theorem t_TQ_last {X : zz_X} {σ : zz_M} {b : Nat} {B : Int} {G : zz_J} {v : Int} (hG : CG σ b B G) (ok : g_ok G) : zz_T X 9 p_TQ_last [zP 11 0 0 b, zI v] σ (fun r σ' => r = some (zI (a_last G v).1) ∧ CG σ' b B (a_last G v).2 ∧ zz_F (A_cl b) σ σ') := by
  refine zz_mk k_TQ_last o_TQ_last rfl rfl (Nat.le_of_ble_eq_true rfl) ?_
  show zz_G X 9 p_TQ_last 0 [zP 11 0 0 b, zI v] [] σ _
  obtain ⟨hH, hBt, hBo, hft, him, hmk, htr⟩ := id hG
  obtain ⟨⟨ho, hfx⟩, okt, oko, okm⟩ := id ok
  obtain ⟨hD, hV⟩ := id hH
  obtain ⟨d1, d2, d3, d4, dR⟩ := id hD
  obtain ⟨d5, d6, d7⟩ := id dR
  rcases Classical.em (G.I.law = 2) with hl | hl
  · refine zz_gsn 5 rfl ?_
    refine zz_br rfl (fun h5 => absurd (d2.trans hl) h5) (fun h5 => ?_)
    refine zz_gsn 4 rfl ?_
    refine zz_cv (n := 3) rfl rfl (t_History_actTaking (kind := 3) (v := v) hG.1 ok.1.1 (Or.inr ⟨rfl, hl⟩)) (Nat.le_of_ble_eq_true rfl) (Nat.le_of_ble_eq_true rfl) (Nat.le_of_ble_eq_true rfl) (fun r10 σ10 q10 => ?_)
    obtain ⟨rfl, p11, g11, k11⟩ := q10
    refine zz_jp rfl ?_
    refine zz_ri rfl (Or.inl rfl) ?_
    rw [show a_last G v = a_take G 3 v from if_pos hl]
    exact ⟨rfl, hG.h p11 g11 k11, clH g11⟩
  · refine zz_gsn 5 rfl ?_
    refine zz_br rfl (fun h5 => ?_) (fun h5 => absurd (d2.symm.trans (by first | exact h5 | exact Decidable.not_not.mp h5)) hl)
    refine zz_gsn 1 rfl ?_
    refine zz_ri rfl (Or.inl rfl) ?_
    rw [show a_last G v = (-2, G) from if_neg hl]
    exact ⟨rfl, hG, zz_F.rf⟩
theorem t_History_cutTo_n {X : zz_X} {σ : zz_M} {h j : Nat} {I : zz_I} (hH : CH σ h I) (hj : ¬ j < I.k) : zz_T X 2 p_History_cutTo [zP 3 0 0 h, zI (j : Nat)] σ (fun r σ' => r = none ∧ σ' = σ) := by
  refine zz_mk k_History_cutTo o_History_cutTo rfl rfl (Nat.le_of_ble_eq_true rfl) ?_
  show zz_G X 2 p_History_cutTo 0 [zP 3 0 0 h, zI (j : Nat)] [] σ _
  have dR := hH.1.2.2.2.2
  refine zz_gsn 3 rfl ?_
  refine zz_cv (n := 2) rfl rfl (t_Deeds_hasDeed) (Nat.le_of_ble_eq_true rfl) (Nat.le_of_ble_eq_true rfl) (Nat.le_of_ble_eq_true rfl) (fun r3 σ3 q3 => ?_)
  obtain ⟨rfl, n3, rfl, e3⟩ := q3
  replace e3 := vd_of dR e3
  replace e3 : n3 = 0 := e3.elim (fun z => absurd z.2.2 (by omega)) (fun z => z.1)
  refine zz_br rfl (fun h4 => ?_) (fun h4 => absurd e3 h4)
  refine zz_rv rfl rfl ?_
  exact ⟨rfl, rfl⟩
theorem t_TQ_undo {X : zz_X} {σ : zz_M} {b : Nat} {B : Int} {G : zz_J} (hG : CG σ b B G) (ok : g_ok G) : zz_T X 3 p_TQ_undo [zP 11 0 0 b] σ (fun r σ' => r = some (zI (a_undo G).1) ∧ CG σ' b B (a_undo G).2 ∧ zz_F (A_cl b) σ σ') := by
  refine zz_mk k_TQ_undo o_TQ_undo rfl rfl (Nat.le_of_ble_eq_true rfl) ?_
  show zz_G X 3 p_TQ_undo 0 [zP 11 0 0 b] [] σ _
  obtain ⟨hH, hBt, hBo, hft, him, hmk, htr⟩ := id hG
  obtain ⟨⟨ho, hfx⟩, okt, oko, okm⟩ := id ok
  obtain ⟨hD, hV⟩ := id hH
  obtain ⟨d1, d2, d3, d4, dR⟩ := id hD
  obtain ⟨d5, d6, d7⟩ := id dR
  rcases zz_c3 (G.I.ho = 1) (G.I.k = G.I.told) with h1 | ⟨h1, hk⟩ | ⟨h1, hk⟩
  · have h0 : G.I.ho = 0 := by rcases ho.2 with z | z <;> omega
    refine zz_gsn 4 rfl ?_
    refine zz_br rfl (fun h4 => absurd (d1.trans h0) h4) (fun h4 => ?_)
    refine zz_gsn 1 rfl ?_
    refine zz_ri rfl (Or.inl rfl) ?_
    rw [show a_undo G = (-2, G) from if_pos h0]
    exact ⟨rfl, hG, zz_F.rf⟩
  · refine zz_gsn 4 rfl ?_
    refine zz_br rfl (fun h4 => ?_) (fun h4 => absurd (d1.symm.trans (by first | exact h4 | exact Decidable.not_not.mp h4)) (by omega))
    refine zz_gsn 3 rfl ?_
    refine zz_cv (n := 1) rfl rfl (t_Deeds_acts) (Nat.le_of_ble_eq_true rfl) (Nat.le_of_ble_eq_true rfl) (Nat.le_of_ble_eq_true rfl) (fun r10 σ10 q10 => ?_)
    obtain ⟨rfl, rfl⟩ := q10
    refine zz_br rfl (fun h11 => absurd (show zw (σ.1 204 (b + 11 + 1) - σ.1 203 (b + 11 + 1)) = 0 by rw [d5, d4, zw_id (by omega) (by omega)]; omega) h11) (fun h11 => ?_)
    refine zz_gsn 1 rfl ?_
    refine zz_ri rfl (Or.inl rfl) ?_
    rw [show a_undo G = (-5, G) from (if_neg (by omega)).trans (if_pos hk)]
    exact ⟨rfl, hG, zz_F.rf⟩
  · have z4 := (i_ho ho (by omega)).2.2.2.1
    have em : zw (σ.1 204 (b + 11 + 1) - 1) = ((G.I.k - 1 : Nat) : Int) := by rw [d5]; exact zw_p (by omega) (by omega)
    have ea : zw (σ.1 204 (b + 11 + 1) - σ.1 203 (b + 11 + 1)) ≠ 0 := by rw [d5, d4, zw_id (by omega) (by omega)]; omega
    refine zz_gsn 4 rfl ?_
    refine zz_br rfl (fun h4 => ?_) (fun h4 => absurd (d1.symm.trans (by first | exact h4 | exact Decidable.not_not.mp h4)) (by omega))
    refine zz_gsn 3 rfl ?_
    refine zz_cv (n := 1) rfl rfl (t_Deeds_acts) (Nat.le_of_ble_eq_true rfl) (Nat.le_of_ble_eq_true rfl) (Nat.le_of_ble_eq_true rfl) (fun r10 σ10 q10 => ?_)
    obtain ⟨rfl, rfl⟩ := q10
    refine zz_br rfl (fun h11 => ?_) (fun h11 => absurd (by first | exact h11 | exact Decidable.not_not.mp h11) ea)
    refine zz_gsn 8 rfl ?_
    rw [em]
    clear em ea
    refine zz_cv (n := 2) rfl rfl (t_History_cutTo (j := G.I.k - 1) hH ho.1 (by omega)) (Nat.le_of_ble_eq_true rfl) (Nat.le_of_ble_eq_true rfl) (Nat.le_of_ble_eq_true rfl) (fun r22 σ22 q22 => ?_)
    obtain ⟨rfl, p22, g22, k22⟩ := q22
    refine zz_gsn 3 rfl ?_
    refine zz_cv (n := 1) rfl rfl (t_Deeds_acts) (Nat.le_of_ble_eq_true rfl) (Nat.le_of_ble_eq_true rfl) (Nat.le_of_ble_eq_true rfl) (fun r26 σ26 q26 => ?_)
    obtain ⟨rfl, rfl⟩ := q26
    refine zz_ri rfl (Or.inl rfl) ?_
    obtain ⟨z1, z2, z3, z4⟩ := (i_ho ho (by omega)).2
    have eF : zz_F (A_cl b) σ σ22 := g22.mono (fun a z => by unfold A_cl; omega)
    have eG : CG σ22 b B (i_cut G.I (G.I.k - 1), G.2) := hG.h p22 (g22.mono (fun a z => by unfold A_hc A_hi; omega)) k22
    rw [show a_undo G = ((((G.I.k - 1 : Nat) : Int) - (G.I.told : Nat)), (i_cut G.I (G.I.k - 1), G.2)) from (if_neg (by omega)).trans (if_neg hk)]
    refine ⟨congrArg (fun z => some (zI z)) ?_, eG, eF⟩
    show zw (σ22.1 204 (b + 11 + 1) - σ22.1 203 (b + 11 + 1)) = _
    rw [p22.1.2.2.2.2.1, p22.1.2.2.2.1]
    show zw (((G.I.k - 1 : Nat) : Int) - (G.I.told : Nat)) = _
    exact zw_id (by omega) (by omega)
theorem t_TQ_anew {X : zz_X} {σ : zz_M} {b : Nat} {B : Int} {G : zz_J} (hG : CG σ b B G) (ok : g_ok G) : zz_T X 3 p_TQ_anew [zP 11 0 0 b] σ (fun r σ' => r = some (zI (a_anew G).1) ∧ CG σ' b B (a_anew G).2 ∧ zz_F (A_cl b) σ σ') := by
  refine zz_mk k_TQ_anew o_TQ_anew rfl rfl (Nat.le_of_ble_eq_true rfl) ?_
  show zz_G X 3 p_TQ_anew 0 [zP 11 0 0 b, zU] [] σ _
  obtain ⟨hH, hBt, hBo, hft, him, hmk, htr⟩ := id hG
  obtain ⟨⟨ho, hfx⟩, okt, oko, okm⟩ := id ok
  obtain ⟨hD, hV⟩ := id hH
  obtain ⟨d1, d2, d3, d4, dR⟩ := id hD
  obtain ⟨d5, d6, d7⟩ := id dR
  rcases zz_c3 (G.I.ho = 1) (G.I.k = G.I.told) with h1 | ⟨h1, hk⟩ | ⟨h1, hk⟩
  · have h0 : G.I.ho = 0 := by rcases ho.2 with z | z <;> omega
    refine zz_gsn 4 rfl ?_
    refine zz_br rfl (fun h4 => absurd (d1.trans h0) h4) (fun h4 => ?_)
    refine zz_gsn 1 rfl ?_
    refine zz_ri rfl (Or.inl rfl) ?_
    rw [show a_anew G = (-2, G) from if_pos h0]
    exact ⟨rfl, hG, zz_F.rf⟩
  · refine zz_gsn 4 rfl ?_
    refine zz_br rfl (fun h4 => ?_) (fun h4 => absurd (d1.symm.trans (by first | exact h4 | exact Decidable.not_not.mp h4)) (by omega))
    refine zz_gsn 3 rfl ?_
    refine zz_cv (n := 1) rfl rfl (t_Deeds_acts) (Nat.le_of_ble_eq_true rfl) (Nat.le_of_ble_eq_true rfl) (Nat.le_of_ble_eq_true rfl) (fun r10 σ10 q10 => ?_)
    obtain ⟨rfl, rfl⟩ := q10
    refine zz_gsn 7 rfl ?_
    rw [show σ.1 203 (b + 11 + 1) = (G.I.told : Nat) from d4]
    refine zz_cv (n := 2) rfl rfl (t_History_cutTo_n (j := G.I.told) hH (by omega)) (Nat.le_of_ble_eq_true rfl) (Nat.le_of_ble_eq_true rfl) (Nat.le_of_ble_eq_true rfl) (fun r18 σ18 q18 => ?_)
    obtain ⟨rfl, rfl⟩ := q18
    refine zz_gsn 1 rfl ?_
    refine zz_ri rfl (Or.inl rfl) ?_
    rw [show a_anew G = (((G.I.k : Nat) : Int) - (G.I.told : Nat), (i_cut G.I G.I.told, G.2)) from if_neg (by omega)]
    have ei : i_cut G.I G.I.told = G.I := by
      show (G.I.ho, G.I.law, G.I.C, G.I.told, G.I.told, G.I.D) = (G.I.ho, G.I.law, G.I.C, G.I.told, G.I.k, G.I.D)
      rw [hk]
    rw [ei]
    refine ⟨congrArg (fun z => some (zI z)) ?_, hG, zz_F.rf⟩
    have z4 := (i_ho ho (by omega)).2.2.2.1
    rw [d5]
    exact zw_id (by omega) (by omega)
  · refine zz_gsn 4 rfl ?_
    refine zz_br rfl (fun h4 => ?_) (fun h4 => absurd (d1.symm.trans (by first | exact h4 | exact Decidable.not_not.mp h4)) (by omega))
    refine zz_gsn 3 rfl ?_
    refine zz_cv (n := 1) rfl rfl (t_Deeds_acts) (Nat.le_of_ble_eq_true rfl) (Nat.le_of_ble_eq_true rfl) (Nat.le_of_ble_eq_true rfl) (fun r10 σ10 q10 => ?_)
    obtain ⟨rfl, rfl⟩ := q10
    refine zz_gsn 7 rfl ?_
    rw [show σ.1 203 (b + 11 + 1) = (G.I.told : Nat) from d4]
    refine zz_cv (n := 2) rfl rfl (t_History_cutTo (j := G.I.told) hH ho.1 (by have := (i_ho ho (by omega)).2.2.2.1; omega)) (Nat.le_of_ble_eq_true rfl) (Nat.le_of_ble_eq_true rfl) (Nat.le_of_ble_eq_true rfl) (fun r18 σ18 q18 => ?_)
    obtain ⟨rfl, p18, g18, k18⟩ := q18
    refine zz_gsn 1 rfl ?_
    refine zz_ri rfl (Or.inl rfl) ?_
    obtain ⟨z1, z2, z3, z4⟩ := (i_ho ho (by omega)).2
    have eF : zz_F (A_cl b) σ σ18 := g18.mono (fun a z => by unfold A_cl; omega)
    have eG : CG σ18 b B (i_cut G.I G.I.told, G.2) := hG.h p18 (g18.mono (fun a z => by unfold A_hc A_hi; omega)) k18
    rw [show a_anew G = (((G.I.k : Nat) : Int) - (G.I.told : Nat), (i_cut G.I G.I.told, G.2)) from if_neg (by omega)]
    refine ⟨congrArg (fun z => some (zI z)) ?_, eG, eF⟩
    rw [d5]
    exact zw_id (by omega) (by omega)
