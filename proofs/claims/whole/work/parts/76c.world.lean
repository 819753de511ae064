/-! the class: by, peak -/
/-- steps of the j-th deed by a LAW -/
def g_s (G : zz_J) (law C : Int) (j : Nat) : Int := g_sp (gW G) law C G.I.D j
def g_ask (G : zz_J) (law x : Int) : Int := if G.I.ho ≠ 0 ∧ 0 ≤ law ∧ law ≤ 2 then (if law ≠ 2 ∧ zd_tw G.I.D G.I.k = true then -1 else x) else -2
def a_by (G : zz_J) (law : Int) : Int := g_ask G law (zz_sum (g_s G law G.I.C) G.I.k)
def a_peak (G : zz_J) (law : Int) : Int := g_ask G law (mx (g_s G law G.I.C) G.I.k)
def a_balanced (G : zz_J) (c : Int) : Int := if G.I.ho ≠ 0 ∧ 2 ≤ c ∧ c ≤ 4 then zz_sum (g_s G 2 c) G.I.k else -2
theorem g_ask_n {G : zz_J} {law x : Int} (h : ¬ (G.I.ho ≠ 0 ∧ 0 ≤ law ∧ law ≤ 2)) : g_ask G law x = -2 := if_neg h
theorem g_ask_m {G : zz_J} {law x : Int} (h : G.I.ho ≠ 0 ∧ 0 ≤ law ∧ law ≤ 2) (h2 : law ≠ 2 ∧ zd_two G.I.k G.I.D) : g_ask G law x = -1 := (if_pos h).trans (if_pos ⟨h2.1, zd_tw_t h2.2⟩)
theorem g_ask_y {G : zz_J} {law x : Int} (h : G.I.ho ≠ 0 ∧ 0 ≤ law ∧ law ≤ 2) (h2 : ¬ (law ≠ 2 ∧ zd_two G.I.k G.I.D)) : g_ask G law x = x := (if_pos h).trans (if_neg (fun z => h2 ⟨z.1, Classical.byContradiction fun y => by
  rw [zd_tw_f y] at z
  exact absurd z.2 (by decide)⟩))
theorem g_ask_o {law : Int} {k : Nat} {D : zz_D} (h2 : ¬ (law ≠ 2 ∧ zd_two k D)) : law = 2 ∨ ¬ zd_two k D := by
  by_cases e : law = 2
  · exact Or.inl e
  · exact Or.inr (fun z => h2 ⟨e, z⟩)
theorem A_ta_s {b a : Nat} (h : A_ta (b + 582) a) : A_cs b a := by
  unfold A_ta at h
  unfold A_cs
  omega
theorem A_ta_l {b a : Nat} (h : A_ta (b + 582) a) : A_cl b a := by
  unfold A_ta at h
  unfold A_cl
  omega
theorem g_sum (G : zz_J) (law C : Int) : zz_sum (g_sp (gW G) law C G.I.D) G.I.k = zz_sum (g_s G law C) G.I.k := rfl
theorem g_mx (G : zz_J) (law C : Int) : mx (g_sp (gW G) law C G.I.D) G.I.k = mx (g_s G law C) G.I.k := rfl
theorem t_TQ_by {X : zz_X} {σ : zz_M} {b : Nat} {B : Int} {G : zz_J} {law : Int} (hG : CG σ b B G) (ok : g_ok G) : zz_T X 8 p_TQ_by [zP 11 0 0 b, zI law] σ (fun r σ' => r = some (zI (a_by G law)) ∧ CG σ' b B G ∧ zz_F (A_cl b) σ σ') := by
  refine zz_mk k_TQ_by o_TQ_by rfl rfl (Nat.le_of_ble_eq_true rfl) ?_
  show zz_G X 8 p_TQ_by 0 [zP 11 0 0 b, zI law, zU] [] σ _
  obtain ⟨hH, hBt, hBo, hft, him, hmk, htr⟩ := id hG
  obtain ⟨⟨ho, hfx⟩, okt, oko, okm⟩ := id ok
  obtain ⟨hD, hV⟩ := id hH
  obtain ⟨d1, d2, d3, d4, dR⟩ := id hD
  obtain ⟨d5, d6, d7⟩ := id dR
  rcases zz_c3 (G.I.ho ≠ 0 ∧ 0 ≤ law ∧ law ≤ 2) (law ≠ 2 ∧ zd_two G.I.k G.I.D) with hk | ⟨hk, h2⟩ | ⟨hk, h2⟩
  · refine zz_gsn 4 rfl ?_
    refine zz_cv (n := 2) rfl rfl (t_Deeds_lawRefusal dR) (Nat.le_of_ble_eq_true rfl) (Nat.le_of_ble_eq_true rfl) (Nat.le_of_ble_eq_true rfl) (fun r4 σ4 q4 => ?_)
    obtain ⟨rfl, n4, rfl, e4⟩ := q4
    rw [d1] at e4
    replace e4 : n4 = -2 := by
      rcases e4 with ⟨z, -⟩ | ⟨-, z1, z2, z3, -⟩ | ⟨-, z1, z2, z3, -⟩
      · exact z
      · exact absurd ⟨z1, z2, z3⟩ hk
      · exact absurd ⟨z1, z2, by omega⟩ hk
    refine zz_gsn 2 rfl ?_
    refine zz_br rfl (fun h7 => absurd h7 (by omega)) (fun h7 => ?_)
    refine zz_gsn 1 rfl ?_
    refine zz_jp rfl ?_
    refine zz_ri rfl (Or.inl rfl) ?_
    exact ⟨congrArg (fun z => some (zI z)) (e4.trans (g_ask_n hk).symm), hG, zz_F.rf⟩
  · refine zz_gsn 4 rfl ?_
    refine zz_cv (n := 2) rfl rfl (t_Deeds_lawRefusal dR) (Nat.le_of_ble_eq_true rfl) (Nat.le_of_ble_eq_true rfl) (Nat.le_of_ble_eq_true rfl) (fun r4 σ4 q4 => ?_)
    obtain ⟨rfl, n4, rfl, e4⟩ := q4
    rw [d1] at e4
    replace e4 : n4 = -1 := by
      rcases e4 with ⟨-, z⟩ | ⟨-, -, -, -, z⟩ | ⟨z, -⟩
      · omega
      · exact z.elim (fun y => absurd y h2.1) (fun y => absurd h2.2 y)
      · exact z
    refine zz_gsn 2 rfl ?_
    refine zz_br rfl (fun h7 => absurd h7 (by omega)) (fun h7 => ?_)
    refine zz_gsn 1 rfl ?_
    refine zz_jp rfl ?_
    refine zz_ri rfl (Or.inl rfl) ?_
    exact ⟨congrArg (fun z => some (zI z)) (e4.trans (g_ask_m hk h2).symm), hG, zz_F.rf⟩
  · obtain ⟨hh0, l0, l2⟩ := id hk
    have hCC := (i_ho ho hh0).2
    refine zz_gsn 4 rfl ?_
    refine zz_cv (n := 2) rfl rfl (t_Deeds_lawRefusal dR) (Nat.le_of_ble_eq_true rfl) (Nat.le_of_ble_eq_true rfl) (Nat.le_of_ble_eq_true rfl) (fun r4 σ4 q4 => ?_)
    obtain ⟨rfl, n4, rfl, e4⟩ := q4
    rw [d1] at e4
    replace e4 : n4 = 0 := by
      rcases e4 with ⟨-, z⟩ | ⟨z, -⟩ | ⟨-, -, -, z1, z2⟩
      · omega
      · exact z
      · exact absurd ⟨by omega, z2⟩ h2
    refine zz_gsn 2 rfl ?_
    refine zz_br rfl (fun h7 => ?_) (fun h7 => absurd e4 (by omega))
    refine zz_gsn 10 rfl ?_
    rw [d3]
    refine zz_cv (n := 4) rfl rfl (t_Trial_stepsOfAll (t := b + 582) (d := b + 11 + 1) (law := law) (C := G.I.C) (H0 := gW G) ⟨l0, l2⟩ ⟨hCC.1, hCC.2.1⟩ hD hh0 (by omega) (g_st ho (gW G) G.I.C (g_ask_o h2)) htr) (Nat.le_of_ble_eq_true rfl) (Nat.le_of_ble_eq_true rfl) (Nat.le_of_ble_eq_true rfl) (fun r20 σ20 q20 => ?_)
    obtain ⟨rfl, m20, g20⟩ := q20
    refine zz_ri rfl (Or.inl rfl) ?_
    exact ⟨congrArg (fun z => some (zI z)) (g_ask_y hk h2).symm, hG.s (g20.mono (fun a z => A_ta_s z)), g20.mono (fun a z => A_ta_l z)⟩
theorem t_TQ_peak {X : zz_X} {σ : zz_M} {b : Nat} {B : Int} {G : zz_J} {law : Int} (hG : CG σ b B G) (ok : g_ok G) : zz_T X 8 p_TQ_peak [zP 11 0 0 b, zI law] σ (fun r σ' => r = some (zI (a_peak G law)) ∧ CG σ' b B G ∧ zz_F (A_cl b) σ σ') := by
  refine zz_mk k_TQ_peak o_TQ_peak rfl rfl (Nat.le_of_ble_eq_true rfl) ?_
  show zz_G X 8 p_TQ_peak 0 [zP 11 0 0 b, zI law, zU] [] σ _
  obtain ⟨hH, hBt, hBo, hft, him, hmk, htr⟩ := id hG
  obtain ⟨⟨ho, hfx⟩, okt, oko, okm⟩ := id ok
  obtain ⟨hD, hV⟩ := id hH
  obtain ⟨d1, d2, d3, d4, dR⟩ := id hD
  obtain ⟨d5, d6, d7⟩ := id dR
  rcases zz_c3 (G.I.ho ≠ 0 ∧ 0 ≤ law ∧ law ≤ 2) (law ≠ 2 ∧ zd_two G.I.k G.I.D) with hk | ⟨hk, h2⟩ | ⟨hk, h2⟩
  · refine zz_gsn 4 rfl ?_
    refine zz_cv (n := 2) rfl rfl (t_Deeds_lawRefusal dR) (Nat.le_of_ble_eq_true rfl) (Nat.le_of_ble_eq_true rfl) (Nat.le_of_ble_eq_true rfl) (fun r4 σ4 q4 => ?_)
    obtain ⟨rfl, n4, rfl, e4⟩ := q4
    rw [d1] at e4
    replace e4 : n4 = -2 := by
      rcases e4 with ⟨z, -⟩ | ⟨-, z1, z2, z3, -⟩ | ⟨-, z1, z2, z3, -⟩
      · exact z
      · exact absurd ⟨z1, z2, z3⟩ hk
      · exact absurd ⟨z1, z2, by omega⟩ hk
    refine zz_gsn 2 rfl ?_
    refine zz_br rfl (fun h7 => absurd h7 (by omega)) (fun h7 => ?_)
    refine zz_gsn 1 rfl ?_
    refine zz_ri rfl (Or.inl rfl) ?_
    exact ⟨congrArg (fun z => some (zI z)) (e4.trans (g_ask_n hk).symm), hG, zz_F.rf⟩
  · refine zz_gsn 4 rfl ?_
    refine zz_cv (n := 2) rfl rfl (t_Deeds_lawRefusal dR) (Nat.le_of_ble_eq_true rfl) (Nat.le_of_ble_eq_true rfl) (Nat.le_of_ble_eq_true rfl) (fun r4 σ4 q4 => ?_)
    obtain ⟨rfl, n4, rfl, e4⟩ := q4
    rw [d1] at e4
    replace e4 : n4 = -1 := by
      rcases e4 with ⟨-, z⟩ | ⟨-, -, -, -, z⟩ | ⟨z, -⟩
      · omega
      · exact z.elim (fun y => absurd y h2.1) (fun y => absurd h2.2 y)
      · exact z
    refine zz_gsn 2 rfl ?_
    refine zz_br rfl (fun h7 => absurd h7 (by omega)) (fun h7 => ?_)
    refine zz_gsn 1 rfl ?_
    refine zz_ri rfl (Or.inl rfl) ?_
    exact ⟨congrArg (fun z => some (zI z)) (e4.trans (g_ask_m hk h2).symm), hG, zz_F.rf⟩
  · obtain ⟨hh0, l0, l2⟩ := id hk
    have hCC := (i_ho ho hh0).2
    refine zz_gsn 4 rfl ?_
    refine zz_cv (n := 2) rfl rfl (t_Deeds_lawRefusal dR) (Nat.le_of_ble_eq_true rfl) (Nat.le_of_ble_eq_true rfl) (Nat.le_of_ble_eq_true rfl) (fun r4 σ4 q4 => ?_)
    obtain ⟨rfl, n4, rfl, e4⟩ := q4
    rw [d1] at e4
    replace e4 : n4 = 0 := by
      rcases e4 with ⟨-, z⟩ | ⟨z, -⟩ | ⟨-, -, -, z1, z2⟩
      · omega
      · exact z
      · exact absurd ⟨by omega, z2⟩ h2
    refine zz_gsn 2 rfl ?_
    refine zz_br rfl (fun h7 => ?_) (fun h7 => absurd e4 (by omega))
    refine zz_gsn 10 rfl ?_
    rw [d3]
    refine zz_cv (n := 4) rfl rfl (t_Trial_stepsOfAll (t := b + 582) (d := b + 11 + 1) (law := law) (C := G.I.C) (H0 := gW G) ⟨l0, l2⟩ ⟨hCC.1, hCC.2.1⟩ hD hh0 (by omega) (g_st ho (gW G) G.I.C (g_ask_o h2)) htr) (Nat.le_of_ble_eq_true rfl) (Nat.le_of_ble_eq_true rfl) (Nat.le_of_ble_eq_true rfl) (fun r20 σ20 q20 => ?_)
    obtain ⟨rfl, m20, g20⟩ := q20
    refine zz_gsn 4 rfl ?_
    refine zz_ri rfl (Or.inl rfl) ?_
    exact ⟨congrArg (fun z => some (zI z)) (m20.trans (g_ask_y hk h2).symm), hG.s (g20.mono (fun a z => A_ta_s z)), g20.mono (fun a z => A_ta_l z)⟩
