/-! the class: balanced, balance -/
def g_lr (f : Int → Int) : Nat → Int → Int → Int → Int
  | 0, _, c, _ => c
  | r + 1, i, c, m => if f i < m then g_lr f r (i + 1) i (f i) else g_lr f r (i + 1) c m
def a_balance (G : zz_J) : Int := if G.I.ho ≠ 0 then g_lr (fun c => zz_sum (g_s G 2 c) G.I.k) 2 3 2 (zz_sum (g_s G 2 2) G.I.k) else -2
theorem lp_cheap {X : zz_X} {t d k : Nat} {ho law0 C0 told N : Int} {H0 : zz_H} {D : zz_D} {σ0 : zz_M} {Post : Option zz_V → zz_M → Prop} (hho : ho ≠ 0) (hd : d + 3 < t ∨ t + 445 ≤ d) (hs : ∀ C, hg_st 2 k D (fun j v => (hg H0 2 C D j).Q v)) (kk : ∀ σ', zz_F (A_ta t) σ0 σ' → Post (some (zI N)) σ') :
    ∀ (r : Nat) (i c m : Int) (u5 : zz_V) (σ : zz_M), i + (r : Int) = 5 → 3 ≤ i → g_lr (fun c => zz_sum (g_sp H0 2 c D) k) r i c m = N → DF σ d ho law0 C0 told k D → SP σ 0 0 (t + 18) (hw h0 0) → zz_F (A_ta t) σ0 σ → zz_G X 8 p_Trial_cheapestRatio 10 [zP 10 0 0 t, zP 2 0 0 d, zI c, zI m, zI i, u5] [] σ Post := by
  intro r
  induction r with
  | zero =>
    intro i c m u5 σ hi h3 hN hD hS hF
    have e : c = N := hN
    subst e
    refine zz_gsn 2 rfl ?_
    refine zz_br rfl (fun h12 => ?_) (fun h12 => absurd h12 (by omega))
    refine zz_gsn 1 rfl ?_
    refine zz_ri rfl (Or.inl rfl) ?_
    exact kk σ hF
  | succ r ih =>
    intro i c m u5 σ hi h3 hN hD hS hF
    refine zz_gsn 2 rfl ?_
    refine zz_br rfl (fun h12 => absurd h12 (by omega)) (fun h12 => ?_)
    refine zz_gsn 4 rfl ?_
    refine zz_cv (n := 4) rfl rfl (t_Trial_stepsOfAll (law := 2) (C := i) (H0 := H0) (by decide) ⟨by omega, by omega⟩ hD hho hd (hs i) hS) (Nat.le_of_ble_eq_true rfl) (Nat.le_of_ble_eq_true rfl) (Nat.le_of_ble_eq_true rfl) (fun r17 σ17 q17 => ?_)
    obtain ⟨rfl, m17, g17⟩ := q17
    have hD2 := hD.f g17 (fun c y1 y2 z => by unfold A_ta at z; omega)
    have hS2 := hS.f g17 (fun a y1 y2 z => by unfold A_ta at z; omega) (fun z => absurd z (Nat.lt_irrefl 0))
    have hF2 := hF.tr g17
    obtain ⟨S, hSS⟩ : ∃ S, S = zz_sum (g_sp H0 2 i D) k := ⟨_, rfl⟩
    rw [← hSS]
    refine zz_gsn 3 rfl ?_
    refine zz_br rfl (fun h21 => ?_) (fun h21 => ?_)
    · refine zz_gsn 1 rfl ?_
      refine zz_jp rfl ?_
      first
        | exact ih (zw (i + 1)) c m _ σ17 (by rw [zw_id (by omega) (by omega)]; omega) (by rw [zw_id (by omega) (by omega)]; omega) (by rw [zw_id (by omega) (by omega), ← hN]; exact (if_neg (by show ¬ (zz_sum (g_sp H0 2 i D) k < m); rw [← hSS]; omega)).symm) hD2 hS2 hF2
        | exact ih (zw (i + 1)) i S _ σ17 (by rw [zw_id (by omega) (by omega)]; omega) (by rw [zw_id (by omega) (by omega)]; omega) (by rw [zw_id (by omega) (by omega), ← hN, hSS]; exact (if_pos (by show zz_sum (g_sp H0 2 i D) k < m; rw [← hSS]; omega)).symm) hD2 hS2 hF2
    · refine zz_gsn 5 rfl ?_
      refine zz_jp rfl ?_
      first
        | exact ih (zw (i + 1)) c m _ σ17 (by rw [zw_id (by omega) (by omega)]; omega) (by rw [zw_id (by omega) (by omega)]; omega) (by rw [zw_id (by omega) (by omega), ← hN]; exact (if_neg (by show ¬ (zz_sum (g_sp H0 2 i D) k < m); rw [← hSS]; omega)).symm) hD2 hS2 hF2
        | exact ih (zw (i + 1)) i S _ σ17 (by rw [zw_id (by omega) (by omega)]; omega) (by rw [zw_id (by omega) (by omega)]; omega) (by rw [zw_id (by omega) (by omega), ← hN, hSS]; exact (if_pos (by show zz_sum (g_sp H0 2 i D) k < m; rw [← hSS]; omega)).symm) hD2 hS2 hF2
theorem t_Trial_cheapestRatio {X : zz_X} {σ : zz_M} {t d k : Nat} {ho law0 C0 told : Int} {H0 : zz_H} {D : zz_D} (hD : DF σ d ho law0 C0 told k D) (hho : ho ≠ 0) (hd : d + 3 < t ∨ t + 445 ≤ d) (hs : ∀ C, hg_st 2 k D (fun j v => (hg H0 2 C D j).Q v)) (hS : SP σ 0 0 (t + 18) (hw h0 0)) : zz_T X 8 p_Trial_cheapestRatio [zP 10 0 0 t, zP 2 0 0 d] σ (fun r σ' => r = some (zI (g_lr (fun c => zz_sum (g_sp H0 2 c D) k) 2 3 2 (zz_sum (g_sp H0 2 2 D) k))) ∧ zz_F (A_ta t) σ σ') := by
  refine zz_mk k_Trial_cheapestRatio o_Trial_cheapestRatio rfl rfl (Nat.le_of_ble_eq_true rfl) ?_
  show zz_G X 8 p_Trial_cheapestRatio 0 [zP 10 0 0 t, zP 2 0 0 d, zU, zU, zU, zU] [] σ _
  refine zz_gsn 6 rfl ?_
  refine zz_cv (n := 4) rfl rfl (t_Trial_stepsOfAll (law := 2) (C := 2) (H0 := H0) (by decide) (by decide) hD hho hd (hs 2) hS) (Nat.le_of_ble_eq_true rfl) (Nat.le_of_ble_eq_true rfl) (Nat.le_of_ble_eq_true rfl) (fun r6 σ6 q6 => ?_)
  obtain ⟨rfl, m6, g6⟩ := q6
  refine zz_gsn 3 rfl ?_
  exact lp_cheap hho hd hs (fun σ' a => ⟨rfl, g6.tr a⟩) 2 3 2 _ _ σ6 (by decide) (by decide) rfl (hD.f g6 (fun c y1 y2 z => by unfold A_ta at z; omega)) (hS.f g6 (fun a y1 y2 z => by unfold A_ta at z; omega) (fun z => absurd z (Nat.lt_irrefl 0))) zz_F.rf
theorem t_TQ_balanced {X : zz_X} {σ : zz_M} {b : Nat} {B : Int} {G : zz_J} {c : Int} (hG : CG σ b B G) (ok : g_ok G) : zz_T X 8 p_TQ_balanced [zP 11 0 0 b, zI c] σ (fun r σ' => r = some (zI (a_balanced G c)) ∧ CG σ' b B G ∧ zz_F (A_cl b) σ σ') := by
  refine zz_mk k_TQ_balanced o_TQ_balanced rfl rfl (Nat.le_of_ble_eq_true rfl) ?_
  show zz_G X 8 p_TQ_balanced 0 [zP 11 0 0 b, zI c] [] σ _
  obtain ⟨hH, hBt, hBo, hft, him, hmk, htr⟩ := id hG
  obtain ⟨⟨ho, hfx⟩, okt, oko, okm⟩ := id ok
  obtain ⟨hD, hV⟩ := id hH
  obtain ⟨d1, d2, d3, d4, dR⟩ := id hD
  obtain ⟨d5, d6, d7⟩ := id dR
  rcases Classical.em (G.I.ho ≠ 0 ∧ 2 ≤ c ∧ c ≤ 4) with hk | hk
  · obtain ⟨hh0, l0, l2⟩ := id hk
    refine zz_gsn 4 rfl ?_
    refine zz_br rfl (fun h4 => absurd (d1.symm.trans h4) hh0) (fun h4 => ?_)
    refine zz_gsn 2 rfl ?_
    refine zz_br rfl (fun h7 => absurd h7 (by omega)) (fun h7 => ?_)
    refine zz_gsn 2 rfl ?_
    refine zz_br rfl (fun h10 => ?_) (fun h10 => absurd h10 (by omega))
    refine zz_gsn 7 rfl ?_
    refine zz_cv (n := 4) rfl rfl (t_Trial_stepsOfAll (t := b + 582) (d := b + 11 + 1) (law := 2) (C := c) (H0 := gW G) (by decide) ⟨l0, l2⟩ hD hh0 (by omega) (g_st ho (gW G) c (Or.inl rfl)) htr) (Nat.le_of_ble_eq_true rfl) (Nat.le_of_ble_eq_true rfl) (Nat.le_of_ble_eq_true rfl) (fun r20 σ20 q20 => ?_)
    obtain ⟨rfl, m20, g20⟩ := q20
    refine zz_ri rfl (Or.inl rfl) ?_
    exact ⟨congrArg (fun z => some (zI z)) (if_pos hk).symm, hG.s (g20.mono (fun a z => A_ta_s z)), g20.mono (fun a z => A_ta_l z)⟩
  · refine zz_gsn 4 rfl ?_
    refine zz_br rfl (fun h4 => ?_) (fun h4 => ?_)
    · refine zz_gsn 1 rfl ?_
      refine zz_ri rfl (Or.inl rfl) ?_
      exact ⟨congrArg (fun z => some (zI z)) (if_neg hk).symm, hG, zz_F.rf⟩
    · refine zz_gsn 2 rfl ?_
      refine zz_br rfl (fun h7 => ?_) (fun h7 => ?_)
      · refine zz_gsn 1 rfl ?_
        refine zz_ri rfl (Or.inl rfl) ?_
        exact ⟨congrArg (fun z => some (zI z)) (if_neg hk).symm, hG, zz_F.rf⟩
      · refine zz_gsn 2 rfl ?_
        refine zz_br rfl (fun h10 => absurd (show G.I.ho ≠ 0 ∧ 2 ≤ c ∧ c ≤ 4 from ⟨fun z => h4 (d1.trans z), by omega, by omega⟩) hk) (fun h10 => ?_)
        refine zz_gsn 1 rfl ?_
        refine zz_ri rfl (Or.inl rfl) ?_
        exact ⟨congrArg (fun z => some (zI z)) (if_neg hk).symm, hG, zz_F.rf⟩
theorem t_TQ_balance {X : zz_X} {σ : zz_M} {b : Nat} {B : Int} {G : zz_J} (hG : CG σ b B G) (ok : g_ok G) : zz_T X 9 p_TQ_balance [zP 11 0 0 b] σ (fun r σ' => r = some (zI (a_balance G)) ∧ CG σ' b B G ∧ zz_F (A_cl b) σ σ') := by
  refine zz_mk k_TQ_balance o_TQ_balance rfl rfl (Nat.le_of_ble_eq_true rfl) ?_
  show zz_G X 9 p_TQ_balance 0 [zP 11 0 0 b] [] σ _
  obtain ⟨hH, hBt, hBo, hft, him, hmk, htr⟩ := id hG
  obtain ⟨⟨ho, hfx⟩, okt, oko, okm⟩ := id ok
  obtain ⟨hD, hV⟩ := id hH
  obtain ⟨d1, d2, d3, d4, dR⟩ := id hD
  obtain ⟨d5, d6, d7⟩ := id dR
  rcases Classical.em (G.I.ho ≠ 0) with hk | hk
  · refine zz_gsn 4 rfl ?_
    refine zz_br rfl (fun h4 => absurd (d1.symm.trans h4) hk) (fun h4 => ?_)
    refine zz_gsn 5 rfl ?_
    refine zz_cv (n := 2) rfl rfl (t_Trial_cheapestRatio (t := b + 582) (d := b + 11 + 1) (H0 := gW G) hD hk (by omega) (fun C => g_st ho (gW G) C (Or.inl rfl)) htr) (Nat.le_of_ble_eq_true rfl) (Nat.le_of_ble_eq_true rfl) (Nat.le_of_ble_eq_true rfl) (fun r10 σ10 q10 => ?_)
    obtain ⟨rfl, g10⟩ := q10
    refine zz_jp rfl ?_
    refine zz_ri rfl (Or.inl rfl) ?_
    exact ⟨congrArg (fun z => some (zI z)) (if_pos hk).symm, hG.s (g10.mono (fun a z => A_ta_s z)), g10.mono (fun a z => A_ta_l z)⟩
  · refine zz_gsn 4 rfl ?_
    refine zz_br rfl (fun h4 => ?_) (fun h4 => absurd (fun z => h4 (d1.trans z)) hk)
    refine zz_gsn 1 rfl ?_
    refine zz_ri rfl (Or.inl rfl) ?_
    exact ⟨congrArg (fun z => some (zI z)) (if_neg hk).symm, hG, zz_F.rf⟩
