/-! the class: along -/
theorem lp_sow {X : zz_X} {h n : Nat} {I : zz_I} {q : Nat → Nat} {σ : zz_M} {Post : Option zz_V → zz_M → Prop} (hH : CH σ h I) (ho : i_ok I) (hn : n ≤ 60) (hq : ∀ i, i < n → σ.2 (h + 17) i = (q i : Nat) ∧ q i < I.k) (kk : Post (some (zI (zz_sum (fun i => (IH I).sp (q i)) n))) σ) :
    ∀ (r j : Nat), j + r = n → zz_G X 3 p_History_stepsOnWay 4 [zP 3 0 0 h, zI (n : Nat), zI (zz_sum (fun i => (IH I).sp (q i)) j), zI (j : Nat)] [] σ Post := by
  intro r
  induction r with
  | zero =>
    intro j hj
    obtain rfl : j = n := hj
    refine zz_gsn 2 rfl ?_
    refine zz_br rfl (fun h6 => ?_) (fun h6 => absurd h6 (by omega))
    refine zz_gsn 1 rfl ?_
    refine zz_ri rfl (Or.inl rfl) ?_
    exact kk
  | succ r ih =>
    intro j hj
    have hjn : j < n := by omega
    obtain ⟨q1, q2⟩ := hq j hjn
    have hu : (IH I).sp (q j) ≤ 200 := h_spu ho.1 (q j) q2
    have hp : 0 < (IH I).sp (q j) := ((h_inv ho.1).2.2.2.2.1 (q j) q2).2.2.1
    have hb : ∀ i, i < n → 0 ≤ (fun i => (IH I).sp (q i)) i ∧ (fun i => (IH I).sp (q i)) i ≤ 200 := fun i hi => ⟨Int.le_of_lt ((h_inv ho.1).2.2.2.2.1 (q i) (hq i hi).2).2.2.1, h_spu ho.1 (q i) (hq i hi).2⟩
    have zb := sum_bd hb (j := j) (by omega)
    have es : zz_sum (fun i => (IH I).sp (q i)) (j + 1) = zz_sum (fun i => (IH I).sp (q i)) j + (IH I).sp (q j) := rfl
    have ih2 := ih (j + 1) (by omega)
    rw [es] at ih2
    have ez : zw (zz_sum (fun i => (IH I).sp (q i)) j + (IH I).sp (q j)) = zz_sum (fun i => (IH I).sp (q i)) j + (IH I).sp (q j) := zw_id (by clear ih2 es; omega) (by clear ih2 es; omega)
    have hif : (if 0 ≤ ((q j : Nat) : Int) ∧ ((q j : Nat) : Int) < (I.k : Nat) then (IH I).sp ((q j : Nat) : Int).toNat else 0) = (IH I).sp (q j) := if_pos ⟨by omega, by omega⟩
    refine zz_gsn 2 rfl ?_
    refine zz_br rfl (fun h6 => absurd h6 (by omega)) (fun h6 => ?_)
    refine zz_gsn 4 rfl ?_
    refine zz_cv (n := 2) rfl rfl (t_History_wayDeed (i := j) (by omega)) (Nat.le_of_ble_eq_true rfl) (Nat.le_of_ble_eq_true rfl) (Nat.le_of_ble_eq_true rfl) (fun r11 σ11 q11 => ?_)
    obtain ⟨rfl, rfl⟩ := q11
    rw [q1]
    refine zz_cv (n := 2) rfl rfl (t_History_stepsOf hH) (Nat.le_of_ble_eq_true rfl) (Nat.le_of_ble_eq_true rfl) (Nat.le_of_ble_eq_true rfl) (fun r12 σ12 q12 => ?_)
    obtain ⟨rfl, rfl⟩ := q12
    rw [hif]
    refine zz_gsn 3 rfl ?_
    refine zz_jp rfl ?_
    rw [zw_s (by omega), ez]
    exact ih2
theorem t_History_stepsOnWay {X : zz_X} {σ : zz_M} {h n : Nat} {I : zz_I} {q : Nat → Nat} (hH : CH σ h I) (ho : i_ok I) (hn : n ≤ 60) (hq : ∀ i, i < n → σ.2 (h + 17) i = (q i : Nat) ∧ q i < I.k) : zz_T X 3 p_History_stepsOnWay [zP 3 0 0 h, zI (n : Nat)] σ (fun r σ' => σ = σ' ∧ r = some (zI (zz_sum (fun i => (IH I).sp (q i)) n))) := by
  refine zz_mk k_History_stepsOnWay o_History_stepsOnWay rfl rfl (Nat.le_of_ble_eq_true rfl) ?_
  show zz_G X 3 p_History_stepsOnWay 0 [zP 3 0 0 h, zI (n : Nat), zU, zU] [] σ _
  refine zz_gsn 4 rfl ?_
  exact lp_sow hH ho hn hq ⟨rfl, rfl⟩ n 0 (Nat.zero_add n)
theorem lp_mow {X : zz_X} {h n : Nat} {I : zz_I} {q : Nat → Nat} {σ : zz_M} {Post : Option zz_V → zz_M → Prop} (hH : CH σ h I) (ho : i_ok I) (hn : n ≤ 60) (hq : ∀ i, i < n → σ.2 (h + 17) i = (q i : Nat) ∧ q i < I.k) (kk : Post (some (zI (mx (fun i => (IH I).sp (q i)) n))) σ) :
    ∀ (r j : Nat), j + r = n → zz_G X 3 p_History_mostOnWay 4 [zP 3 0 0 h, zI (n : Nat), zI (mx (fun i => (IH I).sp (q i)) j), zI (j : Nat)] [] σ Post := by
  intro r
  induction r with
  | zero =>
    intro j hj
    obtain rfl : j = n := hj
    refine zz_gsn 2 rfl ?_
    refine zz_br rfl (fun h6 => ?_) (fun h6 => absurd h6 (by omega))
    refine zz_gsn 1 rfl ?_
    refine zz_ri rfl (Or.inl rfl) ?_
    exact kk
  | succ r ih =>
    intro j hj
    have hjn : j < n := by omega
    obtain ⟨q1, q2⟩ := hq j hjn
    have hu : (IH I).sp (q j) ≤ 200 := h_spu ho.1 (q j) q2
    have hp : 0 < (IH I).sp (q j) := ((h_inv ho.1).2.2.2.2.1 (q j) q2).2.2.1
    have hb : ∀ i, i < n → 0 ≤ (fun i => (IH I).sp (q i)) i ∧ (fun i => (IH I).sp (q i)) i ≤ 200 := fun i hi => ⟨Int.le_of_lt ((h_inv ho.1).2.2.2.2.1 (q i) (hq i hi).2).2.2.1, h_spu ho.1 (q i) (hq i hi).2⟩
    have zb := mx_b hb (j := j) (by omega)
    have es : mx (fun i => (IH I).sp (q i)) (j + 1) = max (mx (fun i => (IH I).sp (q i)) j) ((IH I).sp (q j)) := rfl
    have ih2 := ih (j + 1) (by omega)
    rw [es] at ih2
    have ez : zw (zz_sum (fun i => (IH I).sp (q i)) j + (IH I).sp (q j)) = zz_sum (fun i => (IH I).sp (q i)) j + (IH I).sp (q j) := zw_id (by have := sum_bd hb (j := j) (by omega); clear ih2 es; omega) (by have := sum_bd hb (j := j) (by omega); clear ih2 es; omega)
    have hif : (if 0 ≤ ((q j : Nat) : Int) ∧ ((q j : Nat) : Int) < (I.k : Nat) then (IH I).sp ((q j : Nat) : Int).toNat else 0) = (IH I).sp (q j) := if_pos ⟨by omega, by omega⟩
    refine zz_gsn 2 rfl ?_
    refine zz_br rfl (fun h6 => absurd h6 (by omega)) (fun h6 => ?_)
    refine zz_gsn 4 rfl ?_
    refine zz_cv (n := 2) rfl rfl (t_History_wayDeed (i := j) (by omega)) (Nat.le_of_ble_eq_true rfl) (Nat.le_of_ble_eq_true rfl) (Nat.le_of_ble_eq_true rfl) (fun r11 σ11 q11 => ?_)
    obtain ⟨rfl, rfl⟩ := q11
    rw [q1]
    refine zz_cv (n := 2) rfl rfl (t_History_stepsOf hH) (Nat.le_of_ble_eq_true rfl) (Nat.le_of_ble_eq_true rfl) (Nat.le_of_ble_eq_true rfl) (fun r12 σ12 q12 => ?_)
    obtain ⟨rfl, rfl⟩ := q12
    rw [hif]
    refine zz_mth rfl (Nat.le_of_ble_eq_true rfl) (Nat.le_of_ble_eq_true rfl) ?_
    refine zz_gsn 2 rfl ?_
    refine zz_jp rfl ?_
    rw [zw_s (by omega)]
    exact ih2
theorem t_History_mostOnWay {X : zz_X} {σ : zz_M} {h n : Nat} {I : zz_I} {q : Nat → Nat} (hH : CH σ h I) (ho : i_ok I) (hn : n ≤ 60) (hq : ∀ i, i < n → σ.2 (h + 17) i = (q i : Nat) ∧ q i < I.k) : zz_T X 3 p_History_mostOnWay [zP 3 0 0 h, zI (n : Nat)] σ (fun r σ' => σ = σ' ∧ r = some (zI (mx (fun i => (IH I).sp (q i)) n))) := by
  refine zz_mk k_History_mostOnWay o_History_mostOnWay rfl rfl (Nat.le_of_ble_eq_true rfl) ?_
  show zz_G X 3 p_History_mostOnWay 0 [zP 3 0 0 h, zI (n : Nat), zU, zU] [] σ _
  refine zz_gsn 4 rfl ?_
  exact lp_mow hH ho hn hq ⟨rfl, rfl⟩ n 0 (Nat.zero_add n)
theorem zd_w_r {D : zz_D} {v n : Nat} (f : Nat → Int) {j : Nat} : (fun i => f (zd_w D v n i)) j = (fun i => (fun t => f (zd_up D t v - 1)) (n - 1 - i)) j := rfl
theorem t_TQ_along {X : zz_X} {σ : zz_M} {b : Nat} {B : Int} {G : zz_J} {v x_ : Int} (hG : CG σ b B G) (ok : g_ok G) : zz_T X 5 p_TQ_along [zP 11 0 0 b, zI v, zI x_] σ (fun r σ' => r = some (zI (a_along G v x_)) ∧ CG σ' b B G ∧ zz_F (A_cl b) σ σ') := by
  refine zz_mk k_TQ_along o_TQ_along rfl rfl (Nat.le_of_ble_eq_true rfl) ?_
  show zz_G X 5 p_TQ_along 0 [zP 11 0 0 b, zI v, zI x_, zU] [] σ _
  obtain ⟨hH, hBt, hBo, hft, him, hmk, htr⟩ := id hG
  obtain ⟨⟨ho, hfx⟩, okt, oko, okm⟩ := id ok
  obtain ⟨hD, hV⟩ := id hH
  obtain ⟨d1, d2, d3, d4, dR⟩ := id hD
  obtain ⟨d5, d6, d7⟩ := id dR
  rcases Classical.em (vz G.I.ho G.I.k v) with hv | hv
  · obtain ⟨w, rfl⟩ : ∃ w : Nat, v = (w : Nat) := ⟨v.toNat, by omega⟩
    obtain ⟨z0, w1, w2⟩ := id hv
    have hw1 : w ≤ G.I.k := by omega
    obtain ⟨hS, -⟩ := hV.2.2.1 w hw1
    have hCC := (i_ho ho z0).2
    have hI0 := ((h_inv ho.1).1 w hw1).1
    have zok := i_zd ho
    have hdl : dpp G.I.D w ≤ w := zd_dep_le zok w w hw1
    refine zz_gsn 4 rfl ?_
    refine zz_cv (n := 2) rfl rfl (t_Deeds_hasVersion) (Nat.le_of_ble_eq_true rfl) (Nat.le_of_ble_eq_true rfl) (Nat.le_of_ble_eq_true rfl) (fun r4 σ4 q4 => ?_)
    obtain ⟨rfl, n4, rfl, e4⟩ := q4
    replace e4 := vz_of hD e4
    replace e4 : n4 = 1 := e4.elim (fun z => z.1) (fun z => absurd hv z.2)
    refine zz_br rfl (fun h5 => ?_) (fun h5 => absurd (by first | exact h5 | exact Decidable.not_not.mp h5) (show n4 ≠ 0 by omega))
    refine zz_gsn 4 rfl ?_
    refine zz_cv (n := 3) rfl rfl (t_History_findWay (h := b + 11) (u := 0) (v := w) hD zok (Nat.zero_le _) hw1) (Nat.le_of_ble_eq_true rfl) (Nat.le_of_ble_eq_true rfl) (Nat.le_of_ble_eq_true rfl) (fun r12 σ12 q12 => ?_)
    obtain ⟨rfl, p12, g12⟩ := q12
    rw [zd_wn_0 zok hw1] at p12
    replace p12 := p12 (dpp G.I.D w) rfl
    rw [zd_wn_0 zok hw1]
    refine zz_gsn 2 rfl ?_
    rcases (show x_ = 0 ∨ x_ = 1 ∨ x_ = 2 ∨ (x_ < 0 ∨ 2 < x_) by omega) with hx | hx | hx | hx
    · refine zz_swI 0 16 rfl hx rfl ?_
      refine zz_gsn 1 rfl ?_
      refine zz_ri rfl (Or.inl rfl) ?_
      exact ⟨congrArg (fun z => some (zI z)) (Eq.trans rfl (Eq.trans (if_pos hx).symm (if_pos ⟨hv, by omega, by omega⟩).symm)), hG.s (g12.mono (fun a z => by unfold A_cs; omega)), g12.mono (fun a z => by unfold A_cl; omega)⟩
    · refine zz_swI 1 18 rfl hx rfl ?_
      refine zz_gsn 3 rfl ?_
      refine zz_cv (n := 2) rfl rfl (t_History_stepsOnWay (n := dpp G.I.D w) (I := G.I) (q := zd_w G.I.D w (dpp G.I.D w)) (hH.f g12 (fun a z => by omega)) ho (by omega) (fun i hi => ⟨p12 i hi, by have a := (zd_up_d zok hw1 (dpp G.I.D w - 1 - i) (by omega)).1; have c := zd_up_p zok hw1 (t := dpp G.I.D w - 1 - i) (by omega); show zd_up G.I.D (dpp G.I.D w - 1 - i) w - 1 < G.I.k; omega⟩)) (Nat.le_of_ble_eq_true rfl) (Nat.le_of_ble_eq_true rfl) (Nat.le_of_ble_eq_true rfl) (fun r21 σ21 q21 => ?_)
      obtain ⟨rfl, rfl⟩ := q21
      refine zz_ri rfl (Or.inl rfl) ?_
      exact ⟨congrArg (fun z => some (zI z)) (Eq.trans (zz_sum_rv (g_ws G w) (dpp G.I.D w)) (Eq.trans ((if_neg (by omega)).trans (if_pos hx)).symm (if_pos ⟨hv, by omega, by omega⟩).symm)), hG.s (g12.mono (fun a z => by unfold A_cs; omega)), g12.mono (fun a z => by unfold A_cl; omega)⟩
    · refine zz_swI 2 23 rfl hx rfl ?_
      refine zz_gsn 3 rfl ?_
      refine zz_cv (n := 2) rfl rfl (t_History_mostOnWay (n := dpp G.I.D w) (I := G.I) (q := zd_w G.I.D w (dpp G.I.D w)) (hH.f g12 (fun a z => by omega)) ho (by omega) (fun i hi => ⟨p12 i hi, by have a := (zd_up_d zok hw1 (dpp G.I.D w - 1 - i) (by omega)).1; have c := zd_up_p zok hw1 (t := dpp G.I.D w - 1 - i) (by omega); show zd_up G.I.D (dpp G.I.D w - 1 - i) w - 1 < G.I.k; omega⟩)) (Nat.le_of_ble_eq_true rfl) (Nat.le_of_ble_eq_true rfl) (Nat.le_of_ble_eq_true rfl) (fun r26 σ26 q26 => ?_)
      obtain ⟨rfl, rfl⟩ := q26
      refine zz_ri rfl (Or.inl rfl) ?_
      exact ⟨congrArg (fun z => some (zI z)) (Eq.trans (mx_rv (g_ws G w) (dpp G.I.D w)) (Eq.trans ((if_neg (by omega)).trans (if_neg (by omega))).symm (if_pos ⟨hv, by omega, by omega⟩).symm)), hG.s (g12.mono (fun a z => by unfold A_cs; omega)), g12.mono (fun a z => by unfold A_cl; omega)⟩
    · refine zz_swO 28 rfl (by first | exact hx | (simp only [List.length_cons, List.length_nil]; omega)) rfl ?_
      refine zz_gsn 1 rfl ?_
      refine zz_ri rfl (Or.inl rfl) ?_
      exact ⟨congrArg (fun z => some (zI z)) (if_neg (fun z => by omega)).symm, hG.s (g12.mono (fun a z => by unfold A_cs; omega)), g12.mono (fun a z => by unfold A_cl; omega)⟩
  · refine zz_gsn 4 rfl ?_
    refine zz_cv (n := 2) rfl rfl (t_Deeds_hasVersion) (Nat.le_of_ble_eq_true rfl) (Nat.le_of_ble_eq_true rfl) (Nat.le_of_ble_eq_true rfl) (fun r4 σ4 q4 => ?_)
    obtain ⟨rfl, n4, rfl, e4⟩ := q4
    replace e4 := vz_of hD e4
    replace e4 : n4 = 0 := e4.elim (fun z => absurd z.2 hv) (fun z => z.1)
    refine zz_br rfl (fun h5 => absurd e4 h5) (fun h5 => ?_)
    refine zz_gsn 1 rfl ?_
    refine zz_ri rfl (Or.inl rfl) ?_
    exact ⟨congrArg (fun z => some (zI z)) (if_neg (fun z => hv z.1)).symm, hG, zz_F.rf⟩
