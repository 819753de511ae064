/-! the reference: grafting, grafted -/
theorem Fy2.r {m n : Nat} {σ σ' : zz_M} (h : Fy2 m σ σ') : Fr m n σ σ' := ⟨fun f q => h.1 f m (by unfold pf at q; omega), fun a i q => by rw [h.2 a (by unfold pa at q; omega)]⟩
theorem Fy2.F {m : Nat} {σ σ' : zz_M} (h : Fy2 m σ σ') : zz_F (A_rf m) σ σ' := (h.x (n := 0)).2.2
theorem ri_B {σ : zz_M} {m : Nat} {law C : Int} {k : Nat} {H : zz_H} {D : zz_D} (h : RV σ m law C k H D) : ∀ u, 0 < u → u ≤ k → σ.2 (m + 5) u = ((zd_B D (u - 1) : Nat) : Int) := fun u u0 u1 => by
  have z := (h.2.2.1 (u - 1) (by omega)).2.1
  rw [show u - 1 + 1 = u from by omega] at z
  exact z
theorem t_Mo_grafting {X : zz_X} {σ : zz_M} {m : Nat} {G : zz_J} {u v w x_ : Int} (hG : RG σ m G) (ok : g_ok G) : zz_T X 7 p_Mo_grafting [zP 12 0 0 m, zI u, zI v, zI w, zI x_] σ (fun r σ' => r = some (zI (a_grafting G u v w x_)) ∧ RG σ' m G ∧ zz_F (A_rf m) σ σ') := by
  refine zz_mk k_Mo_grafting o_Mo_grafting rfl rfl (Nat.le_of_ble_eq_true rfl) ?_
  show zz_G X 7 p_Mo_grafting 0 [zP 12 0 0 m, zI u, zI v, zI w, zI x_, zU] [] σ _
  obtain ⟨hI, hT, hO, hF, hM, h10⟩ := id hG
  obtain ⟨⟨ho, hfx⟩, okt, oko, okm⟩ := id ok
  have hk6 := ho.1.2.2.1
  rcases (show ((vz3 G u v w ∧ 0 ≤ x_ ∧ x_ ≤ 3) ∧ 0 ≤ g_wn G u v) ∨ ((vz3 G u v w ∧ 0 ≤ x_ ∧ x_ ≤ 3) ∧ g_wn G u v < 0) ∨ ¬ (vz3 G u v w ∧ 0 ≤ x_ ∧ x_ ≤ 3) from by rcases Classical.em (vz3 G u v w ∧ 0 ≤ x_ ∧ x_ ≤ 3) with h | h <;> rcases Int.lt_or_le (g_wn G u v) 0 with h2 | h2 <;> first | exact Or.inr (Or.inr h) | exact Or.inl ⟨h, h2⟩ | exact Or.inr (Or.inl ⟨h, h2⟩)) with ⟨hv, hwn⟩ | ⟨hv, hwn⟩ | hv
  · obtain ⟨hz, hx0⟩ := id hv
    obtain ⟨vu, vv, vw⟩ := id hz
    obtain ⟨u1, rfl⟩ : ∃ z : Nat, u = (z : Nat) := ⟨u.toNat, by have := vu.2.1; omega⟩
    obtain ⟨v1, rfl⟩ : ∃ z : Nat, v = (z : Nat) := ⟨v.toNat, by have := vv.2.1; omega⟩
    obtain ⟨w1, rfl⟩ : ∃ z : Nat, w = (z : Nat) := ⟨w.toNat, by have := vw.2.1; omega⟩
    have hul : u1 ≤ G.I.k := by have := vu.2.2; omega
    have hvl : v1 ≤ G.I.k := by have := vv.2.2; omega
    have hwl : w1 ≤ G.I.k := by have := vw.2.2; omega
    have hho : G.I.ho = 1 := (i_ho ho vu.1).1
    have zok := i_zd ho
    have hwb := zd_wn_b (u := u1) zok hvl hk6
    obtain ⟨-, ⟨q1, q2, q3, q4⟩, hV⟩ := ri_y hI vu.1
    obtain ⟨n, hn⟩ : ∃ n : Nat, zd_wn G.I.D u1 v1 = (n : Nat) := ⟨(zd_wn G.I.D u1 v1).toNat, by have z : 0 ≤ zd_wn G.I.D u1 v1 := hwn; omega⟩
    have hgw : g_wn G (u1 : Nat) (v1 : Nat) = (n : Nat) := hn
    have hnn : ¬ g_wn G (u1 : Nat) (v1 : Nat) < 0 := by rw [hgw]; omega
    refine zz_gsn 4 rfl ?_
    refine zz_cv (n := 4) rfl rfl (t_Mo_areThree (u := ((u1 : Nat) : Int)) (v := ((v1 : Nat) : Int)) (w := ((w1 : Nat) : Int)) hI ho) (Nat.le_of_ble_eq_true rfl) (Nat.le_of_ble_eq_true rfl) (Nat.le_of_ble_eq_true rfl) (fun r4 σ4 q4 => ?_)
    obtain ⟨rfl, n4, rfl, e4⟩ := q4
    replace e4 : n4 = 1 := e4.elim (fun z => z.1) (fun z => absurd hz z.2)
    refine zz_br rfl (fun h5 => absurd (by first | exact h5 | exact Decidable.not_not.mp h5) (show n4 ≠ 0 by omega)) (fun h5 => ?_)
    refine zz_gsn 4 rfl ?_
    refine zz_cs (n := 3) rfl rfl (t_Mo_in) (Nat.le_of_ble_eq_true rfl) (Nat.le_of_ble_eq_true rfl) (Nat.le_of_ble_eq_true rfl) (fun r10 σ10 q10 => ?_)
    obtain ⟨rfl, n10, rfl, e10⟩ := q10
    refine zz_br rfl (fun h11 => ?_) (fun h11 => absurd (by first | exact h11 | exact Decidable.not_not.mp h11) (show n10 ≠ 0 by omega))
    refine zz_gsn 3 rfl ?_
    refine zz_cv (n := 3) rfl rfl (t_Mo_laysWay (u := u1) zok hvl hk6 (ri_B hV)) (Nat.le_of_ble_eq_true rfl) (Nat.le_of_ble_eq_true rfl) (Nat.le_of_ble_eq_true rfl) (fun r17 σ17 q17 => ?_)
    obtain ⟨c17, rfl, f17, p17⟩ := q17
    have R17 := Fr.RG hG ok f17.r
    have V17 := Fr.RV hV (f17.r (n := (IH G.I).n)) hk6
    obtain ⟨hc17, n', hn', wm17, ww17⟩ := p17.resolve_right (fun z => absurd (hn.symm.trans z.2) (by omega))
    obtain rfl : n' = n := Int.ofNat_inj.mp (hn'.symm.trans hn)
    refine zz_br rfl (fun h18 => ?_) (fun h18 => absurd (by first | exact h18 | exact Decidable.not_not.mp h18) (show c17 ≠ 0 by omega))
    refine zz_gsn 2 rfl ?_
    refine zz_cv (n := 2) rfl rfl (t_Mo_grafts (on := w1) (n := n') V17 ho hho hvl hwl hn wm17 ww17) (Nat.le_of_ble_eq_true rfl) (Nat.le_of_ble_eq_true rfl) (Nat.le_of_ble_eq_true rfl) (fun r23 σ23 q23 => ?_)
    obtain ⟨rfl, ⟨P1, P2⟩, ⟨R23, Z23⟩, W1, W2⟩ := q23
    have G23 := Fr.RG R17 ok R23
    have F23 := f17.F.tr Z23
    refine zz_gsn 2 rfl ?_
    rcases (show x_ = 0 ∨ x_ = 1 ∨ x_ = 2 ∨ x_ = 3 by omega) with hx | hx | hx | hx
    · refine zz_swI 0 27 rfl hx rfl ?_
      refine zz_gsn 2 rfl ?_
      refine zz_ri rfl (Or.inl rfl) ?_
      refine ⟨congrArg (fun z => some (zI z)) (Eq.trans ?_ (if_pos hv).symm), G23, F23⟩
      rw [if_neg hnn]
      show _ = if x_ = 0 then g_wn G (u1 : Nat) (v1 : Nat) else if x_ = 1 then g_rs G.I v1 (g_wn G (u1 : Nat) (v1 : Nat)).toNat w1 else if x_ = 2 then g_rc G.I v1 (g_wn G (u1 : Nat) (v1 : Nat)).toNat w1 else (((g_rq G.I v1 (g_wn G (u1 : Nat) (v1 : Nat)).toNat w1).1 : Nat) : Int)
      rw [hgw, Int.toNat_natCast]
      rw [if_pos hx]
      exact W1.trans wm17
    · refine zz_swI 1 30 rfl hx rfl ?_
      refine zz_gsn 1 rfl ?_
      refine zz_ri rfl (Or.inl rfl) ?_
      refine ⟨congrArg (fun z => some (zI z)) (Eq.trans ?_ (if_pos hv).symm), G23, F23⟩
      rw [if_neg hnn]
      show _ = if x_ = 0 then g_wn G (u1 : Nat) (v1 : Nat) else if x_ = 1 then g_rs G.I v1 (g_wn G (u1 : Nat) (v1 : Nat)).toNat w1 else if x_ = 2 then g_rc G.I v1 (g_wn G (u1 : Nat) (v1 : Nat)).toNat w1 else (((g_rq G.I v1 (g_wn G (u1 : Nat) (v1 : Nat)).toNat w1).1 : Nat) : Int)
      rw [hgw, Int.toNat_natCast]
      rw [if_neg (by omega), if_pos hx]
    · refine zz_swI 2 32 rfl hx rfl ?_
      refine zz_gsn 2 rfl ?_
      refine zz_ri rfl (Or.inl rfl) ?_
      refine ⟨congrArg (fun z => some (zI z)) (Eq.trans ?_ (if_pos hv).symm), G23, F23⟩
      rw [if_neg hnn]
      show _ = if x_ = 0 then g_wn G (u1 : Nat) (v1 : Nat) else if x_ = 1 then g_rs G.I v1 (g_wn G (u1 : Nat) (v1 : Nat)).toNat w1 else if x_ = 2 then g_rc G.I v1 (g_wn G (u1 : Nat) (v1 : Nat)).toNat w1 else (((g_rq G.I v1 (g_wn G (u1 : Nat) (v1 : Nat)).toNat w1).1 : Nat) : Int)
      rw [hgw, Int.toNat_natCast]
      rw [if_neg (by omega), if_neg (by omega), if_pos hx]
      exact P2
    · refine zz_swO 35 rfl (by first | exact Or.inr (by omega) | (simp only [List.length_cons, List.length_nil]; omega)) rfl ?_
      refine zz_gsn 2 rfl ?_
      refine zz_ri rfl (Or.inl rfl) ?_
      refine ⟨congrArg (fun z => some (zI z)) (Eq.trans ?_ (if_pos hv).symm), G23, F23⟩
      rw [if_neg hnn]
      show _ = if x_ = 0 then g_wn G (u1 : Nat) (v1 : Nat) else if x_ = 1 then g_rs G.I v1 (g_wn G (u1 : Nat) (v1 : Nat)).toNat w1 else if x_ = 2 then g_rc G.I v1 (g_wn G (u1 : Nat) (v1 : Nat)).toNat w1 else (((g_rq G.I v1 (g_wn G (u1 : Nat) (v1 : Nat)).toNat w1).1 : Nat) : Int)
      rw [hgw, Int.toNat_natCast]
      rw [if_neg (by omega), if_neg (by omega), if_neg (by omega)]
      exact P1.1
  · obtain ⟨hz, hx0⟩ := id hv
    obtain ⟨vu, vv, vw⟩ := id hz
    obtain ⟨u1, rfl⟩ : ∃ z : Nat, u = (z : Nat) := ⟨u.toNat, by have := vu.2.1; omega⟩
    obtain ⟨v1, rfl⟩ : ∃ z : Nat, v = (z : Nat) := ⟨v.toNat, by have := vv.2.1; omega⟩
    obtain ⟨w1, rfl⟩ : ∃ z : Nat, w = (z : Nat) := ⟨w.toNat, by have := vw.2.1; omega⟩
    have hul : u1 ≤ G.I.k := by have := vu.2.2; omega
    have hvl : v1 ≤ G.I.k := by have := vv.2.2; omega
    have hwl : w1 ≤ G.I.k := by have := vw.2.2; omega
    have hho : G.I.ho = 1 := (i_ho ho vu.1).1
    have zok := i_zd ho
    have hwb := zd_wn_b (u := u1) zok hvl hk6
    obtain ⟨-, ⟨q1, q2, q3, q4⟩, hV⟩ := ri_y hI vu.1
    have hn : zd_wn G.I.D u1 v1 = -1 := by have z : zd_wn G.I.D u1 v1 < 0 := hwn; omega
    refine zz_gsn 4 rfl ?_
    refine zz_cv (n := 4) rfl rfl (t_Mo_areThree (u := ((u1 : Nat) : Int)) (v := ((v1 : Nat) : Int)) (w := ((w1 : Nat) : Int)) hI ho) (Nat.le_of_ble_eq_true rfl) (Nat.le_of_ble_eq_true rfl) (Nat.le_of_ble_eq_true rfl) (fun r4 σ4 q4 => ?_)
    obtain ⟨rfl, n4, rfl, e4⟩ := q4
    replace e4 : n4 = 1 := e4.elim (fun z => z.1) (fun z => absurd hz z.2)
    refine zz_br rfl (fun h5 => absurd (by first | exact h5 | exact Decidable.not_not.mp h5) (show n4 ≠ 0 by omega)) (fun h5 => ?_)
    refine zz_gsn 4 rfl ?_
    refine zz_cs (n := 3) rfl rfl (t_Mo_in) (Nat.le_of_ble_eq_true rfl) (Nat.le_of_ble_eq_true rfl) (Nat.le_of_ble_eq_true rfl) (fun r10 σ10 q10 => ?_)
    obtain ⟨rfl, n10, rfl, e10⟩ := q10
    refine zz_br rfl (fun h11 => ?_) (fun h11 => absurd (by first | exact h11 | exact Decidable.not_not.mp h11) (show n10 ≠ 0 by omega))
    refine zz_gsn 3 rfl ?_
    refine zz_cv (n := 3) rfl rfl (t_Mo_laysWay (u := u1) zok hvl hk6 (ri_B hV)) (Nat.le_of_ble_eq_true rfl) (Nat.le_of_ble_eq_true rfl) (Nat.le_of_ble_eq_true rfl) (fun r17 σ17 q17 => ?_)
    obtain ⟨c17, rfl, f17, p17⟩ := q17
    have R17 := Fr.RG hG ok f17.r
    have V17 := Fr.RV hV (f17.r (n := (IH G.I).n)) hk6
    have hc17 : c17 = 0 := p17.elim (fun z => by
      obtain ⟨-, n', z, -⟩ := z
      exact absurd (z.symm.trans hn) (by omega)) (fun z => z.1)
    refine zz_br rfl (fun h18 => absurd hc17 h18) (fun h18 => ?_)
    refine zz_gsn 1 rfl ?_
    refine zz_ri rfl (Or.inl rfl) ?_
    exact ⟨congrArg (fun z => some (zI z)) (Eq.trans (if_pos hwn).symm (if_pos hv).symm), R17, f17.F⟩
  · refine zz_gsn 4 rfl ?_
    refine zz_cv (n := 4) rfl rfl (t_Mo_areThree (u := u) (v := v) (w := w) hI ho) (Nat.le_of_ble_eq_true rfl) (Nat.le_of_ble_eq_true rfl) (Nat.le_of_ble_eq_true rfl) (fun r4 σ4 q4 => ?_)
    obtain ⟨rfl, n4, rfl, e4⟩ := q4
    refine zz_br rfl (fun h5 => ?_) (fun h5 => ?_)
    · refine zz_gsn 1 rfl ?_
      refine zz_ri rfl (Or.inl rfl) ?_
      exact ⟨congrArg (fun z => some (zI z)) (if_neg hv).symm, hG, zz_F.rf⟩
    · refine zz_gsn 4 rfl ?_
      refine zz_cs (n := 3) rfl rfl (t_Mo_in) (Nat.le_of_ble_eq_true rfl) (Nat.le_of_ble_eq_true rfl) (Nat.le_of_ble_eq_true rfl) (fun r10 σ10 q10 => ?_)
      obtain ⟨rfl, n10, rfl, e10⟩ := q10
      refine zz_br rfl (fun h11 => absurd (show vz3 G u v w ∧ 0 ≤ x_ ∧ x_ ≤ 3 from ⟨e4.elim (fun z => z.2) (fun z => absurd z.1 h5), by omega, by omega⟩) hv) (fun h11 => ?_)
      refine zz_gsn 1 rfl ?_
      refine zz_ri rfl (Or.inl rfl) ?_
      exact ⟨congrArg (fun z => some (zI z)) (if_neg hv).symm, hG, zz_F.rf⟩
theorem g_rs_p {I : zz_I} {u v n on : Nat} (ok : i_ok I) (h : I.ho ≠ 0) (hv : v ≤ I.k) (hon : on ≤ I.k) (hn : zd_wn I.D u v = (n : Nat)) : 0 ≤ g_rs I v n on := by
  have hCC := (i_ho ok h).2
  have hI0 : IV I.law on (hw (IH I) on) := ((h_inv ok.1).1 on hon).1
  have h11 : (hw (IH I) on).S 11 = (((IH I).Q on).1 : Nat) := ((h_inv ok.1).1 on hon).2.1
  have hkd := g_kd_w ok hv hn
  have cb := (g_c_b (g_ct (g_e I.D v n) ((IH I).Q on)) n 0).2
  have key : ∀ j, j ≤ g_c (g_ct (g_e I.D v n) ((IH I).Q on)) n 0 → 0 ≤ zz_sum (gS I.law I.C (g_e I.D v n) (fun _ => 0) (hw (IH I) on)) j := by
    intro j
    induction j with
    | zero => exact fun _ => Int.le_refl 0
    | succ j ih =>
      intro hj
      have a := ih (by omega)
      have b := (g_inv (C := I.C) (xs := fun _ => 0) hI0 ⟨hCC.1, hCC.2.1⟩ h11 hkd j (by omega) (fun x hx => g_c_f _ n 0 x (Nat.zero_le _) (by omega))).1
      have c := w_steps_p (C := I.C) (mk := -1) (kind := (g_e I.D v n j).1) (x := 0) b (hkd j (by omega)).1
      show 0 ≤ zz_sum (gS I.law I.C (g_e I.D v n) (fun _ => 0) (hw (IH I) on)) j + w_steps I.law I.C (-1) (g_e I.D v n j).1 0 (gw I.law I.C (g_e I.D v n) (fun _ => 0) (hw (IH I) on) j)
      omega
  exact key _ (Nat.le_refl _)
theorem t_Mo_grafted {X : zz_X} {σ : zz_M} {m : Nat} {G : zz_J} {u v w i : Int} (hG : RG σ m G) (ok : g_ok G) : zz_T X 7 p_Mo_grafted [zP 12 0 0 m, zI u, zI v, zI w, zI i] σ (fun r σ' => r = some (zI (a_grafted G u v w i)) ∧ RG σ' m G ∧ zz_F (A_rf m) σ σ') := by
  refine zz_mk k_Mo_grafted o_Mo_grafted rfl rfl (Nat.le_of_ble_eq_true rfl) ?_
  show zz_G X 7 p_Mo_grafted 0 [zP 12 0 0 m, zI u, zI v, zI w, zI i, zU] [] σ _
  obtain ⟨hI, hT, hO, hF, hM, h10⟩ := id hG
  obtain ⟨⟨ho, hfx⟩, okt, oko, okm⟩ := id ok
  have hk6 := ho.1.2.2.1
  rcases (show ((vz3 G u v w ∧ 0 ≤ i) ∧ 0 ≤ g_wn G u v) ∨ ((vz3 G u v w ∧ 0 ≤ i) ∧ g_wn G u v < 0) ∨ ¬ (vz3 G u v w ∧ 0 ≤ i) from by rcases Classical.em (vz3 G u v w ∧ 0 ≤ i) with h | h <;> rcases Int.lt_or_le (g_wn G u v) 0 with h2 | h2 <;> first | exact Or.inr (Or.inr h) | exact Or.inl ⟨h, h2⟩ | exact Or.inr (Or.inl ⟨h, h2⟩)) with ⟨hv, hwn⟩ | ⟨hv, hwn⟩ | hv
  · obtain ⟨hz, hx0⟩ := id hv
    obtain ⟨vu, vv, vw⟩ := id hz
    obtain ⟨u1, rfl⟩ : ∃ z : Nat, u = (z : Nat) := ⟨u.toNat, by have := vu.2.1; omega⟩
    obtain ⟨v1, rfl⟩ : ∃ z : Nat, v = (z : Nat) := ⟨v.toNat, by have := vv.2.1; omega⟩
    obtain ⟨w1, rfl⟩ : ∃ z : Nat, w = (z : Nat) := ⟨w.toNat, by have := vw.2.1; omega⟩
    have hul : u1 ≤ G.I.k := by have := vu.2.2; omega
    have hvl : v1 ≤ G.I.k := by have := vv.2.2; omega
    have hwl : w1 ≤ G.I.k := by have := vw.2.2; omega
    have hho : G.I.ho = 1 := (i_ho ho vu.1).1
    have zok := i_zd ho
    have hwb := zd_wn_b (u := u1) zok hvl hk6
    obtain ⟨-, ⟨q1, q2, q3, q4⟩, hV⟩ := ri_y hI vu.1
    obtain ⟨n, hn⟩ : ∃ n : Nat, zd_wn G.I.D u1 v1 = (n : Nat) := ⟨(zd_wn G.I.D u1 v1).toNat, by have z : 0 ≤ zd_wn G.I.D u1 v1 := hwn; omega⟩
    have hgw : g_wn G (u1 : Nat) (v1 : Nat) = (n : Nat) := hn
    have hnn : ¬ g_wn G (u1 : Nat) (v1 : Nat) < 0 := by rw [hgw]; omega
    refine zz_gsn 4 rfl ?_
    refine zz_cv (n := 4) rfl rfl (t_Mo_areThree (u := ((u1 : Nat) : Int)) (v := ((v1 : Nat) : Int)) (w := ((w1 : Nat) : Int)) hI ho) (Nat.le_of_ble_eq_true rfl) (Nat.le_of_ble_eq_true rfl) (Nat.le_of_ble_eq_true rfl) (fun r4 σ4 q4 => ?_)
    obtain ⟨rfl, n4, rfl, e4⟩ := q4
    replace e4 : n4 = 1 := e4.elim (fun z => z.1) (fun z => absurd hz z.2)
    refine zz_br rfl (fun h5 => absurd (by first | exact h5 | exact Decidable.not_not.mp h5) (show n4 ≠ 0 by omega)) (fun h5 => ?_)
    refine zz_gsn 1 rfl ?_
    refine zz_br rfl (fun h7 => ?_) (fun h7 => absurd h7 (by omega))
    refine zz_gsn 3 rfl ?_
    refine zz_cv (n := 3) rfl rfl (t_Mo_laysWay (u := u1) zok hvl hk6 (ri_B hV)) (Nat.le_of_ble_eq_true rfl) (Nat.le_of_ble_eq_true rfl) (Nat.le_of_ble_eq_true rfl) (fun r13 σ13 q13 => ?_)
    obtain ⟨c13, rfl, f13, p13⟩ := q13
    have R13 := Fr.RG hG ok f13.r
    have V13 := Fr.RV hV (f13.r (n := (IH G.I).n)) hk6
    obtain ⟨hc13, n', hn', wm13, ww13⟩ := p13.resolve_right (fun z => absurd (hn.symm.trans z.2) (by omega))
    obtain rfl : n' = n := Int.ofNat_inj.mp (hn'.symm.trans hn)
    refine zz_br rfl (fun h14 => ?_) (fun h14 => absurd (by first | exact h14 | exact Decidable.not_not.mp h14) (show c13 ≠ 0 by omega))
    refine zz_gsn 2 rfl ?_
    refine zz_cv (n := 2) rfl rfl (t_Mo_grafts (on := w1) (n := n') V13 ho hho hvl hwl hn wm13 ww13) (Nat.le_of_ble_eq_true rfl) (Nat.le_of_ble_eq_true rfl) (Nat.le_of_ble_eq_true rfl) (fun r19 σ19 q19 => ?_)
    obtain ⟨rfl, ⟨P1, P2⟩, ⟨R19, Z19⟩, W1, W2⟩ := q19
    have G19 := Fr.RG R13 ok R19
    have F19 := f13.F.tr Z19
    have hCC := i_ho ho vu.1
    obtain ⟨hI0, h11, -⟩ := (h_inv ho.1).1 w1 hwl
    have hql := h_ql ho hwl
    have zwl := zd_w_lt zok hvl hn
    have hdv : dpp G.I.D v1 ≤ v1 := zd_dep_le zok v1 v1 hvl
    have hn60 : n' ≤ 60 := by have := zwl.1; omega
    have qb := g_rq_b (I := G.I) (v := v1) (n := n') (on := w1) (by omega) hn60 (g_kd_w ho hvl hn) hI0 ⟨hCC.2.1, hCC.2.2.1⟩ h11
    have rs0 : 0 ≤ g_rs G.I v1 n' w1 := g_rs_p ho vu.1 hvl hwl hn
    obtain ⟨nP, qP⟩ := P1
    refine zz_gsn 2 rfl ?_
    refine zz_br rfl (fun h22 => absurd h22 (Int.not_lt.mpr rs0)) (fun h22 => ?_)
    refine zz_gsn 3 rfl ?_
    refine zz_br rfl (fun h26 => ?_) (fun h26 => ?_)
    · refine zz_gsn 1 rfl ?_
      refine zz_ri rfl (Or.inl rfl) ?_
      refine ⟨congrArg (fun z => some (zI z)) (Eq.trans ?_ (if_pos hv).symm), G19, F19⟩
      rw [if_neg hnn]
      show _ = q_at (g_rq G.I v1 (g_wn G (u1 : Nat) (v1 : Nat)).toNat w1) i
      rw [hgw, Int.toNat_natCast]
      exact (if_neg (fun z => by omega)).symm
    · refine zz_gsn 3 rfl ?_
      refine zz_ald rfl (⟨by omega, by omega⟩) ?_
      refine zz_jp rfl ?_
      refine zz_ri rfl (Or.inl rfl) ?_
      refine ⟨congrArg (fun z => some (zI z)) (Eq.trans ?_ (if_pos hv).symm), G19, F19⟩
      rw [if_neg hnn]
      show _ = q_at (g_rq G.I v1 (g_wn G (u1 : Nat) (v1 : Nat)).toNat w1) i
      rw [hgw, Int.toNat_natCast]
      exact (qP i.toNat (by omega)).trans (if_pos ⟨hx0, by omega⟩).symm
  · obtain ⟨hz, hx0⟩ := id hv
    obtain ⟨vu, vv, vw⟩ := id hz
    obtain ⟨u1, rfl⟩ : ∃ z : Nat, u = (z : Nat) := ⟨u.toNat, by have := vu.2.1; omega⟩
    obtain ⟨v1, rfl⟩ : ∃ z : Nat, v = (z : Nat) := ⟨v.toNat, by have := vv.2.1; omega⟩
    obtain ⟨w1, rfl⟩ : ∃ z : Nat, w = (z : Nat) := ⟨w.toNat, by have := vw.2.1; omega⟩
    have hul : u1 ≤ G.I.k := by have := vu.2.2; omega
    have hvl : v1 ≤ G.I.k := by have := vv.2.2; omega
    have hwl : w1 ≤ G.I.k := by have := vw.2.2; omega
    have hho : G.I.ho = 1 := (i_ho ho vu.1).1
    have zok := i_zd ho
    have hwb := zd_wn_b (u := u1) zok hvl hk6
    obtain ⟨-, ⟨q1, q2, q3, q4⟩, hV⟩ := ri_y hI vu.1
    have hn : zd_wn G.I.D u1 v1 = -1 := by have z : zd_wn G.I.D u1 v1 < 0 := hwn; omega
    refine zz_gsn 4 rfl ?_
    refine zz_cv (n := 4) rfl rfl (t_Mo_areThree (u := ((u1 : Nat) : Int)) (v := ((v1 : Nat) : Int)) (w := ((w1 : Nat) : Int)) hI ho) (Nat.le_of_ble_eq_true rfl) (Nat.le_of_ble_eq_true rfl) (Nat.le_of_ble_eq_true rfl) (fun r4 σ4 q4 => ?_)
    obtain ⟨rfl, n4, rfl, e4⟩ := q4
    replace e4 : n4 = 1 := e4.elim (fun z => z.1) (fun z => absurd hz z.2)
    refine zz_br rfl (fun h5 => absurd (by first | exact h5 | exact Decidable.not_not.mp h5) (show n4 ≠ 0 by omega)) (fun h5 => ?_)
    refine zz_gsn 1 rfl ?_
    refine zz_br rfl (fun h7 => ?_) (fun h7 => absurd h7 (by omega))
    refine zz_gsn 3 rfl ?_
    refine zz_cv (n := 3) rfl rfl (t_Mo_laysWay (u := u1) zok hvl hk6 (ri_B hV)) (Nat.le_of_ble_eq_true rfl) (Nat.le_of_ble_eq_true rfl) (Nat.le_of_ble_eq_true rfl) (fun r13 σ13 q13 => ?_)
    obtain ⟨c13, rfl, f13, p13⟩ := q13
    have R13 := Fr.RG hG ok f13.r
    have V13 := Fr.RV hV (f13.r (n := (IH G.I).n)) hk6
    have hc13 : c13 = 0 := p13.elim (fun z => by
      obtain ⟨-, n', z, -⟩ := z
      exact absurd (z.symm.trans hn) (by omega)) (fun z => z.1)
    refine zz_br rfl (fun h14 => absurd hc13 h14) (fun h14 => ?_)
    refine zz_gsn 1 rfl ?_
    refine zz_ri rfl (Or.inl rfl) ?_
    exact ⟨congrArg (fun z => some (zI z)) (Eq.trans (if_pos hwn).symm (if_pos hv).symm), R13, f13.F⟩
  · refine zz_gsn 4 rfl ?_
    refine zz_cv (n := 4) rfl rfl (t_Mo_areThree (u := u) (v := v) (w := w) hI ho) (Nat.le_of_ble_eq_true rfl) (Nat.le_of_ble_eq_true rfl) (Nat.le_of_ble_eq_true rfl) (fun r4 σ4 q4 => ?_)
    obtain ⟨rfl, n4, rfl, e4⟩ := q4
    refine zz_br rfl (fun h5 => ?_) (fun h5 => ?_)
    · refine zz_gsn 1 rfl ?_
      refine zz_ri rfl (Or.inl rfl) ?_
      exact ⟨congrArg (fun z => some (zI z)) (if_neg hv).symm, hG, zz_F.rf⟩
    · refine zz_gsn 1 rfl ?_
      refine zz_br rfl (fun h7 => absurd (show vz3 G u v w ∧ 0 ≤ i from ⟨e4.elim (fun z => z.2) (fun z => absurd z.1 h5), by omega⟩) hv) (fun h7 => ?_)
      refine zz_gsn 1 rfl ?_
      refine zz_ri rfl (Or.inl rfl) ?_
      exact ⟨congrArg (fun z => some (zI z)) (if_neg hv).symm, hG, zz_F.rf⟩
