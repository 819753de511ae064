/-! the reference: graft -/
theorem lp_rgr {X : zz_X} {m u v n on : Nat} {I : zz_I} {s4 : Int} {σ0 : zz_M} {Post : Option zz_V → zz_M → Prop} (ok : i_ok I) (fx : i_fx I) (h1 : I.ho = 1) (hon : on ≤ I.k) (hkn : I.k + n ≤ 60) (hn60 : n ≤ 60) (hw : ∀ i, i < n → zd_w I.D v n i < I.k) (hc : ∀ i, i < n → g_ct (g_e I.D v n) ((IH I).Q on) i = false) (hW : ∀ i, i < n → σ0.2 (m + 22) i = ((zd_w I.D v n i + 1 : Nat) : Int))
    (kk : ∀ σ' : zz_M, RV σ' m I.law I.C (I.k + n) (IH (i_gr I v n on n).1) (i_gr I v n on n).1.D → Fm m σ0 σ' → Post (some (zI ((i_gr I v n on n).2 : Nat))) σ') :
    ∀ (r i : Nat) (σ : zz_M), i + r = n → RV σ m I.law I.C (I.k + i) (IH (i_gr I v n on i).1) (i_gr I v n on i).1.D → Fm m σ0 σ → zz_G X 7 p_Mo_graft 41 [zP 12 0 0 m, zI (u : Nat), zI (v : Nat), zI (on : Nat), zI s4, zI ((i_gr I v n on i).2 : Nat), zI (n : Nat), zI (i : Nat)] [] σ Post := by
  intro r
  induction r with
  | zero =>
    intro i σ hi hR hF
    obtain rfl : i = n := hi
    refine zz_gsn 2 rfl ?_
    refine zz_br rfl (fun h43 => ?_) (fun h43 => absurd h43 (by omega))
    refine zz_gsn 1 rfl ?_
    refine zz_ri rfl (Or.inl rfl) ?_
    exact kk σ hR hF
  | succ r ih =>
    intro i σ hi hR hF
    have hin : i < n := by omega
    have i9 : i + 1 + r = n := by omega
    have i43 : ¬ ((i : Nat) : Int) ≥ (n : Nat) := by omega
    have o1 : 0 ≤ (i : Int) ∧ (i : Int) < 61 := ⟨by omega, by omega⟩
    have o2g : ∀ Z : Nat, Z + 1 < 61 → 0 ≤ ((Z + 1 : Nat) : Int) ∧ ((Z + 1 : Nat) : Int) < 61 := fun Z z => ⟨by omega, by omega⟩
    have k60 : I.k + i < 60 := by omega
    have k61 : I.k < 61 := by omega
    have zmg : ∀ k : Nat, k < 100 → zw (((k + 1 + 1 : Nat) : Int) - 1) = ((k + 1 : Nat) : Int) := fun k h => zw_p (n := k + 1 + 1) (Nat.succ_pos _) (by omega)
    have zm := zmg (I.k + i) (Nat.lt_trans k60 (by decide))
    have zs : zw ((i : Int) + 1) = ((i + 1 : Nat) : Int) := zw_s (Nat.lt_trans (Nat.lt_of_lt_of_le hin hn60) (by decide))
    have wm22 : ¬ (m + 1 ≤ m + 22 ∧ m + 22 ≤ m + 12) := fun z => absurd (Nat.le_of_add_le_add_left z.2) (by decide)
    have i0 := Nat.le_of_lt hin
    clear zmg
    obtain ⟨⟨ho, fx1⟩, ⟨b1, b2, b3, b4, b5⟩, c1, c2, c3⟩ := i_gr_ok ok fx h1 hon hkn hw hc i i0
    have hwi := hw i hin
    obtain ⟨s1, s2, s3, s4, s5⟩ := ok.1.2.2.2 (zd_w I.D v n i) hwi
    have hp := g_ct_p (hc i hin)
    have d3' := c3 (zd_w I.D v n i) hwi
    have e1 : i_gr I v n on (i + 1) = (i_act (i_gr I v n on i).1 (g_e I.D v n i).1 (i_gr I v n on i).2 (g_e I.D v n i).2.2, (i_gr I v n on i).1.k + 1) := rfl
    have hst : h_st I.law (I.k + i) ((g_e I.D v n i).1, (i_gr I v n on i).2, (g_e I.D v n i).2.2) (IH (i_gr I v n on i).1) :=
      ⟨c1, s2, s3, fun z => by
        show 0 < ((IH (i_gr I v n on i).1).Q (i_gr I v n on i).2).1
        rw [c2]
        exact hp z, s5⟩
    have hWi : σ.2 (m + 22) i = ((zd_w I.D v n i + 1 : Nat) : Int) := by rw [hF.2 (m + 22) wm22]; exact hW i hin
    have ev : g_e I.D v n i = (i_gr I v n on i).1.D (zd_w I.D v n i) := d3'.symm
    have hCC := (i_ho ok (show I.ho ≠ 0 by rw [h1]; decide)).2
    have r5 := (hR.2.2.1 (zd_w I.D v n i) (Nat.lt_of_lt_of_le hwi (Nat.le_add_right _ _))).2
    have z61 : zd_w I.D v n i + 1 < 61 := Nat.lt_of_le_of_lt hwi k61
    rw [← ev] at r5
    have hin2 : h_in I.law (I.k + i) (IH (i_gr I v n on i).1) := by
      rw [← b2, ← b5]
      exact h_inv ho.1
    have hact : ∀ (H : zz_H) (D : zz_D), H = h_one I.law I.C (I.k + i) ((g_e I.D v n i).1, (i_gr I v n on i).2, (g_e I.D v n i).2.2) (IH (i_gr I v n on i).1) → D = zu (i_gr I v n on i).1.D (I.k + i) ((g_e I.D v n i).1, (i_gr I v n on i).2, h_x ((g_e I.D v n i).1, (i_gr I v n on i).2, (g_e I.D v n i).2.2) (IH (i_gr I v n on i).1)) → H = IH (i_gr I v n on (i + 1)).1 ∧ D = (i_gr I v n on (i + 1)).1.D := fun H D eH eD => by
      rw [e1]
      refine ⟨?_, ?_⟩
      · rw [eH]
        show _ = IH (i_act _ _ _ _)
        rw [IH_act, b2, b3, b5]
      · rw [eD]
        show _ = zu (i_gr I v n on i).1.D (i_gr I v n on i).1.k _
        rw [b5]
    obtain ⟨A1, A2⟩ := hact _ _ rfl rfl
    have e2 : (i_gr I v n on (i + 1)).2 = I.k + i + 1 := by
      rw [e1]
      show (i_gr I v n on i).1.k + 1 = _
      rw [b5]
    obtain ⟨W, hWe⟩ : ∃ W, W = (i_gr I v n on i).2 := ⟨_, rfl⟩
    obtain ⟨K, hK⟩ : ∃ K, K = (g_e I.D v n i).1 := ⟨_, rfl⟩
    obtain ⟨x, hx⟩ : ∃ x, x = (g_e I.D v n i).2.2 := ⟨_, rfl⟩
    obtain ⟨Z, hZ⟩ : ∃ Z, Z = zd_w I.D v n i := ⟨_, rfl⟩
    obtain ⟨H, hH⟩ : ∃ H, H = IH (i_gr I v n on i).1 := ⟨_, rfl⟩
    obtain ⟨D, hD⟩ : ∃ D, D = (i_gr I v n on i).1.D := ⟨_, rfl⟩
    rw [← hWe, ← hK, ← hx, ← hH] at hst A1 A2
    rw [← hD] at A2
    rw [← hK, ← hx, ← hZ] at r5
    rw [← hH] at hin2
    rw [← hH, ← hD] at hR
    rw [← hZ] at hWi hwi z61
    rw [← hWe]
    have o2 := o2g Z z61
    have ih2 := ih (i + 1)
    rw [← A1, ← A2, e2] at ih2
    clear hact e1 e2 ev d3' c1 c2 c3 s1 s2 s3 s4 s5 hp fx1 A1 A2 hWe hK hx hZ hH hD ih
    refine zz_gsn 2 rfl ?_
    refine zz_br rfl (fun h43 => absurd h43 i43) (fun h43 => ?_)
    refine zz_gsn 7 rfl ?_
    refine zz_ald rfl (o1) ?_
    rw [show σ.2 (m + 22) ((i : Nat) : Int).toNat = ((Z + 1 : Nat) : Int) from hWi]
    refine zz_ald rfl (o2) ?_
    rw [show σ.2 (m + 6) ((Z + 1 : Nat) : Int).toNat = K from r5.2.1]
    refine zz_gsn 5 rfl ?_
    refine zz_ald rfl (o1) ?_
    rw [show σ.2 (m + 22) ((i : Nat) : Int).toNat = ((Z + 1 : Nat) : Int) from hWi]
    refine zz_ald rfl (o2) ?_
    rw [show σ.2 (m + 7) ((Z + 1 : Nat) : Int).toNat = x from r5.2.2]
    refine zz_cv (n := 4) rfl rfl (t_Mo_makes (v := W) (kind := K) (x := x) hR k60 hin2 ⟨hCC.1, hCC.2.1⟩ hst) (Nat.le_of_ble_eq_true rfl) (Nat.le_of_ble_eq_true rfl) (Nat.le_of_ble_eq_true rfl) (fun r60 σ60 q60 => ?_)
    obtain ⟨rfl, p60, f60⟩ := q60
    refine zz_gsn 5 rfl ?_
    rw [show σ60.1 1215 m = ((I.k + i + 1 + 1 : Nat) : Int) from p60.1.2.2, zm]
    refine zz_gsn 2 rfl ?_
    refine zz_jp rfl ?_
    rw [zs]
    exact ih2 σ60 i9 p60 (hF.tr f60)
theorem t_Mo_graft {X : zz_X} {σ : zz_M} {m : Nat} {G : zz_J} {u v w : Int} (hG : RG σ m G) (ok : g_ok G) : zz_T X 7 p_Mo_graft [zP 12 0 0 m, zI u, zI v, zI w] σ (fun r σ' => r = some (zI (a_graft G u v w).1) ∧ RG σ' m (a_graft G u v w).2 ∧ zz_F (A_rf m) σ σ') := by
  refine zz_mk k_Mo_graft o_Mo_graft rfl rfl (Nat.le_of_ble_eq_true rfl) ?_
  show zz_G X 7 p_Mo_graft 0 [zP 12 0 0 m, zI u, zI v, zI w, zU, zU, zU, zU] [] σ _
  obtain ⟨hI, hT, hO, hF, hM, h10⟩ := id hG
  obtain ⟨⟨ho, hfx⟩, okt, oko, okm⟩ := id ok
  have hk6 := ho.1.2.2.1
  rcases (show (vz3 G u v w ∧ 0 ≤ g_wn G u v) ∨ (vz3 G u v w ∧ g_wn G u v < 0) ∨ ¬ (vz3 G u v w) from by rcases Classical.em (vz3 G u v w) with h | h <;> rcases Int.lt_or_le (g_wn G u v) 0 with h2 | h2 <;> first | exact Or.inr (Or.inr h) | exact Or.inl ⟨h, h2⟩ | exact Or.inr (Or.inl ⟨h, h2⟩)) with ⟨hv, hwn⟩ | ⟨hv, hwn⟩ | hv
  · have hz := hv
    obtain ⟨vu, vv, vw⟩ := id hz
    obtain ⟨u1, rfl⟩ : ∃ z : Nat, u = (z : Nat) := ⟨u.toNat, by have := vu.2.1; omega⟩
    obtain ⟨v1, rfl⟩ : ∃ z : Nat, v = (z : Nat) := ⟨v.toNat, by have := vv.2.1; omega⟩
    obtain ⟨w1, rfl⟩ : ∃ z : Nat, w = (z : Nat) := ⟨w.toNat, by have := vw.2.1; omega⟩
    have hul : u1 ≤ G.I.k := by have := vu.2.2; omega
    have hvl : v1 ≤ G.I.k := by have := vv.2.2; omega
    have hwl : w1 ≤ G.I.k := by have := vw.2.2; omega
    have hho : G.I.ho = 1 := (i_ho ho vu.1).1
    have zok := i_zd ho
    have hwb := zd_wn_b (u := u1) zok hvl hk6
    obtain ⟨-, ⟨q1, q2, q3, q4⟩, hV⟩ := ri_y hI vu.1
    obtain ⟨n, hn⟩ : ∃ n : Nat, zd_wn G.I.D u1 v1 = (n : Nat) := ⟨(zd_wn G.I.D u1 v1).toNat, by have z : 0 ≤ zd_wn G.I.D u1 v1 := hwn; omega⟩
    have hgw : g_wn G (u1 : Nat) (v1 : Nat) = (n : Nat) := hn
    have hnn : ¬ g_wn G (u1 : Nat) (v1 : Nat) < 0 := by rw [hgw]; omega
    have ea : a_graft G (u1 : Nat) (v1 : Nat) (w1 : Nat) = (if g_rc G.I v1 n w1 ≠ -1 ∨ 60 < G.I.k + n then ((-5 : Int), G) else (((i_gr G.I v1 n w1 n).2 : Nat), ((i_gr G.I v1 n w1 n).1, G.2))) := by
      refine (if_pos hz).trans ((if_neg hnn).trans ?_)
      rw [hgw, Int.toNat_natCast, Int.toNat_natCast, Int.toNat_natCast]
    have rs0 : 0 ≤ g_rs G.I v1 n w1 := g_rs_p ho vu.1 hvl hwl hn
    refine zz_gsn 4 rfl ?_
    refine zz_cv (n := 4) rfl rfl (t_Mo_areThree (u := ((u1 : Nat) : Int)) (v := ((v1 : Nat) : Int)) (w := ((w1 : Nat) : Int)) hI ho) (Nat.le_of_ble_eq_true rfl) (Nat.le_of_ble_eq_true rfl) (Nat.le_of_ble_eq_true rfl) (fun r4 σ4 q4 => ?_)
    obtain ⟨rfl, n4, rfl, e4⟩ := q4
    replace e4 : n4 = 1 := e4.elim (fun z => z.1) (fun z => absurd hz z.2)
    refine zz_br rfl (fun h5 => ?_) (fun h5 => absurd (by first | exact h5 | exact Decidable.not_not.mp h5) (show n4 ≠ 0 by omega))
    refine zz_gsn 3 rfl ?_
    refine zz_cv (n := 3) rfl rfl (t_Mo_laysWay (u := u1) zok hvl hk6 (ri_B hV)) (Nat.le_of_ble_eq_true rfl) (Nat.le_of_ble_eq_true rfl) (Nat.le_of_ble_eq_true rfl) (fun r11 σ11 q11 => ?_)
    obtain ⟨c11, rfl, f11, p11⟩ := q11
    have R11 := Fr.RG hG ok f11.r
    have V11 := Fr.RV hV (f11.r (n := (IH G.I).n)) hk6
    obtain ⟨hc11, n', hn', wm11, ww11⟩ := p11.resolve_right (fun z => absurd (hn.symm.trans z.2) (by omega))
    obtain rfl : n' = n := Int.ofNat_inj.mp (hn'.symm.trans hn)
    refine zz_br rfl (fun h12 => ?_) (fun h12 => absurd (by first | exact h12 | exact Decidable.not_not.mp h12) (show c11 ≠ 0 by omega))
    refine zz_gsn 2 rfl ?_
    refine zz_cv (n := 2) rfl rfl (t_Mo_grafts (on := w1) (n := n') V11 ho hho hvl hwl hn wm11 ww11) (Nat.le_of_ble_eq_true rfl) (Nat.le_of_ble_eq_true rfl) (Nat.le_of_ble_eq_true rfl) (fun r17 σ17 q17 => ?_)
    obtain ⟨rfl, ⟨P1, P2⟩, ⟨R17, Z17⟩, W1, W2⟩ := q17
    have G17 := Fr.RG R11 ok R17
    have F17 := f11.F.tr Z17
    have V17 := Fr.RV V11 R17 hk6
    have wm17 : σ17.1 1251 m = (n' : Nat) := W1.trans wm11
    refine zz_gsn 2 rfl ?_
    refine zz_br rfl (fun h20 => absurd h20 (Int.not_lt.mpr rs0)) (fun h20 => ?_)
    refine zz_gsn 3 rfl ?_
    refine zz_br rfl (fun h24 => ?_) (fun h24 => ?_)
    · refine zz_gsn 1 rfl ?_
      refine zz_ri rfl (Or.inl rfl) ?_
      rw [ea, if_pos (Or.inl (fun z => h24 (P2.trans z)))]
      exact ⟨rfl, G17, F17⟩
    · refine zz_gsn 4 rfl ?_
      rw [wm17, V17.1.2.2]
      refine zz_gsn 1 rfl ?_
      rw [show zw (((G.I.k + 1 : Nat) : Int) + (n' : Nat)) = ((G.I.k + 1 + n' : Nat) : Int) from by rw [zw_id (by omega) (by omega)]; omega]
      refine zz_gsn 1 rfl ?_
      refine zz_br rfl (fun h31 => ?_) (fun h31 => ?_)
      · refine zz_gsn 5 rfl ?_
        rw [wm17]
        refine zz_gsn 2 rfl ?_
        have hrc : g_rc G.I v1 n' w1 = -1 := P2.symm.trans (by first | exact h24 | exact Decidable.not_not.mp h24)
        have hkn : ¬ 60 < G.I.k + n' := by omega
        have hneg : ¬ (g_rc G.I v1 n' w1 ≠ -1 ∨ 60 < G.I.k + n') := fun z => z.elim (fun z => z hrc) (fun z => hkn z)
        rw [ea, if_neg hneg]
        have zwl := zd_w_lt zok hvl hn
        obtain ⟨⟨ho2, fx2⟩, ⟨b1, b2, b3, b4, b5⟩, c1, c2, c3⟩ := i_gr_ok ho hfx hho hwl (by omega) (fun i hi => (zwl.2 i hi).1) (g_rc_n hrc) n' (Nat.le_refl _)
        refine lp_rgr (u := u1) (σ0 := σ17) ho hfx hho hwl (by omega) (by omega) (fun i hi => (zwl.2 i hi).1) (g_rc_n hrc) (fun i hi => (W2 i).trans (ww11 i hi)) (fun σ' V F => ⟨rfl, ?_, F17.tr F.F⟩) n' 0 σ17 (Nat.zero_add _) V17 Fm.rf
        refine G17.h (Or.inr ⟨b1, ⟨?_, ?_, ?_, ?_⟩, ?_⟩) V.2.2.2.2 (fun f hf => F.1 f m (by omega)) (fun a i ha => by rw [F.2 a (by omega)])
        · rw [F.1 _ _ (by omega), R17.1 _ (by unfold pf; omega), f11.1 _ _ (by omega), b2]; exact q1
        · rw [F.1 _ _ (by omega), R17.1 _ (by unfold pf; omega), f11.1 _ _ (by omega), b3]; exact q2
        · rw [F.1 _ _ (by omega), R17.1 _ (by unfold pf; omega), f11.1 _ _ (by omega), b4]; exact q3
        · rw [F.1 _ _ (by omega), R17.1 _ (by unfold pf; omega), f11.1 _ _ (by omega), b4]; exact q4
        · rw [b2, b3, b5]; exact V
      · refine zz_gsn 1 rfl ?_
        refine zz_ri rfl (Or.inl rfl) ?_
        rw [ea, if_pos (Or.inr (by omega))]
        exact ⟨rfl, G17, F17⟩
  · have hz := hv
    obtain ⟨vu, vv, vw⟩ := id hz
    obtain ⟨u1, rfl⟩ : ∃ z : Nat, u = (z : Nat) := ⟨u.toNat, by have := vu.2.1; omega⟩
    obtain ⟨v1, rfl⟩ : ∃ z : Nat, v = (z : Nat) := ⟨v.toNat, by have := vv.2.1; omega⟩
    obtain ⟨w1, rfl⟩ : ∃ z : Nat, w = (z : Nat) := ⟨w.toNat, by have := vw.2.1; omega⟩
    have hul : u1 ≤ G.I.k := by have := vu.2.2; omega
    have hvl : v1 ≤ G.I.k := by have := vv.2.2; omega
    have hwl : w1 ≤ G.I.k := by have := vw.2.2; omega
    have hho : G.I.ho = 1 := (i_ho ho vu.1).1
    have zok := i_zd ho
    have hwb := zd_wn_b (u := u1) zok hvl hk6
    obtain ⟨-, ⟨q1, q2, q3, q4⟩, hV⟩ := ri_y hI vu.1
    have hn : zd_wn G.I.D u1 v1 = -1 := by have z : zd_wn G.I.D u1 v1 < 0 := hwn; omega
    refine zz_gsn 4 rfl ?_
    refine zz_cv (n := 4) rfl rfl (t_Mo_areThree (u := ((u1 : Nat) : Int)) (v := ((v1 : Nat) : Int)) (w := ((w1 : Nat) : Int)) hI ho) (Nat.le_of_ble_eq_true rfl) (Nat.le_of_ble_eq_true rfl) (Nat.le_of_ble_eq_true rfl) (fun r4 σ4 q4 => ?_)
    obtain ⟨rfl, n4, rfl, e4⟩ := q4
    replace e4 : n4 = 1 := e4.elim (fun z => z.1) (fun z => absurd hz z.2)
    refine zz_br rfl (fun h5 => ?_) (fun h5 => absurd (by first | exact h5 | exact Decidable.not_not.mp h5) (show n4 ≠ 0 by omega))
    refine zz_gsn 3 rfl ?_
    refine zz_cv (n := 3) rfl rfl (t_Mo_laysWay (u := u1) zok hvl hk6 (ri_B hV)) (Nat.le_of_ble_eq_true rfl) (Nat.le_of_ble_eq_true rfl) (Nat.le_of_ble_eq_true rfl) (fun r11 σ11 q11 => ?_)
    obtain ⟨c11, rfl, f11, p11⟩ := q11
    have R11 := Fr.RG hG ok f11.r
    have V11 := Fr.RV hV (f11.r (n := (IH G.I).n)) hk6
    have hc11 : c11 = 0 := p11.elim (fun z => by
      obtain ⟨-, n', z, -⟩ := z
      exact absurd (z.symm.trans hn) (by omega)) (fun z => z.1)
    refine zz_br rfl (fun h12 => absurd hc11 h12) (fun h12 => ?_)
    refine zz_gsn 1 rfl ?_
    refine zz_ri rfl (Or.inl rfl) ?_
    rw [show a_graft G (u1 : Nat) (v1 : Nat) (w1 : Nat) = (-3, G) from (if_pos hz).trans (if_pos hwn)]
    exact ⟨rfl, R11, f11.F⟩
  · refine zz_gsn 4 rfl ?_
    refine zz_cv (n := 4) rfl rfl (t_Mo_areThree (u := u) (v := v) (w := w) hI ho) (Nat.le_of_ble_eq_true rfl) (Nat.le_of_ble_eq_true rfl) (Nat.le_of_ble_eq_true rfl) (fun r4 σ4 q4 => ?_)
    obtain ⟨rfl, n4, rfl, e4⟩ := q4
    refine zz_br rfl (fun h5 => absurd (show vz3 G u v w from e4.elim (fun z => z.2) (fun z => absurd z.1 h5)) hv) (fun h5 => ?_)
    refine zz_gsn 1 rfl ?_
    refine zz_ri rfl (Or.inl rfl) ?_
    rw [show a_graft G u v w = (-2, G) from if_neg hv]
    exact ⟨rfl, hG, zz_F.rf⟩
