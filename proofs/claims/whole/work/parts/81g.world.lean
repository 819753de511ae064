/-! the class: graft -/
def a_graft (G : zz_J) (u v w : Int) : Int × zz_J := if vz3 G u v w then (if g_wn G u v < 0 then (-3, G) else if g_rc G.I v.toNat (g_wn G u v).toNat w.toNat ≠ -1 ∨ 60 < G.I.k + (g_wn G u v).toNat then (-5, G) else (((i_gr G.I v.toNat (g_wn G u v).toNat w.toNat (g_wn G u v).toNat).2 : Nat), ((i_gr G.I v.toNat (g_wn G u v).toNat w.toNat (g_wn G u v).toNat).1, G.2))) else (-2, G)
theorem g_rc_n {I : zz_I} {v n on : Nat} (h : g_rc I v n on = -1) : ∀ i, i < n → g_ct (g_e I.D v n) ((IH I).Q on) i = false := fun i hi => by
  unfold g_rc at h
  by_cases z : g_fc I v n on < n
  · rw [if_pos z] at h
    exact absurd h (by omega)
  · exact g_c_f (g_ct (g_e I.D v n) ((IH I).Q on)) n 0 i (Nat.zero_le _) (by
      have z2 : ¬ g_c (g_ct (g_e I.D v n) ((IH I).Q on)) n 0 < n := z
      omega)
theorem t_TQ_graft {X : zz_X} {σ : zz_M} {b : Nat} {B : Int} {G : zz_J} {u v w : Int} (hG : CG σ b B G) (ok : g_ok G) : zz_T X 9 p_TQ_graft [zP 11 0 0 b, zI u, zI v, zI w] σ (fun r σ' => r = some (zI (a_graft G u v w).1) ∧ CG σ' b B (a_graft G u v w).2 ∧ zz_F (A_cl b) σ σ') := by
  refine zz_mk k_TQ_graft o_TQ_graft rfl rfl (Nat.le_of_ble_eq_true rfl) ?_
  show zz_G X 9 p_TQ_graft 0 [zP 11 0 0 b, zI u, zI v, zI w, zU] [] σ _
  obtain ⟨hH, hBt, hBo, hft, him, hmk, htr⟩ := id hG
  obtain ⟨⟨ho, hfx⟩, okt, oko, okm⟩ := id ok
  obtain ⟨hD, hV⟩ := id hH
  obtain ⟨d1, d2, d3, d4, dR⟩ := id hD
  obtain ⟨d5, d6, d7⟩ := id dR
  rcases (show (vz3 G u v w ∧ 0 ≤ g_wn G u v) ∨ (vz3 G u v w ∧ g_wn G u v < 0) ∨ ¬ vz3 G u v w from by rcases Classical.em (vz3 G u v w) with h | h <;> rcases Int.lt_or_le (g_wn G u v) 0 with h2 | h2 <;> first | exact Or.inr (Or.inr h) | exact Or.inl ⟨h, h2⟩ | exact Or.inr (Or.inl ⟨h, h2⟩)) with ⟨hv, hwn⟩ | ⟨hv, hwn⟩ | hv
  · have hz := hv
    obtain ⟨vu, vv, vw⟩ := id hz
    obtain ⟨u1, rfl⟩ : ∃ z : Nat, u = (z : Nat) := ⟨u.toNat, by have := vu.2.1; omega⟩
    obtain ⟨v1, rfl⟩ : ∃ z : Nat, v = (z : Nat) := ⟨v.toNat, by have := vv.2.1; omega⟩
    obtain ⟨w1, rfl⟩ : ∃ z : Nat, w = (z : Nat) := ⟨w.toNat, by have := vw.2.1; omega⟩
    have hul : u1 ≤ G.I.k := by have := vu.2.2; omega
    have hvl : v1 ≤ G.I.k := by have := vv.2.2; omega
    have hwl : w1 ≤ G.I.k := by have := vw.2.2; omega
    have hho : G.I.ho = 1 := (i_ho ho vu.1).1
    have hwb := zd_wn_b (u := u1) (i_zd ho) hvl d6
    obtain ⟨n, hn⟩ : ∃ n : Nat, zd_wn G.I.D u1 v1 = (n : Nat) := ⟨(zd_wn G.I.D u1 v1).toNat, by have z : 0 ≤ zd_wn G.I.D u1 v1 := hwn; omega⟩
    have hgw : g_wn G (u1 : Nat) (v1 : Nat) = (n : Nat) := hn
    have hnn : ¬ g_wn G (u1 : Nat) (v1 : Nat) < 0 := by rw [hgw]; omega
    have ea : a_graft G (u1 : Nat) (v1 : Nat) (w1 : Nat) = (if g_rc G.I v1 n w1 ≠ -1 ∨ 60 < G.I.k + n then ((-5 : Int), G) else (((i_gr G.I v1 n w1 n).2 : Nat), ((i_gr G.I v1 n w1 n).1, G.2))) := by
      refine (if_pos hz).trans ((if_neg hnn).trans ?_)
      rw [hgw, Int.toNat_natCast, Int.toNat_natCast, Int.toNat_natCast]
    refine zz_gsn 5 rfl ?_
    refine zz_cv (n := 4) rfl rfl (t_History_hasAll hD) (Nat.le_of_ble_eq_true rfl) (Nat.le_of_ble_eq_true rfl) (Nat.le_of_ble_eq_true rfl) (fun r5 σ5 q5 => ?_)
    obtain ⟨rfl, n5, rfl, e5⟩ := q5
    replace e5 : n5 = 1 := e5.elim (fun z => z.1) (fun z => absurd hz z.2)
    refine zz_br rfl (fun h6 => ?_) (fun h6 => absurd (by first | exact h6 | exact Decidable.not_not.mp h6) (show n5 ≠ 0 by omega))
    refine zz_gsn 7 rfl ?_
    refine zz_cv (n := 5) rfl rfl (t_Trial_graftWay (t := b + 582) (h := b + 11) hH ho (by omega) hho hul hvl hwl) (Nat.le_of_ble_eq_true rfl) (Nat.le_of_ble_eq_true rfl) (Nat.le_of_ble_eq_true rfl) (fun r16 σ16 q16 => ?_)
    obtain ⟨rfl, p16, g16⟩ := q16
    rw [hn]
    obtain ⟨C16, Z16⟩ := hG.gr g16
    obtain ⟨⟨P1, P2, P3⟩, P4⟩ := p16 n hn
    have D16 := C16.1.1
    refine zz_gsn 3 rfl ?_
    refine zz_br rfl (fun h20 => ?_) (fun h20 => absurd (by first | exact h20 | exact Decidable.not_not.mp h20) (show ((n : Nat) : Int) ≠ -1 by omega))
    refine zz_gsn 4 rfl ?_
    refine zz_br rfl (fun h27 => ?_) (fun h27 => ?_)
    · refine zz_gsn 1 rfl ?_
      refine zz_ri rfl (Or.inl rfl) ?_
      rw [ea, if_pos (Or.inl (fun z => h27 (P3.trans z)))]
      exact ⟨rfl, C16, Z16⟩
    · refine zz_gsn 3 rfl ?_
      refine zz_cv (n := 1) rfl rfl (t_Deeds_versions) (Nat.le_of_ble_eq_true rfl) (Nat.le_of_ble_eq_true rfl) (Nat.le_of_ble_eq_true rfl) (fun r31 σ31 q31 => ?_)
      obtain ⟨rfl, n31, rfl, e31⟩ := q31
      replace e31 : n31 = ((G.I.k + 1 : Nat) : Int) := e31.elim (fun z => by rw [z.2, D16.2.2.2.2.1]; exact zw_s (by omega)) (fun z => absurd (D16.1.symm.trans z.1) (by omega))
      refine zz_gsn 3 rfl ?_
      rw [e31, show zw (((G.I.k + 1 : Nat) : Int) + (n : Nat)) = ((G.I.k + 1 + n : Nat) : Int) from by rw [zw_id (by omega) (by omega)]; omega]
      refine zz_br rfl (fun h35 => ?_) (fun h35 => ?_)
      · refine zz_gsn 4 rfl ?_
        have hrc : g_rc G.I v1 n w1 = -1 := P3.symm.trans (by first | exact h27 | exact Decidable.not_not.mp h27)
        have hkn : ¬ 60 < G.I.k + n := by omega
        refine zz_cv (n := 3) rfl rfl (t_History_actAlongWay C16.1 ho hfx hho hwl (by omega) (fun i hi => ((zd_w_lt (i_zd ho) hvl hn).2 i hi).1) (g_rc_n hrc) P4) (Nat.le_of_ble_eq_true rfl) (Nat.le_of_ble_eq_true rfl) (Nat.le_of_ble_eq_true rfl) (fun r42 σ42 q42 => ?_)
        obtain ⟨rfl, p42, g42, k42⟩ := q42
        refine zz_ri rfl (Or.inl rfl) ?_
        have hneg : ¬ (g_rc G.I v1 n w1 ≠ -1 ∨ 60 < G.I.k + n) := fun z => z.elim (fun z => z hrc) (fun z => by omega)
        rw [ea, if_neg hneg]
        exact ⟨rfl, C16.h p42 g42 k42, Z16.tr (clH g42)⟩
      · refine zz_gsn 1 rfl ?_
        refine zz_ri rfl (Or.inl rfl) ?_
        rw [ea, if_pos (Or.inr (by omega))]
        exact ⟨rfl, C16, Z16⟩
  · have hz := hv
    obtain ⟨vu, vv, vw⟩ := id hz
    obtain ⟨u1, rfl⟩ : ∃ z : Nat, u = (z : Nat) := ⟨u.toNat, by have := vu.2.1; omega⟩
    obtain ⟨v1, rfl⟩ : ∃ z : Nat, v = (z : Nat) := ⟨v.toNat, by have := vv.2.1; omega⟩
    obtain ⟨w1, rfl⟩ : ∃ z : Nat, w = (z : Nat) := ⟨w.toNat, by have := vw.2.1; omega⟩
    have hul : u1 ≤ G.I.k := by have := vu.2.2; omega
    have hvl : v1 ≤ G.I.k := by have := vv.2.2; omega
    have hwl : w1 ≤ G.I.k := by have := vw.2.2; omega
    have hho : G.I.ho = 1 := (i_ho ho vu.1).1
    have hwb := zd_wn_b (u := u1) (i_zd ho) hvl d6
    have hn : zd_wn G.I.D u1 v1 = -1 := by have z : zd_wn G.I.D u1 v1 < 0 := hwn; omega
    refine zz_gsn 5 rfl ?_
    refine zz_cv (n := 4) rfl rfl (t_History_hasAll hD) (Nat.le_of_ble_eq_true rfl) (Nat.le_of_ble_eq_true rfl) (Nat.le_of_ble_eq_true rfl) (fun r5 σ5 q5 => ?_)
    obtain ⟨rfl, n5, rfl, e5⟩ := q5
    replace e5 : n5 = 1 := e5.elim (fun z => z.1) (fun z => absurd hz z.2)
    refine zz_br rfl (fun h6 => ?_) (fun h6 => absurd (by first | exact h6 | exact Decidable.not_not.mp h6) (show n5 ≠ 0 by omega))
    refine zz_gsn 7 rfl ?_
    refine zz_cv (n := 5) rfl rfl (t_Trial_graftWay (t := b + 582) (h := b + 11) hH ho (by omega) hho hul hvl hwl) (Nat.le_of_ble_eq_true rfl) (Nat.le_of_ble_eq_true rfl) (Nat.le_of_ble_eq_true rfl) (fun r16 σ16 q16 => ?_)
    obtain ⟨rfl, p16, g16⟩ := q16
    rw [hn]
    obtain ⟨C16, Z16⟩ := hG.gr g16
    refine zz_gsn 3 rfl ?_
    refine zz_br rfl (fun h20 => absurd rfl h20) (fun h20 => ?_)
    refine zz_gsn 1 rfl ?_
    refine zz_ri rfl (Or.inl rfl) ?_
    rw [show a_graft G (u1 : Nat) (v1 : Nat) (w1 : Nat) = (-3, G) from (if_pos hz).trans (if_pos hwn)]
    exact ⟨rfl, C16, Z16⟩
  · refine zz_gsn 5 rfl ?_
    refine zz_cv (n := 4) rfl rfl (t_History_hasAll hD) (Nat.le_of_ble_eq_true rfl) (Nat.le_of_ble_eq_true rfl) (Nat.le_of_ble_eq_true rfl) (fun r5 σ5 q5 => ?_)
    obtain ⟨rfl, n5, rfl, e5⟩ := q5
    
    refine zz_br rfl (fun h6 => absurd (e5.elim (fun z => z.2) (fun z => absurd z.1 h6)) hv) (fun h6 => ?_)
    refine zz_gsn 1 rfl ?_
    refine zz_ri rfl (Or.inl rfl) ?_
    rw [show a_graft G u v w = (-2, G) from if_neg hv]
    exact ⟨rfl, hG, zz_F.rf⟩
