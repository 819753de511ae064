/-! the class: grafting, grafted -/
abbrev vz3 (G : zz_J) (u v w : Int) : Prop := vz G.I.ho G.I.k u ∧ vz G.I.ho G.I.k v ∧ vz G.I.ho G.I.k w
def g_wn (G : zz_J) (u v : Int) : Int := zd_wn G.I.D u.toNat v.toNat
def a_grafting (G : zz_J) (u v w x : Int) : Int := if vz3 G u v w ∧ 0 ≤ x ∧ x ≤ 3 then (if g_wn G u v < 0 then -1 else if x = 0 then g_wn G u v else if x = 1 then g_rs G.I v.toNat (g_wn G u v).toNat w.toNat else if x = 2 then g_rc G.I v.toNat (g_wn G u v).toNat w.toNat else ((g_rq G.I v.toNat (g_wn G u v).toNat w.toNat).1 : Nat)) else -2
def a_grafted (G : zz_J) (u v w i : Int) : Int := if vz3 G u v w ∧ 0 ≤ i then (if g_wn G u v < 0 then -1 else q_at (g_rq G.I v.toNat (g_wn G u v).toNat w.toNat) i) else -2
theorem zd_wn_c (D : zz_D) (u v : Nat) : (∃ n : Nat, zd_wn D u v = (n : Nat)) ∨ zd_wn D u v = -1 := by
  unfold zd_wn
  split
  · exact Or.inl ⟨_, rfl⟩
  · exact Or.inr rfl
theorem CG.gr {σ σ' : zz_M} {b : Nat} {B : Int} {G : zz_J} (h : CG σ b B G) (hF : zz_F (fun a => A_tr (b + 582) a ∨ a = b + 11 + 17) σ σ') : CG σ' b B G ∧ zz_F (A_cl b) σ σ' := ⟨h.s (hF.mono (fun a z => by unfold A_tr at z; unfold A_cs; omega)), hF.mono (fun a z => by unfold A_tr at z; unfold A_cl; omega)⟩
theorem g_rq_b {I : zz_I} {v n on : Nat} (h : ((IH I).Q on).1 ≤ 60) (hn : n ≤ 60) (hk : g_kd I.law (g_e I.D v n) n) {B0 : Nat} (hI : IV I.law B0 (hw (IH I) on)) (hC : 2 ≤ I.C ∧ I.C ≤ 4) (h11 : (hw (IH I) on).S 11 = (((IH I).Q on).1 : Nat)) : (g_rq I v n on).1 ≤ 120 := by
  have cb := g_c_b (g_ct (g_e I.D v n) ((IH I).Q on)) n 0
  have z := (g_inv (C := I.C) (xs := fun _ => 0) hI hC h11 hk (g_fc I v n on) (by unfold g_fc; omega) (fun x hx => g_c_f _ n 0 x (Nat.zero_le _) hx)).2.2
  have c2 : g_fc I v n on ≤ 60 := by unfold g_fc; omega
  show (gq (g_e I.D v n) ((IH I).Q on) (g_fc I v n on)).1 ≤ 120
  exact Nat.le_trans z (by omega)
theorem t_TQ_grafting {X : zz_X} {σ : zz_M} {b : Nat} {B : Int} {G : zz_J} {u v w x_ : Int} (hG : CG σ b B G) (ok : g_ok G) : zz_T X 9 p_TQ_grafting [zP 11 0 0 b, zI u, zI v, zI w, zI x_] σ (fun r σ' => r = some (zI (a_grafting G u v w x_)) ∧ CG σ' b B G ∧ zz_F (A_cl b) σ σ') := by
  refine zz_mk k_TQ_grafting o_TQ_grafting rfl rfl (Nat.le_of_ble_eq_true rfl) ?_
  show zz_G X 9 p_TQ_grafting 0 [zP 11 0 0 b, zI u, zI v, zI w, zI x_, zU] [] σ _
  obtain ⟨hH, hBt, hBo, hft, him, hmk, htr⟩ := id hG
  obtain ⟨⟨ho, hfx⟩, okt, oko, okm⟩ := id ok
  obtain ⟨hD, hV⟩ := id hH
  obtain ⟨d1, d2, d3, d4, dR⟩ := id hD
  obtain ⟨d5, d6, d7⟩ := id dR
  rcases (show ((vz3 G u v w ∧ 0 ≤ x_ ∧ x_ ≤ 3) ∧ 0 ≤ g_wn G u v) ∨ ((vz3 G u v w ∧ 0 ≤ x_ ∧ x_ ≤ 3) ∧ g_wn G u v < 0) ∨ ¬ (vz3 G u v w ∧ 0 ≤ x_ ∧ x_ ≤ 3) from by rcases Classical.em (vz3 G u v w ∧ 0 ≤ x_ ∧ x_ ≤ 3) with h | h <;> rcases Int.lt_or_le (g_wn G u v) 0 with h2 | h2 <;> first | exact Or.inr (Or.inr h) | exact Or.inl ⟨h, h2⟩ | exact Or.inr (Or.inl ⟨h, h2⟩)) with ⟨hv, hwn⟩ | ⟨hv, hwn⟩ | hv
  · obtain ⟨hz, hx0⟩ := id hv
    obtain ⟨vu, vv, vw⟩ := id hz
    obtain ⟨u1, rfl⟩ : ∃ z : Nat, u = (z : Nat) := ⟨u.toNat, by have := vu.2.1; omega⟩
    obtain ⟨v1, rfl⟩ : ∃ z : Nat, v = (z : Nat) := ⟨v.toNat, by have := vv.2.1; omega⟩
    obtain ⟨w1, rfl⟩ : ∃ z : Nat, w = (z : Nat) := ⟨w.toNat, by have := vw.2.1; omega⟩
    have hul : u1 ≤ G.I.k := by have := vu.2.2; omega
    have hvl : v1 ≤ G.I.k := by have := vv.2.2; omega
    have hwl : w1 ≤ G.I.k := by have := vw.2.2; omega
    have hho : G.I.ho = 1 := (i_ho ho vu.1).1
    have hwb := zd_wn_b (u := u1) (i_zd ho) hvl d6
    obtain ⟨n, hn⟩ : ∃ n : Nat, zd_wn G.I.D u1 v1 = (n : Nat) := ⟨(zd_wn G.I.D u1 v1).toNat, by have z : 0 ≤ zd_wn G.I.D u1 v1 := hwn; omega⟩
    have hgw : g_wn G (u1 : Nat) (v1 : Nat) = (n : Nat) := hn
    have hnn : ¬ g_wn G (u1 : Nat) (v1 : Nat) < 0 := by rw [hgw]; omega
    refine zz_gsn 5 rfl ?_
    refine zz_cv (n := 4) rfl rfl (t_History_hasAll hD) (Nat.le_of_ble_eq_true rfl) (Nat.le_of_ble_eq_true rfl) (Nat.le_of_ble_eq_true rfl) (fun r5 σ5 q5 => ?_)
    obtain ⟨rfl, n5, rfl, e5⟩ := q5
    replace e5 : n5 = 1 := e5.elim (fun z => z.1) (fun z => absurd hz z.2)
    refine zz_br rfl (fun h6 => absurd h6 (show n5 ≠ 0 by omega)) (fun h6 => ?_)
    refine zz_gsn 1 rfl ?_
    refine zz_br rfl (fun h8 => absurd h8 (by omega)) (fun h8 => ?_)
    refine zz_gsn 2 rfl ?_
    refine zz_br rfl (fun h11 => ?_) (fun h11 => absurd h11 (by omega))
    refine zz_gsn 7 rfl ?_
    refine zz_cv (n := 5) rfl rfl (t_Trial_graftWay (t := b + 582) (h := b + 11) hH ho (by omega) hho hul hvl hwl) (Nat.le_of_ble_eq_true rfl) (Nat.le_of_ble_eq_true rfl) (Nat.le_of_ble_eq_true rfl) (fun r21 σ21 q21 => ?_)
    obtain ⟨rfl, p21, g21⟩ := q21
    rw [hn]
    obtain ⟨C21, Z21⟩ := hG.gr g21
    refine zz_gsn 3 rfl ?_
    refine zz_br rfl (fun h25 => absurd h25 (by omega)) (fun h25 => ?_)
    refine zz_gsn 1 rfl ?_
    refine zz_br rfl (fun h27 => ?_) (fun h27 => ?_)
    · refine zz_gsn 2 rfl ?_
      refine zz_br rfl (fun h32 => ?_) (fun h32 => ?_)
      · refine zz_gsn 2 rfl ?_
        refine zz_br rfl (fun h39 => ?_) (fun h39 => ?_)
        · refine zz_gsn 4 rfl ?_
          refine zz_ri rfl (Or.inl rfl) ?_
          refine ⟨congrArg (fun z => some (zI z)) (Eq.trans ?_ (if_pos hv).symm), C21, Z21⟩
          rw [if_neg hnn]
          show _ = if x_ = 0 then g_wn G (u1 : Nat) (v1 : Nat) else if x_ = 1 then g_rs G.I v1 (g_wn G (u1 : Nat) (v1 : Nat)).toNat w1 else if x_ = 2 then g_rc G.I v1 (g_wn G (u1 : Nat) (v1 : Nat)).toNat w1 else (((g_rq G.I v1 (g_wn G (u1 : Nat) (v1 : Nat)).toNat w1).1 : Nat) : Int)
          rw [hgw, Int.toNat_natCast]
          obtain ⟨⟨P1, P2, P3⟩, P4⟩ := p21 n hn
          rw [if_neg h27, if_neg h32, if_neg h39]
          exact P1.1
        · refine zz_gsn 3 rfl ?_
          refine zz_jp rfl ?_
          refine zz_ri rfl (Or.inl rfl) ?_
          refine ⟨congrArg (fun z => some (zI z)) (Eq.trans ?_ (if_pos hv).symm), C21, Z21⟩
          rw [if_neg hnn]
          show _ = if x_ = 0 then g_wn G (u1 : Nat) (v1 : Nat) else if x_ = 1 then g_rs G.I v1 (g_wn G (u1 : Nat) (v1 : Nat)).toNat w1 else if x_ = 2 then g_rc G.I v1 (g_wn G (u1 : Nat) (v1 : Nat)).toNat w1 else (((g_rq G.I v1 (g_wn G (u1 : Nat) (v1 : Nat)).toNat w1).1 : Nat) : Int)
          rw [hgw, Int.toNat_natCast]
          obtain ⟨⟨P1, P2, P3⟩, P4⟩ := p21 n hn
          rw [if_neg h27, if_neg h32, if_pos (by first | exact h39 | exact Decidable.not_not.mp h39)]
          exact P3
      · refine zz_gsn 3 rfl ?_
        refine zz_ri rfl (Or.inl rfl) ?_
        refine ⟨congrArg (fun z => some (zI z)) (Eq.trans ?_ (if_pos hv).symm), C21, Z21⟩
        rw [if_neg hnn]
        show _ = if x_ = 0 then g_wn G (u1 : Nat) (v1 : Nat) else if x_ = 1 then g_rs G.I v1 (g_wn G (u1 : Nat) (v1 : Nat)).toNat w1 else if x_ = 2 then g_rc G.I v1 (g_wn G (u1 : Nat) (v1 : Nat)).toNat w1 else (((g_rq G.I v1 (g_wn G (u1 : Nat) (v1 : Nat)).toNat w1).1 : Nat) : Int)
        rw [hgw, Int.toNat_natCast]
        obtain ⟨⟨P1, P2, P3⟩, P4⟩ := p21 n hn
        rw [if_neg h27, if_pos (by first | exact h32 | exact Decidable.not_not.mp h32)]
        exact P2
    · refine zz_gsn 1 rfl ?_
      refine zz_ri rfl (Or.inl rfl) ?_
      refine ⟨congrArg (fun z => some (zI z)) (Eq.trans ?_ (if_pos hv).symm), C21, Z21⟩
      rw [if_neg hnn]
      show _ = if x_ = 0 then g_wn G (u1 : Nat) (v1 : Nat) else if x_ = 1 then g_rs G.I v1 (g_wn G (u1 : Nat) (v1 : Nat)).toNat w1 else if x_ = 2 then g_rc G.I v1 (g_wn G (u1 : Nat) (v1 : Nat)).toNat w1 else (((g_rq G.I v1 (g_wn G (u1 : Nat) (v1 : Nat)).toNat w1).1 : Nat) : Int)
      rw [hgw, Int.toNat_natCast]
      obtain ⟨⟨P1, P2, P3⟩, P4⟩ := p21 n hn
      rw [if_pos (by first | exact h27 | exact Decidable.not_not.mp h27)]
  · obtain ⟨hz, hx0⟩ := id hv
    obtain ⟨vu, vv, vw⟩ := id hz
    obtain ⟨u1, rfl⟩ : ∃ z : Nat, u = (z : Nat) := ⟨u.toNat, by have := vu.2.1; omega⟩
    obtain ⟨v1, rfl⟩ : ∃ z : Nat, v = (z : Nat) := ⟨v.toNat, by have := vv.2.1; omega⟩
    obtain ⟨w1, rfl⟩ : ∃ z : Nat, w = (z : Nat) := ⟨w.toNat, by have := vw.2.1; omega⟩
    have hul : u1 ≤ G.I.k := by have := vu.2.2; omega
    have hvl : v1 ≤ G.I.k := by have := vv.2.2; omega
    have hwl : w1 ≤ G.I.k := by have := vw.2.2; omega
    have hho : G.I.ho = 1 := (i_ho ho vu.1).1
    have hwb := zd_wn_b (u := u1) (i_zd ho) hvl d6
    have hn : zd_wn G.I.D u1 v1 = -1 := by have z : zd_wn G.I.D u1 v1 < 0 := hwn; omega
    refine zz_gsn 5 rfl ?_
    refine zz_cv (n := 4) rfl rfl (t_History_hasAll hD) (Nat.le_of_ble_eq_true rfl) (Nat.le_of_ble_eq_true rfl) (Nat.le_of_ble_eq_true rfl) (fun r5 σ5 q5 => ?_)
    obtain ⟨rfl, n5, rfl, e5⟩ := q5
    replace e5 : n5 = 1 := e5.elim (fun z => z.1) (fun z => absurd hz z.2)
    refine zz_br rfl (fun h6 => absurd h6 (show n5 ≠ 0 by omega)) (fun h6 => ?_)
    refine zz_gsn 1 rfl ?_
    refine zz_br rfl (fun h8 => absurd h8 (by omega)) (fun h8 => ?_)
    refine zz_gsn 2 rfl ?_
    refine zz_br rfl (fun h11 => ?_) (fun h11 => absurd h11 (by omega))
    refine zz_gsn 7 rfl ?_
    refine zz_cv (n := 5) rfl rfl (t_Trial_graftWay (t := b + 582) (h := b + 11) hH ho (by omega) hho hul hvl hwl) (Nat.le_of_ble_eq_true rfl) (Nat.le_of_ble_eq_true rfl) (Nat.le_of_ble_eq_true rfl) (fun r21 σ21 q21 => ?_)
    obtain ⟨rfl, p21, g21⟩ := q21
    rw [hn]
    obtain ⟨C21, Z21⟩ := hG.gr g21
    refine zz_gsn 3 rfl ?_
    refine zz_br rfl (fun h25 => ?_) (fun h25 => absurd rfl h25)
    refine zz_gsn 1 rfl ?_
    refine zz_ri rfl (Or.inl rfl) ?_
    exact ⟨congrArg (fun z => some (zI z)) (Eq.trans (if_pos hwn).symm (if_pos hv).symm), C21, Z21⟩
  · refine zz_gsn 5 rfl ?_
    refine zz_cv (n := 4) rfl rfl (t_History_hasAll hD) (Nat.le_of_ble_eq_true rfl) (Nat.le_of_ble_eq_true rfl) (Nat.le_of_ble_eq_true rfl) (fun r5 σ5 q5 => ?_)
    obtain ⟨rfl, n5, rfl, e5⟩ := q5
    
    refine zz_br rfl (fun h6 => ?_) (fun h6 => ?_)
    · refine zz_gsn 1 rfl ?_
      refine zz_ri rfl (Or.inl rfl) ?_
      exact ⟨congrArg (fun z => some (zI z)) (if_neg hv).symm, hG, zz_F.rf⟩
    · refine zz_gsn 1 rfl ?_
      refine zz_br rfl (fun h8 => ?_) (fun h8 => ?_)
      · refine zz_gsn 1 rfl ?_
        refine zz_ri rfl (Or.inl rfl) ?_
        exact ⟨congrArg (fun z => some (zI z)) (if_neg hv).symm, hG, zz_F.rf⟩
      · refine zz_gsn 2 rfl ?_
        refine zz_br rfl (fun h11 => absurd (show vz3 G u v w ∧ 0 ≤ x_ ∧ x_ ≤ 3 from ⟨e5.elim (fun z => z.2) (fun z => absurd z.1 h6), by omega, by omega⟩) hv) (fun h11 => ?_)
        refine zz_gsn 1 rfl ?_
        refine zz_ri rfl (Or.inl rfl) ?_
        exact ⟨congrArg (fun z => some (zI z)) (if_neg hv).symm, hG, zz_F.rf⟩
theorem t_TQ_grafted {X : zz_X} {σ : zz_M} {b : Nat} {B : Int} {G : zz_J} {u v w i : Int} (hG : CG σ b B G) (ok : g_ok G) : zz_T X 9 p_TQ_grafted [zP 11 0 0 b, zI u, zI v, zI w, zI i] σ (fun r σ' => r = some (zI (a_grafted G u v w i)) ∧ CG σ' b B G ∧ zz_F (A_cl b) σ σ') := by
  refine zz_mk k_TQ_grafted o_TQ_grafted rfl rfl (Nat.le_of_ble_eq_true rfl) ?_
  show zz_G X 9 p_TQ_grafted 0 [zP 11 0 0 b, zI u, zI v, zI w, zI i, zU] [] σ _
  obtain ⟨hH, hBt, hBo, hft, him, hmk, htr⟩ := id hG
  obtain ⟨⟨ho, hfx⟩, okt, oko, okm⟩ := id ok
  obtain ⟨hD, hV⟩ := id hH
  obtain ⟨d1, d2, d3, d4, dR⟩ := id hD
  obtain ⟨d5, d6, d7⟩ := id dR
  rcases (show ((vz3 G u v w ∧ 0 ≤ i) ∧ 0 ≤ g_wn G u v) ∨ ((vz3 G u v w ∧ 0 ≤ i) ∧ g_wn G u v < 0) ∨ ¬ (vz3 G u v w ∧ 0 ≤ i) from by rcases Classical.em (vz3 G u v w ∧ 0 ≤ i) with h | h <;> rcases Int.lt_or_le (g_wn G u v) 0 with h2 | h2 <;> first | exact Or.inr (Or.inr h) | exact Or.inl ⟨h, h2⟩ | exact Or.inr (Or.inl ⟨h, h2⟩)) with ⟨hv, hwn⟩ | ⟨hv, hwn⟩ | hv
  · obtain ⟨hz, hx0⟩ := id hv
    obtain ⟨vu, vv, vw⟩ := id hz
    obtain ⟨u1, rfl⟩ : ∃ z : Nat, u = (z : Nat) := ⟨u.toNat, by have := vu.2.1; omega⟩
    obtain ⟨v1, rfl⟩ : ∃ z : Nat, v = (z : Nat) := ⟨v.toNat, by have := vv.2.1; omega⟩
    obtain ⟨w1, rfl⟩ : ∃ z : Nat, w = (z : Nat) := ⟨w.toNat, by have := vw.2.1; omega⟩
    have hul : u1 ≤ G.I.k := by have := vu.2.2; omega
    have hvl : v1 ≤ G.I.k := by have := vv.2.2; omega
    have hwl : w1 ≤ G.I.k := by have := vw.2.2; omega
    have hho : G.I.ho = 1 := (i_ho ho vu.1).1
    have hwb := zd_wn_b (u := u1) (i_zd ho) hvl d6
    obtain ⟨n, hn⟩ : ∃ n : Nat, zd_wn G.I.D u1 v1 = (n : Nat) := ⟨(zd_wn G.I.D u1 v1).toNat, by have z : 0 ≤ zd_wn G.I.D u1 v1 := hwn; omega⟩
    have hgw : g_wn G (u1 : Nat) (v1 : Nat) = (n : Nat) := hn
    have hnn : ¬ g_wn G (u1 : Nat) (v1 : Nat) < 0 := by rw [hgw]; omega
    refine zz_gsn 5 rfl ?_
    refine zz_cv (n := 4) rfl rfl (t_History_hasAll hD) (Nat.le_of_ble_eq_true rfl) (Nat.le_of_ble_eq_true rfl) (Nat.le_of_ble_eq_true rfl) (fun r5 σ5 q5 => ?_)
    obtain ⟨rfl, n5, rfl, e5⟩ := q5
    replace e5 : n5 = 1 := e5.elim (fun z => z.1) (fun z => absurd hz z.2)
    refine zz_br rfl (fun h6 => absurd h6 (show n5 ≠ 0 by omega)) (fun h6 => ?_)
    refine zz_gsn 1 rfl ?_
    refine zz_br rfl (fun h8 => ?_) (fun h8 => absurd h8 (by omega))
    refine zz_gsn 7 rfl ?_
    refine zz_cv (n := 5) rfl rfl (t_Trial_graftWay (t := b + 582) (h := b + 11) hH ho (by omega) hho hul hvl hwl) (Nat.le_of_ble_eq_true rfl) (Nat.le_of_ble_eq_true rfl) (Nat.le_of_ble_eq_true rfl) (fun r18 σ18 q18 => ?_)
    obtain ⟨rfl, p18, g18⟩ := q18
    rw [hn]
    obtain ⟨C18, Z18⟩ := hG.gr g18
    refine zz_gsn 3 rfl ?_
    refine zz_br rfl (fun h22 => ?_) (fun h22 => absurd (by first | exact h22 | exact Decidable.not_not.mp h22) (show ((n : Nat) : Int) ≠ -1 by omega))
    refine zz_gsn 4 rfl ?_
    refine zz_cv (n := 2) rfl rfl (t_Numbers_numberAt) (Nat.le_of_ble_eq_true rfl) (Nat.le_of_ble_eq_true rfl) (Nat.le_of_ble_eq_true rfl) (fun r29 σ29 q29 => ?_)
    obtain ⟨rfl, n29, rfl, e29⟩ := q29
    refine zz_ri rfl (Or.inl rfl) ?_
    refine ⟨congrArg (fun z => some (zI z)) (Eq.trans ?_ (if_pos hv).symm), C18, Z18⟩
    rw [if_neg hnn]
    show _ = q_at (g_rq G.I v1 (g_wn G (u1 : Nat) (v1 : Nat)).toNat w1) i
    rw [hgw, Int.toNat_natCast]
    have hCC := i_ho ho vu.1
    obtain ⟨hI0, h11, -⟩ := (h_inv ho.1).1 w1 hwl
    have hql := h_ql ho hwl
    exact q_at_of (p18 n hn).1.1 (g_rq_b (by omega) (by omega) (g_kd_w ho hvl hn) hI0 ⟨hCC.2.1, hCC.2.2.1⟩ h11) e29
  · obtain ⟨hz, hx0⟩ := id hv
    obtain ⟨vu, vv, vw⟩ := id hz
    obtain ⟨u1, rfl⟩ : ∃ z : Nat, u = (z : Nat) := ⟨u.toNat, by have := vu.2.1; omega⟩
    obtain ⟨v1, rfl⟩ : ∃ z : Nat, v = (z : Nat) := ⟨v.toNat, by have := vv.2.1; omega⟩
    obtain ⟨w1, rfl⟩ : ∃ z : Nat, w = (z : Nat) := ⟨w.toNat, by have := vw.2.1; omega⟩
    have hul : u1 ≤ G.I.k := by have := vu.2.2; omega
    have hvl : v1 ≤ G.I.k := by have := vv.2.2; omega
    have hwl : w1 ≤ G.I.k := by have := vw.2.2; omega
    have hho : G.I.ho = 1 := (i_ho ho vu.1).1
    have hwb := zd_wn_b (u := u1) (i_zd ho) hvl d6
    have hn : zd_wn G.I.D u1 v1 = -1 := by have z : zd_wn G.I.D u1 v1 < 0 := hwn; omega
    refine zz_gsn 5 rfl ?_
    refine zz_cv (n := 4) rfl rfl (t_History_hasAll hD) (Nat.le_of_ble_eq_true rfl) (Nat.le_of_ble_eq_true rfl) (Nat.le_of_ble_eq_true rfl) (fun r5 σ5 q5 => ?_)
    obtain ⟨rfl, n5, rfl, e5⟩ := q5
    replace e5 : n5 = 1 := e5.elim (fun z => z.1) (fun z => absurd hz z.2)
    refine zz_br rfl (fun h6 => absurd h6 (show n5 ≠ 0 by omega)) (fun h6 => ?_)
    refine zz_gsn 1 rfl ?_
    refine zz_br rfl (fun h8 => ?_) (fun h8 => absurd h8 (by omega))
    refine zz_gsn 7 rfl ?_
    refine zz_cv (n := 5) rfl rfl (t_Trial_graftWay (t := b + 582) (h := b + 11) hH ho (by omega) hho hul hvl hwl) (Nat.le_of_ble_eq_true rfl) (Nat.le_of_ble_eq_true rfl) (Nat.le_of_ble_eq_true rfl) (fun r18 σ18 q18 => ?_)
    obtain ⟨rfl, p18, g18⟩ := q18
    rw [hn]
    obtain ⟨C18, Z18⟩ := hG.gr g18
    refine zz_gsn 3 rfl ?_
    refine zz_br rfl (fun h22 => absurd rfl h22) (fun h22 => ?_)
    refine zz_gsn 1 rfl ?_
    refine zz_jp rfl ?_
    refine zz_ri rfl (Or.inl rfl) ?_
    exact ⟨congrArg (fun z => some (zI z)) (Eq.trans (if_pos hwn).symm (if_pos hv).symm), C18, Z18⟩
  · refine zz_gsn 5 rfl ?_
    refine zz_cv (n := 4) rfl rfl (t_History_hasAll hD) (Nat.le_of_ble_eq_true rfl) (Nat.le_of_ble_eq_true rfl) (Nat.le_of_ble_eq_true rfl) (fun r5 σ5 q5 => ?_)
    obtain ⟨rfl, n5, rfl, e5⟩ := q5
    
    refine zz_br rfl (fun h6 => ?_) (fun h6 => ?_)
    · refine zz_gsn 1 rfl ?_
      refine zz_ri rfl (Or.inl rfl) ?_
      exact ⟨congrArg (fun z => some (zI z)) (if_neg hv).symm, hG, zz_F.rf⟩
    · refine zz_gsn 1 rfl ?_
      refine zz_br rfl (fun h8 => absurd (show vz3 G u v w ∧ 0 ≤ i from ⟨e5.elim (fun z => z.2) (fun z => absurd z.1 h6), by omega⟩) hv) (fun h8 => ?_)
      refine zz_gsn 1 rfl ?_
      refine zz_ri rfl (Or.inl rfl) ?_
      exact ⟨congrArg (fun z => some (zI z)) (if_neg hv).symm, hG, zz_F.rf⟩
