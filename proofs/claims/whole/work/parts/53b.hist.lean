/-! the class: a deed that takes -/
theorem aq_c {I : zz_I} {kind v : Int} (hkd : kind = 1 ∨ (kind = 3 ∧ I.law = 2)) : ¬ vz I.ho I.k v ∨ (vz I.ho I.k v ∧ ((IH I).Q v.toNat).1 = 0) ∨ (vz I.ho I.k v ∧ ((IH I).Q v.toNat).1 ≠ 0 ∧ I.k = 60) ∨ (vz I.ho I.k v ∧ ((IH I).Q v.toNat).1 ≠ 0 ∧ I.k ≠ 60 ∧ kind = 1) ∨ (vz I.ho I.k v ∧ ((IH I).Q v.toNat).1 ≠ 0 ∧ I.k ≠ 60 ∧ (kind = 3 ∧ I.law = 2)) := by
  by_cases a : vz I.ho I.k v
  · by_cases b : ((IH I).Q v.toNat).1 = 0
    · exact Or.inr (Or.inl ⟨a, b⟩)
    · by_cases c : I.k = 60
      · exact Or.inr (Or.inr (Or.inl ⟨a, b, c⟩))
      · rcases hkd with e | e
        · exact Or.inr (Or.inr (Or.inr (Or.inl ⟨a, b, c, e⟩)))
        · exact Or.inr (Or.inr (Or.inr (Or.inr ⟨a, b, c, e⟩)))
  · exact Or.inl a
theorem t_History_actTaking {X : zz_X} {σ : zz_M} {h : Nat} {I : zz_I} {kind v : Int} (hH : CH σ h I) (ho : i_ok I) (hkd0 : kind = 1 ∨ (kind = 3 ∧ I.law = 2)) : zz_T X 8 p_History_actTaking [zP 3 0 0 h, zI kind, zI v] σ (fun r σ' => r = some (zI (aq I kind v).1) ∧ CH σ' h (aq I kind v).2 ∧ zz_F (A_hc h) σ σ' ∧ σ'.1 105 (h + 6) = σ.1 105 (h + 6)) := by
  refine zz_mk k_History_actTaking o_History_actTaking rfl rfl (Nat.le_of_ble_eq_true rfl) ?_
  show zz_G X 8 p_History_actTaking 0 [zP 3 0 0 h, zI kind, zI v, zU, zU] [] σ _
  obtain ⟨hD, hV⟩ := id hH
  obtain ⟨d1, d2, d3, d4, dR⟩ := id hD
  obtain ⟨d5, d6, d7⟩ := id dR
  rcases aq_c (v := v) hkd0 with hv | ⟨hv, hq⟩ | ⟨hv, hq, hk⟩ | ⟨hv, hq, hk, hkd⟩ | ⟨hv, hq, hk, hkd⟩
  · refine zz_gsn 2 rfl ?_
    refine zz_cv (n := 2) rfl rfl (t_History_queueOf_n hD hv) (Nat.le_of_ble_eq_true rfl) (Nat.le_of_ble_eq_true rfl) (Nat.le_of_ble_eq_true rfl) (fun r2 σ2 q2 => ?_)
    obtain ⟨rfl, rfl⟩ := q2
    refine zz_gsn 2 rfl ?_
    refine zz_jp rfl ?_
    refine zz_gsn 1 rfl ?_
    refine zz_ri rfl (Or.inl rfl) ?_
    rw [aq_n hv]
    exact ⟨rfl, hH, CH.rf⟩
  · obtain ⟨w, rfl⟩ : ∃ w : Nat, v = (w : Nat) := ⟨v.toNat, by omega⟩
    rw [Int.toNat_natCast] at hq
    obtain ⟨-, w1, w2⟩ := id hv
    obtain ⟨hq1, hq2⟩ := (hV.2.2.1 w (by omega)).2
    refine zz_gsn 2 rfl ?_
    refine zz_cv (n := 2) rfl rfl (t_History_queueOf_y (v := w) hD hv) (Nat.le_of_ble_eq_true rfl) (Nat.le_of_ble_eq_true rfl) (Nat.le_of_ble_eq_true rfl) (fun r2 σ2 q2 => ?_)
    obtain ⟨rfl, rfl⟩ := q2
    refine zz_gsn 2 rfl ?_
    refine zz_jp rfl ?_
    refine zz_gsn 2 rfl ?_
    refine zz_br rfl (fun h10 => ?_) (fun h10 => absurd (hq1.trans (congrArg (fun z : Nat => (z : Int)) hq)) h10)
    refine zz_gsn 1 rfl ?_
    refine zz_ri rfl (Or.inl rfl) ?_
    rw [aq_f hv (Or.inl hq)]
    exact ⟨rfl, hH, CH.rf⟩
  · obtain ⟨w, rfl⟩ : ∃ w : Nat, v = (w : Nat) := ⟨v.toNat, by omega⟩
    rw [Int.toNat_natCast] at hq
    obtain ⟨-, w1, w2⟩ := id hv
    obtain ⟨hq1, hq2⟩ := (hV.2.2.1 w (by omega)).2
    refine zz_gsn 2 rfl ?_
    refine zz_cv (n := 2) rfl rfl (t_History_queueOf_y (v := w) hD hv) (Nat.le_of_ble_eq_true rfl) (Nat.le_of_ble_eq_true rfl) (Nat.le_of_ble_eq_true rfl) (fun r2 σ2 q2 => ?_)
    obtain ⟨rfl, rfl⟩ := q2
    refine zz_gsn 2 rfl ?_
    refine zz_jp rfl ?_
    refine zz_gsn 2 rfl ?_
    refine zz_br rfl (fun h10 => absurd (hq1.symm.trans h10) (by omega)) (fun h10 => ?_)
    refine zz_gsn 2 rfl ?_
    refine zz_cv (n := 1) rfl rfl (t_Deeds_versions) (Nat.le_of_ble_eq_true rfl) (Nat.le_of_ble_eq_true rfl) (Nat.le_of_ble_eq_true rfl) (fun r13 σ13 q13 => ?_)
    obtain ⟨rfl, n13, rfl, e13⟩ := q13
    have e13 : n13 = (I.k : Int) + 1 := by
      rcases e13 with ⟨z1, z2⟩ | ⟨z1, z2⟩
      · rw [z2, d5]
        exact zw_id (by omega) (by omega)
      · exact absurd (d1.symm.trans z1) hv.1
    refine zz_gsn 1 rfl ?_
    refine zz_br rfl (fun h15 => absurd h15 (by omega)) (fun h15 => ?_)
    refine zz_gsn 1 rfl ?_
    refine zz_ri rfl (Or.inl rfl) ?_
    rw [aq_f hv (Or.inr hk)]
    exact ⟨rfl, hH, CH.rf⟩
  · obtain ⟨w, rfl⟩ : ∃ w : Nat, v = (w : Nat) := ⟨v.toNat, by omega⟩
    rw [Int.toNat_natCast] at hq
    obtain ⟨-, w1, w2⟩ := id hv
    obtain ⟨hq1, hq2⟩ := (hV.2.2.1 w (by omega)).2
    have hho := hv.1
    have hC := (i_ho ho hho).2
    have hC : 2 ≤ I.C ∧ I.C ≤ 4 := ⟨hC.1, hC.2.1⟩
    have hk : I.k < 60 := by omega
    have hin : h_in I.law I.k (IH I) := h_inv ho.1
    have hql : ((IH I).Q w).1 ≤ 60 := by
      obtain ⟨a1, a2, -⟩ := hin.1 w (by omega)
      have := a1.2.2
      rw [a2] at this
      omega
    refine zz_gsn 2 rfl ?_
    refine zz_cv (n := 2) rfl rfl (t_History_queueOf_y (v := w) hD hv) (Nat.le_of_ble_eq_true rfl) (Nat.le_of_ble_eq_true rfl) (Nat.le_of_ble_eq_true rfl) (fun r2 σ2 q2 => ?_)
    obtain ⟨rfl, rfl⟩ := q2
    refine zz_gsn 2 rfl ?_
    refine zz_jp rfl ?_
    refine zz_gsn 2 rfl ?_
    refine zz_br rfl (fun h10 => absurd (hq1.symm.trans h10) (by omega)) (fun h10 => ?_)
    refine zz_gsn 2 rfl ?_
    refine zz_cv (n := 1) rfl rfl (t_Deeds_versions) (Nat.le_of_ble_eq_true rfl) (Nat.le_of_ble_eq_true rfl) (Nat.le_of_ble_eq_true rfl) (fun r13 σ13 q13 => ?_)
    obtain ⟨rfl, n13, rfl, e13⟩ := q13
    have e13 : n13 = (I.k : Int) + 1 := by
      rcases e13 with ⟨z1, z2⟩ | ⟨z1, z2⟩
      · rw [z2, d5]
        exact zw_id (by omega) (by omega)
      · exact absurd (d1.symm.trans z1) hv.1
    refine zz_gsn 1 rfl ?_
    refine zz_br rfl (fun h15 => ?_) (fun h15 => absurd h15 (by omega))
    refine zz_gsn 3 rfl ?_
    refine zz_br rfl (fun h21 => absurd hkd h21) (fun h21 => ?_)
    refine zz_gsn 1 rfl ?_
    refine zz_jp rfl ?_
    refine zz_cv (n := 2) rfl rfl (t_Numbers_numberAt) (Nat.le_of_ble_eq_true rfl) (Nat.le_of_ble_eq_true rfl) (Nat.le_of_ble_eq_true rfl) (fun r28 σ28 q28 => ?_)
    obtain ⟨rfl, n28, rfl, e28⟩ := q28
    have e28 : n28 = zq_num kind 0 ((IH I).Q w) := by
      rcases e28 with ⟨z1, z2, z3, z4⟩ | ⟨z1, z2⟩
      · rw [z4]
        subst hkd
        exact hq2 0 (by omega)
      · exact absurd ⟨by omega, by omega, by omega⟩ z1
    subst e28
    refine zz_gsn 6 rfl ?_
    refine zz_cv (n := 4) rfl rfl (t_Deeds_add (base := w) dR hk) (Nat.le_of_ble_eq_true rfl) (Nat.le_of_ble_eq_true rfl) (Nat.le_of_ble_eq_true rfl) (fun r35 σ35 q35 => ?_)
    obtain ⟨rfl, p35, g35, b35⟩ := q35
    have D1 : DF σ35 (h + 1) I.ho I.law I.C (I.told : Nat) (I.k + 1) (zu I.D I.k (kind, w, zq_num kind 0 ((IH I).Q w))) := ⟨(b35 200 (by decide)).trans d1, (b35 201 (by decide)).trans d2, (b35 202 (by decide)).trans d3, (b35 203 (by decide)).trans d4, p35⟩
    have V1 : CV σ35 h I.law I.C I.k (IH I) := hV.f d6 g35 (fun a z y => by have z2 : h + 1 ≤ a ∧ a ≤ h + 1 + 3 := z; omega)
    
    refine zz_gsn 6 rfl ?_
    refine zz_ste (st' := [zI (I.k : Nat), zP 3 0 0 h]) (congrArg (fun z : Int => ([zI z, zP 3 0 0 h] : List zz_V)) ((congrArg (fun z : Int => zw (z - 1)) p35.1).trans (zw_p (n := I.k + 1) (Nat.succ_pos _) (by omega)))) ?_
    refine zz_cv (n := 2) rfl rfl (t_History_enact (σ := σ35) (D := zu I.D I.k (kind, w, zq_num kind 0 ((IH I).Q w))) (H := IH I) D1 hho (Nat.lt_succ_self I.k) V1 hin hC (by rw [zu_s]; exact h_st_n (x := 0) (fun z => by omega) (aq_st (by omega) (by omega) hkd0))) (Nat.le_of_ble_eq_true rfl) (Nat.le_of_ble_eq_true rfl) (Nat.le_of_ble_eq_true rfl) (fun r42 σ42 q42 => ?_)
    obtain ⟨rfl, p42, f42, g42, k42⟩ := q42
    refine zz_gsn 1 rfl ?_
    refine zz_ri rfl (Or.inl rfl) ?_
    have GF : zz_F (A_hc h) σ σ42 := (g35.mono (fun a z => by have z2 : h + 1 ≤ a ∧ a ≤ h + 1 + 3 := z; unfold A_hc A_hi; omega)).tr (g42.mono (fun a z => Or.inl z))
    have G5 : σ42.1 105 (h + 6) = σ.1 105 (h + 6) := k42.trans ((g35 (h + 6) (fun z => by have z2 : h + 1 ≤ h + 6 ∧ h + 6 ≤ h + 1 + 3 := z; omega)).1 105)
    rw [aq_y hv (fun z => z.elim (fun z => hq z) (fun z => absurd z (by omega))), Int.toNat_natCast]
    have f42' := CH.act (σ := σ42) (σ1 := σ42) f42 p42
    have ea : i_act I kind w (zq_num kind 0 ((IH I).Q w)) = i_act I kind w 0 := by
      unfold i_act
      rw [h_x_n (y := 0) (fun z => by omega)]
    rw [ea] at f42'
    exact ⟨rfl, f42', GF, G5⟩
  · obtain ⟨w, rfl⟩ : ∃ w : Nat, v = (w : Nat) := ⟨v.toNat, by omega⟩
    rw [Int.toNat_natCast] at hq
    obtain ⟨-, w1, w2⟩ := id hv
    obtain ⟨hq1, hq2⟩ := (hV.2.2.1 w (by omega)).2
    have hho := hv.1
    have hC := (i_ho ho hho).2
    have hC : 2 ≤ I.C ∧ I.C ≤ 4 := ⟨hC.1, hC.2.1⟩
    have hk : I.k < 60 := by omega
    have hin : h_in I.law I.k (IH I) := h_inv ho.1
    have hql : ((IH I).Q w).1 ≤ 60 := by
      obtain ⟨a1, a2, -⟩ := hin.1 w (by omega)
      have := a1.2.2
      rw [a2] at this
      omega
    refine zz_gsn 2 rfl ?_
    refine zz_cv (n := 2) rfl rfl (t_History_queueOf_y (v := w) hD hv) (Nat.le_of_ble_eq_true rfl) (Nat.le_of_ble_eq_true rfl) (Nat.le_of_ble_eq_true rfl) (fun r2 σ2 q2 => ?_)
    obtain ⟨rfl, rfl⟩ := q2
    refine zz_gsn 2 rfl ?_
    refine zz_jp rfl ?_
    refine zz_gsn 2 rfl ?_
    refine zz_br rfl (fun h10 => absurd (hq1.symm.trans h10) (by omega)) (fun h10 => ?_)
    refine zz_gsn 2 rfl ?_
    refine zz_cv (n := 1) rfl rfl (t_Deeds_versions) (Nat.le_of_ble_eq_true rfl) (Nat.le_of_ble_eq_true rfl) (Nat.le_of_ble_eq_true rfl) (fun r13 σ13 q13 => ?_)
    obtain ⟨rfl, n13, rfl, e13⟩ := q13
    have e13 : n13 = (I.k : Int) + 1 := by
      rcases e13 with ⟨z1, z2⟩ | ⟨z1, z2⟩
      · rw [z2, d5]
        exact zw_id (by omega) (by omega)
      · exact absurd (d1.symm.trans z1) hv.1
    refine zz_gsn 1 rfl ?_
    refine zz_br rfl (fun h15 => ?_) (fun h15 => absurd h15 (by omega))
    refine zz_gsn 3 rfl ?_
    refine zz_br rfl (fun h21 => ?_) (fun h21 => absurd hkd.1 (by omega))
    refine zz_gsn 4 rfl ?_
    refine zz_cv (n := 2) rfl rfl (t_Numbers_numberAt) (Nat.le_of_ble_eq_true rfl) (Nat.le_of_ble_eq_true rfl) (Nat.le_of_ble_eq_true rfl) (fun r28 σ28 q28 => ?_)
    obtain ⟨rfl, n28, rfl, e28⟩ := q28
    rw [hq1, zw_p (by omega) (by omega)] at e28
    have e28 : n28 = zq_num kind 0 ((IH I).Q w) := by
      rcases e28 with ⟨z1, z2, z3, z4⟩ | ⟨z1, z2⟩
      · rw [z4]
        obtain ⟨rfl, -⟩ := hkd
        rw [show (((((IH I).Q w).1 - 1 : Nat) : Int)).toNat = ((IH I).Q w).1 - 1 from Int.toNat_natCast _]
        exact hq2 _ (by omega)
      · exact absurd ⟨by omega, by omega, by omega⟩ z1
    subst e28
    refine zz_gsn 6 rfl ?_
    refine zz_cv (n := 4) rfl rfl (t_Deeds_add (base := w) dR hk) (Nat.le_of_ble_eq_true rfl) (Nat.le_of_ble_eq_true rfl) (Nat.le_of_ble_eq_true rfl) (fun r35 σ35 q35 => ?_)
    obtain ⟨rfl, p35, g35, b35⟩ := q35
    have D1 : DF σ35 (h + 1) I.ho I.law I.C (I.told : Nat) (I.k + 1) (zu I.D I.k (kind, w, zq_num kind 0 ((IH I).Q w))) := ⟨(b35 200 (by decide)).trans d1, (b35 201 (by decide)).trans d2, (b35 202 (by decide)).trans d3, (b35 203 (by decide)).trans d4, p35⟩
    have V1 : CV σ35 h I.law I.C I.k (IH I) := hV.f d6 g35 (fun a z y => by have z2 : h + 1 ≤ a ∧ a ≤ h + 1 + 3 := z; omega)
    
    refine zz_gsn 6 rfl ?_
    refine zz_ste (st' := [zI (I.k : Nat), zP 3 0 0 h]) (congrArg (fun z : Int => ([zI z, zP 3 0 0 h] : List zz_V)) ((congrArg (fun z : Int => zw (z - 1)) p35.1).trans (zw_p (n := I.k + 1) (Nat.succ_pos _) (by omega)))) ?_
    refine zz_cv (n := 2) rfl rfl (t_History_enact (σ := σ35) (D := zu I.D I.k (kind, w, zq_num kind 0 ((IH I).Q w))) (H := IH I) D1 hho (Nat.lt_succ_self I.k) V1 hin hC (by rw [zu_s]; exact h_st_n (x := 0) (fun z => by omega) (aq_st (by omega) (by omega) hkd0))) (Nat.le_of_ble_eq_true rfl) (Nat.le_of_ble_eq_true rfl) (Nat.le_of_ble_eq_true rfl) (fun r42 σ42 q42 => ?_)
    obtain ⟨rfl, p42, f42, g42, k42⟩ := q42
    refine zz_gsn 1 rfl ?_
    refine zz_ri rfl (Or.inl rfl) ?_
    have GF : zz_F (A_hc h) σ σ42 := (g35.mono (fun a z => by have z2 : h + 1 ≤ a ∧ a ≤ h + 1 + 3 := z; unfold A_hc A_hi; omega)).tr (g42.mono (fun a z => Or.inl z))
    have G5 : σ42.1 105 (h + 6) = σ.1 105 (h + 6) := k42.trans ((g35 (h + 6) (fun z => by have z2 : h + 1 ≤ h + 6 ∧ h + 6 ≤ h + 1 + 3 := z; omega)).1 105)
    rw [aq_y hv (fun z => z.elim (fun z => hq z) (fun z => absurd z (by omega))), Int.toNat_natCast]
    have f42' := CH.act (σ := σ42) (σ1 := σ42) f42 p42
    have ea : i_act I kind w (zq_num kind 0 ((IH I).Q w)) = i_act I kind w 0 := by
      unfold i_act
      rw [h_x_n (y := 0) (fun z => by omega)]
    rw [ea] at f42'
    exact ⟨rfl, f42', GF, G5⟩
