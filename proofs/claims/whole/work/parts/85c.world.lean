/-! the class: twin -/
abbrev A_tw (h : Nat) : Nat → Prop := fun a => h + 18 ≤ a ∧ a ≤ h + 21
theorem lp_ctwin {X : zz_X} {h v : Nat} {I : zz_I} {σ0 : zz_M} {Post : Option zz_V → zz_M → Prop} (ok : i_ok I) (hv : vz I.ho I.k (v : Nat)) (kk : ∀ σ' : zz_M, zz_F (A_tw h) σ0 σ' → Post (some (zI (g_c (g_tk I v) v 0 : Nat))) σ') :
    ∀ (r i : Nat) (σ : zz_M), i + r = v → g_c (g_tk I v) r i = g_c (g_tk I v) v 0 → CH σ h I → BL σ (h + 18) (g_tx I.law (hw (IH I) v)) → zz_F (A_tw h) σ0 σ → zz_G X 9 p_History_leastToldAlike 7 [zP 3 0 0 h, zI (v : Nat), zI (i : Nat)] [] σ Post := by
  have hk6 := ok.1.2.2.1
  have hvk : v ≤ I.k := by have := hv.2.2; omega
  intro r
  induction r with
  | zero =>
    intro i σ hi hc hH hB hF
    obtain rfl : i = v := hi
    have e : i = g_c (g_tk I i) i 0 := hc
    rw [← e] at kk
    refine zz_gsn 2 rfl ?_
    refine zz_br rfl (fun h9 => ?_) (fun h9 => absurd h9 (by omega))
    refine zz_gsn 1 rfl ?_
    refine zz_ri rfl (Or.inl rfl) ?_
    exact kk σ hF
  | succ r ih =>
    intro i σ hi
    have hiv : i < v := by omega
    have h9n : ¬ ((i : Nat) : Int) ≥ (v : Nat) := by omega
    have i9 : i + 1 + r = v := by omega
    have hik : i ≤ I.k := by omega
    have hv6 : v ≤ 60 := by omega
    have hi6 : i ≤ 60 := by omega
    have hiv2 : vz I.ho I.k (i : Nat) := ⟨hv.1, by omega, by omega⟩
    have hsep : h + 20 + 1 < h + 1 ∨ (h + 17 < h + 20 ∧ h + 20 + 1 < h + 22) := Or.inr ⟨by omega, by omega⟩
    have i1 : i < 2147483647 := by omega
    have zs : zw ((i : Int) + 1) = ((i + 1 : Nat) : Int) := zw_s i1
    intro hc hH hB hF
    have I1 := ((h_inv ok.1).1 v hvk).1
    have I2 := ((h_inv ok.1).1 i hik).1
    have l1 : (g_tx I.law (hw (IH I) v)).length ≤ 1200 := Nat.le_trans (g_tx_len I1 hv6) (by decide)
    have l2 : (g_tx I.law (hw (IH I) i)).length ≤ 1200 := Nat.le_trans (g_tx_len I2 hi6) (by decide)
    have key : zl_eq (g_tx I.law (hw (IH I) v)) (g_tx I.law (hw (IH I) i)) ↔ TWN (hw (IH I) v) (hw (IH I) i) := (zl_eq_l g_tx_b g_tx_b).trans (tx_tw I1 I2 hv6 hi6 ((h_inv ok.1).2.1 v hvk) ((h_inv ok.1).2.1 i hik))
    have hy : g_tk I v i = true → g_c (g_tk I v) (r + 1) i = i := fun z => if_pos z
    have hn : g_tk I v i = false → g_c (g_tk I v) (r + 1) i = g_c (g_tk I v) r (i + 1) := fun z => if_neg (by rw [z]; exact Bool.false_ne_true)
    refine zz_gsn 2 rfl ?_
    refine zz_br rfl (fun h9 => absurd h9 h9n) (fun h9 => ?_)
    refine zz_gsn 4 rfl ?_
    refine zz_cv (n := 3) rfl rfl (t_History_write (v := i) (p := 1200) (a := h + 20) hH ok hiv2 (by decide) (by decide) hsep) (Nat.le_of_ble_eq_true rfl) (Nat.le_of_ble_eq_true rfl) (Nat.le_of_ble_eq_true rfl) (fun r14 σ14 q14 => ?_)
    obtain ⟨rfl, p14, g14⟩ := q14
    have F14 : zz_F (A_tw h) σ0 σ14 := hF.tr (g14.mono (fun a z => by rcases z with z | z <;> (unfold A_tw; omega)))
    have B14 : BL σ14 (h + 18) (g_tx I.law (hw (IH I) v)) := hB.f g14 (fun z => by rcases z with z | z <;> omega) (fun z => by rcases z with z | z <;> omega)
    have H14 : CH σ14 h I := hH.f g14 (fun a z => by rcases z with z | z <;> omega)
    refine zz_gsn 4 rfl ?_
    refine zz_cv (n := 2) rfl rfl (t_Bytes_equalTo B14 p14 l1 l2 (by decide)) (Nat.le_of_ble_eq_true rfl) (Nat.le_of_ble_eq_true rfl) (Nat.le_of_ble_eq_true rfl) (fun r19 σ19 q19 => ?_)
    obtain ⟨rfl, n19, rfl, e19⟩ := q19
    refine zz_br rfl (fun h20 => ?_) (fun h20 => ?_)
    · refine zz_gsn 1 rfl ?_
      refine zz_jp rfl ?_
      rw [zs]
      have z : g_tk I v i = false := z_B_f (fun y => e19.elim (fun z => absurd (z.1.symm.trans (by first | exact h20 | exact Decidable.not_not.mp h20)) (by decide)) (fun z => z.2 (key.mpr y)))
      exact ih (i + 1) _ i9 ((hn z).symm.trans hc) H14 B14 F14
    · refine zz_gsn 1 rfl ?_
      refine zz_ri rfl (Or.inl rfl) ?_
      have z : g_tk I v i = true := z_B_t (key.mp (e19.elim (fun z => z.2) (fun z => absurd z.1 h20)))
      rw [← hc, hy z] at kk
      exact kk _ F14
theorem t_History_leastToldAlike {X : zz_X} {σ : zz_M} {h v : Nat} {I : zz_I} (hH : CH σ h I) (ok : i_ok I) (hv : vz I.ho I.k (v : Nat)) : zz_T X 9 p_History_leastToldAlike [zP 3 0 0 h, zI (v : Nat)] σ (fun r σ' => r = some (zI (g_c (g_tk I v) v 0 : Nat)) ∧ zz_F (A_tw h) σ σ') := by
  refine zz_mk k_History_leastToldAlike o_History_leastToldAlike rfl rfl (Nat.le_of_ble_eq_true rfl) ?_
  show zz_G X 9 p_History_leastToldAlike 0 [zP 3 0 0 h, zI (v : Nat), zU] [] σ _
  have hsep : h + 18 + 1 < h + 1 ∨ (h + 17 < h + 18 ∧ h + 18 + 1 < h + 22) := Or.inr ⟨by omega, by omega⟩
  refine zz_gsn 4 rfl ?_
  refine zz_cv (n := 3) rfl rfl (t_History_write (v := v) (p := 1200) (a := h + 18) hH ok hv (by decide) (by decide) hsep) (Nat.le_of_ble_eq_true rfl) (Nat.le_of_ble_eq_true rfl) (Nat.le_of_ble_eq_true rfl) (fun r4 σ4 q4 => ?_)
  obtain ⟨rfl, p4, g4⟩ := q4
  have F4 : zz_F (A_tw h) σ σ4 := g4.mono (fun a z => by rcases z with z | z <;> (unfold A_tw; omega))
  have H4 : CH σ4 h I := hH.f g4 (fun a z => by rcases z with z | z <;> omega)
  refine zz_gsn 2 rfl ?_
  exact lp_ctwin ok hv (fun σ' F => ⟨rfl, F⟩) v 0 σ4 (Nat.zero_add v) rfl H4 p4 F4
theorem t_TQ_twin {X : zz_X} {σ : zz_M} {b : Nat} {B : Int} {G : zz_J} {v : Int} (hG : CG σ b B G) (ok : g_ok G) : zz_T X 10 p_TQ_twin [zP 11 0 0 b, zI v] σ (fun r σ' => r = some (zI (a_twin G v)) ∧ CG σ' b B G ∧ zz_F (A_cl b) σ σ') := by
  refine zz_mk k_TQ_twin o_TQ_twin rfl rfl (Nat.le_of_ble_eq_true rfl) ?_
  show zz_G X 10 p_TQ_twin 0 [zP 11 0 0 b, zI v] [] σ _
  obtain ⟨hH, hBt, hBo, hft, him, hmk, htr⟩ := id hG
  obtain ⟨⟨ho, hfx⟩, okt, oko, okm⟩ := id ok
  obtain ⟨hD, hV⟩ := id hH
  obtain ⟨d1, d2, d3, d4, dR⟩ := id hD
  obtain ⟨d5, d6, d7⟩ := id dR
  rcases Classical.em (vz G.I.ho G.I.k v) with hv | hv
  · obtain ⟨w, rfl⟩ : ∃ w : Nat, v = (w : Nat) := ⟨v.toNat, by have := hv.2.1; omega⟩
    refine zz_gsn 4 rfl ?_
    refine zz_cv (n := 2) rfl rfl (t_Deeds_hasVersion) (Nat.le_of_ble_eq_true rfl) (Nat.le_of_ble_eq_true rfl) (Nat.le_of_ble_eq_true rfl) (fun r4 σ4 q4 => ?_)
    obtain ⟨rfl, n4, rfl, e4⟩ := q4
    replace e4 := vz_of hD e4
    replace e4 : n4 = 1 := e4.elim (fun z => z.1) (fun z => absurd hv z.2)
    refine zz_br rfl (fun h5 => absurd (e4.symm.trans h5) (by decide)) (fun h5 => ?_)
    refine zz_gsn 3 rfl ?_
    refine zz_cv (n := 2) rfl rfl (t_History_leastToldAlike hH ho hv) (Nat.le_of_ble_eq_true rfl) (Nat.le_of_ble_eq_true rfl) (Nat.le_of_ble_eq_true rfl) (fun r9 σ9 q9 => ?_)
    obtain ⟨rfl, g9⟩ := q9
    refine zz_jp rfl ?_
    refine zz_ri rfl (Or.inl rfl) ?_
    exact ⟨congrArg (fun z => some (zI z)) (if_pos hv).symm, hG.s (g9.mono (fun a z => by unfold A_cs; omega)), g9.mono (fun a z => by unfold A_cl; omega)⟩
  · refine zz_gsn 4 rfl ?_
    refine zz_cv (n := 2) rfl rfl (t_Deeds_hasVersion) (Nat.le_of_ble_eq_true rfl) (Nat.le_of_ble_eq_true rfl) (Nat.le_of_ble_eq_true rfl) (fun r4 σ4 q4 => ?_)
    obtain ⟨rfl, n4, rfl, e4⟩ := q4
    replace e4 := vz_of hD e4
    replace e4 : n4 = 0 := e4.elim (fun z => absurd z.2 hv) (fun z => z.1)
    refine zz_br rfl (fun h5 => ?_) (fun h5 => absurd e4 h5)
    refine zz_gsn 1 rfl ?_
    refine zz_ri rfl (Or.inl rfl) ?_
    exact ⟨congrArg (fun z => some (zI z)) (if_neg hv).symm, hG, zz_F.rf⟩
