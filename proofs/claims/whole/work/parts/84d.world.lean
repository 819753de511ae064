/-! the class: tell -/
theorem t_History_write {X : zz_X} {σ : zz_M} {h v a p : Nat} {I : zz_I} (hH : CH σ h I) (ok : i_ok I) (hv : vz I.ho I.k (v : Nat)) (hp : 1100 ≤ p) (hp2 : p < 100000) (ha : a + 1 < h + 1 ∨ (h + 17 < a ∧ a + 1 < h + 22)) : zz_T X 8 p_History_write [zP 3 0 0 h, zI (v : Nat), zP 0 p 0 a] σ (fun r σ' => r = none ∧ BL σ' a (g_tx I.law (hw (IH I) v)) ∧ zz_F (zz_A2 a) σ σ') := by
  refine zz_mk k_History_write o_History_write rfl rfl (Nat.le_of_ble_eq_true rfl) ?_
  show zz_G X 8 p_History_write 0 [zP 3 0 0 h, zI (v : Nat), zP 0 p 0 a, zU] [] σ _
  have hvk : v ≤ I.k := by have := hv.2.2; omega
  have hk6 := ok.1.2.2.1
  have hB6 : v ≤ 60 := by omega
  have hsep : w_sep h (h + 22 + 9 * v) a := by unfold w_sep; omega
  obtain ⟨σ1, h1⟩ : ∃ s, s = zz_sf σ 0 a 0 := ⟨_, rfl⟩
  have F1 : zz_F (zz_A2 a) σ σ1 := by rw [h1]; exact zz_F.sf (Or.inl rfl)
  have B1 : BL σ1 a [] := by rw [h1]; exact ⟨sf_h _ _ _ _, fun i hi => absurd hi (Nat.not_lt_zero i)⟩
  have H1 : CH σ1 h I := hH.f F1 (fun c z => by rcases z with z | z <;> omega)
  obtain ⟨hD, hV⟩ := id H1
  have hS : SP σ1 1890 (h + 5) (h + 22 + 9 * v) (hw (IH I) v) := (hV.2.2.1 v hvk).1
  have hI : IV I.law v (hw (IH I) v) := ((h_inv ok.1).1 v hvk).1
  have okw : w_ok (IH I).n (-1) (hw (IH I) v) := (h_inv ok.1).2.1 v hvk
  have hdl : ∀ σ' : zz_M, zz_F (zz_A2 a) σ1 σ' → σ'.1 201 (h + 1) = I.law := fun σ' F => ((F (h + 1) (fun z => by rcases z with z | z <;> omega)).1 201).trans hD.2.1
  have hT := IV_tell hI hB6
  obtain ⟨W, hW⟩ : ∃ W, W = hw (IH I) v := ⟨_, rfl⟩
  rw [← hW] at hS hI okw hT ⊢
  have n8 := zt_n_len (W.S 8).toNat
  have n9 := zt_n_len (W.S 9).toNat
  have n10 := zt_n_len (W.S 10).toNat
  have w7 := g_rw_len (k := 7) (r := 0) (W := W) (by decide)
  have w8 := g_rw_len (k := 8) (r := 1) (W := W) (by decide)
  have w10 := g_rw_len (k := 10) (r := 2) (W := W) (by decide)
  have w11 := g_rw_len (k := 11) (r := 3) (W := W) (by decide)
  have w12 := g_rw_len (k := 12) (r := 4) (W := W) (by decide)
  have w13 := g_rw_len (k := 13) (r := 5) (W := W) (by decide)
  have v9 := zt_w_l 9 (by decide)
  have v14 := zt_w_l 14 (by decide)
  have v15 := zt_w_l 15 (by decide)
  have x9 : (zz_tx 9).length = 9 := rfl
  have x14 : (zz_tx 14).length = 9 := rfl
  have x15 : (zz_tx 15).length = 5 := rfl
  have v16 := zt_w_l 16 (by decide)
  have v17 := zt_w_l 17 (by decide)
  have x16 : (zz_tx 16).length = 6 := rfl
  have x17 : (zz_tx 17).length = 1 := rfl
  obtain ⟨hs, h8, hs9, hs10, h7, -⟩ := hT
  have e9 : ((W.S 9).toNat : Int) = W.S 9 := Int.toNat_of_nonneg hs9.1
  have e10 : ((W.S 10).toNat : Int) = W.S 10 := Int.toNat_of_nonneg hs10.1
  have nn9 : (W.S 9).toNat < 1000000 := by omega
  have nn10 : (W.S 10).toNat < 1000000 := by omega
  have ep : ([] : List Int) ++ g_rw 7 W 0 = g_rw 7 W 0 := rfl
  have l15 : (([] : List Int) ++ g_rw 7 W 0).length + 2 ≤ p := by rw [ep]; omega
  have l21 : (([] : List Int) ++ g_rw 7 W 0 ++ g_rw 8 W 1).length + 2 ≤ p := by rw [ep, List.length_append]; omega
  have l30 : (([] : List Int) ++ g_rw 7 W 0 ++ g_rw 8 W 1).length + 60 + 3 * (w_l 2 W + w_l 3 W + w_l 4 W + w_l 5 W) + 2 ≤ p := by rw [ep, List.length_append]; omega
  have l42 : (([] : List Int) ++ g_rw 7 W 0 ++ g_rw 8 W 1).length + (zz_tx 16).length + 2 ≤ p := by rw [ep, List.length_append]; omega
  have l48 : (([] : List Int) ++ g_rw 7 W 0 ++ g_rw 8 W 1 ++ zt_w 16 ++ zt_n (W.S 9).toNat).length + (zz_tx 17).length + 2 ≤ p := by rw [ep, List.length_append, List.length_append, List.length_append]; omega
  refine zz_gsn 3 rfl ?_
  refine zz_sge (σ' := σ1) h1 ?_
  refine zz_gsn 2 rfl ?_
  refine zz_cv (n := 2) rfl rfl (t_History_stateOf_y (v := v) hD hv) (Nat.le_of_ble_eq_true rfl) (Nat.le_of_ble_eq_true rfl) (Nat.le_of_ble_eq_true rfl) (fun r5 σ5 q5 => ?_)
  obtain ⟨rfl, rfl⟩ := q5
  refine zz_gsn 2 rfl ?_
  refine zz_jp rfl ?_
  refine zz_gsn 5 rfl ?_
  refine zz_cv (n := 4) rfl rfl (t_wRw (k := 7) (j := 0) (s := h + 22 + 9 * v) (W := W) B1 hp2 l15 hS okw hI hB6 (by decide) hsep) (Nat.le_of_ble_eq_true rfl) (Nat.le_of_ble_eq_true rfl) (Nat.le_of_ble_eq_true rfl) (fun r15 σ15 q15 => ?_)
  obtain ⟨rfl, p15, g15, S15⟩ := q15
  refine zz_gsn 5 rfl ?_
  refine zz_cv (n := 4) rfl rfl (t_wRw (k := 8) (j := 1) (s := h + 22 + 9 * v) (W := W) p15 hp2 l21 S15 okw hI hB6 (by decide) hsep) (Nat.le_of_ble_eq_true rfl) (Nat.le_of_ble_eq_true rfl) (Nat.le_of_ble_eq_true rfl) (fun r21 σ21 q21 => ?_)
  obtain ⟨rfl, p21, g21, S21⟩ := q21
  refine zz_gsn 3 rfl ?_
  rw [hdl _ (g15.tr g21)]
  refine zz_gsn 1 rfl ?_
  refine zz_br rfl (fun h26 => ?_) (fun h26 => ?_)
  · refine zz_gsn 3 rfl ?_
    rw [hdl _ (g15.tr g21)]
    refine zz_gsn 1 rfl ?_
    refine zz_br rfl (fun h36 => ?_) (fun h36 => ?_)
    · refine zz_rv rfl rfl ?_
      have eg : g_tx I.law W = g_rw 7 W 0 ++ g_rw 8 W 1 ++ [] := congrArg (fun z => g_rw 7 W 0 ++ g_rw 8 W 1 ++ z) ((if_neg h26).trans (if_neg h36))
      rw [eg, List.append_nil]
      exact ⟨rfl, p21, (F1.tr g15).tr g21⟩
    · refine zz_gsn 5 rfl ?_
      rw [show σ21.1 910 (h + 22 + 9 * v) = ((W.S 9).toNat : Nat) from (S21.2.1 9 (by decide) (by decide)).trans e9.symm]
      refine zz_cv (n := 4) rfl rfl (t_History_writeCount (k := 16) (n := (W.S 9).toNat) p21 hp2 l42 nn9) (Nat.le_of_ble_eq_true rfl) (Nat.le_of_ble_eq_true rfl) (Nat.le_of_ble_eq_true rfl) (fun r42 σ42 q42 => ?_)
      obtain ⟨rfl, p42, g42⟩ := q42
      have S42 := S21.w g42 hsep
      refine zz_gsn 5 rfl ?_
      rw [show σ42.1 911 (h + 22 + 9 * v) = ((W.S 10).toNat : Nat) from (S42.2.1 10 (by decide) (by decide)).trans e10.symm]
      refine zz_cv (n := 4) rfl rfl (t_History_writeCount (k := 17) (n := (W.S 10).toNat) p42 hp2 l48 nn10) (Nat.le_of_ble_eq_true rfl) (Nat.le_of_ble_eq_true rfl) (Nat.le_of_ble_eq_true rfl) (fun r48 σ48 q48 => ?_)
      obtain ⟨rfl, p48, g48⟩ := q48
      refine zz_rv rfl rfl ?_
      have eg : g_tx I.law W = g_rw 7 W 0 ++ g_rw 8 W 1 ++ g_ow W := congrArg (fun z => g_rw 7 W 0 ++ g_rw 8 W 1 ++ z) ((if_neg h26).trans (if_pos (by first | exact h36 | exact Decidable.not_not.mp h36)))
      rw [eg]
      refine ⟨rfl, ?_, (((F1.tr g15).tr g21).tr g42).tr g48⟩
      have z : g_rw 7 W 0 ++ g_rw 8 W 1 ++ g_ow W = [] ++ g_rw 7 W 0 ++ g_rw 8 W 1 ++ zt_w 16 ++ zt_n (W.S 9).toNat ++ zt_w 17 ++ zt_n (W.S 10).toNat := by
        unfold g_ow
        simp only [List.append_assoc, List.nil_append]
      rw [z]
      exact p48
  · refine zz_gsn 3 rfl ?_
    refine zz_cv (n := 3) rfl rfl (t_History_writeTurn (s := h + 22 + 9 * v) (W := W) p21 hp2 l30 S21 okw hI hB6 hsep) (Nat.le_of_ble_eq_true rfl) (Nat.le_of_ble_eq_true rfl) (Nat.le_of_ble_eq_true rfl) (fun r30 σ30 q30 => ?_)
    obtain ⟨rfl, p30, g30⟩ := q30
    refine zz_jp rfl ?_
    refine zz_rv rfl rfl ?_
    have eg : g_tx I.law W = g_rw 7 W 0 ++ g_rw 8 W 1 ++ g_tu W := congrArg (fun z => g_rw 7 W 0 ++ g_rw 8 W 1 ++ z) (if_pos (by first | exact h26 | exact Decidable.not_not.mp h26))
    rw [eg]
    exact ⟨rfl, p30, ((F1.tr g15).tr g21).tr g30⟩
theorem CG.o {σ σ' : zz_M} {b : Nat} {B : Int} {G : zz_J} {l : List Int} (h : CG σ b B G) (hB : BL σ' (b + 3) l) (hF : zz_F (zz_A2 (b + 3)) σ σ') : CG σ' b B (G.I, G.t, l, G.f, G.p, G.m) := by
  obtain ⟨h1, h2, h3, h4, h5', h6, h7⟩ := h
  have ne : ∀ a, (a < b + 3 ∨ b + 4 < a) → ¬ zz_A2 (b + 3) a := fun a y z => by rcases z with z | z <;> omega
  refine ⟨h1.f hF (fun a z y => by rcases z with z | z <;> omega), h2.f hF (ne _ (by omega)) (ne _ (by omega)), hB, ?_, fun i hi => (h5' i hi).f hF (fun c y1 y2 => ne _ (by omega)), ?_, h7.f hF (fun a y1 y2 => ne _ (by omega)) (fun z => absurd z (Nat.lt_irrefl 0))⟩
  · rw [(hF (b + 5) (ne _ (by omega))).1, (hF (b + 5) (ne _ (by omega))).1]
    exact h4
  · rw [(hF (b + 17) (ne _ (by omega))).1]
    exact ⟨fun i hi => by rw [(hF (b + 21) (ne _ (by omega))).2]; exact h6.1 i hi, h6.2⟩
theorem g_ok.o {G : zz_J} {w : Nat} (ok : g_ok G) (hw1 : w ≤ G.I.k) : g_ok (G.I, G.t, g_tx G.I.law (hw (gW G) w), G.f, G.p, G.m) := ⟨ok.1, ok.2.1, ⟨Nat.le_trans (g_tx_len ((h_inv ok.1.1.1).1 w hw1).1 (Nat.le_trans hw1 ok.1.1.1.2.2.1)) (by decide), g_tx_b⟩, ok.2.2.2⟩
theorem t_TQ_tell {X : zz_X} {σ : zz_M} {b : Nat} {B : Int} {G : zz_J} {v : Int} (hG : CG σ b B G) (ok : g_ok G) : zz_T X 9 p_TQ_tell [zP 11 0 0 b, zI v] σ (fun r σ' => r = some (zI (a_tell G v).1) ∧ CG σ' b B (a_tell G v).2 ∧ zz_F (A_cl b) σ σ') := by
  refine zz_mk k_TQ_tell o_TQ_tell rfl rfl (Nat.le_of_ble_eq_true rfl) ?_
  show zz_G X 9 p_TQ_tell 0 [zP 11 0 0 b, zI v] [] σ _
  obtain ⟨hH, hBt, hBo, hft, him, hmk, htr⟩ := id hG
  obtain ⟨⟨ho, hfx⟩, okt, oko, okm⟩ := id ok
  obtain ⟨hD, hV⟩ := id hH
  obtain ⟨d1, d2, d3, d4, dR⟩ := id hD
  obtain ⟨d5, d6, d7⟩ := id dR
  rcases Classical.em (vz G.I.ho G.I.k v) with hv | hv
  · obtain ⟨w, rfl⟩ : ∃ w : Nat, v = (w : Nat) := ⟨v.toNat, by have := hv.2.1; omega⟩
    refine zz_gsn 4 rfl ?_
    refine zz_cv (n := 2) rfl rfl (t_Deeds_hasVersion) (Nat.le_of_ble_eq_true rfl) (Nat.le_of_ble_eq_true rfl) (Nat.le_of_ble_eq_true rfl) (fun r4 σ4 q4 => ?_)
    obtain ⟨rfl, n4, rfl, e4⟩ := q4
    replace e4 := vz_of hD e4
    replace e4 : n4 = 1 := e4.elim (fun z => z.1) (fun z => absurd hv z.2)
    refine zz_br rfl (fun h5 => ?_) (fun h5 => absurd (by first | exact h5 | exact Decidable.not_not.mp h5) (show n4 ≠ 0 by omega))
    refine zz_gsn 5 rfl ?_
    refine zz_cv (n := 3) rfl rfl (t_History_write (v := w) (p := 1200) (a := b + 3) hH ho hv (by decide) (by decide) (Or.inl (by omega))) (Nat.le_of_ble_eq_true rfl) (Nat.le_of_ble_eq_true rfl) (Nat.le_of_ble_eq_true rfl) (fun r13 σ13 q13 => ?_)
    obtain ⟨rfl, p13, g13⟩ := q13
    refine zz_gsn 3 rfl ?_
    refine zz_ri rfl (Or.inl rfl) ?_
    rw [show a_tell G (w : Nat) = ((((g_tx G.I.law (hw (gW G) w)).length : Nat) : Int), (G.I, G.t, g_tx G.I.law (hw (gW G) w), G.f, G.p, G.m)) from if_pos hv]
    exact ⟨congrArg (fun z => some (zI z)) p13.1, hG.o p13 g13, g13.mono (fun a z => by unfold A_cl; rcases z with z | z <;> omega)⟩
  · refine zz_gsn 4 rfl ?_
    refine zz_cv (n := 2) rfl rfl (t_Deeds_hasVersion) (Nat.le_of_ble_eq_true rfl) (Nat.le_of_ble_eq_true rfl) (Nat.le_of_ble_eq_true rfl) (fun r4 σ4 q4 => ?_)
    obtain ⟨rfl, n4, rfl, e4⟩ := q4
    replace e4 := vz_of hD e4
    replace e4 : n4 = 0 := e4.elim (fun z => absurd z.2 hv) (fun z => z.1)
    refine zz_br rfl (fun h5 => absurd e4 h5) (fun h5 => ?_)
    refine zz_gsn 1 rfl ?_
    refine zz_ri rfl (Or.inl rfl) ?_
    rw [show a_tell G v = (-2, G) from if_neg hv]
    exact ⟨rfl, hG, zz_F.rf⟩
