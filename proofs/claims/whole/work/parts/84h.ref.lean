/-! the reference: tell -/
theorem RV.fo {σ σ' : zz_M} {m k : Nat} {law C : Int} {H : zz_H} {D : zz_D} (h : RV σ m law C k H D) (hF : FO m σ σ') : RV σ' m law C k H D := by
  obtain ⟨⟨r1, r2, r3⟩, r4, r5, r6, r7⟩ := h
  have f2 : ∀ a, a ≠ m + 24 → σ'.2 a = σ.2 a := hF.2
  refine ⟨⟨(hF.1 _ _ (by omega)).trans r1, (hF.1 _ _ (by omega)).trans r2, (hF.1 _ _ (by omega)).trans r3⟩, fun v hv => ⟨(r4 v hv).1.fo hF, ?_, fun i hi => ?_⟩, fun i hi => ?_, by rw [f2 (m + 5) (by omega)]; exact r6, by rw [f2 (m + 10) (by omega)]; exact r7⟩
  · rw [f2 (m + 12) (by omega)]; exact (r4 v hv).2.1
  · rw [f2 (m + 11) (by omega)]; exact (r4 v hv).2.2 i hi
  · rw [f2 (m + 8) (by omega), f2 (m + 9) (by omega), f2 (m + 10) (by omega), f2 (m + 5) (by omega), f2 (m + 6) (by omega), f2 (m + 7) (by omega)]
    exact r5 i hi
theorem RG.o {σ σ' : zz_M} {m : Nat} {G : zz_J} {l : List Int} (h : RG σ m G) (hl : RO σ' m l) (hF : FO m σ σ') : RG σ' m (G.I, G.t, l, G.f, G.p, G.m) := by
  obtain ⟨hI, hT, hO, hF', hM, h10⟩ := h
  have f1 : ∀ f, f ≠ 1256 → σ'.1 f m = σ.1 f m := fun f z => hF.1 f m (fun y => z y.1)
  refine ⟨?_, ⟨(f1 _ (by decide)).trans hT.1, fun i hi => by rw [hF.2 (m + 13) (by omega)]; exact hT.2 i hi⟩, hl, ⟨(f1 _ (by decide)).trans hF'.1, (f1 _ (by decide)).trans hF'.2⟩, fun i hi => (hM i hi).e (fun j => by rw [hF.2 (m + 25) (by omega)]), by rw [hF.2 (m + 10) (by omega)]; exact h10⟩
  rcases hI with ⟨a, b⟩ | ⟨a, ⟨b1, b2, b3, b4⟩, c⟩
  · exact Or.inl ⟨a, (f1 _ (by decide)).trans b⟩
  · exact Or.inr ⟨a, ⟨(f1 _ (by decide)).trans b1, (f1 _ (by decide)).trans b2, (f1 _ (by decide)).trans b3, (f1 _ (by decide)).trans b4⟩, c.fo hF⟩
theorem t_Mo_tell {X : zz_X} {σ : zz_M} {m : Nat} {G : zz_J} {v : Int} (hG : RG σ m G) (ok : g_ok G) : zz_T X 8 p_Mo_tell [zP 12 0 0 m, zI v] σ (fun r σ' => r = some (zI (a_tell G v).1) ∧ RG σ' m (a_tell G v).2 ∧ zz_F (A_rf m) σ σ') := by
  refine zz_mk k_Mo_tell o_Mo_tell rfl rfl (Nat.le_of_ble_eq_true rfl) ?_
  show zz_G X 8 p_Mo_tell 0 [zP 12 0 0 m, zI v] [] σ _
  obtain ⟨hI, hT, hO, hF, hM, h10⟩ := id hG
  obtain ⟨⟨ho, hfx⟩, okt, oko, okm⟩ := id ok
  have hk6 := ho.1.2.2.1
  rcases Classical.em (vz G.I.ho G.I.k v) with hv | hv
  · obtain ⟨w, rfl⟩ : ∃ w : Nat, v = (w : Nat) := ⟨v.toNat, by omega⟩
    obtain ⟨z0, w1, w2⟩ := id hv
    obtain ⟨hone, ⟨q1, q2, q3, q4⟩, hV⟩ := ri_y hI z0
    obtain ⟨⟨r1, r2, r3⟩, r4, r5, r6, r7⟩ := id hV
    have hw1 : w ≤ G.I.k := by omega
    obtain ⟨hS, hq1, hq2⟩ := r4 w hw1
    have hk6w : w ≤ 60 := by omega
    have hI0 : IV G.I.law w (hw (IH G.I) w) := ((h_inv ho.1).1 w hw1).1
    have okw : w_ok (IH G.I).n (-1) (hw (IH G.I) w) := (h_inv ho.1).2.1 w hw1
    have hn : (hw (IH G.I) w).n ≤ 20000 := by
      have z := h_nb (h_inv ho.1) hk6
      exact Nat.le_trans z (by decide)
    have hT := IV_tell hI0 hk6w
    have et : a_tell G (w : Nat) = ((((g_tx G.I.law (hw (IH G.I) w)).length : Nat) : Int), (G.I, G.t, g_tx G.I.law (hw (IH G.I) w), G.f, G.p, G.m)) := if_pos hv
    obtain ⟨W, hW⟩ : ∃ W, W = hw (IH G.I) w := ⟨_, rfl⟩
    rw [← hW] at hS hI0 okw hn hT et
    rw [et]
    clear et
    obtain ⟨hs, h8, hs9, hs10, h7, -⟩ := hT
    replace h7 : W.S 7 = 0 ∨ W.S 7 = 1 ∨ W.S 7 = 2 := h7.elim Or.inl (fun z => Or.inr z.2)
    have hw182 : w < 182 := by omega
    have n9 := zt_n_len (W.S 9).toNat
    have n10 := zt_n_len (W.S 10).toNat
    have w7 := g_rw_len (k := 7) (r := 0) (W := W) (by decide)
    have w8 := g_rw_len (k := 8) (r := 1) (W := W) (by decide)
    have e25 : g_rw 25 W 0 = g_rw 7 W 0 := rfl
    have e28 : g_rw 28 W 1 = g_rw 8 W 1 := rfl
    have y36 : zt_w 36 = zt_w 16 := rfl
    have y26 : zt_w 26 = zt_w 17 := rfl
    have v16 := zt_w_l 16 (by decide)
    have v17 := zt_w_l 17 (by decide)
    have ep : ([] : List Int) ++ g_rw 25 W 0 = g_rw 7 W 0 := rfl
    have l1 : (([] : List Int) ++ g_rw 25 W 0).length + 2 ≤ 1400 := by rw [ep]; omega
    have l2 : (([] : List Int) ++ g_rw 25 W 0 ++ g_rw 28 W 1).length + 2 ≤ 1400 := by rw [ep, e28, List.length_append]; omega
    have l3 : (([] : List Int) ++ g_rw 25 W 0 ++ g_rw 28 W 1).length + 60 + 3 * (w_l 2 W + w_l 3 W + w_l 4 W + w_l 5 W) + 2 ≤ 1400 := by rw [ep, e28, List.length_append]; omega
    have l4 : (([] : List Int) ++ g_rw 25 W 0 ++ g_rw 28 W 1).length + (zz_tx 36).length ≤ 1400 := by rw [ep, e28, List.length_append]; show _ + 6 ≤ 1400; omega
    have l5 : (([] : List Int) ++ g_rw 25 W 0 ++ g_rw 28 W 1 ++ zt_w 36).length + 2 ≤ 1400 := by rw [ep, e28, y36]; simp only [List.length_append]; omega
    have l6 : (([] : List Int) ++ g_rw 25 W 0 ++ g_rw 28 W 1 ++ zt_w 36 ++ zt_n (W.S 9).toNat).length + (zz_tx 26).length ≤ 1400 := by rw [ep, e28, y36]; simp only [List.length_append]; show _ + 1 ≤ 1400; omega
    have l7 : (([] : List Int) ++ g_rw 25 W 0 ++ g_rw 28 W 1 ++ zt_w 36 ++ zt_n (W.S 9).toNat ++ zt_w 26).length + 2 ≤ 1400 := by rw [ep, e28, y36, y26]; simp only [List.length_append]; omega
    have e9 : ((W.S 9).toNat : Int) = W.S 9 := Int.toNat_of_nonneg hs9.1
    have e10 : ((W.S 10).toNat : Int) = W.S 10 := Int.toNat_of_nonneg hs10.1
    have nn9 : (W.S 9).toNat < 100 := by omega
    have nn10 : (W.S 10).toNat < 100 := by omega
    obtain ⟨σ1, h1⟩ : ∃ s, s = zz_sf σ 1256 m 0 := ⟨_, rfl⟩
    have F1 : FO m σ σ1 := by rw [h1]; exact ⟨fun f a q => by rw [sf_1, if_neg q], fun _ _ => rfl⟩
    have B1 : RO σ1 m [] := by rw [h1]; exact ⟨sf_h _ _ _ _, fun i hi => absurd hi (Nat.not_lt_zero i)⟩
    have P1 := hS.fo F1
    refine zz_gsn 2 rfl ?_
    refine zz_cv (n := 2) rfl rfl (t_Mo_isVersion) (Nat.le_of_ble_eq_true rfl) (Nat.le_of_ble_eq_true rfl) (Nat.le_of_ble_eq_true rfl) (fun r2 σ2 q2 => ?_)
    obtain ⟨rfl, n2, rfl, e2⟩ := q2
    replace e2 := rv_of hI ho e2
    replace e2 : n2 = 1 := e2.elim (fun z => z.1) (fun z => absurd hv z.2)
    refine zz_br rfl (fun h3 => ?_) (fun h3 => absurd (by first | exact h3 | exact Decidable.not_not.mp h3) (show n2 ≠ 0 by omega))
    refine zz_gsn 3 rfl ?_
    refine zz_sge (σ' := σ1) h1 ?_
    refine zz_gsn 5 rfl ?_
    refine zz_cv (n := 3) rfl rfl (t_Mo_of (s := w) (k := 0) hw182 (by decide)) (Nat.le_of_ble_eq_true rfl) (Nat.le_of_ble_eq_true rfl) (Nat.le_of_ble_eq_true rfl) (fun r14 σ14 q14 => ?_)
    obtain ⟨rfl, rfl⟩ := q14
    refine zz_cv (n := 3) rfl rfl (t_rR (k := 25) (j := 0) (v := w) (W := W) B1 l1 P1 okw hn (by decide)) (Nat.le_of_ble_eq_true rfl) (Nat.le_of_ble_eq_true rfl) (Nat.le_of_ble_eq_true rfl) (fun r15 σ15 q15 => ?_)
    obtain ⟨rfl, p15, g15, P15⟩ := q15
    refine zz_gsn 5 rfl ?_
    refine zz_cv (n := 3) rfl rfl (t_Mo_of (s := w) (k := 1) hw182 (by decide)) (Nat.le_of_ble_eq_true rfl) (Nat.le_of_ble_eq_true rfl) (Nat.le_of_ble_eq_true rfl) (fun r21 σ21 q21 => ?_)
    obtain ⟨rfl, rfl⟩ := q21
    refine zz_cv (n := 3) rfl rfl (t_rR (k := 28) (j := 1) (v := w) (W := W) p15 l2 P15 okw hn (by decide)) (Nat.le_of_ble_eq_true rfl) (Nat.le_of_ble_eq_true rfl) (Nat.le_of_ble_eq_true rfl) (fun r22 σ22 q22 => ?_)
    obtain ⟨rfl, p22, g22, P22⟩ := q22
    refine zz_gsn 2 rfl ?_
    rw [show σ22.1 1211 m = G.I.law from ((F1.tr (g15.tr g22)).1 1211 m (by omega)).trans q1]
    refine zz_gsn 1 rfl ?_
    refine zz_br rfl (fun h26 => ?_) (fun h26 => ?_)
    · refine zz_gsn 2 rfl ?_
      rw [show σ22.1 1211 m = G.I.law from ((F1.tr (g15.tr g22)).1 1211 m (by omega)).trans q1]
      refine zz_gsn 1 rfl ?_
      refine zz_br rfl (fun h33 => ?_) (fun h33 => ?_)
      · refine zz_gsn 2 rfl ?_
        refine zz_ri rfl (Or.inl rfl) ?_
        have eg : g_tx G.I.law W = g_rw 7 W 0 ++ g_rw 8 W 1 ++ [] := congrArg (fun z => g_rw 7 W 0 ++ g_rw 8 W 1 ++ z) ((if_neg h26).trans (if_neg h33))
        have F := F1.tr (g15.tr g22)
        rw [ep, e28] at p22
        rw [eg, List.append_nil]
        exact ⟨congrArg (fun z => some (zI z)) p22.1, hG.o p22 F, F.F⟩
      · refine zz_gsn 2 rfl ?_
        refine zz_cv (n := 2) rfl rfl (t_Mo_tells (k := 36) p22 l4) (Nat.le_of_ble_eq_true rfl) (Nat.le_of_ble_eq_true rfl) (Nat.le_of_ble_eq_true rfl) (fun r36 σ36 q36 => ?_)
        obtain ⟨rfl, p36, g36⟩ := q36
        have P36 := P22.fo g36
        refine zz_gsn 4 rfl ?_
        refine zz_cv (n := 3) rfl rfl (t_Mo_of (s := w) (k := 9) hw182 (by decide)) (Nat.le_of_ble_eq_true rfl) (Nat.le_of_ble_eq_true rfl) (Nat.le_of_ble_eq_true rfl) (fun r41 σ41 q41 => ?_)
        obtain ⟨rfl, rfl⟩ := q41
        rw [show σ36.2 (m + 3) (12 * w + 9) = ((W.S 9).toNat : Nat) from (P36.2.1 9 (by decide) (by decide)).trans e9.symm]
        refine zz_cv (n := 2) rfl rfl (t_Mo_tellsNumber (n := (W.S 9).toNat) p36 l5 nn9) (Nat.le_of_ble_eq_true rfl) (Nat.le_of_ble_eq_true rfl) (Nat.le_of_ble_eq_true rfl) (fun r42 σ42 q42 => ?_)
        obtain ⟨rfl, p42, g42⟩ := q42
        have P42 := P36.fo g42
        refine zz_gsn 2 rfl ?_
        refine zz_cv (n := 2) rfl rfl (t_Mo_tells (k := 26) p42 l6) (Nat.le_of_ble_eq_true rfl) (Nat.le_of_ble_eq_true rfl) (Nat.le_of_ble_eq_true rfl) (fun r45 σ45 q45 => ?_)
        obtain ⟨rfl, p45, g45⟩ := q45
        have P45 := P42.fo g45
        refine zz_gsn 4 rfl ?_
        refine zz_cv (n := 3) rfl rfl (t_Mo_of (s := w) (k := 10) hw182 (by decide)) (Nat.le_of_ble_eq_true rfl) (Nat.le_of_ble_eq_true rfl) (Nat.le_of_ble_eq_true rfl) (fun r50 σ50 q50 => ?_)
        obtain ⟨rfl, rfl⟩ := q50
        rw [show σ45.2 (m + 3) (12 * w + 10) = ((W.S 10).toNat : Nat) from (P45.2.1 10 (by decide) (by decide)).trans e10.symm]
        refine zz_cv (n := 2) rfl rfl (t_Mo_tellsNumber (n := (W.S 10).toNat) p45 l7 nn10) (Nat.le_of_ble_eq_true rfl) (Nat.le_of_ble_eq_true rfl) (Nat.le_of_ble_eq_true rfl) (fun r51 σ51 q51 => ?_)
        obtain ⟨rfl, p51, g51⟩ := q51
        refine zz_gsn 2 rfl ?_
        refine zz_ri rfl (Or.inl rfl) ?_
        have eg : g_tx G.I.law W = g_rw 7 W 0 ++ g_rw 8 W 1 ++ g_ow W := congrArg (fun z => g_rw 7 W 0 ++ g_rw 8 W 1 ++ z) ((if_neg h26).trans (if_pos (by first | exact h33 | exact Decidable.not_not.mp h33)))
        have F := ((((F1.tr (g15.tr g22)).tr g36).tr g42).tr g45).tr g51
        have z : g_rw 7 W 0 ++ g_rw 8 W 1 ++ g_ow W = [] ++ g_rw 25 W 0 ++ g_rw 28 W 1 ++ zt_w 36 ++ zt_n (W.S 9).toNat ++ zt_w 26 ++ zt_n (W.S 10).toNat := by
          rw [ep, e28, y36, y26]
          unfold g_ow
          simp only [List.append_assoc]
        rw [eg, z]
        exact ⟨congrArg (fun z => some (zI z)) p51.1, hG.o p51 F, F.F⟩
    · refine zz_gsn 2 rfl ?_
      refine zz_cv (n := 2) rfl rfl (t_Mo_tellsState (v := w) (W := W) p22 l3 P22 okw hn hw182 h7 h8) (Nat.le_of_ble_eq_true rfl) (Nat.le_of_ble_eq_true rfl) (Nat.le_of_ble_eq_true rfl) (fun r29 σ29 q29 => ?_)
      obtain ⟨rfl, p29, g29⟩ := q29
      refine zz_gsn 2 rfl ?_
      rw [show σ29.1 1211 m = G.I.law from (((F1.tr (g15.tr g22)).tr g29).1 1211 m (by omega)).trans q1]
      refine zz_gsn 1 rfl ?_
      refine zz_br rfl (fun h33 => ?_) (fun h33 => absurd (by first | exact h33 | exact Decidable.not_not.mp h33) (show ¬ G.I.law = 2 by rw [show G.I.law = 1 from (by first | exact h26 | exact Decidable.not_not.mp h26)]; decide))
      refine zz_gsn 2 rfl ?_
      refine zz_ri rfl (Or.inl rfl) ?_
      have eg : g_tx G.I.law W = g_rw 7 W 0 ++ g_rw 8 W 1 ++ g_tu W := congrArg (fun z => g_rw 7 W 0 ++ g_rw 8 W 1 ++ z) (if_pos (by first | exact h26 | exact Decidable.not_not.mp h26))
      have F := (F1.tr (g15.tr g22)).tr g29
      rw [ep, e28] at p29
      rw [eg]
      exact ⟨congrArg (fun z => some (zI z)) p29.1, hG.o p29 F, F.F⟩
  · refine zz_gsn 2 rfl ?_
    refine zz_cv (n := 2) rfl rfl (t_Mo_isVersion) (Nat.le_of_ble_eq_true rfl) (Nat.le_of_ble_eq_true rfl) (Nat.le_of_ble_eq_true rfl) (fun r2 σ2 q2 => ?_)
    obtain ⟨rfl, n2, rfl, e2⟩ := q2
    replace e2 := rv_of hI ho e2
    replace e2 : n2 = 0 := e2.elim (fun z => absurd z.2 hv) (fun z => z.1)
    refine zz_br rfl (fun h3 => absurd e2 h3) (fun h3 => ?_)
    refine zz_gsn 1 rfl ?_
    refine zz_ri rfl (Or.inl rfl) ?_
    rw [show a_tell G v = (-2, G) from if_neg hv]
    exact ⟨rfl, hG, zz_F.rf⟩
