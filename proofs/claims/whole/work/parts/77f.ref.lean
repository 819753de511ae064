/-! the reference: walk -/
theorem RG.t0 {σ : zz_M} {m : Nat} {G : zz_J} (h : RG σ m G) : RG (zz_sf σ 1225 m 0) m (G.I, [], G.o, G.f, G.p, G.m) := by
  obtain ⟨hI, hT, hO, hF, hM, h10⟩ := h
  have f1 : ∀ f, f ≠ 1225 → (zz_sf σ 1225 m 0).1 f m = σ.1 f m := fun f hf => sf_f _ _ hf
  refine ⟨?_, ⟨sf_h _ _ _ _, fun i hi => absurd hi (Nat.not_lt_zero i)⟩, ⟨(f1 _ (by decide)).trans hO.1, hO.2⟩, ⟨(f1 _ (by decide)).trans hF.1, (f1 _ (by decide)).trans hF.2⟩, hM, h10⟩
  rcases hI with ⟨a, b⟩ | ⟨a, ⟨b1, b2, b3, b4⟩, c⟩
  · exact Or.inl ⟨a, (f1 _ (by decide)).trans b⟩
  · refine Or.inr ⟨a, ⟨(f1 _ (by decide)).trans b1, (f1 _ (by decide)).trans b2, (f1 _ (by decide)).trans b3, (f1 _ (by decide)).trans b4⟩, ?_⟩
    obtain ⟨⟨r1, r2, r3⟩, r4, r5, r6⟩ := c
    exact ⟨⟨(f1 _ (by decide)).trans r1, (f1 _ (by decide)).trans r2, (f1 _ (by decide)).trans r3⟩, fun v hv => ⟨(r4 v hv).1.fd (by decide), (r4 v hv).2⟩, r5, r6⟩
theorem g_ok.t0 {G : zz_J} (ok : g_ok G) : g_ok (G.I, [], G.o, G.f, G.p, G.m) := ⟨ok.1, ⟨Nat.zero_le _, fun x hx => absurd hx List.not_mem_nil⟩, ok.2.2⟩
theorem t_Mo_walk {X : zz_X} {σ : zz_M} {m : Nat} {G : zz_J} {v : Int} (hG : RG σ m G) (ok : g_ok G) : zz_T X 7 p_Mo_walk [zP 12 0 0 m, zI v] σ (fun r σ' => r = some (zI (a_walk G v).1) ∧ RG σ' m (a_walk G v).2 ∧ zz_F (A_rf m) σ σ') := by
  refine zz_mk k_Mo_walk o_Mo_walk rfl rfl (Nat.le_of_ble_eq_true rfl) ?_
  show zz_G X 7 p_Mo_walk 0 [zP 12 0 0 m, zI v, zU, zU, zU] [] σ _
  obtain ⟨hI, hT, hO, hF, hM, h10⟩ := id hG
  obtain ⟨⟨ho, hfx⟩, okt, oko, okm⟩ := id ok
  have hk6 := ho.1.2.2.1
  rcases Classical.em (vz G.I.ho G.I.k v) with hv | hv
  · obtain ⟨w, rfl⟩ : ∃ w : Nat, v = (w : Nat) := ⟨v.toNat, by omega⟩
    obtain ⟨z0, w1, w2⟩ := id hv
    obtain ⟨hone, ⟨q1, q2, q3, q4⟩, hV⟩ := ri_y hI z0
    obtain ⟨⟨r1, r2, r3⟩, r4, r5, r6, r7⟩ := id hV
    have hw1 : w ≤ G.I.k := by omega
    obtain ⟨hS, hq1, hq2⟩ := r4 w hw1
    have hCC := (i_ho ho z0).2
    have hbz : r_bd G.I.law w (IH G.I).n 0 (hw (IH G.I) w) := r_bd.z ho.1 hw1
    refine zz_gsn 2 rfl ?_
    refine zz_cv (n := 2) rfl rfl (t_Mo_isVersion) (Nat.le_of_ble_eq_true rfl) (Nat.le_of_ble_eq_true rfl) (Nat.le_of_ble_eq_true rfl) (fun r2 σ2 q2 => ?_)
    obtain ⟨rfl, n2, rfl, e2⟩ := q2
    replace e2 := rv_of hI ho e2
    replace e2 : n2 = 1 := e2.elim (fun z => z.1) (fun z => absurd hv z.2)
    refine zz_br rfl (fun h3 => ?_) (fun h3 => absurd (by first | exact h3 | exact Decidable.not_not.mp h3) (show n2 ≠ 0 by omega))
    refine zz_gsn 5 rfl ?_
    rw [hT.1]
    refine zz_gsn 4 rfl ?_
    obtain ⟨σ1, hs1⟩ : ∃ s, s = zz_sf σ 1225 m 0 := ⟨_, rfl⟩
    refine zz_sge (σ' := σ1) hs1 ?_
    have f1 : ∀ f, f ≠ 1225 → σ1.1 f m = σ.1 f m := fun f hf => by rw [hs1]; exact sf_f _ _ hf
    have hS1 : MP σ1 m w (hw (IH G.I) w) := by rw [hs1]; exact hS.fd (by decide)
    have G1 : RG σ1 m (G.I, [], G.o, G.f, G.p, G.m) := by rw [hs1]; exact hG.t0
    have Z1 : zz_F (A_rf m) σ σ1 := by rw [hs1]; exact zz_F.sf ⟨Nat.le_refl _, Nat.le_add_right _ _⟩
    refine zz_gsn 3 rfl ?_
    refine zz_cv (n := 3) rfl rfl (t_Mo_walks (w := w) (n0 := (IH G.I).n) (B0 := w) (law := G.I.law) (C := G.I.C) (W := hw (IH G.I) w) (T := G.t) (hS1) (by omega) hbz ⟨hCC.1, hCC.2.1⟩ (by omega) ((f1 _ (by decide)).trans r1) ((f1 _ (by decide)).trans r2) ((f1 _ (by decide)).trans q1) okt.1 (fun i hi => by rw [hs1]; exact hT.2 i hi)) (Nat.le_of_ble_eq_true rfl) (Nat.le_of_ble_eq_true rfl) (Nat.le_of_ble_eq_true rfl) (fun r18 σ18 q18 => ?_)
    obtain ⟨rfl, f18⟩ := q18
    obtain ⟨R, Z⟩ := f18.cl
    rw [f1 _ (by decide)] at R Z
    refine zz_gsn 5 rfl ?_
    refine zz_ri rfl (Or.inl rfl) ?_
    rw [show a_walk G (w : Nat) = (r_wk G.I.law G.I.C 0 G.t (hw (gW G) w) 0, (G.I, [], G.o, G.f, G.p, G.m)) from if_pos hv]
    exact ⟨congrArg (fun z => some (zI z)) (r_wk_x _ _ _ _ _ _ _ _ w_eq.rf), Fr.RG G1 ok.t0 R, Z1.tr Z⟩
  · refine zz_gsn 2 rfl ?_
    refine zz_cv (n := 2) rfl rfl (t_Mo_isVersion) (Nat.le_of_ble_eq_true rfl) (Nat.le_of_ble_eq_true rfl) (Nat.le_of_ble_eq_true rfl) (fun r2 σ2 q2 => ?_)
    obtain ⟨rfl, n2, rfl, e2⟩ := q2
    replace e2 := rv_of hI ho e2
    replace e2 : n2 = 0 := e2.elim (fun z => absurd z.2 hv) (fun z => z.1)
    refine zz_br rfl (fun h3 => absurd e2 h3) (fun h3 => ?_)
    refine zz_gsn 1 rfl ?_
    refine zz_ri rfl (Or.inl rfl) ?_
    rw [show a_walk G v = (-2, G) from if_neg hv]
    exact ⟨rfl, hG, zz_F.rf⟩
