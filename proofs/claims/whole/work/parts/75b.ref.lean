/-! the reference: rest -/
theorem t_Mo_isAtRest {X : zz_X} {σ : zz_M} {m s : Nat} {W : zz_W} (hP : MP σ m s W) (hs : s < 182) : zz_T X 2 p_Mo_isAtRest [zP 12 0 0 m, zI (s : Nat)] σ (fun r σ' => σ = σ' ∧ r = some (zI (w_ri W))) := by
  refine zz_mk k_Mo_isAtRest o_Mo_isAtRest rfl rfl (Nat.le_of_ble_eq_true rfl) ?_
  show zz_G X 2 p_Mo_isAtRest 0 [zP 12 0 0 m, zI (s : Nat)] [] σ _
  have e7 := hP.2.1 7 (by decide) (by decide)
  have e9 := hP.2.1 9 (by decide) (by decide)
  have e10 := hP.2.1 10 (by decide) (by decide)
  refine zz_gsn 3 rfl ?_
  refine zz_cv (n := 3) rfl rfl (t_Mo_of (s := s) (k := 7) hs (by decide)) (Nat.le_of_ble_eq_true rfl) (Nat.le_of_ble_eq_true rfl) (Nat.le_of_ble_eq_true rfl) (fun r3 σ3 q3 => ?_)
  obtain ⟨rfl, rfl⟩ := q3
  rw [e7]
  refine zz_br rfl (fun h4 => ?_) (fun h4 => ?_)
  · refine zz_gsn 1 rfl ?_
    refine zz_ri rfl (Or.inr ⟨rfl, by first | exact Or.inl rfl | exact Or.inr rfl | omega⟩) ?_
    exact ⟨rfl, congrArg (fun z => some (zI z)) (if_neg (fun z => h4 z.1)).symm⟩
  · refine zz_gsn 3 rfl ?_
    refine zz_cv (n := 3) rfl rfl (t_Mo_of (s := s) (k := 9) hs (by decide)) (Nat.le_of_ble_eq_true rfl) (Nat.le_of_ble_eq_true rfl) (Nat.le_of_ble_eq_true rfl) (fun r8 σ8 q8 => ?_)
    obtain ⟨rfl, rfl⟩ := q8
    rw [e9]
    refine zz_br rfl (fun h9 => ?_) (fun h9 => ?_)
    · refine zz_gsn 1 rfl ?_
      refine zz_ri rfl (Or.inr ⟨rfl, by first | exact Or.inl rfl | exact Or.inr rfl | omega⟩) ?_
      exact ⟨rfl, congrArg (fun z => some (zI z)) (if_neg (fun z => h9 z.2.1)).symm⟩
    · refine zz_gsn 3 rfl ?_
      refine zz_cv (n := 3) rfl rfl (t_Mo_of (s := s) (k := 10) hs (by decide)) (Nat.le_of_ble_eq_true rfl) (Nat.le_of_ble_eq_true rfl) (Nat.le_of_ble_eq_true rfl) (fun r13 σ13 q13 => ?_)
      obtain ⟨rfl, rfl⟩ := q13
      rw [e10]
      refine zz_br rfl (fun h14 => ?_) (fun h14 => ?_)
      · refine zz_gsn 1 rfl ?_
        refine zz_ri rfl (Or.inr ⟨rfl, by first | exact Or.inl rfl | exact Or.inr rfl | omega⟩) ?_
        exact ⟨rfl, congrArg (fun z => some (zI z)) (if_neg (fun z => h14 z.2.2)).symm⟩
      · refine zz_gsn 1 rfl ?_
        refine zz_jp rfl ?_
        refine zz_ri rfl (Or.inr ⟨rfl, by first | exact Or.inl rfl | exact Or.inr rfl | omega⟩) ?_
        exact ⟨rfl, congrArg (fun z => some (zI z)) (if_pos ⟨by omega, by omega, by omega⟩).symm⟩
theorem w_ri_b (W : zz_W) : w_ri W = 0 ∨ w_ri W = 1 := by
  unfold w_ri
  split
  · exact Or.inr rfl
  · exact Or.inl rfl
theorem lp_rrest {X : zz_X} {m n0 B0 : Nat} {law C v was : Int} {W0 : zz_W} {σ0 : zz_M} {Post : Option zz_V → zz_M → Prop} (hC : 2 ≤ C ∧ C ≤ 4) (hB : B0 ≤ 60) (hl5 : σ0.1 1205 m = law) (hl6 : σ0.1 1206 m = C) (kk : ∀ (σ' : zz_M), Fx m n0 σ0 σ' → Post (some (zI (r_f0 (fun i => w_ri (r_dd law C 0 i W0)) 41 0))) (zz_sf σ' 1203 m was)) :
    ∀ (r i : Nat) (σ : zz_M), i + (r + 1) = 41 → r_f0 (fun i => w_ri (r_dd law C 0 i W0)) (r + 1) i = r_f0 (fun i => w_ri (r_dd law C 0 i W0)) 41 0 → r_bd law B0 n0 i (r_dd law C 0 i W0) → MP σ m 122 (r_dd law C 0 i W0) → Fx m n0 σ0 σ → zz_G X 6 p_Mo_rest 15 [zP 12 0 0 m, zI v, zI was, zI (i : Nat), zU] [] σ Post := by
  intro r
  induction r with
  | zero =>
    intro i σ hi hr hI hP hF
    have i40 : i = 40 := by omega
    have wb := w_ri_b (r_dd law C 0 i W0)
    have hy : w_ri (r_dd law C 0 i W0) ≠ 0 → r_f0 (fun i => w_ri (r_dd law C 0 i W0)) 41 0 = ((i : Nat) : Int) := fun z => by rw [← hr]; exact if_pos z
    have hn : ¬ w_ri (r_dd law C 0 i W0) ≠ 0 → r_f0 (fun i => w_ri (r_dd law C 0 i W0)) 41 0 = -1 := fun z => by rw [← hr]; exact if_neg z
    clear hr
    have hge : (40 : Int) ≤ ((i : Nat) : Int) := by omega
    obtain ⟨x, hx⟩ : ∃ x, x = w_ri (r_dd law C 0 i W0) := ⟨_, rfl⟩
    rw [← hx] at hy hn wb
    refine zz_gsn 2 rfl ?_
    refine zz_br rfl (fun h17 => ?_) (fun h17 => absurd h17 (fun z => by omega))
    refine zz_gsn 2 rfl ?_
    refine zz_cv (n := 2) rfl rfl (t_Mo_isAtRest hP (by decide)) (Nat.le_of_ble_eq_true rfl) (Nat.le_of_ble_eq_true rfl) (Nat.le_of_ble_eq_true rfl) (fun r37 σ37 q37 => ?_)
    obtain ⟨rfl, rfl⟩ := q37
    rw [← hx]
    refine zz_gsn 5 rfl ?_
    refine zz_br rfl (fun h43 => ?_) (fun h43 => ?_)
    · refine zz_gsn 1 rfl ?_
      refine zz_ri rfl (Or.inl rfl) ?_
      rw [hn (fun y => y h43)] at kk
      exact kk σ hF
    · refine zz_gsn 1 rfl ?_
      refine zz_jp rfl ?_
      refine zz_ri rfl (Or.inl rfl) ?_
      rw [hy h43] at kk
      exact kk σ hF
  | succ r ih =>
    intro i σ hi hr hI hP hF
    have hI2 := hI.s (C := C) (kind := 0) hC (by decide) (fun _ => by decide) (fun z => z.elim (fun z => absurd z (by decide)) (fun z => absurd z (by decide)))
    have wb := w_ri_b (r_dd law C 0 i W0)
    have hy : w_ri (r_dd law C 0 i W0) ≠ 0 → r_f0 (fun i => w_ri (r_dd law C 0 i W0)) 41 0 = ((i : Nat) : Int) := fun z => by rw [← hr]; exact if_pos z
    have hn : ¬ w_ri (r_dd law C 0 i W0) ≠ 0 → r_f0 (fun i => w_ri (r_dd law C 0 i W0)) (r + 1 + 1) i = r_f0 (fun i => w_ri (r_dd law C 0 i W0)) (r + 1) (i + 1) := fun z => if_neg z
    have hlt : ¬ (40 : Int) ≤ ((i : Nat) : Int) := by omega
    have i40 : i < 40 := by omega
    refine zz_gsn 2 rfl ?_
    refine zz_br rfl (fun h17 => absurd h17 hlt) (fun h17 => ?_)
    refine zz_gsn 2 rfl ?_
    refine zz_cv (n := 2) rfl rfl (t_Mo_isAtRest hP (by decide)) (Nat.le_of_ble_eq_true rfl) (Nat.le_of_ble_eq_true rfl) (Nat.le_of_ble_eq_true rfl) (fun r20 σ20 q20 => ?_)
    obtain ⟨rfl, rfl⟩ := q20
    refine zz_br rfl (fun h21 => ?_) (fun h21 => ?_)
    · refine zz_gsn 2 rfl ?_
      refine zz_cv (n := 2) rfl rfl (t_Mo_isAtRest hP (by decide)) (Nat.le_of_ble_eq_true rfl) (Nat.le_of_ble_eq_true rfl) (Nat.le_of_ble_eq_true rfl) (fun r37 σ37 q37 => ?_)
      obtain ⟨rfl, rfl⟩ := q37
      refine zz_gsn 5 rfl ?_
      refine zz_br rfl (fun h43 => absurd h43 h21) (fun h43 => ?_)
      refine zz_gsn 1 rfl ?_
      refine zz_jp rfl ?_
      refine zz_ri rfl (Or.inl rfl) ?_
      rw [hy h21] at kk
      exact kk σ hF
    · refine zz_gsn 5 rfl ?_
      refine zz_cv (n := 5) rfl rfl (t_Mo_deeds (s := 122) (t := 123) (mk := -1) (kind := 0) (x := 0) hP (by decide) (by decide) (by decide) ((hF.1 1205 (Or.inr (Or.inl rfl)) (by decide)).trans hl5) ((hF.1 1206 (Or.inr (Or.inr (Or.inl rfl))) (by decide)).trans hl6) hI.1 (by omega) hC (by decide) (fun _ => by decide) ((fun z => z.elim (fun z => absurd z (by decide)) (fun z => absurd z (by decide)))) (by have := hI.2.2; omega)) (Nat.le_of_ble_eq_true rfl) (Nat.le_of_ble_eq_true rfl) (Nat.le_of_ble_eq_true rfl) (fun r27 σ27 q27 => ?_)
      obtain ⟨rfl, p27, g27, b1_27, b2_27⟩ := q27
      refine zz_gsn 4 rfl ?_
      refine zz_cv (n := 3) rfl rfl (t_Mo_copies (s := 123) (t := 122) (by decide) (by decide) (by decide)) (Nat.le_of_ble_eq_true rfl) (Nat.le_of_ble_eq_true rfl) (Nat.le_of_ble_eq_true rfl) (fun r32 σ32 q32 => ?_)
      obtain ⟨rfl, u32, v32, w32⟩ := q32
      obtain ⟨P32, -⟩ := p27.copy u32 v32 w32
      have F32 : Fx m n0 σ0 σ32 := (hF.tr (g27.x hI.2.1 (by decide))).tr (cp_x v32 w32 (by decide))
      refine zz_gsn 1 rfl ?_
      refine zz_jp rfl ?_
      rw [zw_s (by omega)]
      exact ih (i + 1) σ32 (by omega) ((hn (fun y => y (by first | exact h21 | exact Decidable.not_not.mp h21))).symm.trans hr) hI2 P32 F32
theorem t_Mo_rest {X : zz_X} {σ : zz_M} {m : Nat} {G : zz_J} {v : Int} (hG : RG σ m G) (ok : g_ok G) : zz_T X 6 p_Mo_rest [zP 12 0 0 m, zI v] σ (fun r σ' => r = some (zI (a_rest G v)) ∧ RG σ' m G ∧ zz_F (A_rf m) σ σ') := by
  refine zz_mk k_Mo_rest o_Mo_rest rfl rfl (Nat.le_of_ble_eq_true rfl) ?_
  show zz_G X 6 p_Mo_rest 0 [zP 12 0 0 m, zI v, zU, zU, zU] [] σ _
  obtain ⟨hI, hT, hO, hF, hM, h10⟩ := id hG
  obtain ⟨⟨ho, hfx⟩, okt, oko, okm⟩ := id ok
  have hk6 := ho.1.2.2.1
  rcases Classical.em (vz G.I.ho G.I.k v) with hv | hv
  · obtain ⟨w, rfl⟩ : ∃ w : Nat, v = (w : Nat) := ⟨v.toNat, by omega⟩
    obtain ⟨z0, w1, w2⟩ := id hv
    obtain ⟨hone, ⟨q1, q2, q3, q4⟩, hV⟩ := ri_y hI z0
    obtain ⟨⟨r1, r2, r3⟩, r4, r5, r6, r7⟩ := id hV
    have hw1 : w ≤ G.I.k := by omega
    obtain ⟨hS, hq1, hq2⟩ := r4 w hw1
    have hCC := (i_ho ho z0).2
    have hbz : r_bd G.I.law w (IH G.I).n 0 (hw (IH G.I) w) := r_bd.z ho.1 hw1
    refine zz_gsn 2 rfl ?_
    refine zz_cv (n := 2) rfl rfl (t_Mo_isVersion) (Nat.le_of_ble_eq_true rfl) (Nat.le_of_ble_eq_true rfl) (Nat.le_of_ble_eq_true rfl) (fun r2 σ2 q2 => ?_)
    obtain ⟨rfl, n2, rfl, e2⟩ := q2
    replace e2 := rv_of hI ho e2
    replace e2 : n2 = 1 := e2.elim (fun z => z.1) (fun z => absurd hv z.2)
    refine zz_br rfl (fun h3 => ?_) (fun h3 => absurd (by first | exact h3 | exact Decidable.not_not.mp h3) (show n2 ≠ 0 by omega))
    refine zz_gsn 6 rfl ?_
    refine zz_cv (n := 3) rfl rfl (t_Mo_copies (s := w) (t := 122) (by omega) (by decide) (by omega)) (Nat.le_of_ble_eq_true rfl) (Nat.le_of_ble_eq_true rfl) (Nat.le_of_ble_eq_true rfl) (fun r12 σ12 q12 => ?_)
    obtain ⟨rfl, u14, v14, w14⟩ := q12
    obtain ⟨P14, -⟩ := hS.copy u14 v14 w14
    have F14 : Fx m (IH G.I).n σ σ12 := cp_x v14 w14 (by decide)
    refine zz_gsn 2 rfl ?_
    refine lp_rrest (n0 := (IH G.I).n) (B0 := w) (law := G.I.law) (C := G.I.C) (W0 := hw (IH G.I) w) (σ0 := σ) ⟨hCC.1, hCC.2.1⟩ (by omega) r1 r2 (fun σ' F => ?_) 40 0 σ12 rfl rfl hbz P14 F14
    obtain ⟨R, Z⟩ := F.cl
    exact ⟨congrArg (fun z => some (zI z)) (if_pos hv).symm, Fr.RG hG ok R, Z⟩
  · refine zz_gsn 2 rfl ?_
    refine zz_cv (n := 2) rfl rfl (t_Mo_isVersion) (Nat.le_of_ble_eq_true rfl) (Nat.le_of_ble_eq_true rfl) (Nat.le_of_ble_eq_true rfl) (fun r2 σ2 q2 => ?_)
    obtain ⟨rfl, n2, rfl, e2⟩ := q2
    replace e2 := rv_of hI ho e2
    replace e2 : n2 = 0 := e2.elim (fun z => absurd z.2 hv) (fun z => z.1)
    refine zz_br rfl (fun h3 => absurd e2 h3) (fun h3 => ?_)
    refine zz_gsn 1 rfl ?_
    refine zz_ri rfl (Or.inl rfl) ?_
    exact ⟨congrArg (fun z => some (zI z)) (if_neg hv).symm, hG, zz_F.rf⟩
