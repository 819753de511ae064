/-! the reference: worst, worstAt, spike -/
theorem t_Mo_goesAll {X : zz_X} {σ : zz_M} {m : Nat} {G : zz_J} {w n : Nat} (hG : RG σ m G) (ok : g_ok G) (hv : vz G.I.ho G.I.k (w : Nat)) (hn : 1 ≤ n ∧ n ≤ 6) : zz_T X 13 p_Mo_goesAll [zP 12 0 0 m, zI (w : Nat), zI (n : Nat)] σ (fun r σ' => r = none ∧ RN σ' m n (g_sc G (w : Nat) n) ∧ RG σ' m G ∧ zz_F (A_rf m) σ σ') := by
  refine zz_mk k_Mo_goesAll o_Mo_goesAll rfl rfl (Nat.le_of_ble_eq_true rfl) ?_
  show zz_G X 13 p_Mo_goesAll 0 [zP 12 0 0 m, zI (w : Nat), zI (n : Nat)] [] σ _
  obtain ⟨hI, hT, hO, hF, hM, h10⟩ := id hG
  obtain ⟨⟨ho, hfx⟩, okt, oko, okm⟩ := id ok
  have hk6 := ho.1.2.2.1
  have z0 := hv.1
  have w1 := hv.2.1
  have w2 := hv.2.2
  obtain ⟨hone, ⟨q1, q2, q3, q4⟩, hV⟩ := ri_y hI z0
  obtain ⟨⟨r1, r2, r3⟩, r4, r5, r6, r7⟩ := id hV
  have hw1 : w ≤ G.I.k := by omega
  obtain ⟨hS, hq1, hq2⟩ := r4 w hw1
  have hCC := (i_ho ho z0).2
  have hbz : r_bd G.I.law w (IH G.I).n 0 (hw (IH G.I) w) := r_bd.z ho.1 hw1
  refine zz_gsn 15 rfl ?_
  obtain ⟨σL, hL⟩ : ∃ x, x = zz_sf (zz_sf (zz_sf (zz_sf (zz_sf σ 1243 m 0) 1244 m 0) 1246 m 0) 1245 m 0) 1247 m (n : Nat) := ⟨_, rfl⟩
  refine zz_sge (σ' := σL) hL ?_
  have b0 : σL.1 1243 m = 0 := by rw [hL, sf_f _ _ (by decide), sf_f _ _ (by decide), sf_f _ _ (by decide), sf_f _ _ (by decide), sf_h]
  have b1 : σL.1 1244 m = 0 := by rw [hL, sf_f _ _ (by decide), sf_f _ _ (by decide), sf_f _ _ (by decide), sf_h]
  have b2 : σL.1 1245 m = 0 := by rw [hL, sf_f _ _ (by decide), sf_h]
  have b3 : σL.1 1246 m = 0 := by rw [hL, sf_f _ _ (by decide), sf_f _ _ (by decide), sf_h]
  have b4 : σL.1 1247 m = (n : Nat) := by rw [hL, sf_h]
  have fL : ∀ f, pf f → σL.1 f m = σ.1 f m := fun f hf => by
    unfold pf at hf
    rw [hL, sf_f _ _ (by omega), sf_f _ _ (by omega), sf_f _ _ (by omega), sf_f _ _ (by omega), sf_f _ _ (by omega)]
  have mL : σL.2 = σ.2 := by rw [hL]; rfl
  have FL : Fr m (gW G).n σ σL := ⟨fL, fun a i _ => by rw [mL]⟩
  have ZL : zz_F (A_rf m) σ σL := by
    rw [hL]
    have zA : A_rf m m := ⟨Nat.le_refl _, Nat.le_add_right _ _⟩
    exact ((((zz_F.sf zA).tr (zz_F.sf zA)).tr (zz_F.sf zA)).tr (zz_F.sf zA)).tr (zz_F.sf zA)
  have hpow : ((2 ^ n : Nat) : Int) ≤ 64 := by
    have z : n = 1 ∨ n = 2 ∨ n = 3 ∨ n = 4 ∨ n = 5 ∨ n = 6 := by omega
    rcases z with z | z | z | z | z | z <;> subst z <;> decide
  have PL : PR σL m w n G.I.law G.I.C w (IH G.I).n n 0 (hw (IH G.I) w) 0 (fun _ => 0) s_r0 := ⟨FL.MP hS (Nat.le_refl _) (by omega), by omega, ⟨(fL 1205 (Or.inr (Or.inl rfl))).trans r1, (fL 1206 (Or.inr (Or.inr (Or.inl rfl)))).trans r2⟩, hbz, ⟨Int.le_refl _, by omega⟩, ⟨Int.le_refl _, by show (0 : Int) + _ ≤ 1000; omega⟩, ⟨⟨b0, b1, b2, b3, b4⟩, fun z => absurd z (Int.lt_irrefl 0)⟩, fun i hi => absurd hi (Nat.not_lt_zero i)⟩
  clear hL
  refine zz_gsn 4 rfl ?_
  refine zz_cv (n := 4) rfl rfl (t_Mo_goes (n := n) (B0 := w) (n0 := (IH G.I).n) ⟨hCC.1, hCC.2.1⟩ (by omega) hn.2 n 0 w (hw (IH G.I) w) 0 (fun _ => 0) s_r0 σL (Nat.zero_add n) PL) (by omega) (Nat.le_of_ble_eq_true rfl) (Nat.le_of_ble_eq_true rfl) (fun r19 σ19 q19 => ?_)
  obtain ⟨rfl, wN, wt, wF⟩ := q19
  refine zz_rv rfl rfl ?_
  exact ⟨rfl, wN, Fr.RG hG ok (FL.tr (wF.fr (Nat.le_refl _) (by omega))), ZL.tr wF.1.2.2⟩
theorem a_worst_n {G : zz_J} {v n x : Int} (h : ¬ (vz G.I.ho G.I.k v ∧ (1 ≤ n ∧ n ≤ 6) ∧ 0 ≤ x ∧ x ≤ 2)) : a_worst G v n x = -2 := by
  unfold a_worst
  split
  · rename_i z
    rw [if_neg (fun y => h ⟨z.1, z.2, by omega⟩), if_neg (fun y => h ⟨z.1, z.2, by omega⟩), if_neg (fun y => h ⟨z.1, z.2, by omega⟩)]
  · rfl
theorem t_Mo_worst {X : zz_X} {σ : zz_M} {m : Nat} {G : zz_J} {v n x_ : Int} (hG : RG σ m G) (ok : g_ok G) : zz_T X 14 p_Mo_worst [zP 12 0 0 m, zI v, zI n, zI x_] σ (fun r σ' => r = some (zI (a_worst G v n x_)) ∧ RG σ' m G ∧ zz_F (A_rf m) σ σ') := by
  refine zz_mk k_Mo_worst o_Mo_worst rfl rfl (Nat.le_of_ble_eq_true rfl) ?_
  show zz_G X 14 p_Mo_worst 0 [zP 12 0 0 m, zI v, zI n, zI x_] [] σ _
  obtain ⟨hI, hT, hO, hF, hM, h10⟩ := id hG
  obtain ⟨⟨ho, hfx⟩, okt, oko, okm⟩ := id ok
  have hk6 := ho.1.2.2.1
  rcases Classical.em (vz G.I.ho G.I.k v ∧ (1 ≤ n ∧ n ≤ 6) ∧ 0 ≤ x_ ∧ x_ ≤ 2) with hv | hv
  · obtain ⟨hv0, hn1⟩ := id hv
    obtain ⟨w, rfl⟩ : ∃ w : Nat, v = (w : Nat) := ⟨v.toNat, by have := hv0.2.1; omega⟩
    obtain ⟨c, rfl⟩ : ∃ c : Nat, n = (c : Nat) := ⟨n.toNat, by omega⟩
    refine zz_gsn 2 rfl ?_
    refine zz_cv (n := 2) rfl rfl (t_Mo_isVersion) (Nat.le_of_ble_eq_true rfl) (Nat.le_of_ble_eq_true rfl) (Nat.le_of_ble_eq_true rfl) (fun r2 σ2 q2 => ?_)
    obtain ⟨rfl, n2, rfl, e2⟩ := q2
    replace e2 := rv_of hI ho e2
    replace e2 : n2 = 1 := e2.elim (fun z => z.1) (fun z => absurd hv0 z.2)
    refine zz_br rfl (fun h3 => absurd h3 (show n2 ≠ 0 by omega)) (fun h3 => ?_)
    refine zz_gsn 4 rfl ?_
    refine zz_cs (n := 3) rfl rfl (t_Mo_in) (Nat.le_of_ble_eq_true rfl) (Nat.le_of_ble_eq_true rfl) (Nat.le_of_ble_eq_true rfl) (fun r8 σ8 q8 => ?_)
    obtain ⟨rfl, n8, rfl, e8⟩ := q8
    refine zz_br rfl (fun h9 => absurd h9 (show n8 ≠ 0 by omega)) (fun h9 => ?_)
    refine zz_gsn 4 rfl ?_
    refine zz_cs (n := 3) rfl rfl (t_Mo_in) (Nat.le_of_ble_eq_true rfl) (Nat.le_of_ble_eq_true rfl) (Nat.le_of_ble_eq_true rfl) (fun r14 σ14 q14 => ?_)
    obtain ⟨rfl, n14, rfl, e14⟩ := q14
    refine zz_br rfl (fun h15 => ?_) (fun h15 => absurd (by first | exact h15 | exact Decidable.not_not.mp h15) (show n14 ≠ 0 by omega))
    refine zz_gsn 3 rfl ?_
    refine zz_cv (n := 3) rfl rfl (t_Mo_goesAll (w := w) (n := c) hG ok hv0 (by omega)) (Nat.le_of_ble_eq_true rfl) (Nat.le_of_ble_eq_true rfl) (Nat.le_of_ble_eq_true rfl) (fun r21 σ21 q21 => ?_)
    obtain ⟨rfl, p21, t21, g21⟩ := q21
    refine zz_gsn 1 rfl ?_
    refine zz_br rfl (fun h23 => ?_) (fun h23 => ?_)
    · refine zz_gsn 2 rfl ?_
      refine zz_br rfl (fun h29 => ?_) (fun h29 => ?_)
      · refine zz_gsn 2 rfl ?_
        refine zz_ri rfl (Or.inl rfl) ?_
        refine ⟨congrArg (fun z => some (zI z)) ?_, t21, g21⟩
        rw [show a_worst G (w : Nat) (c : Nat) x_ = if x_ = 0 then (g_sc G (w : Nat) c).a else if x_ = 1 then (g_sc G (w : Nat) c).b else if x_ = 2 then (g_sc G (w : Nat) c).c else -2 from if_pos ⟨hv0, hn1.1.1, hn1.1.2⟩]
        rw [if_neg (by omega), if_neg (by omega), if_pos (by omega)]
        exact p21.1.2.2.1
      · refine zz_gsn 2 rfl ?_
        refine zz_jp rfl ?_
        refine zz_ri rfl (Or.inl rfl) ?_
        refine ⟨congrArg (fun z => some (zI z)) ?_, t21, g21⟩
        rw [show a_worst G (w : Nat) (c : Nat) x_ = if x_ = 0 then (g_sc G (w : Nat) c).a else if x_ = 1 then (g_sc G (w : Nat) c).b else if x_ = 2 then (g_sc G (w : Nat) c).c else -2 from if_pos ⟨hv0, hn1.1.1, hn1.1.2⟩]
        rw [if_neg (by omega), if_pos (by omega)]
        exact p21.1.2.1
    · refine zz_gsn 2 rfl ?_
      refine zz_jp rfl ?_
      refine zz_ri rfl (Or.inl rfl) ?_
      refine ⟨congrArg (fun z => some (zI z)) ?_, t21, g21⟩
      rw [show a_worst G (w : Nat) (c : Nat) x_ = if x_ = 0 then (g_sc G (w : Nat) c).a else if x_ = 1 then (g_sc G (w : Nat) c).b else if x_ = 2 then (g_sc G (w : Nat) c).c else -2 from if_pos ⟨hv0, hn1.1.1, hn1.1.2⟩]
      rw [if_pos (by omega)]
      exact p21.1.1
  · refine zz_gsn 2 rfl ?_
    refine zz_cv (n := 2) rfl rfl (t_Mo_isVersion) (Nat.le_of_ble_eq_true rfl) (Nat.le_of_ble_eq_true rfl) (Nat.le_of_ble_eq_true rfl) (fun r2 σ2 q2 => ?_)
    obtain ⟨rfl, n2, rfl, e2⟩ := q2
    replace e2 := rv_of hI ho e2
    refine zz_br rfl (fun h3 => ?_) (fun h3 => ?_)
    · refine zz_gsn 1 rfl ?_
      refine zz_ri rfl (Or.inl rfl) ?_
      exact ⟨congrArg (fun z => some (zI z)) (a_worst_n hv).symm, hG, zz_F.rf⟩
    · refine zz_gsn 4 rfl ?_
      refine zz_cs (n := 3) rfl rfl (t_Mo_in) (Nat.le_of_ble_eq_true rfl) (Nat.le_of_ble_eq_true rfl) (Nat.le_of_ble_eq_true rfl) (fun r8 σ8 q8 => ?_)
      obtain ⟨rfl, n8, rfl, e8⟩ := q8
      refine zz_br rfl (fun h9 => ?_) (fun h9 => ?_)
      · refine zz_gsn 1 rfl ?_
        refine zz_ri rfl (Or.inl rfl) ?_
        exact ⟨congrArg (fun z => some (zI z)) (a_worst_n hv).symm, hG, zz_F.rf⟩
      · refine zz_gsn 4 rfl ?_
        refine zz_cs (n := 3) rfl rfl (t_Mo_in) (Nat.le_of_ble_eq_true rfl) (Nat.le_of_ble_eq_true rfl) (Nat.le_of_ble_eq_true rfl) (fun r14 σ14 q14 => ?_)
        obtain ⟨rfl, n14, rfl, e14⟩ := q14
        refine zz_br rfl (fun h15 => ?_) (fun h15 => ?_)
        · exact absurd (show vz G.I.ho G.I.k v ∧ (1 ≤ n ∧ n ≤ 6) ∧ 0 ≤ x_ ∧ x_ ≤ 2 from ⟨e2.elim (fun z => z.2) (fun z => absurd z.1 h3), by omega, by omega⟩) hv
        · refine zz_gsn 1 rfl ?_
          refine zz_ri rfl (Or.inl rfl) ?_
          exact ⟨congrArg (fun z => some (zI z)) (a_worst_n hv).symm, hG, zz_F.rf⟩
theorem t_Mo_worstAt {X : zz_X} {σ : zz_M} {m : Nat} {G : zz_J} {v n i : Int} (hG : RG σ m G) (ok : g_ok G) : zz_T X 14 p_Mo_worstAt [zP 12 0 0 m, zI v, zI n, zI i] σ (fun r σ' => r = some (zI (a_worstAt G v n i)) ∧ RG σ' m G ∧ zz_F (A_rf m) σ σ') := by
  refine zz_mk k_Mo_worstAt o_Mo_worstAt rfl rfl (Nat.le_of_ble_eq_true rfl) ?_
  show zz_G X 14 p_Mo_worstAt 0 [zP 12 0 0 m, zI v, zI n, zI i] [] σ _
  obtain ⟨hI, hT, hO, hF, hM, h10⟩ := id hG
  obtain ⟨⟨ho, hfx⟩, okt, oko, okm⟩ := id ok
  have hk6 := ho.1.2.2.1
  rcases Classical.em (vz G.I.ho G.I.k v ∧ (1 ≤ n ∧ n ≤ 6) ∧ 0 ≤ i) with hv | hv
  · obtain ⟨hv0, hn1⟩ := id hv
    obtain ⟨w, rfl⟩ : ∃ w : Nat, v = (w : Nat) := ⟨v.toNat, by have := hv0.2.1; omega⟩
    obtain ⟨c, rfl⟩ : ∃ c : Nat, n = (c : Nat) := ⟨n.toNat, by omega⟩
    refine zz_gsn 2 rfl ?_
    refine zz_cv (n := 2) rfl rfl (t_Mo_isVersion) (Nat.le_of_ble_eq_true rfl) (Nat.le_of_ble_eq_true rfl) (Nat.le_of_ble_eq_true rfl) (fun r2 σ2 q2 => ?_)
    obtain ⟨rfl, n2, rfl, e2⟩ := q2
    replace e2 := rv_of hI ho e2
    replace e2 : n2 = 1 := e2.elim (fun z => z.1) (fun z => absurd hv0 z.2)
    refine zz_br rfl (fun h3 => absurd h3 (show n2 ≠ 0 by omega)) (fun h3 => ?_)
    refine zz_gsn 4 rfl ?_
    refine zz_cs (n := 3) rfl rfl (t_Mo_in) (Nat.le_of_ble_eq_true rfl) (Nat.le_of_ble_eq_true rfl) (Nat.le_of_ble_eq_true rfl) (fun r8 σ8 q8 => ?_)
    obtain ⟨rfl, n8, rfl, e8⟩ := q8
    refine zz_br rfl (fun h9 => absurd h9 (show n8 ≠ 0 by omega)) (fun h9 => ?_)
    refine zz_gsn 1 rfl ?_
    refine zz_br rfl (fun h11 => ?_) (fun h11 => absurd h11 (by omega))
    refine zz_gsn 3 rfl ?_
    refine zz_cv (n := 3) rfl rfl (t_Mo_goesAll (w := w) (n := c) hG ok hv0 (by omega)) (Nat.le_of_ble_eq_true rfl) (Nat.le_of_ble_eq_true rfl) (Nat.le_of_ble_eq_true rfl) (fun r17 σ17 q17 => ?_)
    obtain ⟨rfl, p17, t17, g17⟩ := q17
    refine zz_gsn 2 rfl ?_
    refine zz_br rfl (fun h20 => ?_) (fun h20 => ?_)
    · refine zz_gsn 1 rfl ?_
      refine zz_ri rfl (Or.inl rfl) ?_
      exact ⟨congrArg (fun z => some (zI z)) (Eq.trans (if_neg (Int.not_lt.mpr h20)).symm (if_pos ⟨⟨hv0, hn1.1.1, hn1.1.2⟩, hn1.2⟩).symm), t17, g17⟩
    · refine zz_gsn 3 rfl ?_
      refine zz_ald rfl (⟨by omega, by omega⟩) ?_
      refine zz_jp rfl ?_
      refine zz_ri rfl (Or.inl rfl) ?_
      have hI0 := ((h_inv ho.1).1 w (by have := hv0.2.2; omega)).1
      have hCC := (i_ho ho hv0.1).2
      have hb := s_go_b ⟨hCC.1, hCC.2.1⟩ c 0 w (hw (gW G) w) 0 (fun _ => 0) s_r0 hI0 (Int.le_refl 0) (Or.inr (Or.inr (by omega)))
      have hil : i < (c : Nat) := by omega
      exact ⟨congrArg (fun z => some (zI z)) ((p17.2 hb i.toNat (by omega)).trans ((if_pos hil).symm.trans (if_pos ⟨⟨hv0, hn1.1.1, hn1.1.2⟩, hn1.2⟩).symm)), t17, g17⟩
  · refine zz_gsn 2 rfl ?_
    refine zz_cv (n := 2) rfl rfl (t_Mo_isVersion) (Nat.le_of_ble_eq_true rfl) (Nat.le_of_ble_eq_true rfl) (Nat.le_of_ble_eq_true rfl) (fun r2 σ2 q2 => ?_)
    obtain ⟨rfl, n2, rfl, e2⟩ := q2
    replace e2 := rv_of hI ho e2
    refine zz_br rfl (fun h3 => ?_) (fun h3 => ?_)
    · refine zz_gsn 1 rfl ?_
      refine zz_ri rfl (Or.inl rfl) ?_
      exact ⟨congrArg (fun z => some (zI z)) (if_neg (fun z => hv ⟨z.1.1, z.1.2, z.2⟩)).symm, hG, zz_F.rf⟩
    · refine zz_gsn 4 rfl ?_
      refine zz_cs (n := 3) rfl rfl (t_Mo_in) (Nat.le_of_ble_eq_true rfl) (Nat.le_of_ble_eq_true rfl) (Nat.le_of_ble_eq_true rfl) (fun r8 σ8 q8 => ?_)
      obtain ⟨rfl, n8, rfl, e8⟩ := q8
      refine zz_br rfl (fun h9 => ?_) (fun h9 => ?_)
      · refine zz_gsn 1 rfl ?_
        refine zz_ri rfl (Or.inl rfl) ?_
        exact ⟨congrArg (fun z => some (zI z)) (if_neg (fun z => hv ⟨z.1.1, z.1.2, z.2⟩)).symm, hG, zz_F.rf⟩
      · refine zz_gsn 1 rfl ?_
        refine zz_br rfl (fun h11 => ?_) (fun h11 => ?_)
        · exact absurd (show vz G.I.ho G.I.k v ∧ (1 ≤ n ∧ n ≤ 6) ∧ 0 ≤ i from ⟨e2.elim (fun z => z.2) (fun z => absurd z.1 h3), by omega, by omega⟩) hv
        · refine zz_gsn 1 rfl ?_
          refine zz_ri rfl (Or.inl rfl) ?_
          exact ⟨congrArg (fun z => some (zI z)) (if_neg (fun z => hv ⟨z.1.1, z.1.2, z.2⟩)).symm, hG, zz_F.rf⟩
theorem g_sc_l (G : zz_J) (v : Int) {i : Nat} (hi : i < 6) : (g_sc G v (i + 1)).l i = (g_sc G v 6).l i := s_go_p G.I.law G.I.C (i + 1) 6 0 _ 0 0 _ _ s_r0 s_r0 i (by omega) (by omega) (fun _ _ => rfl)
theorem lp_rspike {X : zz_X} {m w : Nat} {x N : Int} {G : zz_J} {σ0 : zz_M} {Post : Option zz_V → zz_M → Prop} (ok : g_ok G) (hv0 : vz G.I.ho G.I.k (w : Nat)) (kk : ∀ σ', RG σ' m G → zz_F (A_rf m) σ0 σ' → Post (some (zI N)) σ') :
    ∀ (r i : Nat) (σ : zz_M), i + r = 6 → s_few (g_sc G (w : Nat) 6).l x r i = N → RG σ m G → zz_F (A_rf m) σ0 σ → zz_G X 14 p_Mo_spike 11 [zP 12 0 0 m, zI (w : Nat), zI x, zI ((i + 1 : Nat) : Int)] [] σ Post := by
  intro r
  induction r with
  | zero =>
    intro i σ hi hr hG hF
    obtain rfl : i = 6 := hi
    have hr2 : -1 = N := hr
    rw [← hr2] at kk
    refine zz_gsn 2 rfl ?_
    refine zz_br rfl (fun h13 => ?_) (fun h13 => absurd h13 (by decide))
    refine zz_gsn 1 rfl ?_
    refine zz_ri rfl (Or.inl rfl) ?_
    exact kk σ hG hF
  | succ r ih =>
    intro i σ hi hr hG hF
    have i6 : i < 6 := by clear hr; omega
    have i7 : ¬ ((i + 1 : Nat) : Int) ≥ 7 := by clear hr; omega
    have i8 : 1 ≤ i + 1 ∧ i + 1 ≤ 6 := by clear hr; omega
    have i9 : i + 1 + r = 6 := by clear hr; omega
    have e9 : zw (((i + 1 : Nat) : Int) + 1) = ((i + 1 + 1 : Nat) : Int) := zw_s (by clear hr; omega)
    have gl := g_sc_l G (w : Nat) i6
    have hy : x ≤ (g_sc G (w : Nat) 6).l i → s_few (g_sc G (w : Nat) 6).l x (r + 1) i = ((i + 1 : Nat) : Int) := fun z => if_pos z
    have hn : ¬ x ≤ (g_sc G (w : Nat) 6).l i → s_few (g_sc G (w : Nat) 6).l x (r + 1) i = s_few (g_sc G (w : Nat) 6).l x r (i + 1) := fun z => if_neg z
    refine zz_gsn 2 rfl ?_
    refine zz_br rfl (fun h13 => absurd h13 i7) (fun h13 => ?_)
    refine zz_gsn 3 rfl ?_
    refine zz_cv (n := 3) rfl rfl (t_Mo_goesAll (w := w) (n := i + 1) hG ok hv0 i8) (Nat.le_of_ble_eq_true rfl) (Nat.le_of_ble_eq_true rfl) (Nat.le_of_ble_eq_true rfl) (fun r17 σ17 q17 => ?_)
    obtain ⟨rfl, p17, t17, g17⟩ := q17
    have l17 : σ17.1 1246 m = (g_sc G (w : Nat) 6).l i := p17.1.2.2.2.1.trans gl
    refine zz_gsn 3 rfl ?_
    refine zz_br rfl (fun h21 => ?_) (fun h21 => ?_)
    · refine zz_gsn 1 rfl ?_
      refine zz_jp rfl ?_
      have z := hn (by rw [← l17]; exact Int.not_le.mpr h21)
      rw [z] at hr
      rw [e9]
      exact ih (i + 1) σ17 i9 hr t17 (hF.tr g17)
    · refine zz_gsn 1 rfl ?_
      refine zz_ri rfl (Or.inl rfl) ?_
      have z := hy (by rw [← l17]; first | exact h21 | exact Int.not_lt.mp h21)
      rw [z] at hr
      rw [hr]
      exact kk σ17 t17 (hF.tr g17)
theorem t_Mo_spike {X : zz_X} {σ : zz_M} {m : Nat} {G : zz_J} {v x_ : Int} (hG : RG σ m G) (ok : g_ok G) : zz_T X 14 p_Mo_spike [zP 12 0 0 m, zI v, zI x_] σ (fun r σ' => r = some (zI (a_spike G v x_)) ∧ RG σ' m G ∧ zz_F (A_rf m) σ σ') := by
  refine zz_mk k_Mo_spike o_Mo_spike rfl rfl (Nat.le_of_ble_eq_true rfl) ?_
  show zz_G X 14 p_Mo_spike 0 [zP 12 0 0 m, zI v, zI x_, zU] [] σ _
  obtain ⟨hI, hT, hO, hF, hM, h10⟩ := id hG
  obtain ⟨⟨ho, hfx⟩, okt, oko, okm⟩ := id ok
  have hk6 := ho.1.2.2.1
  rcases Classical.em (vz G.I.ho G.I.k v ∧ 1 ≤ x_) with hv | hv
  · obtain ⟨hv0, hn1⟩ := id hv
    obtain ⟨w, rfl⟩ : ∃ w : Nat, v = (w : Nat) := ⟨v.toNat, by have := hv0.2.1; omega⟩
    refine zz_gsn 2 rfl ?_
    refine zz_cv (n := 2) rfl rfl (t_Mo_isVersion) (Nat.le_of_ble_eq_true rfl) (Nat.le_of_ble_eq_true rfl) (Nat.le_of_ble_eq_true rfl) (fun r2 σ2 q2 => ?_)
    obtain ⟨rfl, n2, rfl, e2⟩ := q2
    replace e2 := rv_of hI ho e2
    replace e2 : n2 = 1 := e2.elim (fun z => z.1) (fun z => absurd hv0 z.2)
    refine zz_br rfl (fun h3 => absurd h3 (show n2 ≠ 0 by omega)) (fun h3 => ?_)
    refine zz_gsn 2 rfl ?_
    refine zz_br rfl (fun h6 => ?_) (fun h6 => absurd h6 (by omega))
    refine zz_gsn 2 rfl ?_
    refine lp_rspike (σ0 := σ) ok hv0 (fun σ' a c => ⟨?_, a, c⟩) 6 0 σ rfl rfl hG zz_F.rf
    exact congrArg (fun z => some (zI z)) (if_pos hv).symm
  · refine zz_gsn 2 rfl ?_
    refine zz_cv (n := 2) rfl rfl (t_Mo_isVersion) (Nat.le_of_ble_eq_true rfl) (Nat.le_of_ble_eq_true rfl) (Nat.le_of_ble_eq_true rfl) (fun r2 σ2 q2 => ?_)
    obtain ⟨rfl, n2, rfl, e2⟩ := q2
    replace e2 := rv_of hI ho e2
    refine zz_br rfl (fun h3 => ?_) (fun h3 => ?_)
    · refine zz_gsn 1 rfl ?_
      refine zz_ri rfl (Or.inl rfl) ?_
      exact ⟨congrArg (fun z => some (zI z)) (if_neg hv).symm, hG, zz_F.rf⟩
    · refine zz_gsn 2 rfl ?_
      refine zz_br rfl (fun h6 => ?_) (fun h6 => ?_)
      · refine zz_gsn 2 rfl ?_
        exact absurd (show vz G.I.ho G.I.k v ∧ 1 ≤ x_ from ⟨e2.elim (fun z => z.2) (fun z => absurd z.1 h3), by omega⟩) hv
      · refine zz_gsn 1 rfl ?_
        refine zz_ri rfl (Or.inl rfl) ?_
        exact ⟨congrArg (fun z => some (zI z)) (if_neg hv).symm, hG, zz_F.rf⟩
