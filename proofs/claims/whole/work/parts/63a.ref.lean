/-! the reference: a turn -/
theorem z3_S (W : zz_W) : (z3 W).S = W.S := by
  unfold z3
  split <;> rfl
theorem z3_nn (W : zz_W) : (z3 W).n = W.n := by
  unfold z3
  split <;> rfl
theorem t_Mo_turns {X : zz_X} {σ : zz_M} {m s : Nat} {mk : Int} {W : zz_W} (hP : MP σ m s (z3 W)) (hs : s < 182) (hn : W.n + 2 ≤ 20000) (h17 : 0 ≤ σ.1 1207 m ∧ σ.1 1207 m < 900000) (hS8 : -900000 < W.S 8 ∧ W.S 8 < 900000) (hc : W.S 7 = 0 ∨ W.S 7 = 3 ∨ (W.S 7 = 1 ∧ W.R 4 ≠ [] ∧ W.R 2 = []) ∨ (W.S 7 = 1 ∧ W.R 4 ≠ [] ∧ W.R 2 ≠ []) ∨ (W.S 7 = 2 ∧ W.S 8 = 0) ∨ (W.S 7 = 2 ∧ 0 < W.S 8 ∧ W.R 3 ≠ [])) : zz_T X 3 p_Mo_turns [zP 12 0 0 m, zI (s : Nat)] σ (fun r σ' => r = none ∧ MP σ' m s (z3 (w_trn mk W)) ∧ Rg m s W.n σ σ' ∧ σ'.1 1207 m = σ.1 1207 m + w_trnS W ∧ σ'.1 1208 m = σ.1 1208 m ∧ σ'.1 1209 m = σ.1 1209 m) := by
  refine zz_mk k_Mo_turns o_Mo_turns rfl rfl (Nat.le_of_ble_eq_true rfl) ?_
  show zz_G X 3 p_Mo_turns 0 [zP 12 0 0 m, zI (s : Nat), zU, zU] [] σ _
  have e7 := hP.2.1 7 (by decide) (by decide)
  rw [z3_S] at e7
  rcases hc with h7 | h7 | ⟨h7, hr4, hr2⟩ | ⟨h7, hr4, hr2⟩ | ⟨h7, h8⟩ | ⟨h7, h8, hr3⟩
  · refine zz_gsn 3 rfl ?_
    refine zz_cv (n := 3) rfl rfl (t_Mo_of (s := s) (k := 7) hs (by decide)) (Nat.le_of_ble_eq_true rfl) (Nat.le_of_ble_eq_true rfl) (Nat.le_of_ble_eq_true rfl) (fun r3 σ3 q3 => ?_)
    obtain ⟨rfl, rfl⟩ := q3
    rw [e7, h7]
    refine zz_gsn 2 rfl ?_
    refine zz_br rfl (fun h6 => ?_) (fun h6 => absurd rfl h6)
    refine zz_rv rfl rfl ?_
    have et : w_trn mk W = W := t_idle (by rw [h7]; decide) (by rw [h7]; decide)
    have es : w_trnS W = 0 := if_neg (by rw [h7]; decide)
    rw [et, es]
    exact ⟨rfl, hP, Rg.rf, (Int.add_zero _).symm, rfl, rfl⟩
  · refine zz_gsn 3 rfl ?_
    refine zz_cv (n := 3) rfl rfl (t_Mo_of (s := s) (k := 7) hs (by decide)) (Nat.le_of_ble_eq_true rfl) (Nat.le_of_ble_eq_true rfl) (Nat.le_of_ble_eq_true rfl) (fun r3 σ3 q3 => ?_)
    obtain ⟨rfl, rfl⟩ := q3
    rw [e7, h7]
    refine zz_gsn 2 rfl ?_
    refine zz_br rfl (fun h6 => absurd h6 (by decide)) (fun h6 => ?_)
    refine zz_gsn 2 rfl ?_
    refine zz_br rfl (fun h9 => absurd rfl h9) (fun h9 => ?_)
    refine zz_rv rfl rfl ?_
    have et : w_trn mk W = W := t_idle (by rw [h7]; decide) (by rw [h7]; decide)
    have es : w_trnS W = 0 := if_neg (by rw [h7]; decide)
    rw [et, es]
    exact ⟨rfl, hP, Rg.rf, (Int.add_zero _).symm, rfl, rfl⟩
  · rw [z3_n (by rw [h7]; decide)] at hP
    obtain ⟨c4, t4, e4⟩ := l_cons hr4
    refine zz_gsn 3 rfl ?_
    refine zz_cv (n := 3) rfl rfl (t_Mo_of (s := s) (k := 7) hs (by decide)) (Nat.le_of_ble_eq_true rfl) (Nat.le_of_ble_eq_true rfl) (Nat.le_of_ble_eq_true rfl) (fun r3 σ3 q3 => ?_)
    obtain ⟨rfl, rfl⟩ := q3
    rw [e7, h7]
    refine zz_gsn 2 rfl ?_
    refine zz_br rfl (fun h6 => absurd h6 (by decide)) (fun h6 => ?_)
    refine zz_gsn 2 rfl ?_
    refine zz_br rfl (fun h9 => ?_) (fun h9 => absurd h9 (by decide))
    refine zz_gsn 6 rfl ?_
    have s7 : zw (σ.1 1207 m + 1) = σ.1 1207 m + 1 := zw_id (by omega) (by omega)
    obtain ⟨σ1, h1⟩ : ∃ x, x = zz_sf σ 1207 m (σ.1 1207 m + 1) := ⟨_, rfl⟩
    refine zz_sge (σ' := σ1) (h1.trans (congrArg (zz_sf σ 1207 m) s7.symm)) ?_
    clear s7
    have P1 : MP σ1 m s W := by rw [h1]; exact hP.fd (by decide)
    have G1 : Rg m s W.n σ σ1 := by rw [h1]; exact Rg.sf (Or.inr (Or.inl rfl))
    have x7 : σ1.1 1207 m = σ.1 1207 m + 1 := by rw [h1, sf_h]
    have x8 : σ1.1 1208 m = σ.1 1208 m := by rw [h1, sf_f _ _ (by decide)]
    have x9 : σ1.1 1209 m = σ.1 1209 m := by rw [h1, sf_f _ _ (by decide)]
    clear h1
    refine zz_gsn 2 rfl ?_
    refine zz_br rfl (fun h19 => absurd rfl h19) (fun h19 => ?_)
    refine zz_gsn 3 rfl ?_
    refine zz_cv (n := 3) rfl rfl (t_Mo_of (s := s) (k := 2) hs (by decide)) (Nat.le_of_ble_eq_true rfl) (Nat.le_of_ble_eq_true rfl) (Nat.le_of_ble_eq_true rfl) (fun r23 σ23 q23 => ?_)
    obtain ⟨rfl, rfl⟩ := q23
    refine zz_gsn 1 rfl ?_
    refine zz_br rfl (fun h25 => ?_) (fun h25 => absurd ((zz_ch_n (P1.1 2 (by decide))).mpr hr2) h25)
    refine zz_gsn 3 rfl ?_
    refine zz_br rfl (fun h31 => ?_) (fun h31 => absurd rfl h31)
    refine zz_gsn 6 rfl ?_
    refine zz_cv (n := 3) rfl rfl (t_Mo_pops (s := s) (k := 4) P1 hs (by decide) (by omega) e4) (Nat.le_of_ble_eq_true rfl) (Nat.le_of_ble_eq_true rfl) (Nat.le_of_ble_eq_true rfl) (fun r46 σ46 q46 => ?_)
    obtain ⟨rfl, p46, g46⟩ := q46
    refine zz_cv (n := 4) rfl rfl (t_Mo_pushes (s := s) (k := 5) (mk := mk) p46 hs (by decide) (by show W.n < 20000; omega)) (Nat.le_of_ble_eq_true rfl) (Nat.le_of_ble_eq_true rfl) (Nat.le_of_ble_eq_true rfl) (fun r47 σ47 q47 => ?_)
    obtain ⟨rfl, p47, g47⟩ := q47
    have P47 := MP.move e4 (by decide) p47
    refine zz_gsn 6 rfl ?_
    refine zz_cv (n := 3) rfl rfl (t_Mo_of (s := s) (k := 8) hs (by decide)) (Nat.le_of_ble_eq_true rfl) (Nat.le_of_ble_eq_true rfl) (Nat.le_of_ble_eq_true rfl) (fun r54 σ54 q54 => ?_)
    obtain ⟨rfl, rfl⟩ := q54
    refine zz_gsn 1 rfl ?_
    refine zz_br rfl (fun h56 => ?_) (fun h56 => absurd rfl h56)
    refine zz_gsn 2 rfl ?_
    refine zz_cv (n := 4) rfl rfl (t_Mo_sets (s := s) (k := 8) hs (by decide)) (Nat.le_of_ble_eq_true rfl) (Nat.le_of_ble_eq_true rfl) (Nat.le_of_ble_eq_true rfl) (fun r61 σ61 q61 => ?_)
    obtain ⟨rfl, h61⟩ := q61
    refine zz_gsn 1 rfl ?_
    refine zz_br rfl (fun h63 => absurd rfl h63) (fun h63 => ?_)
    refine zz_gsn 4 rfl ?_
    refine zz_cv (n := 4) rfl rfl (t_Mo_sets (s := s) (k := 7) hs (by decide)) (Nat.le_of_ble_eq_true rfl) (Nat.le_of_ble_eq_true rfl) (Nat.le_of_ble_eq_true rfl) (fun r68 σ68 q68 => ?_)
    obtain ⟨rfl, h68⟩ := q68
    refine zz_jp rfl ?_
    refine zz_rv rfl rfl ?_
    have et : w_trn mk W = w_move mk 4 5 (w_S 7 2 W) := (if_pos h7).trans (if_pos hr2)
    have es : w_trnS W = 1 := if_pos (by rw [h7]; decide)
    rw [et, es]
    have s8 : zw (σ47.2 (m + 3) (12 * s + 8) + 0) = (w_move mk 4 5 W).S 8 := by
      rw [P47.2.1 8 (by decide) (by decide), w_move_S]
      rw [Int.add_zero]
      exact zw_id (by omega) (by omega)
    have P61 : MP σ61 m s (w_move mk 4 5 W) := by
      rw [h61]
      exact MP.same (P47.S (v := zw (σ47.2 (m + 3) (12 * s + 8) + 0)) (j := 8) (by decide)) s8
    clear s8
    have P68 : MP σ68 m s (w_S 7 2 (w_move mk 4 5 W)) := by rw [h68]; exact P61.S (by decide)
    rw [w_mv_S, z3_n (by show (2 : Int) ≠ 3; decide)]
    have G68 : Rc m s W.n σ1 σ68 := ((g46.tr g47 (Nat.le_refl _)).tr (show Rc m s W.n σ47 σ61 by rw [h61]; exact Rc.st (by decide)) (Nat.le_refl _)).tr (show Rc m s W.n σ61 σ68 by rw [h68]; exact Rc.st (by decide)) (Nat.le_refl _)
    exact ⟨rfl, P68, G1.tr G68.g (Nat.le_refl _), (G68.fl (by decide)).trans x7, (G68.fl (by decide)).trans x8, (G68.fl (by decide)).trans x9⟩
  · rw [z3_n (by rw [h7]; decide)] at hP
    obtain ⟨c4, t4, e4⟩ := l_cons hr4
    obtain ⟨c2, t2, e2⟩ := l_cons hr2
    have en39 := w_move_c (mk := mk) (i := 2) (j := 3) e2
    refine zz_gsn 3 rfl ?_
    refine zz_cv (n := 3) rfl rfl (t_Mo_of (s := s) (k := 7) hs (by decide)) (Nat.le_of_ble_eq_true rfl) (Nat.le_of_ble_eq_true rfl) (Nat.le_of_ble_eq_true rfl) (fun r3 σ3 q3 => ?_)
    obtain ⟨rfl, rfl⟩ := q3
    rw [e7, h7]
    refine zz_gsn 2 rfl ?_
    refine zz_br rfl (fun h6 => absurd h6 (by decide)) (fun h6 => ?_)
    refine zz_gsn 2 rfl ?_
    refine zz_br rfl (fun h9 => ?_) (fun h9 => absurd h9 (by decide))
    refine zz_gsn 6 rfl ?_
    have s7 : zw (σ.1 1207 m + 1) = σ.1 1207 m + 1 := zw_id (by omega) (by omega)
    obtain ⟨σ1, h1⟩ : ∃ x, x = zz_sf σ 1207 m (σ.1 1207 m + 1) := ⟨_, rfl⟩
    refine zz_sge (σ' := σ1) (h1.trans (congrArg (zz_sf σ 1207 m) s7.symm)) ?_
    clear s7
    have P1 : MP σ1 m s W := by rw [h1]; exact hP.fd (by decide)
    have G1 : Rg m s W.n σ σ1 := by rw [h1]; exact Rg.sf (Or.inr (Or.inl rfl))
    have x7 : σ1.1 1207 m = σ.1 1207 m + 1 := by rw [h1, sf_h]
    have x8 : σ1.1 1208 m = σ.1 1208 m := by rw [h1, sf_f _ _ (by decide)]
    have x9 : σ1.1 1209 m = σ.1 1209 m := by rw [h1, sf_f _ _ (by decide)]
    clear h1
    refine zz_gsn 2 rfl ?_
    refine zz_br rfl (fun h19 => absurd rfl h19) (fun h19 => ?_)
    refine zz_gsn 3 rfl ?_
    refine zz_cv (n := 3) rfl rfl (t_Mo_of (s := s) (k := 2) hs (by decide)) (Nat.le_of_ble_eq_true rfl) (Nat.le_of_ble_eq_true rfl) (Nat.le_of_ble_eq_true rfl) (fun r23 σ23 q23 => ?_)
    obtain ⟨rfl, rfl⟩ := q23
    refine zz_gsn 1 rfl ?_
    refine zz_br rfl (fun h25 => absurd ((zz_ch_n (P1.1 2 (by decide))).mp h25) hr2) (fun h25 => ?_)
    refine zz_gsn 1 rfl ?_
    refine zz_jp rfl ?_
    refine zz_gsn 2 rfl ?_
    refine zz_br rfl (fun h31 => absurd h31 (by decide)) (fun h31 => ?_)
    refine zz_gsn 6 rfl ?_
    refine zz_cv (n := 3) rfl rfl (t_Mo_pops (s := s) (k := 2) P1 hs (by decide) (by omega) e2) (Nat.le_of_ble_eq_true rfl) (Nat.le_of_ble_eq_true rfl) (Nat.le_of_ble_eq_true rfl) (fun r38 σ38 q38 => ?_)
    obtain ⟨rfl, p38, g38⟩ := q38
    refine zz_cv (n := 4) rfl rfl (t_Mo_pushes (s := s) (k := 3) (mk := mk) p38 hs (by decide) (by show W.n < 20000; omega)) (Nat.le_of_ble_eq_true rfl) (Nat.le_of_ble_eq_true rfl) (Nat.le_of_ble_eq_true rfl) (fun r39 σ39 q39 => ?_)
    obtain ⟨rfl, p39, g39⟩ := q39
    have P39 := MP.move e2 (by decide) p39
    rw [← (w_move_R (mk := mk) (j := 3) (by decide) e2).2.2 4 (by decide) (by decide)] at e4
    refine zz_gsn 6 rfl ?_
    refine zz_cv (n := 3) rfl rfl (t_Mo_pops (s := s) (k := 4) P39 hs (by decide) (by rw [en39]; omega) e4) (Nat.le_of_ble_eq_true rfl) (Nat.le_of_ble_eq_true rfl) (Nat.le_of_ble_eq_true rfl) (fun r46 σ46 q46 => ?_)
    obtain ⟨rfl, p46, g46⟩ := q46
    refine zz_cv (n := 4) rfl rfl (t_Mo_pushes (s := s) (k := 5) (mk := mk) p46 hs (by decide) (by show (w_move mk 2 3 W).n < 20000; rw [en39]; omega)) (Nat.le_of_ble_eq_true rfl) (Nat.le_of_ble_eq_true rfl) (Nat.le_of_ble_eq_true rfl) (fun r47 σ47 q47 => ?_)
    obtain ⟨rfl, p47, g47⟩ := q47
    have P47 := MP.move e4 (by decide) p47
    refine zz_gsn 6 rfl ?_
    refine zz_cv (n := 3) rfl rfl (t_Mo_of (s := s) (k := 8) hs (by decide)) (Nat.le_of_ble_eq_true rfl) (Nat.le_of_ble_eq_true rfl) (Nat.le_of_ble_eq_true rfl) (fun r54 σ54 q54 => ?_)
    obtain ⟨rfl, rfl⟩ := q54
    refine zz_gsn 1 rfl ?_
    refine zz_br rfl (fun h56 => absurd h56 (by decide)) (fun h56 => ?_)
    refine zz_gsn 1 rfl ?_
    refine zz_jp rfl ?_
    refine zz_gsn 1 rfl ?_
    refine zz_cv (n := 4) rfl rfl (t_Mo_sets (s := s) (k := 8) hs (by decide)) (Nat.le_of_ble_eq_true rfl) (Nat.le_of_ble_eq_true rfl) (Nat.le_of_ble_eq_true rfl) (fun r61 σ61 q61 => ?_)
    obtain ⟨rfl, h61⟩ := q61
    refine zz_gsn 1 rfl ?_
    refine zz_br rfl (fun h63 => ?_) (fun h63 => absurd h63 (by decide))
    refine zz_jp rfl ?_
    refine zz_rv rfl rfl ?_
    have et : w_trn mk W = w_move mk 4 5 (w_S 8 (W.S 8 + 1) (w_move mk 2 3 W)) := (if_pos h7).trans (if_neg hr2)
    have es : w_trnS W = 1 := if_pos (by rw [h7]; decide)
    rw [et, es]
    have s8 : zw (σ47.2 (m + 3) (12 * s + 8) + 1) = W.S 8 + 1 := by
      rw [P47.2.1 8 (by decide) (by decide), w_move_S, w_move_S]
      exact zw_id (by omega) (by omega)
    have P61 : MP σ61 m s (w_S 8 (W.S 8 + 1) (w_move mk 4 5 (w_move mk 2 3 W))) := by rw [h61]; exact P47.S' (by decide) s8
    clear s8
    rw [w_mv_S, z3_n (by show (w_move mk 4 5 (w_move mk 2 3 W)).S 7 ≠ 3; rw [w_move_S, w_move_S, h7]; decide)]
    have le1 := w_move_le mk 2 3 W
    have G61 : Rc m s W.n σ1 σ61 := (((g38.tr g39 (Nat.le_refl _)).tr g46 le1).tr g47 le1).tr (by rw [h61]; exact Rc.st (n := W.n) (by decide)) (Nat.le_refl _)
    exact ⟨rfl, P61, G1.tr G61.g (Nat.le_refl _), (G61.fl (by decide)).trans x7, (G61.fl (by decide)).trans x8, (G61.fl (by decide)).trans x9⟩
  · rw [z3_n (by rw [h7]; decide)] at hP
    refine zz_gsn 3 rfl ?_
    refine zz_cv (n := 3) rfl rfl (t_Mo_of (s := s) (k := 7) hs (by decide)) (Nat.le_of_ble_eq_true rfl) (Nat.le_of_ble_eq_true rfl) (Nat.le_of_ble_eq_true rfl) (fun r3 σ3 q3 => ?_)
    obtain ⟨rfl, rfl⟩ := q3
    rw [e7, h7]
    refine zz_gsn 2 rfl ?_
    refine zz_br rfl (fun h6 => absurd h6 (by decide)) (fun h6 => ?_)
    refine zz_gsn 2 rfl ?_
    refine zz_br rfl (fun h9 => ?_) (fun h9 => absurd h9 (by decide))
    refine zz_gsn 6 rfl ?_
    have s7 : zw (σ.1 1207 m + 1) = σ.1 1207 m + 1 := zw_id (by omega) (by omega)
    obtain ⟨σ1, h1⟩ : ∃ x, x = zz_sf σ 1207 m (σ.1 1207 m + 1) := ⟨_, rfl⟩
    refine zz_sge (σ' := σ1) (h1.trans (congrArg (zz_sf σ 1207 m) s7.symm)) ?_
    clear s7
    have P1 : MP σ1 m s W := by rw [h1]; exact hP.fd (by decide)
    have G1 : Rg m s W.n σ σ1 := by rw [h1]; exact Rg.sf (Or.inr (Or.inl rfl))
    have x7 : σ1.1 1207 m = σ.1 1207 m + 1 := by rw [h1, sf_h]
    have x8 : σ1.1 1208 m = σ.1 1208 m := by rw [h1, sf_f _ _ (by decide)]
    have x9 : σ1.1 1209 m = σ.1 1209 m := by rw [h1, sf_f _ _ (by decide)]
    clear h1
    refine zz_gsn 2 rfl ?_
    refine zz_br rfl (fun h19 => ?_) (fun h19 => absurd h19 (by decide))
    refine zz_gsn 3 rfl ?_
    refine zz_cv (n := 3) rfl rfl (t_Mo_of (s := s) (k := 8) hs (by decide)) (Nat.le_of_ble_eq_true rfl) (Nat.le_of_ble_eq_true rfl) (Nat.le_of_ble_eq_true rfl) (fun r73 σ73 q73 => ?_)
    obtain ⟨rfl, rfl⟩ := q73
    refine zz_br rfl (fun h74 => absurd ((P1.2.1 8 (by decide) (by decide)).trans h8) h74) (fun h74 => ?_)
    refine zz_gsn 2 rfl ?_
    refine zz_cv (n := 2) rfl rfl (t_Mo_becomesReady P1 hs) (Nat.le_of_ble_eq_true rfl) (Nat.le_of_ble_eq_true rfl) (Nat.le_of_ble_eq_true rfl) (fun r77 σ77 q77 => ?_)
    obtain ⟨rfl, p77, g77⟩ := q77
    refine zz_jp rfl ?_
    refine zz_rv rfl rfl ?_
    have et : w_trn mk W = w_S 7 3 W := (if_neg (by rw [h7]; decide)).trans ((if_pos h7).trans (if_neg (by omega)))
    have es : w_trnS W = 1 := if_pos (by rw [h7]; decide)
    rw [et, es]
    rw [z3_y (by rfl)]
    exact ⟨rfl, p77, G1.tr g77.g (Nat.le_refl _), (g77.fl (by decide)).trans x7, (g77.fl (by decide)).trans x8, (g77.fl (by decide)).trans x9⟩
  · rw [z3_n (by rw [h7]; decide)] at hP
    obtain ⟨c3, t3, e3⟩ := l_cons hr3
    refine zz_gsn 3 rfl ?_
    refine zz_cv (n := 3) rfl rfl (t_Mo_of (s := s) (k := 7) hs (by decide)) (Nat.le_of_ble_eq_true rfl) (Nat.le_of_ble_eq_true rfl) (Nat.le_of_ble_eq_true rfl) (fun r3 σ3 q3 => ?_)
    obtain ⟨rfl, rfl⟩ := q3
    rw [e7, h7]
    refine zz_gsn 2 rfl ?_
    refine zz_br rfl (fun h6 => absurd h6 (by decide)) (fun h6 => ?_)
    refine zz_gsn 2 rfl ?_
    refine zz_br rfl (fun h9 => ?_) (fun h9 => absurd h9 (by decide))
    refine zz_gsn 6 rfl ?_
    have s7 : zw (σ.1 1207 m + 1) = σ.1 1207 m + 1 := zw_id (by omega) (by omega)
    obtain ⟨σ1, h1⟩ : ∃ x, x = zz_sf σ 1207 m (σ.1 1207 m + 1) := ⟨_, rfl⟩
    refine zz_sge (σ' := σ1) (h1.trans (congrArg (zz_sf σ 1207 m) s7.symm)) ?_
    clear s7
    have P1 : MP σ1 m s W := by rw [h1]; exact hP.fd (by decide)
    have G1 : Rg m s W.n σ σ1 := by rw [h1]; exact Rg.sf (Or.inr (Or.inl rfl))
    have x7 : σ1.1 1207 m = σ.1 1207 m + 1 := by rw [h1, sf_h]
    have x8 : σ1.1 1208 m = σ.1 1208 m := by rw [h1, sf_f _ _ (by decide)]
    have x9 : σ1.1 1209 m = σ.1 1209 m := by rw [h1, sf_f _ _ (by decide)]
    clear h1
    refine zz_gsn 2 rfl ?_
    refine zz_br rfl (fun h19 => ?_) (fun h19 => absurd h19 (by decide))
    refine zz_gsn 3 rfl ?_
    refine zz_cv (n := 3) rfl rfl (t_Mo_of (s := s) (k := 8) hs (by decide)) (Nat.le_of_ble_eq_true rfl) (Nat.le_of_ble_eq_true rfl) (Nat.le_of_ble_eq_true rfl) (fun r73 σ73 q73 => ?_)
    obtain ⟨rfl, rfl⟩ := q73
    refine zz_br rfl (fun h74 => ?_) (fun h74 => absurd ((P1.2.1 8 (by decide) (by decide)).symm.trans (by first | exact h74 | exact Decidable.not_not.mp h74)) (by omega))
    refine zz_gsn 6 rfl ?_
    refine zz_cv (n := 3) rfl rfl (t_Mo_pops (s := s) (k := 3) P1 hs (by decide) (by omega) e3) (Nat.le_of_ble_eq_true rfl) (Nat.le_of_ble_eq_true rfl) (Nat.le_of_ble_eq_true rfl) (fun r85 σ85 q85 => ?_)
    obtain ⟨rfl, p85, g85⟩ := q85
    refine zz_cv (n := 4) rfl rfl (t_Mo_pushes (s := s) (k := 5) (mk := mk) p85 hs (by decide) (by show W.n < 20000; omega)) (Nat.le_of_ble_eq_true rfl) (Nat.le_of_ble_eq_true rfl) (Nat.le_of_ble_eq_true rfl) (fun r86 σ86 q86 => ?_)
    obtain ⟨rfl, p86, g86⟩ := q86
    have P86 := MP.move e3 (by decide) p86
    refine zz_gsn 6 rfl ?_
    refine zz_cv (n := 3) rfl rfl (t_Mo_of (s := s) (k := 8) hs (by decide)) (Nat.le_of_ble_eq_true rfl) (Nat.le_of_ble_eq_true rfl) (Nat.le_of_ble_eq_true rfl) (fun r93 σ93 q93 => ?_)
    obtain ⟨rfl, rfl⟩ := q93
    refine zz_gsn 2 rfl ?_
    refine zz_cv (n := 4) rfl rfl (t_Mo_sets (s := s) (k := 8) hs (by decide)) (Nat.le_of_ble_eq_true rfl) (Nat.le_of_ble_eq_true rfl) (Nat.le_of_ble_eq_true rfl) (fun r96 σ96 q96 => ?_)
    obtain ⟨rfl, h96⟩ := q96
    refine zz_rv rfl rfl ?_
    have et : w_trn mk W = w_S 8 (W.S 8 - 1) (w_move mk 3 5 W) := (if_neg (by rw [h7]; decide)).trans ((if_pos h7).trans (if_pos (by omega)))
    have es : w_trnS W = 1 := if_pos (by rw [h7]; decide)
    rw [et, es]
    have s8 : zw (σ86.2 (m + 3) (12 * s + 8) - 1) = W.S 8 - 1 := by
      rw [P86.2.1 8 (by decide) (by decide), w_move_S]
      exact zw_id (by omega) (by omega)
    have P96 : MP σ96 m s (w_S 8 (W.S 8 - 1) (w_move mk 3 5 W)) := by rw [h96]; exact P86.S' (by decide) s8
    clear s8
    rw [z3_n (by show (w_move mk 3 5 W).S 7 ≠ 3; rw [w_move_S, h7]; decide)]
    have G96 : Rc m s W.n σ1 σ96 := (g85.tr g86 (Nat.le_refl _)).tr (by rw [h96]; exact Rc.st (n := W.n) (by decide)) (Nat.le_refl _)
    exact ⟨rfl, P96, G1.tr G96.g (Nat.le_refl _), (G96.fl (by decide)).trans x7, (G96.fl (by decide)).trans x8, (G96.fl (by decide)).trans x9⟩
