/-! the reference: what a take does first; how it begins -/
theorem t_Mo_takenBy {X : zz_X} {σ : zz_M} {m s : Nat} {W : zz_W} (hP : MP σ m s W) (hs : s < 182) (hn : W.n ≤ 20000) (hS6 : -900000 < W.S 6 ∧ W.S 6 < 900000) (hS8 : -900000 < W.S 8 ∧ W.S 8 < 900000) (hc : W.S 7 = 0 ∨ W.S 7 = 1 ∨ (W.S 7 = 2 ∧ W.S 8 = 0 ∧ W.R 5 ≠ []) ∨ (W.S 7 = 2 ∧ W.S 8 ≠ 0)) : zz_T X 3 p_Mo_takenBy [zP 12 0 0 m, zI (s : Nat)] σ (fun r σ' => r = none ∧ MP σ' m s (z3 (w_dis W)) ∧ Rc m s W.n σ σ') := by
  refine zz_mk k_Mo_takenBy o_Mo_takenBy rfl rfl (Nat.le_of_ble_eq_true rfl) ?_
  show zz_G X 3 p_Mo_takenBy 0 [zP 12 0 0 m, zI (s : Nat), zU] [] σ _
  rcases hc with h7 | h7 | ⟨h7, h8, hr5⟩ | ⟨h7, h8⟩
  · refine zz_gsn 6 rfl ?_
    refine zz_cv (n := 3) rfl rfl (t_Mo_of (s := s) (k := 6) hs (by decide)) (Nat.le_of_ble_eq_true rfl) (Nat.le_of_ble_eq_true rfl) (Nat.le_of_ble_eq_true rfl) (fun r6 σ6 q6 => ?_)
    obtain ⟨rfl, rfl⟩ := q6
    refine zz_gsn 2 rfl ?_
    refine zz_cv (n := 4) rfl rfl (t_Mo_sets (s := s) (k := 6) hs (by decide)) (Nat.le_of_ble_eq_true rfl) (Nat.le_of_ble_eq_true rfl) (Nat.le_of_ble_eq_true rfl) (fun r9 σ9 q9 => ?_)
    obtain ⟨rfl, h9⟩ := q9
    have s6 : zw (σ.2 (m + 3) (12 * s + 6) - 1) = W.S 6 - 1 := by
      rw [hP.2.1 6 (by decide) (by decide)]
      exact zw_id (by omega) (by omega)
    have P9 : MP σ9 m s (w_S 6 (W.S 6 - 1) W) := by rw [h9]; exact hP.S' (by decide) s6
    have G9 : Rc m s W.n σ σ9 := by rw [h9]; exact Rc.st (by decide)
    have e7 : σ9.2 (m + 3) (12 * s + 7) = W.S 7 := P9.2.1 7 (by decide) (by decide)
    have e8 : σ9.2 (m + 3) (12 * s + 8) = W.S 8 := P9.2.1 8 (by decide) (by decide)
    clear s6 h9
    refine zz_gsn 3 rfl ?_
    refine zz_cv (n := 3) rfl rfl (t_Mo_of (s := s) (k := 7) hs (by decide)) (Nat.le_of_ble_eq_true rfl) (Nat.le_of_ble_eq_true rfl) (Nat.le_of_ble_eq_true rfl) (fun r13 σ13 q13 => ?_)
    obtain ⟨rfl, rfl⟩ := q13
    rw [e7, h7]
    refine zz_gsn 3 rfl ?_
    refine zz_br rfl (fun h17 => ?_) (fun h17 => absurd h17 (by decide))
    refine zz_gsn 1 rfl ?_
    refine zz_br rfl (fun h33 => ?_) (fun h33 => absurd rfl h33)
    refine zz_rv rfl rfl ?_
    have et : w_dis W = w_S 6 (W.S 6 - 1) W := (if_neg (fun y => absurd (y.1.symm.trans h7) (by decide))).trans (if_neg (fun y => y.elim (fun z => absurd (z.symm.trans h7) (by decide)) (fun z => absurd (z.symm.trans h7) (by decide))))
    rw [et, z3_n (by show W.S 7 ≠ 3; rw [h7]; decide)]
    exact ⟨rfl, P9, G9⟩
  · refine zz_gsn 6 rfl ?_
    refine zz_cv (n := 3) rfl rfl (t_Mo_of (s := s) (k := 6) hs (by decide)) (Nat.le_of_ble_eq_true rfl) (Nat.le_of_ble_eq_true rfl) (Nat.le_of_ble_eq_true rfl) (fun r6 σ6 q6 => ?_)
    obtain ⟨rfl, rfl⟩ := q6
    refine zz_gsn 2 rfl ?_
    refine zz_cv (n := 4) rfl rfl (t_Mo_sets (s := s) (k := 6) hs (by decide)) (Nat.le_of_ble_eq_true rfl) (Nat.le_of_ble_eq_true rfl) (Nat.le_of_ble_eq_true rfl) (fun r9 σ9 q9 => ?_)
    obtain ⟨rfl, h9⟩ := q9
    have s6 : zw (σ.2 (m + 3) (12 * s + 6) - 1) = W.S 6 - 1 := by
      rw [hP.2.1 6 (by decide) (by decide)]
      exact zw_id (by omega) (by omega)
    have P9 : MP σ9 m s (w_S 6 (W.S 6 - 1) W) := by rw [h9]; exact hP.S' (by decide) s6
    have G9 : Rc m s W.n σ σ9 := by rw [h9]; exact Rc.st (by decide)
    have e7 : σ9.2 (m + 3) (12 * s + 7) = W.S 7 := P9.2.1 7 (by decide) (by decide)
    have e8 : σ9.2 (m + 3) (12 * s + 8) = W.S 8 := P9.2.1 8 (by decide) (by decide)
    clear s6 h9
    refine zz_gsn 3 rfl ?_
    refine zz_cv (n := 3) rfl rfl (t_Mo_of (s := s) (k := 7) hs (by decide)) (Nat.le_of_ble_eq_true rfl) (Nat.le_of_ble_eq_true rfl) (Nat.le_of_ble_eq_true rfl) (fun r13 σ13 q13 => ?_)
    obtain ⟨rfl, rfl⟩ := q13
    rw [e7, h7]
    refine zz_gsn 3 rfl ?_
    refine zz_br rfl (fun h17 => ?_) (fun h17 => absurd h17 (by decide))
    refine zz_gsn 1 rfl ?_
    refine zz_br rfl (fun h33 => absurd h33 (by decide)) (fun h33 => ?_)
    refine zz_gsn 6 rfl ?_
    refine zz_cv (n := 3) rfl rfl (t_Mo_of (s := s) (k := 8) hs (by decide)) (Nat.le_of_ble_eq_true rfl) (Nat.le_of_ble_eq_true rfl) (Nat.le_of_ble_eq_true rfl) (fun r40 σ40 q40 => ?_)
    obtain ⟨rfl, rfl⟩ := q40
    refine zz_gsn 2 rfl ?_
    refine zz_cv (n := 4) rfl rfl (t_Mo_sets (s := s) (k := 8) hs (by decide)) (Nat.le_of_ble_eq_true rfl) (Nat.le_of_ble_eq_true rfl) (Nat.le_of_ble_eq_true rfl) (fun r43 σ43 q43 => ?_)
    obtain ⟨rfl, h43⟩ := q43
    refine zz_rv rfl rfl ?_
    have et : w_dis W = w_S 8 (W.S 8 - 1) (w_S 6 (W.S 6 - 1) W) := (if_neg (fun y => absurd (y.1.symm.trans h7) (by decide))).trans (if_pos (Or.inl h7))
    rw [et, z3_n (by show W.S 7 ≠ 3; rw [h7]; decide)]
    have s8 : zw (σ9.2 (m + 3) (12 * s + 8) - 1) = W.S 8 - 1 := by
      rw [e8]
      exact zw_id (by omega) (by omega)
    exact ⟨rfl, by rw [h43]; exact P9.S' (by decide) s8, G9.tr (by rw [h43]; exact Rc.st (by decide)) (Nat.le_refl _)⟩
  · obtain ⟨c5, t5, e5⟩ := l_cons hr5
    refine zz_gsn 6 rfl ?_
    refine zz_cv (n := 3) rfl rfl (t_Mo_of (s := s) (k := 6) hs (by decide)) (Nat.le_of_ble_eq_true rfl) (Nat.le_of_ble_eq_true rfl) (Nat.le_of_ble_eq_true rfl) (fun r6 σ6 q6 => ?_)
    obtain ⟨rfl, rfl⟩ := q6
    refine zz_gsn 2 rfl ?_
    refine zz_cv (n := 4) rfl rfl (t_Mo_sets (s := s) (k := 6) hs (by decide)) (Nat.le_of_ble_eq_true rfl) (Nat.le_of_ble_eq_true rfl) (Nat.le_of_ble_eq_true rfl) (fun r9 σ9 q9 => ?_)
    obtain ⟨rfl, h9⟩ := q9
    have s6 : zw (σ.2 (m + 3) (12 * s + 6) - 1) = W.S 6 - 1 := by
      rw [hP.2.1 6 (by decide) (by decide)]
      exact zw_id (by omega) (by omega)
    have P9 : MP σ9 m s (w_S 6 (W.S 6 - 1) W) := by rw [h9]; exact hP.S' (by decide) s6
    have G9 : Rc m s W.n σ σ9 := by rw [h9]; exact Rc.st (by decide)
    have e7 : σ9.2 (m + 3) (12 * s + 7) = W.S 7 := P9.2.1 7 (by decide) (by decide)
    have e8 : σ9.2 (m + 3) (12 * s + 8) = W.S 8 := P9.2.1 8 (by decide) (by decide)
    clear s6 h9
    refine zz_gsn 3 rfl ?_
    refine zz_cv (n := 3) rfl rfl (t_Mo_of (s := s) (k := 7) hs (by decide)) (Nat.le_of_ble_eq_true rfl) (Nat.le_of_ble_eq_true rfl) (Nat.le_of_ble_eq_true rfl) (fun r13 σ13 q13 => ?_)
    obtain ⟨rfl, rfl⟩ := q13
    rw [e7, h7]
    refine zz_gsn 3 rfl ?_
    refine zz_br rfl (fun h17 => absurd rfl h17) (fun h17 => ?_)
    refine zz_gsn 3 rfl ?_
    refine zz_cv (n := 3) rfl rfl (t_Mo_of (s := s) (k := 8) hs (by decide)) (Nat.le_of_ble_eq_true rfl) (Nat.le_of_ble_eq_true rfl) (Nat.le_of_ble_eq_true rfl) (fun r21 σ21 q21 => ?_)
    obtain ⟨rfl, rfl⟩ := q21
    refine zz_br rfl (fun h22 => absurd (e8.trans h8) h22) (fun h22 => ?_)
    refine zz_gsn 3 rfl ?_
    refine zz_cv (n := 3) rfl rfl (t_Mo_pops (s := s) (k := 5) P9 hs (by decide) hn e5) (Nat.le_of_ble_eq_true rfl) (Nat.le_of_ble_eq_true rfl) (Nat.le_of_ble_eq_true rfl) (fun r26 σ26 q26 => ?_)
    obtain ⟨rfl, p26, g26⟩ := q26
    refine zz_gsn 3 rfl ?_
    refine zz_cv (n := 2) rfl rfl (t_Mo_becomesReady p26 hs) (Nat.le_of_ble_eq_true rfl) (Nat.le_of_ble_eq_true rfl) (Nat.le_of_ble_eq_true rfl) (fun r30 σ30 q30 => ?_)
    obtain ⟨rfl, p30, g30⟩ := q30
    refine zz_jp rfl ?_
    refine zz_rv rfl rfl ?_
    have et : w_dis W = w_S 7 3 (w_pop 5 (w_S 6 (W.S 6 - 1) W)) := if_pos ⟨h7, h8⟩
    rw [et, z3_y rfl]
    exact ⟨rfl, p30, (G9.tr g26 (Nat.le_refl _)).tr g30 (Nat.le_refl _)⟩
  · refine zz_gsn 6 rfl ?_
    refine zz_cv (n := 3) rfl rfl (t_Mo_of (s := s) (k := 6) hs (by decide)) (Nat.le_of_ble_eq_true rfl) (Nat.le_of_ble_eq_true rfl) (Nat.le_of_ble_eq_true rfl) (fun r6 σ6 q6 => ?_)
    obtain ⟨rfl, rfl⟩ := q6
    refine zz_gsn 2 rfl ?_
    refine zz_cv (n := 4) rfl rfl (t_Mo_sets (s := s) (k := 6) hs (by decide)) (Nat.le_of_ble_eq_true rfl) (Nat.le_of_ble_eq_true rfl) (Nat.le_of_ble_eq_true rfl) (fun r9 σ9 q9 => ?_)
    obtain ⟨rfl, h9⟩ := q9
    have s6 : zw (σ.2 (m + 3) (12 * s + 6) - 1) = W.S 6 - 1 := by
      rw [hP.2.1 6 (by decide) (by decide)]
      exact zw_id (by omega) (by omega)
    have P9 : MP σ9 m s (w_S 6 (W.S 6 - 1) W) := by rw [h9]; exact hP.S' (by decide) s6
    have G9 : Rc m s W.n σ σ9 := by rw [h9]; exact Rc.st (by decide)
    have e7 : σ9.2 (m + 3) (12 * s + 7) = W.S 7 := P9.2.1 7 (by decide) (by decide)
    have e8 : σ9.2 (m + 3) (12 * s + 8) = W.S 8 := P9.2.1 8 (by decide) (by decide)
    clear s6 h9
    refine zz_gsn 3 rfl ?_
    refine zz_cv (n := 3) rfl rfl (t_Mo_of (s := s) (k := 7) hs (by decide)) (Nat.le_of_ble_eq_true rfl) (Nat.le_of_ble_eq_true rfl) (Nat.le_of_ble_eq_true rfl) (fun r13 σ13 q13 => ?_)
    obtain ⟨rfl, rfl⟩ := q13
    rw [e7, h7]
    refine zz_gsn 3 rfl ?_
    refine zz_br rfl (fun h17 => absurd rfl h17) (fun h17 => ?_)
    refine zz_gsn 3 rfl ?_
    refine zz_cv (n := 3) rfl rfl (t_Mo_of (s := s) (k := 8) hs (by decide)) (Nat.le_of_ble_eq_true rfl) (Nat.le_of_ble_eq_true rfl) (Nat.le_of_ble_eq_true rfl) (fun r21 σ21 q21 => ?_)
    obtain ⟨rfl, rfl⟩ := q21
    refine zz_br rfl (fun h22 => ?_) (fun h22 => absurd (e8.symm.trans (by first | exact h22 | exact Decidable.not_not.mp h22)) h8)
    refine zz_gsn 1 rfl ?_
    refine zz_br rfl (fun h33 => absurd h33 (by decide)) (fun h33 => ?_)
    refine zz_gsn 6 rfl ?_
    refine zz_cv (n := 3) rfl rfl (t_Mo_of (s := s) (k := 8) hs (by decide)) (Nat.le_of_ble_eq_true rfl) (Nat.le_of_ble_eq_true rfl) (Nat.le_of_ble_eq_true rfl) (fun r40 σ40 q40 => ?_)
    obtain ⟨rfl, rfl⟩ := q40
    refine zz_gsn 2 rfl ?_
    refine zz_cv (n := 4) rfl rfl (t_Mo_sets (s := s) (k := 8) hs (by decide)) (Nat.le_of_ble_eq_true rfl) (Nat.le_of_ble_eq_true rfl) (Nat.le_of_ble_eq_true rfl) (fun r43 σ43 q43 => ?_)
    obtain ⟨rfl, h43⟩ := q43
    refine zz_rv rfl rfl ?_
    have et : w_dis W = w_S 8 (W.S 8 - 1) (w_S 6 (W.S 6 - 1) W) := (if_neg (fun y => h8 y.2)).trans (if_pos (Or.inr h7))
    rw [et, z3_n (by show W.S 7 ≠ 3; rw [h7]; decide)]
    have s8 : zw (σ9.2 (m + 3) (12 * s + 8) - 1) = W.S 8 - 1 := by
      rw [e8]
      exact zw_id (by omega) (by omega)
    exact ⟨rfl, by rw [h43]; exact P9.S' (by decide) s8, G9.tr (by rw [h43]; exact Rc.st (by decide)) (Nat.le_refl _)⟩
theorem c6 {P : Nat → Prop} (p0 : P 0) (p1 : P 1) (p2 : P 2) (p3 : P 3) (p4 : P 4) (p5 : P 5) : ∀ k, k < 6 → P k := fun k hk => by
  match k, hk with
  | 0, _ => exact p0
  | 1, _ => exact p1
  | 2, _ => exact p2
  | 3, _ => exact p3
  | 4, _ => exact p4
  | 5, _ => exact p5
theorem c6s {P : Nat → Prop} (p6 : P 6) (p7 : P 7) (p8 : P 8) (p9 : P 9) (p10 : P 10) (p11 : P 11) : ∀ k, 6 ≤ k → k < 12 → P k := fun k h1 h2 => by
  match k, h1, h2 with
  | 6, _, _ => exact p6
  | 7, _, _ => exact p7
  | 8, _, _ => exact p8
  | 9, _, _ => exact p9
  | 10, _, _ => exact p10
  | 11, _, _ => exact p11
theorem beg_R (W : zz_W) : ∀ k, k < 6 → (w_beg W).R k = (w_R 1 [] (w_S 6 (W.S 6 + w_len 1 W) (w_R 5 [] (w_R 3 [] (w_R 4 (W.R 1) (w_R 2 (W.R 0) (w_S 8 0 (w_S 7 1 W)))))))).R k := c6 rfl rfl rfl rfl rfl rfl
theorem beg_S (W : zz_W) : ∀ k, 6 ≤ k → k < 12 → (w_beg W).S k = (w_R 1 [] (w_S 6 (W.S 6 + w_len 1 W) (w_R 5 [] (w_R 3 [] (w_R 4 (W.R 1) (w_R 2 (W.R 0) (w_S 8 0 (w_S 7 1 W)))))))).S k := c6s rfl rfl rfl rfl rfl rfl
theorem nil_lt {n : Nat} : ∀ c ∈ ([] : List Nat), c < n := fun c hc => absurd hc List.not_mem_nil
theorem t_Mo_begins {X : zz_X} {σ : zz_M} {m s : Nat} {W : zz_W} (hP : MP σ m s W) (hs : s < 182) (hl : (W.R 1).length < 100000) (hS6 : -900000 < W.S 6 ∧ W.S 6 < 900000) : zz_T X 2 p_Mo_begins [zP 12 0 0 m, zI (s : Nat), zI (w_len 1 W)] σ (fun r σ' => r = none ∧ MP σ' m s (w_beg W) ∧ Rg m s W.n σ σ' ∧ σ'.1 1207 m = σ.1 1207 m ∧ σ'.1 1208 m = 1 ∧ σ'.1 1209 m = (if W.S 7 ≠ 0 then 1 else 0)) := by
  refine zz_mk k_Mo_begins o_Mo_begins rfl rfl (Nat.le_of_ble_eq_true rfl) ?_
  show zz_G X 2 p_Mo_begins 0 [zP 12 0 0 m, zI (s : Nat), zI (w_len 1 W)] [] σ _
  have e7 := hP.2.1 7 (by decide) (by decide)
  rcases Classical.em (W.S 7 = 0) with h7 | h7
  · refine zz_gsn 2 rfl ?_
    refine zz_ptz rfl (by first | exact Or.inl rfl | exact Or.inr rfl | omega) ?_
    refine zz_gsn 4 rfl ?_
    refine zz_cv (n := 3) rfl rfl (t_Mo_of (s := s) (k := 7) hs (by decide)) (Nat.le_of_ble_eq_true rfl) (Nat.le_of_ble_eq_true rfl) (Nat.le_of_ble_eq_true rfl) (fun r7 σ7 q7 => ?_)
    obtain ⟨rfl, rfl⟩ := q7
    refine zz_br rfl (fun h8 => ?_) (fun h8 => absurd (e7.trans h7) h8)
    refine zz_gsn 1 rfl ?_
    refine zz_ptz rfl (by first | exact Or.inl rfl | exact Or.inr rfl | omega) ?_
    obtain ⟨σ2, h2⟩ : ∃ x, x = zz_sf (zz_sf σ 1208 m 1) 1209 m 0 := ⟨_, rfl⟩
    refine zz_sge (σ' := σ2) h2 ?_
    have P2 : MP σ2 m s W := by rw [h2]; exact (hP.fd (by decide)).fd (by decide)
    refine zz_gsn 4 rfl ?_
    refine zz_cv (n := 4) rfl rfl (t_Mo_sets (s := s) (k := 7) hs (by decide)) (Nat.le_of_ble_eq_true rfl) (Nat.le_of_ble_eq_true rfl) (Nat.le_of_ble_eq_true rfl) (fun r17 σ17 q17 => ?_)
    obtain ⟨rfl, h17⟩ := q17
    have P17 := P2.S (j := 7) (v := 1) (by decide)
    rw [← h17] at P17
    refine zz_gsn 4 rfl ?_
    refine zz_cv (n := 4) rfl rfl (t_Mo_sets (s := s) (k := 8) hs (by decide)) (Nat.le_of_ble_eq_true rfl) (Nat.le_of_ble_eq_true rfl) (Nat.le_of_ble_eq_true rfl) (fun r22 σ22 q22 => ?_)
    obtain ⟨rfl, h22⟩ := q22
    have P22 := P17.S (j := 8) (v := 0) (by decide)
    rw [← h22] at P22
    refine zz_gsn 6 rfl ?_
    refine zz_cv (n := 3) rfl rfl (t_Mo_of (s := s) (k := 0) hs (by decide)) (Nat.le_of_ble_eq_true rfl) (Nat.le_of_ble_eq_true rfl) (Nat.le_of_ble_eq_true rfl) (fun r29 σ29 q29 => ?_)
    obtain ⟨rfl, rfl⟩ := q29
    refine zz_cv (n := 4) rfl rfl (t_Mo_sets (s := s) (k := 2) hs (by decide)) (Nat.le_of_ble_eq_true rfl) (Nat.le_of_ble_eq_true rfl) (Nat.le_of_ble_eq_true rfl) (fun r30 σ30 q30 => ?_)
    obtain ⟨rfl, h30⟩ := q30
    have P30 := P22.R (k := 2) (by decide) (P22.1 0 (by decide)) (P22.2.2.2 0 (by decide))
    rw [← h30] at P30
    refine zz_gsn 6 rfl ?_
    refine zz_cv (n := 3) rfl rfl (t_Mo_of (s := s) (k := 1) hs (by decide)) (Nat.le_of_ble_eq_true rfl) (Nat.le_of_ble_eq_true rfl) (Nat.le_of_ble_eq_true rfl) (fun r37 σ37 q37 => ?_)
    obtain ⟨rfl, rfl⟩ := q37
    refine zz_cv (n := 4) rfl rfl (t_Mo_sets (s := s) (k := 4) hs (by decide)) (Nat.le_of_ble_eq_true rfl) (Nat.le_of_ble_eq_true rfl) (Nat.le_of_ble_eq_true rfl) (fun r38 σ38 q38 => ?_)
    obtain ⟨rfl, h38⟩ := q38
    have P38 := P30.R (k := 4) (by decide) (P30.1 1 (by decide)) (P30.2.2.2 1 (by decide))
    rw [← h38] at P38
    refine zz_gsn 4 rfl ?_
    refine zz_cv (n := 4) rfl rfl (t_Mo_sets (s := s) (k := 3) hs (by decide)) (Nat.le_of_ble_eq_true rfl) (Nat.le_of_ble_eq_true rfl) (Nat.le_of_ble_eq_true rfl) (fun r43 σ43 q43 => ?_)
    obtain ⟨rfl, h43⟩ := q43
    have P43 := P38.R (k := 3) (v := -1) (l := []) (by decide) rfl nil_lt
    rw [← h43] at P43
    refine zz_gsn 4 rfl ?_
    refine zz_cv (n := 4) rfl rfl (t_Mo_sets (s := s) (k := 5) hs (by decide)) (Nat.le_of_ble_eq_true rfl) (Nat.le_of_ble_eq_true rfl) (Nat.le_of_ble_eq_true rfl) (fun r48 σ48 q48 => ?_)
    obtain ⟨rfl, h48⟩ := q48
    have P48 := P43.R (k := 5) (v := -1) (l := []) (by decide) rfl nil_lt
    rw [← h48] at P48
    refine zz_gsn 6 rfl ?_
    refine zz_cv (n := 3) rfl rfl (t_Mo_of (s := s) (k := 6) hs (by decide)) (Nat.le_of_ble_eq_true rfl) (Nat.le_of_ble_eq_true rfl) (Nat.le_of_ble_eq_true rfl) (fun r55 σ55 q55 => ?_)
    obtain ⟨rfl, rfl⟩ := q55
    refine zz_gsn 2 rfl ?_
    refine zz_cv (n := 4) rfl rfl (t_Mo_sets (s := s) (k := 6) hs (by decide)) (Nat.le_of_ble_eq_true rfl) (Nat.le_of_ble_eq_true rfl) (Nat.le_of_ble_eq_true rfl) (fun r58 σ58 q58 => ?_)
    obtain ⟨rfl, h58⟩ := q58
    have s6 : zw (σ48.2 (m + 3) (12 * s + 6) + w_len 1 W) = W.S 6 + w_len 1 W := by
      rw [P48.2.1 6 (by decide) (by decide)]
      exact zw_id (x := W.S 6 + (((W.R 1).length : Nat) : Int)) (by omega) (by omega)
    have P58 := P48.S' (j := 6) (by decide) s6
    rw [← h58] at P58
    clear s6
    refine zz_gsn 4 rfl ?_
    refine zz_cv (n := 4) rfl rfl (t_Mo_sets (s := s) (k := 1) hs (by decide)) (Nat.le_of_ble_eq_true rfl) (Nat.le_of_ble_eq_true rfl) (Nat.le_of_ble_eq_true rfl) (fun r63 σ63 q63 => ?_)
    obtain ⟨rfl, h63⟩ := q63
    have P63 := P58.R (k := 1) (v := -1) (l := []) (by decide) rfl nil_lt
    rw [← h63] at P63
    refine zz_rv rfl rfl ?_
    have P := P63.cg (beg_R W) (beg_S W) rfl rfl
    have G : Rc m s W.n σ2 σ63 := ((((((((show Rc m s W.n σ2 σ17 by rw [h17]; exact Rc.st (by decide)).tr (show Rc m s W.n σ17 σ22 by rw [h22]; exact Rc.st (by decide)) (Nat.le_refl _)).tr (show Rc m s W.n σ22 σ30 by rw [h30]; exact Rc.st (by decide)) (Nat.le_refl _)).tr (show Rc m s W.n σ30 σ38 by rw [h38]; exact Rc.st (by decide)) (Nat.le_refl _)).tr (show Rc m s W.n σ38 σ43 by rw [h43]; exact Rc.st (by decide)) (Nat.le_refl _)).tr (show Rc m s W.n σ43 σ48 by rw [h48]; exact Rc.st (by decide)) (Nat.le_refl _)).tr (show Rc m s W.n σ48 σ58 by rw [h58]; exact Rc.st (by decide)) (Nat.le_refl _)).tr (show Rc m s W.n σ58 σ63 by rw [h63]; exact Rc.st (by decide)) (Nat.le_refl _))
    have G2 : Rg m s W.n σ σ2 := by rw [h2]; exact (Rg.sf (Or.inr (Or.inr (Or.inl rfl)))).tr (Rg.sf (Or.inr (Or.inr (Or.inr rfl)))) (Nat.le_refl _)
    refine ⟨rfl, P, G2.tr G.g (Nat.le_refl _), ?_, ?_, ?_⟩
    · rw [G.fl (by decide), h2, sf_f _ _ (by decide), sf_f _ _ (by decide)]
    · rw [G.fl (by decide), h2, sf_f _ _ (by decide), sf_h]
    · rw [G.fl (by decide), h2, sf_h, if_neg (fun z => z h7)]
  · refine zz_gsn 2 rfl ?_
    refine zz_ptz rfl (by first | exact Or.inl rfl | exact Or.inr rfl | omega) ?_
    refine zz_gsn 4 rfl ?_
    refine zz_cv (n := 3) rfl rfl (t_Mo_of (s := s) (k := 7) hs (by decide)) (Nat.le_of_ble_eq_true rfl) (Nat.le_of_ble_eq_true rfl) (Nat.le_of_ble_eq_true rfl) (fun r7 σ7 q7 => ?_)
    obtain ⟨rfl, rfl⟩ := q7
    refine zz_br rfl (fun h8 => absurd (e7.symm.trans h8) h7) (fun h8 => ?_)
    refine zz_gsn 1 rfl ?_
    refine zz_jp rfl ?_
    refine zz_ptz rfl (by first | exact Or.inl rfl | exact Or.inr rfl | omega) ?_
    obtain ⟨σ2, h2⟩ : ∃ x, x = zz_sf (zz_sf σ 1208 m 1) 1209 m 1 := ⟨_, rfl⟩
    refine zz_sge (σ' := σ2) h2 ?_
    have P2 : MP σ2 m s W := by rw [h2]; exact (hP.fd (by decide)).fd (by decide)
    refine zz_gsn 4 rfl ?_
    refine zz_cv (n := 4) rfl rfl (t_Mo_sets (s := s) (k := 7) hs (by decide)) (Nat.le_of_ble_eq_true rfl) (Nat.le_of_ble_eq_true rfl) (Nat.le_of_ble_eq_true rfl) (fun r17 σ17 q17 => ?_)
    obtain ⟨rfl, h17⟩ := q17
    have P17 := P2.S (j := 7) (v := 1) (by decide)
    rw [← h17] at P17
    refine zz_gsn 4 rfl ?_
    refine zz_cv (n := 4) rfl rfl (t_Mo_sets (s := s) (k := 8) hs (by decide)) (Nat.le_of_ble_eq_true rfl) (Nat.le_of_ble_eq_true rfl) (Nat.le_of_ble_eq_true rfl) (fun r22 σ22 q22 => ?_)
    obtain ⟨rfl, h22⟩ := q22
    have P22 := P17.S (j := 8) (v := 0) (by decide)
    rw [← h22] at P22
    refine zz_gsn 6 rfl ?_
    refine zz_cv (n := 3) rfl rfl (t_Mo_of (s := s) (k := 0) hs (by decide)) (Nat.le_of_ble_eq_true rfl) (Nat.le_of_ble_eq_true rfl) (Nat.le_of_ble_eq_true rfl) (fun r29 σ29 q29 => ?_)
    obtain ⟨rfl, rfl⟩ := q29
    refine zz_cv (n := 4) rfl rfl (t_Mo_sets (s := s) (k := 2) hs (by decide)) (Nat.le_of_ble_eq_true rfl) (Nat.le_of_ble_eq_true rfl) (Nat.le_of_ble_eq_true rfl) (fun r30 σ30 q30 => ?_)
    obtain ⟨rfl, h30⟩ := q30
    have P30 := P22.R (k := 2) (by decide) (P22.1 0 (by decide)) (P22.2.2.2 0 (by decide))
    rw [← h30] at P30
    refine zz_gsn 6 rfl ?_
    refine zz_cv (n := 3) rfl rfl (t_Mo_of (s := s) (k := 1) hs (by decide)) (Nat.le_of_ble_eq_true rfl) (Nat.le_of_ble_eq_true rfl) (Nat.le_of_ble_eq_true rfl) (fun r37 σ37 q37 => ?_)
    obtain ⟨rfl, rfl⟩ := q37
    refine zz_cv (n := 4) rfl rfl (t_Mo_sets (s := s) (k := 4) hs (by decide)) (Nat.le_of_ble_eq_true rfl) (Nat.le_of_ble_eq_true rfl) (Nat.le_of_ble_eq_true rfl) (fun r38 σ38 q38 => ?_)
    obtain ⟨rfl, h38⟩ := q38
    have P38 := P30.R (k := 4) (by decide) (P30.1 1 (by decide)) (P30.2.2.2 1 (by decide))
    rw [← h38] at P38
    refine zz_gsn 4 rfl ?_
    refine zz_cv (n := 4) rfl rfl (t_Mo_sets (s := s) (k := 3) hs (by decide)) (Nat.le_of_ble_eq_true rfl) (Nat.le_of_ble_eq_true rfl) (Nat.le_of_ble_eq_true rfl) (fun r43 σ43 q43 => ?_)
    obtain ⟨rfl, h43⟩ := q43
    have P43 := P38.R (k := 3) (v := -1) (l := []) (by decide) rfl nil_lt
    rw [← h43] at P43
    refine zz_gsn 4 rfl ?_
    refine zz_cv (n := 4) rfl rfl (t_Mo_sets (s := s) (k := 5) hs (by decide)) (Nat.le_of_ble_eq_true rfl) (Nat.le_of_ble_eq_true rfl) (Nat.le_of_ble_eq_true rfl) (fun r48 σ48 q48 => ?_)
    obtain ⟨rfl, h48⟩ := q48
    have P48 := P43.R (k := 5) (v := -1) (l := []) (by decide) rfl nil_lt
    rw [← h48] at P48
    refine zz_gsn 6 rfl ?_
    refine zz_cv (n := 3) rfl rfl (t_Mo_of (s := s) (k := 6) hs (by decide)) (Nat.le_of_ble_eq_true rfl) (Nat.le_of_ble_eq_true rfl) (Nat.le_of_ble_eq_true rfl) (fun r55 σ55 q55 => ?_)
    obtain ⟨rfl, rfl⟩ := q55
    refine zz_gsn 2 rfl ?_
    refine zz_cv (n := 4) rfl rfl (t_Mo_sets (s := s) (k := 6) hs (by decide)) (Nat.le_of_ble_eq_true rfl) (Nat.le_of_ble_eq_true rfl) (Nat.le_of_ble_eq_true rfl) (fun r58 σ58 q58 => ?_)
    obtain ⟨rfl, h58⟩ := q58
    have s6 : zw (σ48.2 (m + 3) (12 * s + 6) + w_len 1 W) = W.S 6 + w_len 1 W := by
      rw [P48.2.1 6 (by decide) (by decide)]
      exact zw_id (x := W.S 6 + (((W.R 1).length : Nat) : Int)) (by omega) (by omega)
    have P58 := P48.S' (j := 6) (by decide) s6
    rw [← h58] at P58
    clear s6
    refine zz_gsn 4 rfl ?_
    refine zz_cv (n := 4) rfl rfl (t_Mo_sets (s := s) (k := 1) hs (by decide)) (Nat.le_of_ble_eq_true rfl) (Nat.le_of_ble_eq_true rfl) (Nat.le_of_ble_eq_true rfl) (fun r63 σ63 q63 => ?_)
    obtain ⟨rfl, h63⟩ := q63
    have P63 := P58.R (k := 1) (v := -1) (l := []) (by decide) rfl nil_lt
    rw [← h63] at P63
    refine zz_rv rfl rfl ?_
    have P := P63.cg (beg_R W) (beg_S W) rfl rfl
    have G : Rc m s W.n σ2 σ63 := ((((((((show Rc m s W.n σ2 σ17 by rw [h17]; exact Rc.st (by decide)).tr (show Rc m s W.n σ17 σ22 by rw [h22]; exact Rc.st (by decide)) (Nat.le_refl _)).tr (show Rc m s W.n σ22 σ30 by rw [h30]; exact Rc.st (by decide)) (Nat.le_refl _)).tr (show Rc m s W.n σ30 σ38 by rw [h38]; exact Rc.st (by decide)) (Nat.le_refl _)).tr (show Rc m s W.n σ38 σ43 by rw [h43]; exact Rc.st (by decide)) (Nat.le_refl _)).tr (show Rc m s W.n σ43 σ48 by rw [h48]; exact Rc.st (by decide)) (Nat.le_refl _)).tr (show Rc m s W.n σ48 σ58 by rw [h58]; exact Rc.st (by decide)) (Nat.le_refl _)).tr (show Rc m s W.n σ58 σ63 by rw [h63]; exact Rc.st (by decide)) (Nat.le_refl _))
    have G2 : Rg m s W.n σ σ2 := by rw [h2]; exact (Rg.sf (Or.inr (Or.inr (Or.inl rfl)))).tr (Rg.sf (Or.inr (Or.inr (Or.inr rfl)))) (Nat.le_refl _)
    refine ⟨rfl, P, G2.tr G.g (Nat.le_refl _), ?_, ?_, ?_⟩
    · rw [G.fl (by decide), h2, sf_f _ _ (by decide), sf_f _ _ (by decide)]
    · rw [G.fl (by decide), h2, sf_f _ _ (by decide), sf_h]
    · rw [G.fl (by decide), h2, sf_h, if_pos h7]
