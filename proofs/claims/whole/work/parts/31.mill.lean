/-! the mill: what a deed does itself -/
theorem w_chg0 (law mk x : Int) (W : zz_W) : w_chg law mk 0 x W = w_push mk 1 x (w_S 11 (W.S 11 + 1) W) := rfl
theorem w_chg2 (law mk x : Int) (W : zz_W) : w_chg law mk 2 x W = w_push mk 0 x (w_S 11 (W.S 11 + 1) W) := rfl
theorem w_chg1 {law : Int} (mk x : Int) (W : zz_W) (h : law = 1) : w_chg law mk 1 x W = w_pop (if (w_dis (w_S 11 (W.S 11 - 1) W)).R 0 = [] then 1 else 0) (w_dis (w_S 11 (W.S 11 - 1) W)) := by
  subst h
  rfl
theorem w_chg1n {law : Int} (mk x : Int) (W : zz_W) (h : law ≠ 1) : w_chg law mk 1 x W = w_pop (if W.R 0 = [] then 1 else 0) (w_S 11 (W.S 11 - 1) W) := by
  show w_pop (if (if law = 1 then w_dis (w_S 11 (W.S 11 - 1) W) else w_S 11 (W.S 11 - 1) W).R 0 = [] then 1 else 0) (if law = 1 then w_dis (w_S 11 (W.S 11 - 1) W) else w_S 11 (W.S 11 - 1) W) = _
  rw [if_neg h]
  rfl
theorem w_chg3 (law mk x : Int) (W : zz_W) : w_chg law mk 3 x W = w_pop (if W.R 1 = [] then 0 else 1) (w_S 11 (W.S 11 - 1) W) := rfl
theorem w_dis_n (W : zz_W) : (w_dis W).n = W.n := by
  unfold w_dis
  split
  · rfl
  · split <;> rfl
theorem w_dis_R (W : zz_W) {k : Nat} (hk : k ≠ 5) : (w_dis W).R k = W.R k := by
  unfold w_dis
  split
  · show (zu W.R 5 _) k = _
    exact zu_n _ _ hk
  · split <;> rfl
theorem w_dis_l5 (W : zz_W) : ((w_dis W).R 5).length ≤ (W.R 5).length := by
  unfold w_dis
  split
  · show ((zu W.R 5 (W.R 5).tail) 5).length ≤ _
    rw [zu_s, List.length_tail]
    omega
  · split <;> exact Nat.le_refl _
theorem SP.tot' {σ : zz_M} {p m s : Nat} {W : zz_W} (h : SP σ p m s W) {v w : Int} (e : v = w) : SP (zz_sf σ 906 s v) p m s (w_S 11 w W) := by
  subst e
  exact h.tot
theorem t_Mill_change {X : zz_X} {σ : zz_M} {p q m s : Nat} {W : zz_W} {law mk kind x : Int} (hSP : SP σ p m s W) (hmk : σ.1 406 m = mk) (hlaw : σ.1 404 m = law) (hkd : 0 ≤ kind ∧ kind ≤ 3) (hp : 0 < p → (w_chg law mk kind x W).n ≤ p) (hpb : p < 100000) (hl : ∀ k, k < 6 → (W.R k).length < 40000) (hS6 : -800000 < W.S 6 ∧ W.S 6 < 800000) (hS8 : -800000 < W.S 8 ∧ W.S 8 < 800000) (hS11 : -800000 < W.S 11 ∧ W.S 11 < 800000) : zz_T X 3 p_Mill_change [zP 4 p q m, zP 9 0 0 s, zI kind, zI x] σ (fun r σ' => r = none ∧ SP σ' p m s (w_chg law mk kind x W) ∧ Mc s m W.n σ σ') := by
  refine zz_mk k_Mill_change o_Mill_change rfl rfl (Nat.le_of_ble_eq_true rfl) ?_
  show zz_G X 3 p_Mill_change 0 [zP 4 p q m, zP 9 0 0 s, zI kind, zI x] [] σ _
  have e11 : σ.1 906 s = W.S 11 := hSP.2.2.1
  refine zz_gsn 4 rfl ?_
  refine zz_cs (n := 1) rfl rfl (t_TQ_isPutting) (Nat.le_of_ble_eq_true rfl) (Nat.le_of_ble_eq_true rfl) (Nat.le_of_ble_eq_true rfl) (fun r4 σ4 q4 => ?_)
  obtain ⟨rfl, n4, rfl, e4⟩ := q4
  refine zz_br rfl (fun h5 => ?_) (fun h5 => ?_)
  · refine zz_gsn 3 rfl ?_
    obtain ⟨σ1, hσ1⟩ : ∃ σ1, σ1 = zz_sf σ 906 s (zw (σ.1 906 s + (-1))) := ⟨_, rfl⟩
    have p1 : SP σ1 p m s (w_S 11 (W.S 11 - 1) W) := by rw [hσ1]; exact hSP.tot' (by rw [e11, zw_id (by omega) (by omega)]; omega)
    have g1 : Mc s m W.n σ σ1 := by rw [hσ1]; exact Mc.st (by decide)
    have m1 : σ1.1 406 m = mk := by rw [hσ1, sf_f _ _ (by omega)]; exact hmk
    have l1 : σ1.1 404 m = law := by rw [hσ1, sf_f _ _ (by omega)]; exact hlaw
    refine zz_sge (σ' := σ1) (by rw [hσ1]) ?_
    refine zz_gsn 1 rfl ?_
    have hk : kind = 1 ∨ kind = 3 := by omega
    rcases hk with hk | hk
    · refine zz_swI 1 31 rfl (by omega) rfl ?_
      refine zz_gsn 3 rfl ?_
      refine zz_br rfl (fun h34 => ?_) (fun h34 => ?_)
      · refine zz_gsn 5 rfl ?_
        refine zz_br rfl (fun h43 => ?_) (fun h43 => ?_)
        · refine zz_gsn 2 rfl ?_
          refine zz_cv (n := 2) rfl rfl (t_Cells_dropFirst) (Nat.le_of_ble_eq_true rfl) (Nat.le_of_ble_eq_true rfl) (Nat.le_of_ble_eq_true rfl) (fun r49 σ49 q49 => ?_)
          obtain ⟨rfl, q49⟩ := q49
          obtain ⟨p49, g49⟩ := sp_drop (k := 1) p1 (by decide) (by have := hl 1 (by decide); show (W.R 1).length < _; omega) q49
          refine zz_jp rfl ?_
          refine zz_rv rfl rfl ?_
          rw [hk, w_chg1n mk x W (fun z => h34 (l1.trans z))]
          have c0 : W.R 0 = [] := by have z := (p1.1 0 (by decide)).1; exact w_len_0.mp (Int.le_antisymm (z ▸ h43) (Int.natCast_nonneg _))
          rw [if_pos c0]
          exact ⟨rfl, p49, g1.tr g49 (Nat.le_refl _)⟩
        · refine zz_gsn 2 rfl ?_
          refine zz_jp rfl ?_
          refine zz_cv (n := 2) rfl rfl (t_Cells_dropFirst) (Nat.le_of_ble_eq_true rfl) (Nat.le_of_ble_eq_true rfl) (Nat.le_of_ble_eq_true rfl) (fun r49 σ49 q49 => ?_)
          obtain ⟨rfl, q49⟩ := q49
          obtain ⟨p49, g49⟩ := sp_drop (k := 0) p1 (by decide) (by have := hl 0 (by decide); show (W.R 0).length < _; omega) q49
          refine zz_jp rfl ?_
          refine zz_rv rfl rfl ?_
          rw [hk, w_chg1n mk x W (fun z => h34 (l1.trans z))]
          have c0 : ¬ W.R 0 = [] := fun y => by have z := (p1.1 0 (by decide)).1; have z2 := w_len_0.mpr y; exact absurd (z.trans z2) (Int.ne_of_gt h43)
          rw [if_neg c0]
          exact ⟨rfl, p49, g1.tr g49 (Nat.le_refl _)⟩
      · refine zz_gsn 2 rfl ?_
        refine zz_cv (n := 2) rfl rfl (t_Mill_disown p1 (by have := hl 5 (by decide); show (W.R 5).length < _; omega) (by show _ < W.S 6 ∧ W.S 6 < _; omega) (by show _ < W.S 8 ∧ W.S 8 < _; omega)) (Nat.le_of_ble_eq_true rfl) (Nat.le_of_ble_eq_true rfl) (Nat.le_of_ble_eq_true rfl) (fun r37 σ37 q37 => ?_)
        obtain ⟨rfl, p37, g37⟩ := q37
        refine zz_gsn 5 rfl ?_
        refine zz_br rfl (fun h43 => ?_) (fun h43 => ?_)
        · refine zz_gsn 2 rfl ?_
          refine zz_cv (n := 2) rfl rfl (t_Cells_dropFirst) (Nat.le_of_ble_eq_true rfl) (Nat.le_of_ble_eq_true rfl) (Nat.le_of_ble_eq_true rfl) (fun r49 σ49 q49 => ?_)
          obtain ⟨rfl, q49⟩ := q49
          obtain ⟨p49, g49⟩ := sp_drop (k := 1) p37 (by decide) (by rw [w_dis_R _ (by decide)]; have := hl 1 (by decide); show (W.R 1).length < _; omega) q49
          refine zz_jp rfl ?_
          refine zz_rv rfl rfl ?_
          rw [hk, w_chg1 mk x W (l1.symm.trans h34)]
          have c0 : (w_dis (w_S 11 (W.S 11 - 1) W)).R 0 = [] := by have z := (p37.1 0 (by decide)).1; exact w_len_0.mp (Int.le_antisymm (z ▸ h43) (Int.natCast_nonneg _))
          rw [if_pos c0]
          exact ⟨rfl, p49, (g1.tr g37 (Nat.le_refl _)).tr g49 (by rw [w_dis_n]; exact Nat.le_refl _)⟩
        · refine zz_gsn 2 rfl ?_
          refine zz_jp rfl ?_
          refine zz_cv (n := 2) rfl rfl (t_Cells_dropFirst) (Nat.le_of_ble_eq_true rfl) (Nat.le_of_ble_eq_true rfl) (Nat.le_of_ble_eq_true rfl) (fun r49 σ49 q49 => ?_)
          obtain ⟨rfl, q49⟩ := q49
          obtain ⟨p49, g49⟩ := sp_drop (k := 0) p37 (by decide) (by rw [w_dis_R _ (by decide)]; have := hl 0 (by decide); show (W.R 0).length < _; omega) q49
          refine zz_jp rfl ?_
          refine zz_rv rfl rfl ?_
          rw [hk, w_chg1 mk x W (l1.symm.trans h34)]
          have c0 : ¬ (w_dis (w_S 11 (W.S 11 - 1) W)).R 0 = [] := fun y => by have z := (p37.1 0 (by decide)).1; have z2 := w_len_0.mpr y; exact absurd (z.trans z2) (Int.ne_of_gt h43)
          rw [if_neg c0]
          exact ⟨rfl, p49, (g1.tr g37 (Nat.le_refl _)).tr g49 (by rw [w_dis_n]; exact Nat.le_refl _)⟩
    · refine zz_swO 51 rfl (by show kind < 0 ∨ 0 + 4 ≤ kind + 1; omega) rfl ?_
      refine zz_gsn 5 rfl ?_
      refine zz_br rfl (fun h56 => ?_) (fun h56 => ?_)
      · refine zz_gsn 2 rfl ?_
        refine zz_cv (n := 2) rfl rfl (t_Cells_dropFirst) (Nat.le_of_ble_eq_true rfl) (Nat.le_of_ble_eq_true rfl) (Nat.le_of_ble_eq_true rfl) (fun r62 σ62 q62 => ?_)
        obtain ⟨rfl, q62⟩ := q62
        obtain ⟨p62, g62⟩ := sp_drop (k := 0) p1 (by decide) (by have := hl 0 (by decide); show (W.R 0).length < _; omega) q62
        refine zz_rv rfl rfl ?_
        rw [hk, w_chg3]
        have c0 : W.R 1 = [] := by have z := (p1.1 1 (by decide)).1; exact w_len_0.mp (Int.le_antisymm (z ▸ h56) (Int.natCast_nonneg _))
        rw [if_pos c0]
        exact ⟨rfl, p62, g1.tr g62 (Nat.le_refl _)⟩
      · refine zz_gsn 2 rfl ?_
        refine zz_jp rfl ?_
        refine zz_cv (n := 2) rfl rfl (t_Cells_dropFirst) (Nat.le_of_ble_eq_true rfl) (Nat.le_of_ble_eq_true rfl) (Nat.le_of_ble_eq_true rfl) (fun r62 σ62 q62 => ?_)
        obtain ⟨rfl, q62⟩ := q62
        obtain ⟨p62, g62⟩ := sp_drop (k := 1) p1 (by decide) (by have := hl 1 (by decide); show (W.R 1).length < _; omega) q62
        refine zz_rv rfl rfl ?_
        rw [hk, w_chg3]
        have c0 : ¬ W.R 1 = [] := fun y => by have z := (p1.1 1 (by decide)).1; have z2 := w_len_0.mpr y; exact absurd (z.trans z2) (Int.ne_of_gt h56)
        rw [if_neg c0]
        exact ⟨rfl, p62, g1.tr g62 (Nat.le_refl _)⟩
  · refine zz_gsn 1 rfl ?_
    refine zz_jp rfl ?_
    refine zz_gsn 2 rfl ?_
    obtain ⟨σ1, hσ1⟩ : ∃ σ1, σ1 = zz_sf σ 906 s (zw (σ.1 906 s + 1)) := ⟨_, rfl⟩
    have p1 : SP σ1 p m s (w_S 11 (W.S 11 + 1) W) := by rw [hσ1]; exact hSP.tot' (by rw [e11, zw_id (by omega) (by omega)])
    have g1 : Mc s m W.n σ σ1 := by rw [hσ1]; exact Mc.st (by decide)
    have m1 : σ1.1 406 m = mk := by rw [hσ1, sf_f _ _ (by omega)]; exact hmk
    have l1 : σ1.1 404 m = law := by rw [hσ1, sf_f _ _ (by omega)]; exact hlaw
    refine zz_sge (σ' := σ1) (by rw [hσ1]) ?_
    refine zz_gsn 1 rfl ?_
    have hk : kind = 0 ∨ kind = 2 := by omega
    rcases hk with hk | hk
    · refine zz_swI 0 13 rfl (by omega) rfl ?_
      refine zz_gsn 7 rfl ?_
      refine zz_cv (n := 4) rfl rfl (t_Cells_add) (Nat.le_of_ble_eq_true rfl) (Nat.le_of_ble_eq_true rfl) (Nat.le_of_ble_eq_true rfl) (fun r20 σ20 q20 => ?_)
      obtain ⟨rfl, q20⟩ := q20
      have hn : 0 < p → (w_S 11 (W.S 11 + 1) W).n < p := fun z => by have z2 := hp z; rw [hk] at z2; exact z2
      obtain ⟨p20, g20⟩ := sp_add (y := x) (k := 1) p1 (by decide) hn hpb (by have := hl 1 (by decide); show (W.R 1).length < _; omega) (fun _ => rfl) q20
      rw [m1] at p20
      refine zz_jp rfl ?_
      refine zz_rv rfl rfl ?_
      rw [hk, w_chg0]
      exact ⟨rfl, p20, g1.tr g20 (Nat.le_refl _)⟩
    · refine zz_swI 2 22 rfl (by omega) rfl ?_
      refine zz_gsn 7 rfl ?_
      refine zz_cv (n := 4) rfl rfl (t_Cells_add) (Nat.le_of_ble_eq_true rfl) (Nat.le_of_ble_eq_true rfl) (Nat.le_of_ble_eq_true rfl) (fun r29 σ29 q29 => ?_)
      obtain ⟨rfl, q29⟩ := q29
      have hn : 0 < p → (w_S 11 (W.S 11 + 1) W).n < p := fun z => by have z2 := hp z; rw [hk] at z2; exact z2
      obtain ⟨p29, g29⟩ := sp_add (y := x) (k := 0) p1 (by decide) hn hpb (by have := hl 0 (by decide); show (W.R 0).length < _; omega) (fun _ => rfl) q29
      rw [m1] at p29
      refine zz_jp rfl ?_
      refine zz_rv rfl rfl ?_
      rw [hk, w_chg2]
      exact ⟨rfl, p29, g1.tr g29 (Nat.le_refl _)⟩
