/-! the mill: LAW 1, whole -/
theorem w_S_R (j : Nat) (v : Int) (W : zz_W) : (w_S j v W).R = W.R := rfl
theorem w_trn_le (mk : Int) (W : zz_W) : W.n ≤ (w_trn mk W).n := by
  unfold w_trn
  split
  · split
    · exact w_move_le mk 4 5 (w_S 7 2 W)
    · exact Nat.le_trans (w_move_le mk 2 3 W) (w_move_le mk 4 5 (w_S 8 (W.S 8 + 1) (w_move mk 2 3 W)))
  · split
    · split
      · exact w_move_le mk 3 5 W
      · exact Nat.le_refl _
    · exact Nat.le_refl _
theorem w_trn_len {mk : Int} {k : Nat} {W : zz_W} {B : Nat} (h : (W.R k).length < B) : ((w_trn mk W).R k).length < B + 2 := by
  unfold w_trn
  split
  · split
    · exact w_move_len (W := w_S 7 2 W) (by decide) (by show (W.R k).length + 1 < _; omega)
    · have h1 : ((w_move mk 2 3 W).R k).length < B + 1 := w_move_len (by decide) (by omega)
      exact w_move_len (W := w_S 8 (W.S 8 + 1) (w_move mk 2 3 W)) (by decide) (by show ((w_move mk 2 3 W).R k).length + 1 < _; omega)
  · split
    · split
      · exact w_move_len (W := W) (by decide) (by omega)
      · show (W.R k).length < _
        omega
    · omega
theorem w_trn_S8 (mk : Int) (W : zz_W) : W.S 8 - 1 ≤ (w_trn mk W).S 8 ∧ (w_trn mk W).S 8 ≤ W.S 8 + 1 := by
  unfold w_trn
  split
  · split
    · rw [w_move_S]
      show W.S 8 - 1 ≤ W.S 8 ∧ W.S 8 ≤ W.S 8 + 1
      omega
    · rw [w_move_S]
      show W.S 8 - 1 ≤ W.S 8 + 1 ∧ W.S 8 + 1 ≤ W.S 8 + 1
      omega
  · split
    · split
      · show W.S 8 - 1 ≤ W.S 8 - 1 ∧ W.S 8 - 1 ≤ W.S 8 + 1
        omega
      · show W.S 8 - 1 ≤ W.S 8 ∧ W.S 8 ≤ W.S 8 + 1
        omega
    · omega
theorem w_trnS_b (W : zz_W) : 0 ≤ w_trnS W ∧ w_trnS W ≤ 1 := by
  unfold w_trnS
  split <;> omega
theorem w_b_len {k : Nat} {W : zz_W} {B : Nat} (hk : k < 6) (h : ∀ k, k < 6 → (W.R k).length < B) : ((w_b W).R k).length < B := by
  unfold w_b
  have h0 := h 0 (by decide)
  have h1 := h 1 (by decide)
  split
  · match k, hk with
    | 0, _ => exact h0
    | 1, _ => show 0 < B; omega
    | 2, _ => exact h0
    | 3, _ => show 0 < B; omega
    | 4, _ => exact h1
    | 5, _ => show 0 < B; omega
  · exact h k hk
theorem w_b_S8 (W : zz_W) : (w_b W).S 8 = 0 ∨ (w_b W).S 8 = W.S 8 := by
  unfold w_b
  split
  · exact Or.inl rfl
  · exact Or.inr rfl
theorem w_b_n (W : zz_W) : (w_b W).n = W.n := by
  unfold w_b
  split <;> rfl
theorem w_fin_n (W : zz_W) : (w_fin W).n = W.n := by
  unfold w_fin
  split <;> rfl
theorem t_Mill_disown {X : zz_X} {σ : zz_M} {p q m s : Nat} {W : zz_W} (hSP : SP σ p m s W) (hl : (W.R 5).length < 80000) (hS6 : -1000000 < W.S 6 ∧ W.S 6 < 1000000) (hS8 : -1000000 < W.S 8 ∧ W.S 8 < 1000000) : zz_T X 2 p_Mill_disown [zP 4 p q m, zP 9 0 0 s] σ (fun r σ' => r = none ∧ SP σ' p m s (w_dis W) ∧ Mc s m W.n σ σ') := by
  refine zz_mk k_Mill_disown o_Mill_disown rfl rfl (Nat.le_of_ble_eq_true rfl) ?_
  show zz_G X 2 p_Mill_disown 0 [zP 4 p q m, zP 9 0 0 s] [] σ _
  have e7 : σ.1 908 s = W.S 7 := hSP.2.1 7 (by decide) (by decide)
  have e8 : σ.1 909 s = W.S 8 := hSP.2.1 8 (by decide) (by decide)
  have e6 : σ.1 907 s = W.S 6 := hSP.2.1 6 (by decide) (by decide)
  have ew : zw (σ.1 907 s - 1) = W.S 6 - 1 := by rw [e6, zw_id (by omega) (by omega)]
  have ew8 : zw (σ.1 909 s - 1) = W.S 8 - 1 := by rw [e8, zw_id (by omega) (by omega)]
  have p0 : SP (zz_sf σ 907 s (zw (σ.1 907 s - 1))) p m s (w_S 6 (W.S 6 - 1) W) := by rw [ew]; exact hSP.st (j := 6) (by decide)
  have g0 : Mc s m W.n σ (zz_sf σ 907 s (zw (σ.1 907 s - 1))) := Mc.st (by decide)
  refine zz_gsn 9 rfl ?_
  refine zz_br rfl (fun h9 => ?_) (fun h9 => ?_)
  · refine zz_gsn 3 rfl ?_
    refine zz_br rfl (fun h25 => ?_) (fun h25 => ?_)
    · refine zz_gsn 6 rfl ?_
      refine zz_rv rfl rfl ?_
      have n1 : ¬ (W.S 7 = 2 ∧ W.S 8 = 0) := fun z => by exact h9 (e7.trans z.1)
      have n2 : W.S 7 = 1 ∨ W.S 7 = 2 := Or.inl (e7.symm.trans h25)
      have eD : w_dis W = w_S 8 (W.S 8 - 1) (w_S 6 (W.S 6 - 1) W) := by unfold w_dis; rw [if_neg n1, if_pos n2]
      rw [eD]
      have p1 : SP (zz_sf (zz_sf σ 907 s (zw (σ.1 907 s - 1))) 909 s (zw (σ.1 909 s - 1))) p m s (w_S 8 (W.S 8 - 1) (w_S 6 (W.S 6 - 1) W)) := by rw [ew8]; exact p0.st (j := 8) (by decide)
      exact ⟨rfl, p1, g0.tr (Mc.st (by decide)) (Nat.le_refl _)⟩
    · refine zz_gsn 3 rfl ?_
      refine zz_br rfl (fun h29 => ?_) (fun h29 => ?_)
      · refine zz_rv rfl rfl ?_
        have n1 : ¬ (W.S 7 = 2 ∧ W.S 8 = 0) := fun z => h29 (e7.trans z.1)
        have n2 : ¬ (W.S 7 = 1 ∨ W.S 7 = 2) := fun z => z.elim (fun z => h25 (e7.trans z)) (fun z => h29 (e7.trans z))
        have eD : w_dis W = w_S 6 (W.S 6 - 1) W := by unfold w_dis; rw [if_neg n1, if_neg n2]
        rw [eD]
        exact ⟨rfl, p0, g0⟩
      · refine zz_gsn 6 rfl ?_
        refine zz_rv rfl rfl ?_
        have n1 : ¬ (W.S 7 = 2 ∧ W.S 8 = 0) := fun z => by exact h9 (e7.trans z.1)
        have n2 : W.S 7 = 1 ∨ W.S 7 = 2 := Or.inr (e7.symm.trans h29)
        have eD : w_dis W = w_S 8 (W.S 8 - 1) (w_S 6 (W.S 6 - 1) W) := by unfold w_dis; rw [if_neg n1, if_pos n2]
        rw [eD]
        have p1 : SP (zz_sf (zz_sf σ 907 s (zw (σ.1 907 s - 1))) 909 s (zw (σ.1 909 s - 1))) p m s (w_S 8 (W.S 8 - 1) (w_S 6 (W.S 6 - 1) W)) := by rw [ew8]; exact p0.st (j := 8) (by decide)
        exact ⟨rfl, p1, g0.tr (Mc.st (by decide)) (Nat.le_refl _)⟩
  · refine zz_gsn 2 rfl ?_
    refine zz_br rfl (fun h12 => ?_) (fun h12 => ?_)
    · refine zz_gsn 3 rfl ?_
      refine zz_br rfl (fun h25 => ?_) (fun h25 => ?_)
      · refine zz_gsn 6 rfl ?_
        refine zz_rv rfl rfl ?_
        have n1 : ¬ (W.S 7 = 2 ∧ W.S 8 = 0) := fun z => by exact h12 (e8.trans z.2)
        have n2 : W.S 7 = 1 ∨ W.S 7 = 2 := Or.inl (e7.symm.trans h25)
        have eD : w_dis W = w_S 8 (W.S 8 - 1) (w_S 6 (W.S 6 - 1) W) := by unfold w_dis; rw [if_neg n1, if_pos n2]
        rw [eD]
        have p1 : SP (zz_sf (zz_sf σ 907 s (zw (σ.1 907 s - 1))) 909 s (zw (σ.1 909 s - 1))) p m s (w_S 8 (W.S 8 - 1) (w_S 6 (W.S 6 - 1) W)) := by rw [ew8]; exact p0.st (j := 8) (by decide)
        exact ⟨rfl, p1, g0.tr (Mc.st (by decide)) (Nat.le_refl _)⟩
      · refine zz_gsn 3 rfl ?_
        refine zz_br rfl (fun h29 => ?_) (fun h29 => ?_)
        · refine zz_rv rfl rfl ?_
          have n1 : ¬ (W.S 7 = 2 ∧ W.S 8 = 0) := fun z => h29 (e7.trans z.1)
          have n2 : ¬ (W.S 7 = 1 ∨ W.S 7 = 2) := fun z => z.elim (fun z => h25 (e7.trans z)) (fun z => h29 (e7.trans z))
          have eD : w_dis W = w_S 6 (W.S 6 - 1) W := by unfold w_dis; rw [if_neg n1, if_neg n2]
          rw [eD]
          exact ⟨rfl, p0, g0⟩
        · refine zz_gsn 6 rfl ?_
          refine zz_rv rfl rfl ?_
          have n1 : ¬ (W.S 7 = 2 ∧ W.S 8 = 0) := fun z => by exact h12 (e8.trans z.2)
          have n2 : W.S 7 = 1 ∨ W.S 7 = 2 := Or.inr (e7.symm.trans h29)
          have eD : w_dis W = w_S 8 (W.S 8 - 1) (w_S 6 (W.S 6 - 1) W) := by unfold w_dis; rw [if_neg n1, if_pos n2]
          rw [eD]
          have p1 : SP (zz_sf (zz_sf σ 907 s (zw (σ.1 907 s - 1))) 909 s (zw (σ.1 909 s - 1))) p m s (w_S 8 (W.S 8 - 1) (w_S 6 (W.S 6 - 1) W)) := by rw [ew8]; exact p0.st (j := 8) (by decide)
          exact ⟨rfl, p1, g0.tr (Mc.st (by decide)) (Nat.le_refl _)⟩
    · refine zz_gsn 4 rfl ?_
      refine zz_cv (n := 2) rfl rfl (t_Cells_dropFirst) (Nat.le_of_ble_eq_true rfl) (Nat.le_of_ble_eq_true rfl) (Nat.le_of_ble_eq_true rfl) (fun r17 σ17 q17 => ?_)
      obtain ⟨rfl, q17⟩ := q17
      obtain ⟨p17, g17⟩ := sp_drop p0 (k := 5) (by decide) (by show (W.R 5).length < 100000; omega) q17
      refine zz_gsn 3 rfl ?_
      refine zz_jp rfl ?_
      refine zz_rv rfl rfl ?_
      have eD : w_dis W = w_S 7 3 (w_pop 5 (w_S 6 (W.S 6 - 1) W)) := if_pos ⟨e7.symm.trans h9, e8.symm.trans h12⟩
      rw [eD]
      exact ⟨rfl, p17.st (j := 7) (by decide), (g0.tr g17 (Nat.le_refl _)).tr (Mc.st (by decide)) (Nat.le_refl _)⟩
theorem t_Mill_turnBySteps {X : zz_X} {σ : zz_M} {p q m s : Nat} {W : zz_W} {mk : Int} (hSP : SP σ p m s W) (hmk : σ.1 406 m = mk) (h401 : σ.1 401 m = 0) (h402 : σ.1 402 m = 0) (h407 : 0 ≤ σ.1 407 m ∧ σ.1 407 m < 900000) (hp : 0 < p → (w_one mk W).n ≤ p) (hpb : p < 100000) (hl : ∀ k, k < 6 → (W.R k).length < 40000) (hS6 : -900000 < W.S 6 ∧ W.S 6 < 900000) (hS8 : -900000 < W.S 8 ∧ W.S 8 < 900000) : zz_T X 5 p_Mill_turnBySteps [zP 4 p q m, zP 9 0 0 s] σ (fun r σ' => r = none ∧ SP σ' p m s (w_one mk W) ∧ Mg s m W.n σ σ' ∧ σ'.1 401 m = w_oneB W ∧ σ'.1 402 m = w_oneO W ∧ σ'.1 406 m = mk ∧ σ'.1 407 m = σ.1 407 m + w_oneS mk W) := by
  refine zz_mk k_Mill_turnBySteps o_Mill_turnBySteps rfl rfl (Nat.le_of_ble_eq_true rfl) ?_
  show zz_G X 5 p_Mill_turnBySteps 0 [zP 4 p q m, zP 9 0 0 s] [] σ _
  have e1 : σ.1 701 (s + 2) = w_len 1 W := (hSP.1 1 (by decide)).1
  have e6 : σ.1 907 s = W.S 6 := hSP.2.1 6 (by decide) (by decide)
  have hn : 0 < p → (w_trn mk (w_trn mk (w_b W))).n ≤ p := fun z => by have := hp z; unfold w_one at this; rw [w_fin_n] at this; exact this
  have hb8 : -1000000 < (w_b W).S 8 ∧ (w_b W).S 8 < 1000000 := by rcases w_b_S8 W with z | z <;> rw [z] <;> omega
  have hb8' : -950000 < (w_b W).S 8 ∧ (w_b W).S 8 < 950000 := by rcases w_b_S8 W with z | z <;> rw [z] <;> omega
  refine zz_gsn 5 rfl ?_
  refine zz_br rfl (fun h5 => ?_) (fun h5 => ?_)
  · have hb : ¬ W.S 6 < w_len 1 W := by rw [← e1, ← e6]; exact Int.not_lt.mpr h5
    have eB : w_b W = W := if_neg hb
    have p8 : SP σ p m s (w_b W) := by rw [eB]; exact hSP
    have g8 : Mg s m W.n σ σ := Mg.rf
    have x1 : σ.1 401 m = w_oneB W := h401.trans (if_neg hb).symm
    have x2 : σ.1 402 m = w_oneO W := h402.trans (if_neg (fun z => hb z.1)).symm
    have x3 : σ.1 406 m = mk := hmk
    have x4 : σ.1 407 m = σ.1 407 m := rfl
    refine zz_gsn 2 rfl ?_
    refine zz_cv (n := 2) rfl rfl (t_Mill_turnOnce (W := w_b W) (mk := mk) p8 x3 (fun z => Nat.le_trans (w_trn_le mk (w_trn mk (w_b W))) (hn z)) hpb (fun k hk => by have := w_b_len hk hl; omega) hb8 (by rw [x4]; omega)) (Nat.le_of_ble_eq_true rfl) (Nat.le_of_ble_eq_true rfl) (Nat.le_of_ble_eq_true rfl) (fun r11 σ11 q11 => ?_)
    obtain ⟨rfl, p11, g11, y1, y2, y3, y4⟩ := q11
    have hs1 := w_trnS_b (w_b W)
    refine zz_gsn 2 rfl ?_
    refine zz_cv (n := 2) rfl rfl (t_Mill_turnOnce (W := w_trn mk (w_b W)) (mk := mk) p11 (y3.trans x3) hn hpb (fun k hk => by have := w_trn_len (mk := mk) (w_b_len hk hl); omega) (by have := w_trn_S8 mk (w_b W); omega) (by rw [y4, x4]; omega)) (Nat.le_of_ble_eq_true rfl) (Nat.le_of_ble_eq_true rfl) (Nat.le_of_ble_eq_true rfl) (fun r14 σ14 q14 => ?_)
    obtain ⟨rfl, p14, g14, z1, z2, z3, z4⟩ := q14
    have f7 : σ14.1 908 s = (w_trn mk (w_trn mk (w_b W))).S 7 := p14.2.1 7 (by decide) (by decide)
    have gg : Mg s m W.n σ σ14 := (g8.tr g11 (by rw [w_b_n]; exact Nat.le_refl _)).tr g14 (Nat.le_trans (by rw [w_b_n]; exact Nat.le_refl _) (w_trn_le mk (w_b W)))
    refine zz_gsn 3 rfl ?_
    refine zz_br rfl (fun h18 => ?_) (fun h18 => ?_)
    · refine zz_rv rfl rfl ?_
      have eF : w_one mk W = w_trn mk (w_trn mk (w_b W)) := if_neg (fun z => h18 (f7.trans z))
      rw [eF]
      exact ⟨rfl, p14, gg, z1.trans (y1.trans x1), z2.trans (y2.trans x2), z3.trans (y3.trans x3), by rw [z4, y4, x4]; unfold w_oneS; omega⟩
    · refine zz_gsn 4 rfl ?_
      refine zz_cv (n := 2) rfl rfl (t_Row_become) (Nat.le_of_ble_eq_true rfl) (Nat.le_of_ble_eq_true rfl) (Nat.le_of_ble_eq_true rfl) (fun r23 σ23 q23 => ?_)
      obtain ⟨rfl, q23⟩ := q23
      have p23 : SP σ23 p m s (w_R 0 ((w_trn mk (w_trn mk (w_b W))).R 5) (w_trn mk (w_trn mk (w_b W)))) := by rw [q23]; exact p14.cpy (i := 0) (j := 5) (by decide) (by decide)
      have g23 : Mc s m (w_trn mk (w_trn mk (w_b W))).n σ14 σ23 := by rw [q23]; exact Mc.row (k := 0) (by decide)
      clear q23
      refine zz_gsn 1 rfl ?_
      refine zz_cv (n := 1) rfl rfl (t_State_clearTurn (p := p) (m := m) p23) (Nat.le_of_ble_eq_true rfl) (Nat.le_of_ble_eq_true rfl) (Nat.le_of_ble_eq_true rfl) (fun r25 σ25 q25 => ?_)
      obtain ⟨rfl, p25, g25⟩ := q25
      refine zz_rv rfl rfl ?_
      have eF : w_one mk W = w_clr (w_R 0 ((w_trn mk (w_trn mk (w_b W))).R 5) (w_trn mk (w_trn mk (w_b W)))) := if_pos (f7.symm.trans h18)
      rw [eF]
      have g25' := (g23.tr g25 (Nat.le_refl _))
      exact ⟨rfl, p25, gg.tr g25'.g (Nat.le_trans (by rw [w_b_n]; exact Nat.le_refl _) (Nat.le_trans (w_trn_le mk (w_b W)) (w_trn_le mk (w_trn mk (w_b W))))), (g25'.m (by omega)).trans (z1.trans (y1.trans x1)), (g25'.m (by omega)).trans (z2.trans (y2.trans x2)), (g25'.m (by omega)).trans (z3.trans (y3.trans x3)), by rw [g25'.m (by omega), z4, y4, x4]; unfold w_oneS; omega⟩
  · refine zz_gsn 2 rfl ?_
    refine zz_cv (n := 2) rfl rfl (t_Mill_beginTurning (W := W) hSP (by have := hl 1 (by decide); omega) (by omega)) (Nat.le_of_ble_eq_true rfl) (Nat.le_of_ble_eq_true rfl) (Nat.le_of_ble_eq_true rfl) (fun r8 σ8 q8 => ?_)
    obtain ⟨rfl, p8, g8, b18, b28, b38, b48⟩ := q8
    have hb : W.S 6 < w_len 1 W := by rw [← e1, ← e6]; exact h5
    have eB : w_b W = w_beg W := if_pos hb
    rw [← eB] at p8
    have x1 : σ8.1 401 m = w_oneB W := b18.trans (if_pos hb).symm
    have x2 : σ8.1 402 m = w_oneO W := by
      rw [b28]
      unfold w_oneO
      by_cases z : W.S 7 ≠ 0
      · rw [if_pos z, if_pos ⟨hb, z⟩]
      · rw [if_neg z, if_neg (fun y => z y.2)]
    have x3 : σ8.1 406 m = mk := b38.trans hmk
    have x4 : σ8.1 407 m = σ.1 407 m := b48
    
    refine zz_gsn 2 rfl ?_
    refine zz_cv (n := 2) rfl rfl (t_Mill_turnOnce (W := w_b W) (mk := mk) p8 x3 (fun z => Nat.le_trans (w_trn_le mk (w_trn mk (w_b W))) (hn z)) hpb (fun k hk => by have := w_b_len hk hl; omega) hb8 (by rw [x4]; omega)) (Nat.le_of_ble_eq_true rfl) (Nat.le_of_ble_eq_true rfl) (Nat.le_of_ble_eq_true rfl) (fun r11 σ11 q11 => ?_)
    obtain ⟨rfl, p11, g11, y1, y2, y3, y4⟩ := q11
    have hs1 := w_trnS_b (w_b W)
    refine zz_gsn 2 rfl ?_
    refine zz_cv (n := 2) rfl rfl (t_Mill_turnOnce (W := w_trn mk (w_b W)) (mk := mk) p11 (y3.trans x3) hn hpb (fun k hk => by have := w_trn_len (mk := mk) (w_b_len hk hl); omega) (by have := w_trn_S8 mk (w_b W); omega) (by rw [y4, x4]; omega)) (Nat.le_of_ble_eq_true rfl) (Nat.le_of_ble_eq_true rfl) (Nat.le_of_ble_eq_true rfl) (fun r14 σ14 q14 => ?_)
    obtain ⟨rfl, p14, g14, z1, z2, z3, z4⟩ := q14
    have f7 : σ14.1 908 s = (w_trn mk (w_trn mk (w_b W))).S 7 := p14.2.1 7 (by decide) (by decide)
    have gg : Mg s m W.n σ σ14 := (g8.tr g11 (by rw [w_b_n]; exact Nat.le_refl _)).tr g14 (Nat.le_trans (by rw [w_b_n]; exact Nat.le_refl _) (w_trn_le mk (w_b W)))
    refine zz_gsn 3 rfl ?_
    refine zz_br rfl (fun h18 => ?_) (fun h18 => ?_)
    · refine zz_rv rfl rfl ?_
      have eF : w_one mk W = w_trn mk (w_trn mk (w_b W)) := if_neg (fun z => h18 (f7.trans z))
      rw [eF]
      exact ⟨rfl, p14, gg, z1.trans (y1.trans x1), z2.trans (y2.trans x2), z3.trans (y3.trans x3), by rw [z4, y4, x4]; unfold w_oneS; omega⟩
    · refine zz_gsn 4 rfl ?_
      refine zz_cv (n := 2) rfl rfl (t_Row_become) (Nat.le_of_ble_eq_true rfl) (Nat.le_of_ble_eq_true rfl) (Nat.le_of_ble_eq_true rfl) (fun r23 σ23 q23 => ?_)
      obtain ⟨rfl, q23⟩ := q23
      have p23 : SP σ23 p m s (w_R 0 ((w_trn mk (w_trn mk (w_b W))).R 5) (w_trn mk (w_trn mk (w_b W)))) := by rw [q23]; exact p14.cpy (i := 0) (j := 5) (by decide) (by decide)
      have g23 : Mc s m (w_trn mk (w_trn mk (w_b W))).n σ14 σ23 := by rw [q23]; exact Mc.row (k := 0) (by decide)
      clear q23
      refine zz_gsn 1 rfl ?_
      refine zz_cv (n := 1) rfl rfl (t_State_clearTurn (p := p) (m := m) p23) (Nat.le_of_ble_eq_true rfl) (Nat.le_of_ble_eq_true rfl) (Nat.le_of_ble_eq_true rfl) (fun r25 σ25 q25 => ?_)
      obtain ⟨rfl, p25, g25⟩ := q25
      refine zz_rv rfl rfl ?_
      have eF : w_one mk W = w_clr (w_R 0 ((w_trn mk (w_trn mk (w_b W))).R 5) (w_trn mk (w_trn mk (w_b W)))) := if_pos (f7.symm.trans h18)
      rw [eF]
      have g25' := (g23.tr g25 (Nat.le_refl _))
      exact ⟨rfl, p25, gg.tr g25'.g (Nat.le_trans (by rw [w_b_n]; exact Nat.le_refl _) (Nat.le_trans (w_trn_le mk (w_b W)) (w_trn_le mk (w_trn mk (w_b W))))), (g25'.m (by omega)).trans (z1.trans (y1.trans x1)), (g25'.m (by omega)).trans (z2.trans (y2.trans x2)), (g25'.m (by omega)).trans (z3.trans (y3.trans x3)), by rw [g25'.m (by omega), z4, y4, x4]; unfold w_oneS; omega⟩
