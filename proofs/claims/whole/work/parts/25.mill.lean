/-! the mill: LAW 1 -/
theorem SP.clr {σ : zz_M} {p m s : Nat} {W : zz_W} (h : SP σ p m s W) {k : Nat} (hk : k < 6) : SP (zz_sf (zz_sf σ 700 (s + 1 + k) (-1)) 701 (s + 1 + k) 0) p m s (w_R k [] W) := h.row hk rfl (fun _ => rfl) (fun c hc => by cases hc)
theorem SP.cpy {σ : zz_M} {p m s : Nat} {W : zz_W} (h : SP σ p m s W) {i j : Nat} (hi : i < 6) (hj : j < 6) : SP (zz_sf (zz_sf σ 700 (s + 1 + i) (σ.1 700 (s + 1 + j))) 701 (s + 1 + i) (σ.1 701 (s + 1 + j))) p m s (w_R i (W.R j) W) := h.row hi (h.1 j hj).1 (fun hp => (h.1 j hj).2 hp) (fun c hc => h.2.2.2.2 j hj c hc)
theorem Mc.row {s m n k : Nat} {σ : zz_M} {a b : Int} (hk : k < 6) : Mc s m n σ (zz_sf (zz_sf σ 700 (s + 1 + k) a) 701 (s + 1 + k) b) := (Mc.sf (Or.inl ⟨by omega, by omega, Or.inl rfl⟩)).tr (Mc.sf (Or.inl ⟨by omega, by omega, Or.inr rfl⟩)) (Nat.le_refl _)
theorem Mc.st {s m n f : Nat} {σ : zz_M} {v : Int} (hf : 906 ≤ f ∧ f ≤ 911) : Mc s m n σ (zz_sf σ f s v) := Mc.sf (Or.inr (Or.inl ⟨rfl, hf.1, hf.2⟩))
theorem Mg.mi {s m n f : Nat} {σ : zz_M} {v : Int} (hf : f = 401 ∨ f = 402 ∨ f = 406 ∨ f = 407) : Mg s m n σ (zz_sf σ f m v) := Mg.sf (Or.inr (Or.inr (Or.inr ⟨rfl, hf⟩)))
theorem t_State_clearTurn {X : zz_X} {σ : zz_M} {p m s : Nat} {W : zz_W} (hSP : SP σ p m s W) : zz_T X 2 p_State_clearTurn [zP 9 0 0 s] σ (fun r σ' => r = none ∧ SP σ' p m s (w_clr W) ∧ Mc s m W.n σ σ') := by
  refine zz_mk k_State_clearTurn o_State_clearTurn rfl rfl (Nat.le_of_ble_eq_true rfl) ?_
  show zz_G X 2 p_State_clearTurn 0 [zP 9 0 0 s] [] σ _
  refine zz_gsn 2 rfl ?_
  refine zz_cv (n := 1) rfl rfl (t_Row_clear) (Nat.le_of_ble_eq_true rfl) (Nat.le_of_ble_eq_true rfl) (Nat.le_of_ble_eq_true rfl) (fun r2 σ2 q2 => ?_)
  obtain ⟨rfl, rfl⟩ := q2
  have p2 := hSP.clr (k := 2) (by decide)
  refine zz_gsn 2 rfl ?_
  refine zz_cv (n := 1) rfl rfl (t_Row_clear) (Nat.le_of_ble_eq_true rfl) (Nat.le_of_ble_eq_true rfl) (Nat.le_of_ble_eq_true rfl) (fun r5 σ5 q5 => ?_)
  obtain ⟨rfl, rfl⟩ := q5
  have p5 := p2.clr (k := 3) (by decide)
  refine zz_gsn 2 rfl ?_
  refine zz_cv (n := 1) rfl rfl (t_Row_clear) (Nat.le_of_ble_eq_true rfl) (Nat.le_of_ble_eq_true rfl) (Nat.le_of_ble_eq_true rfl) (fun r8 σ8 q8 => ?_)
  obtain ⟨rfl, rfl⟩ := q8
  have p8 := p5.clr (k := 4) (by decide)
  refine zz_gsn 2 rfl ?_
  refine zz_cv (n := 1) rfl rfl (t_Row_clear) (Nat.le_of_ble_eq_true rfl) (Nat.le_of_ble_eq_true rfl) (Nat.le_of_ble_eq_true rfl) (fun r11 σ11 q11 => ?_)
  obtain ⟨rfl, rfl⟩ := q11
  have p11 := p8.clr (k := 5) (by decide)
  refine zz_gsn 6 rfl ?_
  refine zz_rv rfl rfl ?_
  exact ⟨rfl, (p11.st (j := 7) (v := 0) (by decide)).st (j := 8) (v := 0) (by decide), (((((Mc.row (k := 2) (by decide)).tr (Mc.row (k := 3) (by decide)) (Nat.le_refl _)).tr (Mc.row (k := 4) (by decide)) (Nat.le_refl _)).tr (Mc.row (k := 5) (by decide)) (Nat.le_refl _)).tr (Mc.st (by decide)) (Nat.le_refl _)).tr (Mc.st (by decide)) (Nat.le_refl _)⟩
theorem t_Mill_beginTurning {X : zz_X} {σ : zz_M} {p q m s : Nat} {W : zz_W} (hSP : SP σ p m s W) (hl : (W.R 1).length < 80000) (hS : -1000000 < W.S 6 ∧ W.S 6 < 1000000) : zz_T X 3 p_Mill_beginTurning [zP 4 p q m, zP 9 0 0 s] σ (fun r σ' => r = none ∧ SP σ' p m s (w_beg W) ∧ Mg s m W.n σ σ' ∧ σ'.1 401 m = 1 ∧ σ'.1 402 m = (if W.S 7 ≠ 0 then 1 else 0) ∧ σ'.1 406 m = σ.1 406 m ∧ σ'.1 407 m = σ.1 407 m) := by
  refine zz_mk k_Mill_beginTurning o_Mill_beginTurning rfl rfl (Nat.le_of_ble_eq_true rfl) ?_
  show zz_G X 3 p_Mill_beginTurning 0 [zP 4 p q m, zP 9 0 0 s] [] σ _
  have e7 : σ.1 908 s = W.S 7 := hSP.2.1 7 (by decide) (by decide)
  refine zz_gsn 2 rfl ?_
  refine zz_ptz rfl (by first | exact Or.inl rfl | exact Or.inr rfl | omega) ?_
  refine zz_gsn 3 rfl ?_
  refine zz_br rfl (fun h6 => ?_) (fun h6 => ?_)
  · refine zz_gsn 1 rfl ?_
    refine zz_ptz rfl (by first | exact Or.inl rfl | exact Or.inr rfl | omega) ?_
    refine zz_gsn 1 rfl ?_
    refine zz_cv (n := 1) rfl rfl (t_State_clearTurn (p := p) (m := m) (W := W) (SP.mf (SP.mf hSP (by omega)) (by omega))) (Nat.le_of_ble_eq_true rfl) (Nat.le_of_ble_eq_true rfl) (Nat.le_of_ble_eq_true rfl) (fun r12 σ12 q12 => ?_)
    obtain ⟨rfl, p12, g12⟩ := q12
    have hov : (0 : Int) = if W.S 7 ≠ 0 then 1 else 0 := by rw [if_neg (fun z => z (e7 ▸ h6))]
    have b1 : σ12.1 401 m = 1 := by rw [g12.m (by omega), sf_f _ _ (by omega), sf_h]
    have b2 : σ12.1 402 m = 0 := by rw [g12.m (by omega), sf_h]
    have b3 : σ12.1 406 m = σ.1 406 m := by rw [g12.m (by omega), sf_f _ _ (by omega), sf_f _ _ (by omega)]
    have b4 : σ12.1 407 m = σ.1 407 m := by rw [g12.m (by omega), sf_f _ _ (by omega), sf_f _ _ (by omega)]
    have g12' : Mg s m W.n σ σ12 := ((Mg.mi (Or.inl rfl)).tr (Mg.mi (Or.inr (Or.inl rfl))) (Nat.le_refl _)).tr g12.g (Nat.le_refl _)
    clear g12
    refine zz_gsn 7 rfl ?_
    refine zz_cv (n := 2) rfl rfl (t_Row_become) (Nat.le_of_ble_eq_true rfl) (Nat.le_of_ble_eq_true rfl) (Nat.le_of_ble_eq_true rfl) (fun r20 σ20 q20 => ?_)
    obtain ⟨rfl, q20⟩ := q20
    have p20 : SP σ20 p m s (w_R 2 (W.R 0) (w_S 7 1 (w_clr W))) := by rw [q20]; exact (p12.st (j := 7) (v := 1) (by decide)).cpy (i := 2) (j := 0) (by decide) (by decide)
    have g20 : Mc s m W.n σ12 σ20 := by rw [q20]; exact (Mc.st (by decide)).tr (Mc.row (k := 2) (by decide)) (Nat.le_refl _)
    clear q20
    refine zz_gsn 4 rfl ?_
    refine zz_cv (n := 2) rfl rfl (t_Row_become) (Nat.le_of_ble_eq_true rfl) (Nat.le_of_ble_eq_true rfl) (Nat.le_of_ble_eq_true rfl) (fun r25 σ25 q25 => ?_)
    obtain ⟨rfl, q25⟩ := q25
    have p25 : SP σ25 p m s (w_R 4 (W.R 1) (w_R 2 (W.R 0) (w_S 7 1 (w_clr W)))) := by rw [q25]; exact p20.cpy (i := 4) (j := 1) (by decide) (by decide)
    have g25 : Mc s m W.n σ20 σ25 := by rw [q25]; exact Mc.row (k := 4) (by decide)
    clear q25
    have c6 : σ25.1 907 s = W.S 6 := p25.2.1 6 (by decide) (by decide)
    have c1 : σ25.1 701 (s + 2) = w_len 1 W := (p25.1 1 (by decide)).1
    have hwl : w_len 1 W = ((W.R 1).length : Nat) := rfl
    have ec : zw (σ25.1 907 s + σ25.1 701 (s + 2)) = W.S 6 + w_len 1 W := by rw [c6, c1, zw_id (by omega) (by omega)]
    refine zz_gsn 10 rfl ?_
    refine zz_cv (n := 1) rfl rfl (t_Row_clear) (Nat.le_of_ble_eq_true rfl) (Nat.le_of_ble_eq_true rfl) (Nat.le_of_ble_eq_true rfl) (fun r36 σ36 q36 => ?_)
    obtain ⟨rfl, q36⟩ := q36
    have p36 : SP σ36 p m s (w_beg W) := by rw [q36, ec]; exact (p25.st (j := 6) (v := W.S 6 + w_len 1 W) (by decide)).clr (k := 1) (by decide)
    have g36 : Mc s m W.n σ12 σ36 := by rw [q36]; exact (g20.tr g25 (Nat.le_refl _)).tr ((Mc.st (by decide)).tr (Mc.row (k := 1) (by decide)) (Nat.le_refl _)) (Nat.le_refl _)
    refine zz_rv rfl rfl ?_
    refine ⟨rfl, p36, g12'.tr g36.g (Nat.le_refl _), ?_, ?_, ?_, ?_⟩
    · rw [g36.m (by omega)]; exact b1
    · rw [g36.m (by omega)]; exact b2.trans hov
    · rw [g36.m (by omega)]; exact b3
    · rw [g36.m (by omega)]; exact b4
  · refine zz_gsn 1 rfl ?_
    refine zz_jp rfl ?_
    refine zz_ptz rfl (by first | exact Or.inl rfl | exact Or.inr rfl | omega) ?_
    refine zz_gsn 1 rfl ?_
    refine zz_cv (n := 1) rfl rfl (t_State_clearTurn (p := p) (m := m) (W := W) (SP.mf (SP.mf hSP (by omega)) (by omega))) (Nat.le_of_ble_eq_true rfl) (Nat.le_of_ble_eq_true rfl) (Nat.le_of_ble_eq_true rfl) (fun r12 σ12 q12 => ?_)
    obtain ⟨rfl, p12, g12⟩ := q12
    have hov : (1 : Int) = if W.S 7 ≠ 0 then 1 else 0 := by rw [if_pos (fun z => h6 (e7.trans z))]
    have b1 : σ12.1 401 m = 1 := by rw [g12.m (by omega), sf_f _ _ (by omega), sf_h]
    have b2 : σ12.1 402 m = 1 := by rw [g12.m (by omega), sf_h]
    have b3 : σ12.1 406 m = σ.1 406 m := by rw [g12.m (by omega), sf_f _ _ (by omega), sf_f _ _ (by omega)]
    have b4 : σ12.1 407 m = σ.1 407 m := by rw [g12.m (by omega), sf_f _ _ (by omega), sf_f _ _ (by omega)]
    have g12' : Mg s m W.n σ σ12 := ((Mg.mi (Or.inl rfl)).tr (Mg.mi (Or.inr (Or.inl rfl))) (Nat.le_refl _)).tr g12.g (Nat.le_refl _)
    clear g12
    refine zz_gsn 7 rfl ?_
    refine zz_cv (n := 2) rfl rfl (t_Row_become) (Nat.le_of_ble_eq_true rfl) (Nat.le_of_ble_eq_true rfl) (Nat.le_of_ble_eq_true rfl) (fun r20 σ20 q20 => ?_)
    obtain ⟨rfl, q20⟩ := q20
    have p20 : SP σ20 p m s (w_R 2 (W.R 0) (w_S 7 1 (w_clr W))) := by rw [q20]; exact (p12.st (j := 7) (v := 1) (by decide)).cpy (i := 2) (j := 0) (by decide) (by decide)
    have g20 : Mc s m W.n σ12 σ20 := by rw [q20]; exact (Mc.st (by decide)).tr (Mc.row (k := 2) (by decide)) (Nat.le_refl _)
    clear q20
    refine zz_gsn 4 rfl ?_
    refine zz_cv (n := 2) rfl rfl (t_Row_become) (Nat.le_of_ble_eq_true rfl) (Nat.le_of_ble_eq_true rfl) (Nat.le_of_ble_eq_true rfl) (fun r25 σ25 q25 => ?_)
    obtain ⟨rfl, q25⟩ := q25
    have p25 : SP σ25 p m s (w_R 4 (W.R 1) (w_R 2 (W.R 0) (w_S 7 1 (w_clr W)))) := by rw [q25]; exact p20.cpy (i := 4) (j := 1) (by decide) (by decide)
    have g25 : Mc s m W.n σ20 σ25 := by rw [q25]; exact Mc.row (k := 4) (by decide)
    clear q25
    have c6 : σ25.1 907 s = W.S 6 := p25.2.1 6 (by decide) (by decide)
    have c1 : σ25.1 701 (s + 2) = w_len 1 W := (p25.1 1 (by decide)).1
    have hwl : w_len 1 W = ((W.R 1).length : Nat) := rfl
    have ec : zw (σ25.1 907 s + σ25.1 701 (s + 2)) = W.S 6 + w_len 1 W := by rw [c6, c1, zw_id (by omega) (by omega)]
    refine zz_gsn 10 rfl ?_
    refine zz_cv (n := 1) rfl rfl (t_Row_clear) (Nat.le_of_ble_eq_true rfl) (Nat.le_of_ble_eq_true rfl) (Nat.le_of_ble_eq_true rfl) (fun r36 σ36 q36 => ?_)
    obtain ⟨rfl, q36⟩ := q36
    have p36 : SP σ36 p m s (w_beg W) := by rw [q36, ec]; exact (p25.st (j := 6) (v := W.S 6 + w_len 1 W) (by decide)).clr (k := 1) (by decide)
    have g36 : Mc s m W.n σ12 σ36 := by rw [q36]; exact (g20.tr g25 (Nat.le_refl _)).tr ((Mc.st (by decide)).tr (Mc.row (k := 1) (by decide)) (Nat.le_refl _)) (Nat.le_refl _)
    refine zz_rv rfl rfl ?_
    refine ⟨rfl, p36, g12'.tr g36.g (Nat.le_refl _), ?_, ?_, ?_, ?_⟩
    · rw [g36.m (by omega)]; exact b1
    · rw [g36.m (by omega)]; exact b2.trans hov
    · rw [g36.m (by omega)]; exact b3
    · rw [g36.m (by omega)]; exact b4
theorem w_move_le (mk : Int) (i j : Nat) (W : zz_W) : W.n ≤ (w_move mk i j W).n := by
  rw [w_move_n]
  omega
theorem w_move_len {mk : Int} {i j k : Nat} {W : zz_W} {B : Nat} (hij : i ≠ j) (h : (W.R k).length + 1 < B) : ((w_move mk i j W).R k).length < B := by
  cases hR : W.R i with
  | nil =>
    have : w_move mk i j W = W := by unfold w_move; rw [hR]
    rw [this]
    omega
  | cons c l =>
    obtain ⟨b1, b2, b3⟩ := w_move_R (mk := mk) hij hR
    by_cases e : k = i
    · subst e
      rw [b1]
      rw [hR, List.length_cons] at h
      omega
    · by_cases e2 : k = j
      · subst e2
        rw [b2, List.length_cons]
        exact h
      · rw [b3 k e e2]
        omega
theorem t_Mill_turnOnce {X : zz_X} {σ : zz_M} {p q m s : Nat} {W : zz_W} {mk : Int} (hSP : SP σ p m s W) (hmk : σ.1 406 m = mk) (hp : 0 < p → (w_trn mk W).n ≤ p) (hpb : p < 100000) (hl : ∀ k, k < 6 → (W.R k).length < 80000) (hS : -1000000 < W.S 8 ∧ W.S 8 < 1000000) (h407 : 0 ≤ σ.1 407 m ∧ σ.1 407 m < 1000000) : zz_T X 4 p_Mill_turnOnce [zP 4 p q m, zP 9 0 0 s] σ (fun r σ' => r = none ∧ SP σ' p m s (w_trn mk W) ∧ Mg s m W.n σ σ' ∧ σ'.1 401 m = σ.1 401 m ∧ σ'.1 402 m = σ.1 402 m ∧ σ'.1 406 m = σ.1 406 m ∧ σ'.1 407 m = σ.1 407 m + w_trnS W) := by
  refine zz_mk k_Mill_turnOnce o_Mill_turnOnce rfl rfl (Nat.le_of_ble_eq_true rfl) ?_
  show zz_G X 4 p_Mill_turnOnce 0 [zP 4 p q m, zP 9 0 0 s] [] σ _
  have e7' : σ.1 908 s = W.S 7 := hSP.2.1 7 (by decide) (by decide)
  have e8' : σ.1 909 s = W.S 8 := hSP.2.1 8 (by decide) (by decide)
  have e2 : σ.1 701 (s + 3) = w_len 2 W := (hSP.1 2 (by decide)).1
  have hz2 := w_len_0 (k := 2) (W := W)
  have hn2 : 0 ≤ w_len 2 W := Int.natCast_nonneg _
  refine zz_gsn 3 rfl ?_
  refine zz_br rfl (fun h3 => ?_) (fun h3 => ?_)
  · refine zz_gsn 3 rfl ?_
    refine zz_br rfl (fun h40 => ?_) (fun h40 => ?_)
    · refine zz_gsn 3 rfl ?_
      refine zz_br rfl (fun h66 => ?_) (fun h66 => ?_)
      · refine zz_rv rfl rfl ?_
        have n7 : ¬ W.S 7 = 1 := fun z => h3 (e7'.trans z)
        have n72 : ¬ W.S 7 = 2 := fun z => h40 (e7'.trans z)
        have eT : w_trn mk W = W := by unfold w_trn; rw [if_neg n7, if_neg n72]
        have eS : w_trnS W = 0 := if_neg (fun z => z.elim n7 n72)
        rw [eT, eS]
        exact ⟨rfl, hSP, Mg.rf, rfl, rfl, rfl, by omega⟩
      · refine zz_gsn 9 rfl ?_
        refine zz_rv rfl rfl ?_
        exact absurd h66 h40
    · refine zz_gsn 2 rfl ?_
      refine zz_br rfl (fun h43 => ?_) (fun h43 => ?_)
      · refine zz_gsn 3 rfl ?_
        refine zz_br rfl (fun h66 => ?_) (fun h66 => ?_)
        · refine zz_rv rfl rfl ?_
          exact absurd h40 h66
        · refine zz_gsn 9 rfl ?_
          refine zz_rv rfl rfl ?_
          have e7 : W.S 7 = 2 := e7'.symm.trans h66
          have n7 : ¬ W.S 7 = 1 := by omega
          have eT : w_trn mk W = w_S 7 3 W := by unfold w_trn; rw [if_neg n7, if_pos e7, if_neg (by omega)]
          have eS : w_trnS W = 1 := if_pos (Or.inr e7)
          rw [eT, eS]
          have ew : zw (σ.1 407 m + 1) = σ.1 407 m + 1 := zw_id (by omega) (by omega)
          rw [ew]
          exact ⟨rfl, (hSP.mf (by omega)).st (j := 7) (by decide), (Mg.mi (Or.inr (Or.inr (Or.inr rfl)))).tr (Mc.g (Mc.st (by decide))) (Nat.le_refl _), by rw [sf_f _ _ (by omega), sf_f _ _ (by omega)], by rw [sf_f _ _ (by omega), sf_f _ _ (by omega)], by rw [sf_f _ _ (by omega), sf_f _ _ (by omega)], by rw [sf_f _ _ (by omega), sf_h]⟩
      · have e7 : W.S 7 = 2 := e7'.symm.trans h40
        have n7 : ¬ W.S 7 = 1 := by omega
        have eT : w_trn mk W = w_S 8 (W.S 8 - 1) (w_move mk 3 5 W) := by unfold w_trn; rw [if_neg n7, if_pos e7, if_pos (by omega)]
        have eS : w_trnS W = 1 := if_pos (Or.inr e7)
        refine zz_gsn 11 rfl ?_
        refine zz_cv (n := 3) rfl rfl (t_Mill_move (i := 3) (j := 5) (W := W) (mk := mk) (SP.mf hSP (by omega)) (by rw [sf_f _ _ (by omega)]; exact hmk) (by decide) (by decide) (by decide) (fun z => by have := hp z; rw [eT] at this; exact this) hpb (fun k hk => by have := hl k hk; omega)) (Nat.le_of_ble_eq_true rfl) (Nat.le_of_ble_eq_true rfl) (Nat.le_of_ble_eq_true rfl) (fun r55 σ55 q55 => ?_)
        obtain ⟨rfl, p55, g55⟩ := q55
        have ew : zw (σ.1 407 m + 1) = σ.1 407 m + 1 := zw_id (by omega) (by omega)
        have gA : Mg s m W.n σ (zz_sf σ 407 m (zw (σ.1 407 m + 1))) := Mg.mi (Or.inr (Or.inr (Or.inr rfl)))
        have b1 : (zz_sf σ 407 m (zw (σ.1 407 m + 1))).1 401 m = σ.1 401 m := by rw [sf_f _ _ (by omega)]
        have b2 : (zz_sf σ 407 m (zw (σ.1 407 m + 1))).1 402 m = σ.1 402 m := by rw [sf_f _ _ (by omega)]
        have b3 : (zz_sf σ 407 m (zw (σ.1 407 m + 1))).1 406 m = σ.1 406 m := by rw [sf_f _ _ (by omega)]
        have b4 : (zz_sf σ 407 m (zw (σ.1 407 m + 1))).1 407 m = σ.1 407 m + 1 := by rw [sf_h, ew]
        refine zz_gsn 6 rfl ?_
        refine zz_jp rfl ?_
        refine zz_rv rfl rfl ?_
        rw [eT, eS]
        have q8 : σ55.1 909 s = W.S 8 := by have := p55.2.1 8 (by decide) (by decide); rw [w_move_S] at this; exact this
        have ew : zw (σ55.1 909 s - 1) = W.S 8 - 1 := by rw [q8, zw_id (by omega) (by omega)]
        rw [ew]
        exact ⟨rfl, p55.st (j := 8) (by decide), (gA.tr g55.g (Nat.le_refl _)).tr (Mc.g (Mc.st (by decide))) (Nat.le_refl _), (Mc.m (n := 0) (Mc.st (by decide)) (by omega)).trans ((g55.m (by omega)).trans b1), (Mc.m (n := 0) (Mc.st (by decide)) (by omega)).trans ((g55.m (by omega)).trans b2), (Mc.m (n := 0) (Mc.st (by decide)) (by omega)).trans ((g55.m (by omega)).trans b3), (Mc.m (n := 0) (Mc.st (by decide)) (by omega)).trans ((g55.m (by omega)).trans b4)⟩
  · refine zz_gsn 9 rfl ?_
    refine zz_br rfl (fun h13 => ?_) (fun h13 => ?_)
    · have e7 : W.S 7 = 1 := e7'.symm.trans h3
      have hR2 : W.R 2 = [] := hz2.mp (by have h13' : σ.1 701 (s + 3) ≤ 0 := h13; omega)
      have eT : w_trn mk W = w_move mk 4 5 (w_S 7 2 W) := by unfold w_trn; rw [if_pos e7, if_pos hR2]
      have eS : w_trnS W = 1 := if_pos (Or.inl e7)
      refine zz_gsn 8 rfl ?_
      refine zz_cv (n := 3) rfl rfl (t_Mill_move (i := 4) (j := 5) (W := w_S 7 2 W) (mk := mk) (SP.st (SP.mf hSP (by omega)) (j := 7) (by decide)) (by rw [sf_f _ _ (by omega), sf_f _ _ (by omega)]; exact hmk) (by decide) (by decide) (by decide) (fun z => by rw [← eT]; exact hp z) hpb (fun k hk => by have := hl k hk; show (W.R k).length < 90000; omega)) (Nat.le_of_ble_eq_true rfl) (Nat.le_of_ble_eq_true rfl) (Nat.le_of_ble_eq_true rfl) (fun r35 σ35 q35 => ?_)
      obtain ⟨rfl, p35, g35⟩ := q35
      have ew : zw (σ.1 407 m + 1) = σ.1 407 m + 1 := zw_id (by omega) (by omega)
      have gA : Mg s m W.n σ (zz_sf (zz_sf σ 407 m (zw (σ.1 407 m + 1))) 908 s 2) := (Mg.mi (Or.inr (Or.inr (Or.inr rfl)))).tr (Mc.g (Mc.st (by decide))) (Nat.le_refl _)
      have b1 : (zz_sf (zz_sf σ 407 m (zw (σ.1 407 m + 1))) 908 s 2).1 401 m = σ.1 401 m := by rw [sf_f _ _ (by omega), sf_f _ _ (by omega)]
      have b2 : (zz_sf (zz_sf σ 407 m (zw (σ.1 407 m + 1))) 908 s 2).1 402 m = σ.1 402 m := by rw [sf_f _ _ (by omega), sf_f _ _ (by omega)]
      have b3 : (zz_sf (zz_sf σ 407 m (zw (σ.1 407 m + 1))) 908 s 2).1 406 m = σ.1 406 m := by rw [sf_f _ _ (by omega), sf_f _ _ (by omega)]
      have b4 : (zz_sf (zz_sf σ 407 m (zw (σ.1 407 m + 1))) 908 s 2).1 407 m = σ.1 407 m + 1 := by rw [sf_f _ _ (by omega), sf_h, ew]
      refine zz_jp rfl ?_
      refine zz_rv rfl rfl ?_
      rw [eT, eS]
      exact ⟨rfl, p35, gA.tr (g35.g) (by show W.n ≤ W.n; omega), (g35.m (by omega)).trans b1, (g35.m (by omega)).trans b2, (g35.m (by omega)).trans b3, (g35.m (by omega)).trans b4⟩
    · have e7 : W.S 7 = 1 := e7'.symm.trans h3
      have hR2 : W.R 2 ≠ [] := fun z => by have := hz2.mpr z; have h13' : 0 < σ.1 701 (s + 3) := h13; omega
      have eT : w_trn mk W = w_move mk 4 5 (w_S 8 (W.S 8 + 1) (w_move mk 2 3 W)) := by unfold w_trn; rw [if_pos e7, if_neg hR2]
      have eS : w_trnS W = 1 := if_pos (Or.inl e7)
      refine zz_gsn 5 rfl ?_
      refine zz_cv (n := 3) rfl rfl (t_Mill_move (i := 2) (j := 3) (W := W) (mk := mk) (SP.mf hSP (by omega)) (by rw [sf_f _ _ (by omega)]; exact hmk) (by decide) (by decide) (by decide) (fun z => Nat.le_trans (by rw [eT]; exact w_move_le mk 4 5 (w_S 8 (W.S 8 + 1) (w_move mk 2 3 W))) (hp z)) hpb (fun k hk => by have := hl k hk; omega)) (Nat.le_of_ble_eq_true rfl) (Nat.le_of_ble_eq_true rfl) (Nat.le_of_ble_eq_true rfl) (fun r19 σ19 q19 => ?_)
      obtain ⟨rfl, p19, g19⟩ := q19
      have q8 : σ19.1 909 s = W.S 8 := by have := p19.2.1 8 (by decide) (by decide); rw [w_move_S] at this; exact this
      have ew2 : zw (σ19.1 909 s + 1) = W.S 8 + 1 := by rw [q8, zw_id (by omega) (by omega)]
      refine zz_gsn 6 rfl ?_
      refine zz_jp rfl ?_
      refine zz_gsn 5 rfl ?_
      refine zz_cv (n := 3) rfl rfl (t_Mill_move (i := 4) (j := 5) (W := w_S 8 (W.S 8 + 1) (w_move mk 2 3 W)) (mk := mk) (by rw [ew2]; exact SP.st p19 (j := 8) (by decide)) (by rw [sf_f _ _ (by omega), g19.m (by omega), sf_f _ _ (by omega)]; exact hmk) (by decide) (by decide) (by decide) (fun z => by rw [← eT]; exact hp z) hpb (fun k hk => w_move_len (by decide) (by have := hl k hk; show (W.R k).length + 1 < 90000; omega))) (Nat.le_of_ble_eq_true rfl) (Nat.le_of_ble_eq_true rfl) (Nat.le_of_ble_eq_true rfl) (fun r35 σ35 q35 => ?_)
      obtain ⟨rfl, p35, g35⟩ := q35
      have ew : zw (σ.1 407 m + 1) = σ.1 407 m + 1 := zw_id (by omega) (by omega)
      have gA : Mg s m W.n σ (zz_sf σ19 909 s (zw (σ19.1 909 s + 1))) := ((Mg.mi (Or.inr (Or.inr (Or.inr rfl)))).tr g19.g (Nat.le_refl _)).tr (Mc.g (Mc.st (by decide))) (Nat.le_refl _)
      have b1 : (zz_sf σ19 909 s (zw (σ19.1 909 s + 1))).1 401 m = σ.1 401 m := by rw [sf_f _ _ (by omega), g19.m (by omega), sf_f _ _ (by omega)]
      have b2 : (zz_sf σ19 909 s (zw (σ19.1 909 s + 1))).1 402 m = σ.1 402 m := by rw [sf_f _ _ (by omega), g19.m (by omega), sf_f _ _ (by omega)]
      have b3 : (zz_sf σ19 909 s (zw (σ19.1 909 s + 1))).1 406 m = σ.1 406 m := by rw [sf_f _ _ (by omega), g19.m (by omega), sf_f _ _ (by omega)]
      have b4 : (zz_sf σ19 909 s (zw (σ19.1 909 s + 1))).1 407 m = σ.1 407 m + 1 := by rw [sf_f _ _ (by omega), g19.m (by omega), sf_h, ew]
      refine zz_jp rfl ?_
      refine zz_rv rfl rfl ?_
      rw [eT, eS]
      exact ⟨rfl, p35, gA.tr (g35.g) (by show W.n ≤ (w_move mk 2 3 W).n; rw [w_move_n]; omega), (g35.m (by omega)).trans b1, (g35.m (by omega)).trans b2, (g35.m (by omega)).trans b3, (g35.m (by omega)).trans b4⟩
