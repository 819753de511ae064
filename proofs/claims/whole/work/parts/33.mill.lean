/-! the mill: a deed -/
theorem w_push_l {mk x : Int} {j k : Nat} {W : zz_W} : ((w_push mk j x W).R k).length ≤ (W.R k).length + 1 := by
  show ((zu W.R j (W.n :: W.R j)) k).length ≤ _
  by_cases e : k = j
  · subst e
    rw [zu_s, List.length_cons]
    omega
  · rw [zu_n _ _ e]
    omega
theorem w_pop_l {j k : Nat} {W : zz_W} : ((w_pop j W).R k).length ≤ (W.R k).length := by
  show ((zu W.R j (W.R j).tail) k).length ≤ _
  by_cases e : k = j
  · subst e
    rw [zu_s, List.length_tail]
    omega
  · rw [zu_n _ _ e]
    omega
theorem w_dis_S (W : zz_W) : ((w_dis W).S 6 = W.S 6 - 1) ∧ ((w_dis W).S 8 = W.S 8 ∨ (w_dis W).S 8 = W.S 8 - 1) ∧ (w_dis W).S 9 = W.S 9 ∧ (w_dis W).S 10 = W.S 10 ∧ (w_dis W).S 11 = W.S 11 := by
  unfold w_dis
  split
  · exact ⟨rfl, Or.inl rfl, rfl, rfl, rfl⟩
  · split
    · exact ⟨rfl, Or.inr rfl, rfl, rfl, rfl⟩
    · exact ⟨rfl, Or.inl rfl, rfl, rfl, rfl⟩
theorem w_dis_l (W : zz_W) (k : Nat) : ((w_dis W).R k).length ≤ (W.R k).length := by
  by_cases e : k = 5
  · subst e
    exact w_dis_l5 W
  · rw [w_dis_R W e]
    exact Nat.le_refl _
theorem w_chg_B (law mk kind x : Int) (W : zz_W) (hk : 0 ≤ kind ∧ kind ≤ 3) :
    (∀ k, ((w_chg law mk kind x W).R k).length ≤ (W.R k).length + 1)
    ∧ ((w_chg law mk kind x W).S 6 = W.S 6 ∨ (w_chg law mk kind x W).S 6 = W.S 6 - 1)
    ∧ ((w_chg law mk kind x W).S 8 = W.S 8 ∨ (w_chg law mk kind x W).S 8 = W.S 8 - 1)
    ∧ (w_chg law mk kind x W).S 9 = W.S 9
    ∧ (w_chg law mk kind x W).S 10 = W.S 10
    ∧ (w_chg law mk kind x W).S 11 = W.S 11 + (if kind = 0 ∨ kind = 2 then 1 else -1)
    ∧ W.n ≤ (w_chg law mk kind x W).n := by
  have h : kind = 0 ∨ kind = 1 ∨ kind = 2 ∨ kind = 3 := by omega
  rcases h with h | h | h | h <;> subst h
  · exact ⟨fun k => w_push_l, Or.inl rfl, Or.inl rfl, rfl, rfl, rfl, Nat.le_succ _⟩
  · by_cases hl : law = 1
    · have hd := w_dis_S (w_S 11 (W.S 11 - 1) W)
      refine ⟨fun k => ?_, ?_, ?_, ?_, ?_, ?_, ?_⟩ <;> rw [w_chg1 mk x W hl]
      · exact Nat.le_succ_of_le (Nat.le_trans w_pop_l (w_dis_l _ k))
      · exact Or.inr hd.1
      · exact hd.2.1
      · exact hd.2.2.1
      · exact hd.2.2.2.1
      · exact hd.2.2.2.2
      · exact Nat.le_of_eq (w_dis_n (w_S 11 (W.S 11 - 1) W)).symm
    · refine ⟨fun k => ?_, ?_, ?_, ?_, ?_, ?_, ?_⟩ <;> rw [w_chg1n mk x W hl]
      · exact Nat.le_succ_of_le w_pop_l
      · exact Or.inl rfl
      · exact Or.inl rfl
      · rfl
      · rfl
      · rfl
      · exact Nat.le_refl _
  · exact ⟨fun k => w_push_l, Or.inl rfl, Or.inl rfl, rfl, rfl, rfl, Nat.le_succ _⟩
  · exact ⟨fun k => Nat.le_succ_of_le w_pop_l, Or.inl rfl, Or.inl rfl, rfl, rfl, rfl, Nat.le_refl _⟩
theorem w_all_le (mk : Int) (W : zz_W) : W.n ≤ (w_all mk W).n := by
  unfold w_all
  split
  · exact w_mvs_le mk 1 0 _ W
  · exact Nat.le_refl _
theorem w_one_le (mk : Int) (W : zz_W) : W.n ≤ (w_one mk W).n := by
  unfold w_one
  rw [w_fin_n]
  exact Nat.le_trans (Nat.le_of_eq (w_b_n W).symm) (Nat.le_trans (w_trn_le mk _) (w_trn_le mk _))
theorem w_evn_le (mk C sh : Int) (W : zz_W) : W.n ≤ (w_evn mk C (w_pay sh W)).n := by
  unfold w_evn
  split
  · rw [w_spl_n]
    exact Nat.le_add_right _ _
  · split
    · rw [w_spl_n]
      exact Nat.le_add_right _ _
    · exact Nat.le_refl _
theorem w_deed_0 {law C mk kind x : Int} {W : zz_W} (h : law = 0) : w_deed law C mk kind x W = w_all mk (w_chg law mk kind x W) ∧ w_steps law C mk kind x W = 1 + w_allS (w_chg law mk kind x W) ∧ w_begun law C mk kind x W = w_allB (w_chg law mk kind x W) ∧ w_over law C mk kind x W = 0 := by
  subst h
  exact ⟨rfl, rfl, rfl, rfl⟩
theorem w_deed_1 {law C mk kind x : Int} {W : zz_W} (h : law = 1) : w_deed law C mk kind x W = w_one mk (w_chg law mk kind x W) ∧ w_steps law C mk kind x W = 1 + w_oneS mk (w_chg law mk kind x W) ∧ w_begun law C mk kind x W = w_oneB (w_chg law mk kind x W) ∧ w_over law C mk kind x W = w_oneO (w_chg law mk kind x W) := by
  subst h
  exact ⟨rfl, rfl, rfl, rfl⟩
theorem w_deed_2 {law C mk kind x : Int} {W : zz_W} (h : law ≠ 0) (h1 : law ≠ 1) : w_deed law C mk kind x W = w_evn mk C (w_pay (w_sh kind) (w_chg law mk kind x W)) ∧ w_steps law C mk kind x W = 1 + w_payS (w_sh kind) (w_chg law mk kind x W) ∧ w_begun law C mk kind x W = w_evnB C (w_pay (w_sh kind) (w_chg law mk kind x W)) ∧ w_over law C mk kind x W = w_evnO C (w_pay (w_sh kind) (w_chg law mk kind x W)) := by
  refine ⟨(if_neg h).trans (if_neg h1), ?_, (if_neg h).trans (if_neg h1), (if_neg h).trans (if_neg h1)⟩
  show 1 + (if law = 0 then _ else if law = 1 then _ else _) = _
  rw [if_neg h, if_neg h1]
theorem w_deed_le (law C mk kind x : Int) (W : zz_W) : (w_chg law mk kind x W).n ≤ (w_deed law C mk kind x W).n := by
  by_cases h : law = 0
  · rw [(w_deed_0 h).1]
    exact w_all_le mk _
  · by_cases h1 : law = 1
    · rw [(w_deed_1 h1).1]
      exact w_one_le mk _
    · rw [(w_deed_2 h h1).1]
      exact w_evn_le mk C _ _
theorem t_Mill_perform {X : zz_X} {σ : zz_M} {p q m s : Nat} {W : zz_W} {law C mk kind x : Int} (hSP : SP σ p m s W) (hlaw : σ.1 404 m = law) (hC0 : σ.1 405 m = C) (hC : 0 ≤ C ∧ C ≤ 4) (hkd : 0 ≤ kind ∧ kind ≤ 3) (hp : 0 < p → (w_deed law C mk kind x W).n ≤ p) (hpb : p < 100000) (hqb : q < 100000) (hl : ∀ k, k < 6 → (W.R k).length < 30000) (hS6 : -700000 < W.S 6 ∧ W.S 6 < 700000) (hS8 : -700000 < W.S 8 ∧ W.S 8 < 700000) (hS9 : 0 ≤ W.S 9 ∧ W.S 9 < 700000) (hS10 : 0 ≤ W.S 10 ∧ W.S 10 < 700000) (hS11 : -700000 < W.S 11 ∧ W.S 11 < 700000) (hq : 0 < p → ((w_chg law mk kind x W).R 0).length + ((w_chg law mk kind x W).R 1).length ≤ q) : zz_T X 6 p_Mill_perform [zP 4 p q m, zP 9 0 0 s, zI kind, zI x, zI mk] σ (fun r σ' => r = some (zI (w_steps law C mk kind x W)) ∧ SP σ' p m s (w_deed law C mk kind x W) ∧ Mg s m W.n σ σ' ∧ σ'.1 401 m = w_begun law C mk kind x W ∧ σ'.1 402 m = w_over law C mk kind x W) := by
  refine zz_mk k_Mill_perform o_Mill_perform rfl rfl (Nat.le_of_ble_eq_true rfl) ?_
  show zz_G X 6 p_Mill_perform 0 [zP 4 p q m, zP 9 0 0 s, zI kind, zI x, zI mk] [] σ _
  obtain ⟨bl, b6, b8, b9, b10, b11, hn1⟩ := w_chg_B law mk kind x W hkd
  obtain ⟨W1, hW1⟩ : ∃ W1, W1 = w_chg law mk kind x W := ⟨_, rfl⟩
  have hl1 : ∀ k, k < 6 → (W1.R k).length < 40000 := fun k hk => by have z := bl k; rw [← hW1] at z; have := hl k hk; omega
  have hle := w_deed_le law C mk kind x W
  rw [← hW1] at b6 b8 b9 b10 hn1 hq hle
  obtain ⟨σ1, hσ1⟩ : ∃ σ1, σ1 = zz_sf (zz_sf (zz_sf (zz_sf σ 406 m mk) 407 m 1) 401 m 0) 402 m 0 := ⟨_, rfl⟩
  have p1 : SP σ1 p m s W := by rw [hσ1]; exact (((hSP.mf (by omega)).mf (by omega)).mf (by omega)).mf (by omega)
  have g1 : Mg s m W.n σ σ1 := by rw [hσ1]; exact (((Mg.mi (Or.inr (Or.inr (Or.inl rfl)))).tr (Mg.mi (Or.inr (Or.inr (Or.inr rfl)))) (Nat.le_refl _)).tr (Mg.mi (Or.inl rfl)) (Nat.le_refl _)).tr (Mg.mi (Or.inr (Or.inl rfl))) (Nat.le_refl _)
  have r1 : σ1.1 401 m = 0 := by rw [hσ1, sf_f _ _ (by omega), sf_h]
  have r2 : σ1.1 402 m = 0 := by rw [hσ1, sf_h]
  have r3 : σ1.1 406 m = mk := by rw [hσ1, sf_f _ _ (by omega), sf_f _ _ (by omega), sf_f _ _ (by omega), sf_h]
  have r4 : σ1.1 407 m = 1 := by rw [hσ1, sf_f _ _ (by omega), sf_f _ _ (by omega), sf_h]
  have r5 : σ1.1 404 m = law := by rw [hσ1, sf_f _ _ (by omega), sf_f _ _ (by omega), sf_f _ _ (by omega), sf_f _ _ (by omega)]; exact hlaw
  have r6 : σ1.1 405 m = C := by rw [hσ1, sf_f _ _ (by omega), sf_f _ _ (by omega), sf_f _ _ (by omega), sf_f _ _ (by omega)]; exact hC0
  refine zz_gsn 8 rfl ?_
  refine zz_ptz rfl (by first | exact Or.inl rfl | exact Or.inr rfl | omega) ?_
  refine zz_gsn 2 rfl ?_
  refine zz_ptz rfl (by first | exact Or.inl rfl | exact Or.inr rfl | omega) ?_
  refine zz_sge (σ' := σ1) (by rw [hσ1]) ?_
  refine zz_gsn 4 rfl ?_
  refine zz_cv (n := 4) rfl rfl (t_Mill_change p1 r3 r5 hkd (fun z => by have z2 := hp z; rw [← hW1]; omega) hpb (fun k hk => by have := hl k hk; omega) (by omega) (by omega) (by omega)) (Nat.le_of_ble_eq_true rfl) (Nat.le_of_ble_eq_true rfl) (Nat.le_of_ble_eq_true rfl) (fun r16 σ16 q16 => ?_)
  obtain ⟨rfl, p16, g16⟩ := q16
  rw [← hW1] at p16
  have x1 : σ16.1 401 m = 0 := (g16.m (by omega)).trans r1
  have x2 : σ16.1 402 m = 0 := (g16.m (by omega)).trans r2
  have x3 : σ16.1 406 m = mk := (g16.m (by omega)).trans r3
  have x4 : σ16.1 407 m = 1 := (g16.m (by omega)).trans r4
  have x5 : σ16.1 404 m = law := (g16.m (by omega)).trans r5
  have x6 : σ16.1 405 m = C := (g16.m (by omega)).trans r6
  have g2 := g1.tr g16.g (Nat.le_refl _)
  refine zz_gsn 2 rfl ?_
  refine zz_br rfl (fun h19 => ?_) (fun h19 => ?_)
  · refine zz_gsn 3 rfl ?_
    refine zz_br rfl (fun h27 => ?_) (fun h27 => ?_)
    · refine zz_gsn 3 rfl ?_
      refine zz_cs (n := 1) rfl rfl (t_TQ_isPutting) (Nat.le_of_ble_eq_true rfl) (Nat.le_of_ble_eq_true rfl) (Nat.le_of_ble_eq_true rfl) (fun r35 σ35 q35 => ?_)
      obtain ⟨rfl, n35, rfl, e35⟩ := q35
      refine zz_br rfl (fun h36 => ?_) (fun h36 => ?_)
      · refine zz_gsn 1 rfl ?_
        have hsh : w_sh kind = 2 := if_neg (by omega)
        have n0 : law ≠ 0 := fun z => h19 (x5.trans z)
        have n1 : law ≠ 1 := fun z => h27 (x5.trans z)
        refine zz_cv (n := 3) rfl rfl (t_Mill_even (mk := mk) p16 x3 x6 hC (by omega) x1 x2 (by omega) (by omega) (by omega) (fun z => by have z2 := hp z; rw [(w_deed_2 n0 n1).1, ← hW1, hsh] at z2; exact z2) hpb hqb hl1 hq) (Nat.le_of_ble_eq_true rfl) (Nat.le_of_ble_eq_true rfl) (Nat.le_of_ble_eq_true rfl) (fun r40 σ40 q40 => ?_)
        obtain ⟨rfl, p40, g40, b140, b240, b340, b440⟩ := q40
        refine zz_gsn 2 rfl ?_
        refine zz_ri rfl (Or.inl rfl) ?_
        obtain ⟨d1, d2, d3, d4⟩ := w_deed_2 (C := C) (mk := mk) (kind := kind) (x := x) (W := W) n0 n1
        rw [d1, d2, d3, d4, ← hW1, hsh]
        exact ⟨by rw [b440, x4], p40, g2.tr g40 hn1, b140, b240⟩
      · refine zz_gsn 1 rfl ?_
        refine zz_jp rfl ?_
        have hsh : w_sh kind = 1 := if_pos (by omega)
        have n0 : law ≠ 0 := fun z => h19 (x5.trans z)
        have n1 : law ≠ 1 := fun z => h27 (x5.trans z)
        refine zz_cv (n := 3) rfl rfl (t_Mill_even (mk := mk) p16 x3 x6 hC (by omega) x1 x2 (by omega) (by omega) (by omega) (fun z => by have z2 := hp z; rw [(w_deed_2 n0 n1).1, ← hW1, hsh] at z2; exact z2) hpb hqb hl1 hq) (Nat.le_of_ble_eq_true rfl) (Nat.le_of_ble_eq_true rfl) (Nat.le_of_ble_eq_true rfl) (fun r40 σ40 q40 => ?_)
        obtain ⟨rfl, p40, g40, b140, b240, b340, b440⟩ := q40
        refine zz_gsn 2 rfl ?_
        refine zz_ri rfl (Or.inl rfl) ?_
        obtain ⟨d1, d2, d3, d4⟩ := w_deed_2 (C := C) (mk := mk) (kind := kind) (x := x) (W := W) n0 n1
        rw [d1, d2, d3, d4, ← hW1, hsh]
        exact ⟨by rw [b440, x4], p40, g2.tr g40 hn1, b140, b240⟩
    · have n1 : law = 1 := x5.symm.trans h27
      refine zz_gsn 2 rfl ?_
      refine zz_cv (n := 2) rfl rfl (t_Mill_turnBySteps (mk := mk) p16 x3 x1 x2 (by omega) (fun z => by have z2 := hp z; rw [(w_deed_1 n1).1, ← hW1] at z2; exact z2) hpb hl1 (by omega) (by omega)) (Nat.le_of_ble_eq_true rfl) (Nat.le_of_ble_eq_true rfl) (Nat.le_of_ble_eq_true rfl) (fun r30 σ30 q30 => ?_)
      obtain ⟨rfl, p30, g30, b130, b230, b330, b430⟩ := q30
      refine zz_jp rfl ?_
      refine zz_gsn 2 rfl ?_
      refine zz_ri rfl (Or.inl rfl) ?_
      obtain ⟨d1, d2, d3, d4⟩ := w_deed_1 (C := C) (mk := mk) (kind := kind) (x := x) (W := W) n1
      rw [d1, d2, d3, d4, ← hW1]
      exact ⟨by rw [b430, x4], p30, g2.tr g30 hn1, b130, b230⟩
  · have n0 : law = 0 := x5.symm.trans h19
    refine zz_gsn 2 rfl ?_
    refine zz_cv (n := 2) rfl rfl (t_Mill_turnAtOnce (mk := mk) p16 x3 x1 (by omega) (fun z => by have z2 := hp z; rw [(w_deed_0 n0).1, ← hW1] at z2; exact z2) hpb hl1) (Nat.le_of_ble_eq_true rfl) (Nat.le_of_ble_eq_true rfl) (Nat.le_of_ble_eq_true rfl) (fun r22 σ22 q22 => ?_)
    obtain ⟨rfl, p22, g22, b122, b222, b322, b422⟩ := q22
    refine zz_jp rfl ?_
    refine zz_gsn 2 rfl ?_
    refine zz_ri rfl (Or.inl rfl) ?_
    obtain ⟨d1, d2, d3, d4⟩ := w_deed_0 (C := C) (mk := mk) (kind := kind) (x := x) (W := W) n0
    rw [d1, d2, d3, d4, ← hW1]
    exact ⟨by rw [b422, x4], p22, g2.tr g22 hn1, b122, b222.trans x2⟩
