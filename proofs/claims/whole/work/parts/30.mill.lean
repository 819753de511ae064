/-! the mill: LAW 2 -/
theorem w_spl_n (mk : Int) (i j : Nat) (W : zz_W) : (w_spl mk i j W).n = W.n + (w_laid i j W).length := by
  obtain ⟨s1, s2, s3, s4⟩ := w_pus_R (mk := mk) (k := i) ((w_laid i j W).take ((w_laid i j W).length / 2)) (w_R j [] (w_R i [] W))
  obtain ⟨t1, t2, t3, t4⟩ := w_pus_R (mk := mk) (k := j) ((w_laid i j W).drop ((w_laid i j W).length / 2)).reverse (w_pus mk i ((w_laid i j W).take ((w_laid i j W).length / 2)) (w_R j [] (w_R i [] W)))
  show (w_pus mk j _ (w_pus mk i _ (w_R j [] (w_R i [] W)))).n = _
  rw [t3, s3, List.length_reverse, List.length_drop, List.length_take]
  have h := Nat.div_le_self (w_laid i j W).length 2
  rw [Nat.min_eq_left h]
  show W.n + _ + _ = _
  omega
theorem SP.s9 {σ : zz_M} {p m s : Nat} {W : zz_W} (h : SP σ p m s W) {v w : Int} : SP (zz_sf (zz_sf σ 910 s v) 911 s w) p m s (w_S 10 w (w_S 9 v W)) := (h.st (j := 9) (by decide)).st (j := 10) (by decide)
theorem zz_sge {X : zz_X} {d : Nat} {P : zz_P} {j : Nat} {ls st : List zz_V} {σ σ' : zz_M} {Post : Option zz_V → zz_M → Prop} (h : σ' = σ) (k : zz_G X d P j ls st σ' Post) : zz_G X d P j ls st σ Post := h ▸ k
theorem t_Mill_even {X : zz_X} {σ : zz_M} {p q m s : Nat} {W : zz_W} {mk C sh : Int} (hSP : SP σ p m s W) (hmk : σ.1 406 m = mk) (hC0 : σ.1 405 m = C) (hC : 0 ≤ C ∧ C ≤ 4) (hsh : 0 ≤ sh ∧ sh ≤ 2) (h401 : σ.1 401 m = 0) (h402 : σ.1 402 m = 0) (h407 : 0 ≤ σ.1 407 m ∧ σ.1 407 m < 900000) (hS9 : 0 ≤ W.S 9 ∧ W.S 9 < 900000) (hS10 : 0 ≤ W.S 10 ∧ W.S 10 < 900000) (hp : 0 < p → (w_evn mk C (w_pay sh W)).n ≤ p) (hpb : p < 100000) (hqb : q < 100000) (hl : ∀ k, k < 6 → (W.R k).length < 40000) (hq : 0 < p → (W.R 0).length + (W.R 1).length ≤ q) : zz_T X 5 p_Mill_even [zP 4 p q m, zP 9 0 0 s, zI sh] σ (fun r σ' => r = none ∧ SP σ' p m s (w_evn mk C (w_pay sh W)) ∧ Mg s m W.n σ σ' ∧ σ'.1 401 m = w_evnB C (w_pay sh W) ∧ σ'.1 402 m = w_evnO C (w_pay sh W) ∧ σ'.1 406 m = mk ∧ σ'.1 407 m = σ.1 407 m + w_payS sh W) := by
  refine zz_mk k_Mill_even o_Mill_even rfl rfl (Nat.le_of_ble_eq_true rfl) ?_
  show zz_G X 5 p_Mill_even 0 [zP 4 p q m, zP 9 0 0 s, zI sh, zU, zU] [] σ _
  have e9 : σ.1 910 s = W.S 9 := hSP.2.1 9 (by decide) (by decide)
  have e10 : σ.1 911 s = W.S 10 := hSP.2.1 10 (by decide) (by decide)
  have e0 : σ.1 701 (s + 1) = w_len 0 W := (hSP.1 0 (by decide)).1
  have e1 : σ.1 701 (s + 2) = w_len 1 W := (hSP.1 1 (by decide)).1
  have hl0 := hl 0 (by decide)
  have hl1 := hl 1 (by decide)
  have q0 : w_len 0 W = ((W.R 0).length : Nat) := rfl
  have q1 : w_len 1 W = ((W.R 1).length : Nat) := rfl
  have hlaid0 : (w_laid 0 1 (w_pay sh W)).length = (W.R 0).length + (W.R 1).length := w_laid_len 0 1 (w_pay sh W)
  have hlaid1 : (w_laid 1 0 (w_pay sh W)).length = (W.R 1).length + (W.R 0).length := w_laid_len 1 0 (w_pay sh W)
  have hm0 : 0 ≤ C * w_len 1 W ∧ C * w_len 1 W ≤ 400000 := by
    obtain ⟨c1, c2⟩ := hC
    have h5 : C = 0 ∨ C = 1 ∨ C = 2 ∨ C = 3 ∨ C = 4 := by omega
    rcases h5 with h5 | h5 | h5 | h5 | h5 <;> rw [h5] <;> omega
  have hm1 : 0 ≤ C * w_len 0 W ∧ C * w_len 0 W ≤ 400000 := by
    obtain ⟨c1, c2⟩ := hC
    have h5 : C = 0 ∨ C = 1 ∨ C = 2 ∨ C = 3 ∨ C = 4 := by omega
    rcases h5 with h5 | h5 | h5 | h5 | h5 <;> rw [h5] <;> omega
  have ev0 : zw (zw (C * w_len 1 W) + 1) = C * w_len 1 W + 1 := by rw [zw_id (x := C * w_len 1 W) (by omega) (by omega), zw_id (by omega) (by omega)]
  have ev1 : zw (zw (C * w_len 0 W) + 1) = C * w_len 0 W + 1 := by rw [zw_id (x := C * w_len 0 W) (by omega) (by omega), zw_id (by omega) (by omega)]
  have ef : zw (W.S 9 - min (W.S 9) sh) = W.S 9 - min (W.S 9) sh := zw_id (by omega) (by omega)
  have eb : zw (W.S 10 - min (W.S 10) sh) = W.S 10 - min (W.S 10) sh := zw_id (by omega) (by omega)
  have es : zw (σ.1 407 m + zw (min (W.S 9) sh + min (W.S 10) sh)) = σ.1 407 m + w_payS sh W := by
    unfold w_payS
    rw [zw_id (x := min (W.S 9) sh + min (W.S 10) sh) (by omega) (by omega), zw_id (by omega) (by omega)]
  obtain ⟨σp, hσp⟩ : ∃ σp, σp = zz_sf (zz_sf (zz_sf σ 910 s (W.S 9 - min (W.S 9) sh)) 911 s (W.S 10 - min (W.S 10) sh)) 407 m (σ.1 407 m + w_payS sh W) := ⟨_, rfl⟩
  have pp : SP σp p m s (w_pay sh W) := by rw [hσp]; exact hSP.s9.mf (by omega)
  have gp : Mg s m W.n σ σp := by rw [hσp]; exact (Mc.g ((Mc.st (by decide)).tr (Mc.st (by decide)) (Nat.le_refl _))).tr (Mg.mi (Or.inr (Or.inr (Or.inr rfl)))) (Nat.le_refl _)
  have r1 : σp.1 401 m = 0 := by rw [hσp, sf_f _ _ (by omega), sf_f _ _ (by omega), sf_f _ _ (by omega)]; exact h401
  have r2 : σp.1 402 m = 0 := by rw [hσp, sf_f _ _ (by omega), sf_f _ _ (by omega), sf_f _ _ (by omega)]; exact h402
  have r3 : σp.1 406 m = mk := by rw [hσp, sf_f _ _ (by omega), sf_f _ _ (by omega), sf_f _ _ (by omega)]; exact hmk
  have r4 : σp.1 407 m = σ.1 407 m + w_payS sh W := by rw [hσp, sf_h]
  have r5 : σp.1 405 m = C := by rw [hσp, sf_f _ _ (by omega), sf_f _ _ (by omega), sf_f _ _ (by omega)]; exact hC0
  have f0 : σp.1 701 (s + 1) = w_len 0 W := (pp.1 0 (by decide)).1
  have f1 : σp.1 701 (s + 2) = w_len 1 W := (pp.1 1 (by decide)).1
  refine zz_gsn 3 rfl ?_
  refine zz_mth rfl (Nat.le_of_ble_eq_true rfl) (Nat.le_of_ble_eq_true rfl) ?_
  refine zz_gsn 4 rfl ?_
  refine zz_mth rfl (Nat.le_of_ble_eq_true rfl) (Nat.le_of_ble_eq_true rfl) ?_
  refine zz_gsn 21 rfl ?_
  refine zz_sge (σ' := σp) (by
    rw [hσp, ← ef, ← eb, ← es, ← e9, ← e10]
    rfl) ?_
  refine zz_gsn 11 rfl ?_
  refine zz_br rfl (fun h41 => ?_) (fun h41 => ?_)
  · refine zz_gsn 11 rfl ?_
    refine zz_br rfl (fun h61 => ?_) (fun h61 => ?_)
    · refine zz_rv rfl rfl ?_
      have c0 : ¬ C * w_len 1 W + 1 < w_len 0 W := by rw [f0, r5, f1, ev0] at h41; exact Int.not_lt.mpr h41
      have c1 : ¬ C * w_len 0 W + 1 < w_len 1 W := by rw [f0, r5, f1, ev1] at h61; exact Int.not_lt.mpr h61
      have eE : w_evn mk C (w_pay sh W) = w_pay sh W := by
        show (if C * w_len 1 W + 1 < w_len 0 W then _ else if C * w_len 0 W + 1 < w_len 1 W then _ else _) = _
        rw [if_neg c0, if_neg c1]
      have eB : w_evnB C (w_pay sh W) = 0 := if_neg (fun z => z.elim c0 c1)
      have eO : w_evnO C (w_pay sh W) = 0 := if_neg (fun z => z.1.elim c0 c1)
      rw [eE, eB, eO]
      exact ⟨rfl, pp, gp, r1, r2, r3, r4⟩
    · refine zz_gsn 6 rfl ?_
      refine zz_cv (n := 4) rfl rfl (t_Mill_split (i := 1) (j := 0) (mk := mk) pp (Or.inr ⟨rfl, rfl⟩) r3 (fun z => by have := hp z; have c0 : ¬ C * w_len 1 W + 1 < w_len 0 W := (by rw [f0, r5, f1, ev0] at h41; exact Int.not_lt.mpr h41); have c1 : C * w_len 0 W + 1 < w_len 1 W := (by rw [f0, r5, f1, ev1] at h61; exact h61); rw [show w_evn mk C (w_pay sh W) = w_spl mk 1 0 (w_pay sh W) from (if_neg c0).trans (if_pos c1)] at this; exact this) hpb hqb (fun k hk => hl k hk) (fun z => by rw [hlaid1]; have := hq z; omega)) (Nat.le_of_ble_eq_true rfl) (Nat.le_of_ble_eq_true rfl) (Nat.le_of_ble_eq_true rfl) (fun r68 σ68 q68 => ?_)
      obtain ⟨rfl, p68, g68, b168, b268, b368, b468⟩ := q68
      refine zz_rv rfl rfl ?_
      have c0 : ¬ C * w_len 1 W + 1 < w_len 0 W := by rw [f0, r5, f1, ev0] at h41; exact Int.not_lt.mpr h41
      have c1 : C * w_len 0 W + 1 < w_len 1 W := by rw [f0, r5, f1, ev1] at h61; exact h61
      have eE : w_evn mk C (w_pay sh W) = w_spl mk 1 0 (w_pay sh W) := by
        show (if C * w_len 1 W + 1 < w_len 0 W then _ else if C * w_len 0 W + 1 < w_len 1 W then _ else _) = _
        rw [if_neg c0, if_pos c1]
      have eB : w_evnB C (w_pay sh W) = 1 := if_pos (Or.inr c1)
      have eO : w_evnO C (w_pay sh W) = if 0 < (w_pay sh W).S 9 ∨ 0 < (w_pay sh W).S 10 then 1 else 0 := by
        unfold w_evnO
        by_cases z : 0 < (w_pay sh W).S 9 ∨ 0 < (w_pay sh W).S 10
        · rw [if_pos z, if_pos ⟨Or.inr c1, z⟩]
        · rw [if_neg z, if_neg (fun y => z y.2)]
      rw [eE, eB, eO]
      exact ⟨rfl, p68, gp.tr g68 (Nat.le_refl _), b168, b268, b368, b468.trans r4⟩
  · refine zz_gsn 6 rfl ?_
    refine zz_cv (n := 4) rfl rfl (t_Mill_split (i := 0) (j := 1) (mk := mk) pp (Or.inl ⟨rfl, rfl⟩) r3 (fun z => by have := hp z; have c0 : C * w_len 1 W + 1 < w_len 0 W := (by rw [f0, r5, f1, ev0] at h41; exact h41); rw [show w_evn mk C (w_pay sh W) = w_spl mk 0 1 (w_pay sh W) from if_pos c0] at this; exact this) hpb hqb (fun k hk => hl k hk) (fun z => by rw [hlaid0]; exact hq z)) (Nat.le_of_ble_eq_true rfl) (Nat.le_of_ble_eq_true rfl) (Nat.le_of_ble_eq_true rfl) (fun r48 σ48 q48 => ?_)
    obtain ⟨rfl, p48, g48, b148, b248, b348, b448⟩ := q48
    refine zz_jp rfl ?_
    refine zz_rv rfl rfl ?_
    have c0 : C * w_len 1 W + 1 < w_len 0 W := by rw [f0, r5, f1, ev0] at h41; exact h41
    have eE : w_evn mk C (w_pay sh W) = w_spl mk 0 1 (w_pay sh W) := if_pos c0
    have eB : w_evnB C (w_pay sh W) = 1 := if_pos (Or.inl c0)
    have eO : w_evnO C (w_pay sh W) = if 0 < (w_pay sh W).S 9 ∨ 0 < (w_pay sh W).S 10 then 1 else 0 := by
      unfold w_evnO
      by_cases z : 0 < (w_pay sh W).S 9 ∨ 0 < (w_pay sh W).S 10
      · rw [if_pos z, if_pos ⟨Or.inl c0, z⟩]
      · rw [if_neg z, if_neg (fun y => z y.2)]
    rw [eE, eB, eO]
    exact ⟨rfl, p48, gp.tr g48 (Nat.le_refl _), b148, b248, b348, b448.trans r4⟩
