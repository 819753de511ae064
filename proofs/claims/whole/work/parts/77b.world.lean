/-! the class: letters -/
theorem lp_cwalk {X : zz_X} {t d s a B0 : Nat} {law C N : Int} {T : List Int} {σ0 : zz_M} {Post : Option zz_V → zz_M → Prop} (hC : 2 ≤ C ∧ C ≤ 4) (hB : B0 ≤ 60) (hT6 : T.length ≤ 600) (hTb : ∀ x ∈ T, -128 ≤ x ∧ x ≤ 127) (hl0 : σ0.1 201 d = law) (hB0 : BL σ0 a T) (hd : d < t ∨ t + 17 ≤ d) (ha : a + 1 < t ∨ t + 17 ≤ a) (kk : ∀ σ', zz_F (A_tr t) σ0 σ' → Post (some (zI N)) σ') :
    ∀ (L : List Int) (i : Nat) (W : zz_W) (acc : Int) (u5 : zz_V) (σ : zz_M), T.drop i = L → r_wk law C 0 L W acc = N → 0 ≤ acc → acc ≤ 1400 * (i : Int) → σ.1 1001 t = acc → IV law (B0 + i) W → TT σ t law C W → zz_F (A_tr t) σ0 σ → zz_G X 7 p_Trial_stepsOfLetters 6 [zP 10 0 0 t, zP 2 0 0 d, zP 9 0 0 s, zP 0 600 0 a, zI (i : Nat), u5] [] σ Post := by
  intro L
  induction L with
  | nil =>
    intro i W acc u5 σ hL hN ha0 ha1 hs hI hT hF
    have hge := zz_drn hL
    have hB1 : BL σ a T := hB0.f hF (by unfold A_tr; omega) (by unfold A_tr; omega)
    have e : acc = N := hN
    rw [← e] at kk
    have e0 := hB1.1
    refine zz_gsn 3 rfl ?_
    refine zz_br rfl (fun h9 => ?_) (fun h9 => absurd h9 (by rw [e0]; omega))
    refine zz_gsn 2 rfl ?_
    refine zz_ri rfl (Or.inl rfl) ?_
    rw [hs]
    exact kk σ hF
  | cons c L ih =>
    intro i W acc u5 σ hL hN ha0 ha1 hs hI hT hF
    obtain ⟨hi, hc, hL2⟩ := zz_drc hL
    have hB1 : BL σ a T := hB0.f hF (by unfold A_tr; omega) (by unfold A_tr; omega)
    have e0 := hB1.1
    have hl1 : σ.1 201 d = law := ((hF d (by unfold A_tr; omega)).1 201).trans hl0
    have e11 : σ.1 906 (t + 10) = W.S 11 := hT.2.2.2.2.1
    have hcb : -128 ≤ c ∧ c ≤ 127 := hTb c (by
      rw [← hc, List.getD_eq_getElem?_getD, List.getElem?_eq_getElem hi]
      exact List.getElem_mem hi)
    have hKb := l_kd_b law c
    have h9n : ¬ (i : Int) ≥ σ.1 0 a := by
      rw [e0]
      omega
    have hI0 := hI.2.1
    have hB7 : B0 + i ≤ 1000 := by omega
    have hC7 : 0 ≤ C ∧ C ≤ 4 := by omega
    by_cases hz : l_kd law c = -1 ∨ ((l_kd law c = 1 ∨ l_kd law c = 3) ∧ W.S 11 = 0)
    · have hN2 : -1 = N := by
        rw [← hN]
        exact (if_pos hz).symm
      clear hN
      obtain ⟨K, hK⟩ : ∃ K, K = l_kd law c := ⟨_, rfl⟩
      rw [← hK] at hKb hz
      rw [← hN2] at kk
      obtain ⟨y, zb, hKe⟩ : ∃ y, zl_b T (i : Nat) = y ∧ l_kd law y = K := ⟨zz_and c 255, zlb_at hi hc, (l_kd_and hcb).trans hK.symm⟩
      clear hK hc hcb hL
      refine zz_gsn 3 rfl ?_
      refine zz_br rfl (fun h9 => absurd h9 h9n) (fun h9 => ?_)
      refine zz_gsn 2 rfl ?_
      refine zz_cv (n := 2) rfl rfl (t_Bytes_byteAt) (Nat.le_of_ble_eq_true rfl) (Nat.le_of_ble_eq_true rfl) (Nat.le_of_ble_eq_true rfl) (fun r12 σ12 q12 => ?_)
      obtain ⟨rfl, n12, rfl, e12⟩ := q12
      replace e12 := bl_at hB1 hT6 e12
      rw [zb] at e12
      rw [e12]
      refine zz_gsn 2 rfl ?_
      refine zz_cs (n := 2) rfl rfl (t_Trial_kindOfLetter) (Nat.le_of_ble_eq_true rfl) (Nat.le_of_ble_eq_true rfl) (Nat.le_of_ble_eq_true rfl) (fun r15 σ15 q15 => ?_)
      obtain ⟨rfl, rfl⟩ := q15
      rw [hl1, hKe]
      refine zz_gsn 3 rfl ?_
      refine zz_br rfl (fun h19 => ?_) (fun h19 => ?_)
      · refine zz_gsn 1 rfl ?_
        refine zz_ri rfl (Or.inl rfl) ?_
        exact kk _ hF
      · refine zz_gsn 1 rfl ?_
        refine zz_cs (n := 1) rfl rfl (t_TQ_isPutting) (Nat.le_of_ble_eq_true rfl) (Nat.le_of_ble_eq_true rfl) (Nat.le_of_ble_eq_true rfl) (fun r21 σ21 q21 => ?_)
        obtain ⟨rfl, n21, rfl, e21⟩ := q21
        refine zz_br rfl (fun h22 => absurd h22 (by clear e12 zb hKe; omega)) (fun h22 => ?_)
        refine zz_gsn 3 rfl ?_
        refine zz_br rfl (fun h26 => absurd h26 (by rw [e11]; clear e12 zb hKe; omega)) (fun h26 => ?_)
        refine zz_gsn 1 rfl ?_
        refine zz_ri rfl (Or.inl rfl) ?_
        exact kk _ hF
    · have hN2 : r_wk law C 0 L (w_deed law C (-1) (l_kd law c) 0 W) (acc + w_steps law C (-1) (l_kd law c) 0 W) = N := by
        rw [← hN]
        exact (if_neg hz).symm
      clear hN
      obtain ⟨K, hK⟩ : ∃ K, K = l_kd law c := ⟨_, rfl⟩
      rw [← hK] at hKb hz hN2
      have hk : 0 ≤ K ∧ K ≤ 3 := by clear hK hN2; omega
      have hI2 := (IV_deed (C := C) (mk := -1) (kind := K) (x := 0) hI hC hk (fun z => by clear hK hN2; omega) (fun z => by clear hK hN2; omega)).1
      have su := w_steps_v (C := C) (mk := -1) (kind := K) (x := 0) hI (by clear hN2 hK; omega) hk
      have sp := w_steps_p (C := C) (mk := -1) (kind := K) (x := 0) hI hk
      obtain ⟨S, hS⟩ : ∃ S, S = w_steps law C (-1) K 0 W := ⟨_, rfl⟩
      rw [← hS] at hN2 su sp
      have q1 : zw (acc + S) = acc + S := zw_id (by clear hN2 hS hK; omega) (by clear hN2 hS hK; omega)
      have q2 : 0 ≤ acc + S := by clear q1 hN2 hS hK; omega
      have q3 : acc + S ≤ 1400 * ((i + 1 : Nat) : Int) := by clear q1 hN2 hS hK; omega
      have q4 : zw ((i : Int) + 1) = ((i + 1 : Nat) : Int) := zw_s (by clear q1 hN2 hS hK; omega)
      obtain ⟨y, zb, hKe⟩ : ∃ y, zl_b T (i : Nat) = y ∧ l_kd law y = K := ⟨zz_and c 255, zlb_at hi hc, (l_kd_and hcb).trans hK.symm⟩
      clear hK hc hcb hL
      refine zz_gsn 3 rfl ?_
      refine zz_br rfl (fun h9 => absurd h9 h9n) (fun h9 => ?_)
      refine zz_gsn 2 rfl ?_
      refine zz_cv (n := 2) rfl rfl (t_Bytes_byteAt) (Nat.le_of_ble_eq_true rfl) (Nat.le_of_ble_eq_true rfl) (Nat.le_of_ble_eq_true rfl) (fun r12 σ12 q12 => ?_)
      obtain ⟨rfl, n12, rfl, e12⟩ := q12
      replace e12 := bl_at hB1 hT6 e12
      rw [zb] at e12
      rw [e12]
      refine zz_gsn 2 rfl ?_
      refine zz_cs (n := 2) rfl rfl (t_Trial_kindOfLetter) (Nat.le_of_ble_eq_true rfl) (Nat.le_of_ble_eq_true rfl) (Nat.le_of_ble_eq_true rfl) (fun r15 σ15 q15 => ?_)
      obtain ⟨rfl, rfl⟩ := q15
      rw [hl1, hKe]
      refine zz_gsn 3 rfl ?_
      refine zz_br rfl (fun h19 => absurd h19 (by clear e12 zb hKe q1 q4 hN2 hS; omega)) (fun h19 => ?_)
      refine zz_gsn 1 rfl ?_
      refine zz_cs (n := 1) rfl rfl (t_TQ_isPutting) (Nat.le_of_ble_eq_true rfl) (Nat.le_of_ble_eq_true rfl) (Nat.le_of_ble_eq_true rfl) (fun r21 σ21 q21 => ?_)
      obtain ⟨rfl, n21, rfl, e21⟩ := q21
      refine zz_br rfl (fun h22 => ?_) (fun h22 => ?_)
      · refine zz_gsn 10 rfl ?_
        refine zz_cv (n := 5) rfl rfl (t_Mill_perform (mk := -1) (x := 0) (kind := K) hT.2.2 hT.1 hT.2.1 hC7 hk (fun z => absurd z (Nat.lt_irrefl 0)) (by decide) (by decide) (h_bds hI hB7).1 (h_bds hI hB7).2.1 (h_bds hI hB7).2.2.1 (h_bds hI hB7).2.2.2.1 (h_bds hI hB7).2.2.2.2.1 (h_bds hI hB7).2.2.2.2.2 (fun z => absurd z (Nat.lt_irrefl 0))) (Nat.le_of_ble_eq_true rfl) (Nat.le_of_ble_eq_true rfl) (Nat.le_of_ble_eq_true rfl) (fun r39 σ39 q39 => ?_)
        obtain ⟨rfl, p39, g39, -, -⟩ := q39
        obtain ⟨T39, F39⟩ := hT.step p39 g39
        rw [← hS, hs]
        refine zz_gsn 3 rfl ?_
        refine zz_jp rfl ?_
        rw [q1, q4]
        exact ih (i + 1) _ (acc + S) _ _ hL2 hN2 q2 q3 (sf_h _ _ _ _) hI2 T39.sf ((hF.tr F39).tr (zz_F.sf (by unfold A_tr; omega)))
      · refine zz_gsn 3 rfl ?_
        refine zz_br rfl (fun h26 => ?_) (fun h26 => absurd h26 (by rw [e11]; clear e12 zb hKe q1 q4 hN2 hS; omega))
        refine zz_gsn 10 rfl ?_
        refine zz_cv (n := 5) rfl rfl (t_Mill_perform (mk := -1) (x := 0) (kind := K) hT.2.2 hT.1 hT.2.1 hC7 hk (fun z => absurd z (Nat.lt_irrefl 0)) (by decide) (by decide) (h_bds hI hB7).1 (h_bds hI hB7).2.1 (h_bds hI hB7).2.2.1 (h_bds hI hB7).2.2.2.1 (h_bds hI hB7).2.2.2.2.1 (h_bds hI hB7).2.2.2.2.2 (fun z => absurd z (Nat.lt_irrefl 0))) (Nat.le_of_ble_eq_true rfl) (Nat.le_of_ble_eq_true rfl) (Nat.le_of_ble_eq_true rfl) (fun r39 σ39 q39 => ?_)
        obtain ⟨rfl, p39, g39, -, -⟩ := q39
        obtain ⟨T39, F39⟩ := hT.step p39 g39
        rw [← hS, hs]
        refine zz_gsn 3 rfl ?_
        refine zz_jp rfl ?_
        rw [q1, q4]
        exact ih (i + 1) _ (acc + S) _ _ hL2 hN2 q2 q3 (sf_h _ _ _ _) hI2 T39.sf ((hF.tr F39).tr (zz_F.sf (by unfold A_tr; omega)))
theorem t_Trial_stepsOfLetters {X : zz_X} {σ : zz_M} {t d s a m p B0 : Nat} {W : zz_W} {T : List Int} (hS : SP σ p m s W) (hs : s + 7 ≤ t ∨ t + 17 ≤ s) (hd : d < t ∨ t + 17 ≤ d) (ha : a + 1 < t ∨ t + 17 ≤ a) (hI : IV (σ.1 201 d) B0 W) (hB : B0 ≤ 60) (hC : 2 ≤ σ.1 202 d ∧ σ.1 202 d ≤ 4) (hT : BL σ a T) (hT6 : T.length ≤ 600) (hTb : ∀ x ∈ T, -128 ≤ x ∧ x ≤ 127) : zz_T X 7 p_Trial_stepsOfLetters [zP 10 0 0 t, zP 2 0 0 d, zP 9 0 0 s, zP 0 600 0 a] σ (fun r σ' => r = some (zI (r_wk (σ.1 201 d) (σ.1 202 d) 0 T W 0)) ∧ zz_F (A_tr t) σ σ') := by
  refine zz_mk k_Trial_stepsOfLetters o_Trial_stepsOfLetters rfl rfl (Nat.le_of_ble_eq_true rfl) ?_
  show zz_G X 7 p_Trial_stepsOfLetters 0 [zP 10 0 0 t, zP 2 0 0 d, zP 9 0 0 s, zP 0 600 0 a, zU, zU] [] σ _
  refine zz_gsn 3 rfl ?_
  refine zz_cv (n := 3) rfl rfl (t_Trial_begin hS hs hd) (Nat.le_of_ble_eq_true rfl) (Nat.le_of_ble_eq_true rfl) (Nat.le_of_ble_eq_true rfl) (fun r3 σ3 q3 => ?_)
  obtain ⟨rfl, p3, z3, g3⟩ := q3
  refine zz_gsn 2 rfl ?_
  exact lp_cwalk (T := T) hC hB hT6 hTb ((g3 d (by unfold A_tr; omega)).1 201) (hT.f g3 (by unfold A_tr; omega) (by unfold A_tr; omega)) hd ha (fun σ' a => ⟨rfl, g3.tr a⟩) T 0 W 0 _ σ3 rfl rfl (Int.le_refl _) (Int.le_refl _) z3 hI p3 zz_F.rf
