/-! the reference: steps of letters -/
theorem lp_rwalk {X : zz_X} {m n0 B0 : Nat} {law C N v : Int} {T : List Int} {σ0 : zz_M} {Post : Option zz_V → zz_M → Prop} (hC : 2 ≤ C ∧ C ≤ 4) (hB : B0 ≤ 60) (hl5 : σ0.1 1205 m = law) (hl6 : σ0.1 1206 m = C) (hl11 : σ0.1 1211 m = law) (hT6 : T.length ≤ 600) (hT0 : ∀ i, i < T.length → σ0.2 (m + 13) i = T.getD i 0) (kk : ∀ σ', Fx m n0 σ0 σ' → Post (some (zI N)) σ') :
    ∀ (L : List Int) (i : Nat) (W : zz_W) (acc : Int) (u5 u6 : zz_V) (σ : zz_M), T.drop i = L → r_wk law C 1 L W acc = N → 0 ≤ acc → acc ≤ 1400 * (i : Int) → r_bd law B0 n0 i W → MP σ m 122 W → Fx m n0 σ0 σ → zz_G X 6 p_Mo_walks 8 [zP 12 0 0 m, zI v, zI (T.length : Nat), zI acc, zI (i : Nat), u5, u6] [] σ Post := by
  intro L
  induction L with
  | nil =>
    intro i W acc u5 u6 σ hL hN ha0 ha1 hI hP hF
    have hge := zz_drn hL
    have e : acc = N := hN
    rw [← e] at kk
    refine zz_gsn 2 rfl ?_
    refine zz_br rfl (fun h10 => ?_) (fun h10 => absurd h10 (by omega))
    refine zz_gsn 1 rfl ?_
    refine zz_ri rfl (Or.inl rfl) ?_
    exact kk σ hF
  | cons c L ih =>
    intro i W acc u5 u6 σ hL hN ha0 ha1 hI hP hF
    obtain ⟨hi, hc, hL2⟩ := zz_drc hL
    have hl1 : σ.1 1211 m = law := (hF.1 1211 (by unfold pf; omega) (by decide)).trans hl11
    have f5 : σ.1 1205 m = law := (hF.1 1205 (by unfold pf; omega) (by decide)).trans hl5
    have f6 : σ.1 1206 m = C := (hF.1 1206 (by unfold pf; omega) (by decide)).trans hl6
    have e11 : σ.2 (m + 3) (12 * 122 + 11) = W.S 11 := hP.2.1 11 (by decide) (by decide)
    have ec : σ.2 (m + 13) i = c := ((hF.2.1 _ _ (by unfold pa; omega)).trans (hT0 i hi)).trans hc
    have hKb := l_kd_b law c
    have h10n : ¬ (i : Int) ≥ (T.length : Nat) := by omega
    have hI0 := hI.1.2.1
    have hB7 : B0 + i ≤ 700 := by omega
    have hn20 : W.n + (B0 + i) + 10 ≤ 20000 := by have := hI.2.2; omega
    have hob : 0 ≤ (i : Int) ∧ (i : Int) < 600 := ⟨by omega, by omega⟩
    by_cases hz : l_kd law c = -1 ∨ ((l_kd law c = 1 ∨ l_kd law c = 3) ∧ W.S 11 = 0)
    · have hN2 : -1 = N := by
        rw [← hN]
        exact (if_pos hz).symm
      clear hN
      obtain ⟨K, hKe⟩ : ∃ K, l_kd law c = K := ⟨_, rfl⟩
      rw [hKe] at hKb hz
      rw [← hN2] at kk
      refine zz_gsn 2 rfl ?_
      refine zz_br rfl (fun h10 => absurd h10 h10n) (fun h10 => ?_)
      refine zz_gsn 4 rfl ?_
      refine zz_ald rfl (hob) ?_
      rw [show σ.2 (m + 13) ((i : Nat) : Int).toNat = c from ec]
      refine zz_cv (n := 2) rfl rfl (t_Mo_kindBy) (Nat.le_of_ble_eq_true rfl) (Nat.le_of_ble_eq_true rfl) (Nat.le_of_ble_eq_true rfl) (fun r16 σ16 q16 => ?_)
      obtain ⟨rfl, rfl⟩ := q16
      rw [hl1, hKe]
      refine zz_gsn 3 rfl ?_
      refine zz_br rfl (fun h20 => ?_) (fun h20 => ?_)
      · refine zz_gsn 1 rfl ?_
        refine zz_jp rfl ?_
        refine zz_gsn 3 rfl ?_
        refine zz_br rfl (fun h30 => ?_) (fun h30 => ?_)
        · refine zz_gsn 1 rfl ?_
          refine zz_ri rfl (Or.inl rfl) ?_
          exact kk _ hF
        · refine zz_gsn 1 rfl ?_
          refine zz_br rfl (fun h32 => absurd h32 (by clear hKe; omega)) (fun h32 => ?_)
          refine zz_gsn 3 rfl ?_
          refine zz_cv (n := 3) rfl rfl (t_Mo_of (s := 122) (k := 11) (by decide) (by decide)) (Nat.le_of_ble_eq_true rfl) (Nat.le_of_ble_eq_true rfl) (Nat.le_of_ble_eq_true rfl) (fun r36 σ36 q36 => ?_)
          obtain ⟨rfl, rfl⟩ := q36
          rw [e11]
          refine zz_br rfl (fun h37 => absurd h37 (by clear hKe; omega)) (fun h37 => ?_)
          refine zz_gsn 1 rfl ?_
          refine zz_ri rfl (Or.inl rfl) ?_
          exact kk _ hF
      · refine zz_gsn 2 rfl ?_
        refine zz_br rfl (fun h23 => ?_) (fun h23 => ?_)
        · refine zz_gsn 4 rfl ?_
          refine zz_br rfl (fun h30 => ?_) (fun h30 => ?_)
          · refine zz_gsn 1 rfl ?_
            refine zz_ri rfl (Or.inl rfl) ?_
            exact kk _ hF
          · refine zz_gsn 1 rfl ?_
            refine zz_br rfl (fun h32 => absurd h32 (by clear hKe; omega)) (fun h32 => ?_)
            refine zz_gsn 3 rfl ?_
            refine zz_cv (n := 3) rfl rfl (t_Mo_of (s := 122) (k := 11) (by decide) (by decide)) (Nat.le_of_ble_eq_true rfl) (Nat.le_of_ble_eq_true rfl) (Nat.le_of_ble_eq_true rfl) (fun r36 σ36 q36 => ?_)
            obtain ⟨rfl, rfl⟩ := q36
            rw [e11]
            refine zz_br rfl (fun h37 => absurd h37 (by clear hKe; omega)) (fun h37 => ?_)
            refine zz_gsn 1 rfl ?_
            refine zz_ri rfl (Or.inl rfl) ?_
            exact kk _ hF
        · refine zz_gsn 1 rfl ?_
          refine zz_jp rfl ?_
          refine zz_gsn 3 rfl ?_
          refine zz_br rfl (fun h30 => ?_) (fun h30 => ?_)
          · refine zz_gsn 1 rfl ?_
            refine zz_ri rfl (Or.inl rfl) ?_
            exact kk _ hF
          · refine zz_gsn 1 rfl ?_
            refine zz_br rfl (fun h32 => absurd h32 (by clear hKe; omega)) (fun h32 => ?_)
            refine zz_gsn 3 rfl ?_
            refine zz_cv (n := 3) rfl rfl (t_Mo_of (s := 122) (k := 11) (by decide) (by decide)) (Nat.le_of_ble_eq_true rfl) (Nat.le_of_ble_eq_true rfl) (Nat.le_of_ble_eq_true rfl) (fun r36 σ36 q36 => ?_)
            obtain ⟨rfl, rfl⟩ := q36
            rw [e11]
            refine zz_br rfl (fun h37 => absurd h37 (by clear hKe; omega)) (fun h37 => ?_)
            refine zz_gsn 1 rfl ?_
            refine zz_ri rfl (Or.inl rfl) ?_
            exact kk _ hF
    · have hN2 : r_wk law C 1 L (w_deed law C (-1) (l_kd law c) 1 W) (acc + w_steps law C (-1) (l_kd law c) 1 W) = N := by
        rw [← hN]
        exact (if_neg hz).symm
      clear hN
      obtain ⟨K, hKe⟩ : ∃ K, l_kd law c = K := ⟨_, rfl⟩
      rw [hKe] at hKb hz hN2
      have hk : 0 ≤ K ∧ K ≤ 3 := by clear hKe hN2; omega
      have hkl : law ≠ 2 → K ≤ 1 := fun z => by clear hKe hN2; omega
      have hpos : K = 1 ∨ K = 3 → 0 < W.S 11 := fun z => by clear hKe hN2; omega
      have hI2 := hI.x (x := 1) hC hk hkl hpos
      have su := w_steps_v (C := C) (mk := -1) (kind := K) (x := 1) hI.1 (by clear hKe hN2; omega) hk
      have sp := w_steps_p (C := C) (mk := -1) (kind := K) (x := 1) hI.1 hk
      obtain ⟨S, hS⟩ : ∃ S, S = w_steps law C (-1) K 1 W := ⟨_, rfl⟩
      rw [← hS] at hN2 su sp
      have q2 : 0 ≤ acc + S := by clear hKe hN2 hS; omega
      have q3 : acc + S ≤ 1400 * ((i + 1 : Nat) : Int) := by clear hKe hN2 hS; omega
      have q4 : zw ((i : Int) + 1) = ((i + 1 : Nat) : Int) := zw_s (by clear hKe hN2 hS; omega)
      have q1 : zw (acc + S) = acc + S := zw_id (by clear hKe hN2 hS q4; omega) (by clear hKe hN2 hS q4; omega)
      refine zz_gsn 2 rfl ?_
      refine zz_br rfl (fun h10 => absurd h10 h10n) (fun h10 => ?_)
      refine zz_gsn 4 rfl ?_
      refine zz_ald rfl (hob) ?_
      rw [show σ.2 (m + 13) ((i : Nat) : Int).toNat = c from ec]
      refine zz_cv (n := 2) rfl rfl (t_Mo_kindBy) (Nat.le_of_ble_eq_true rfl) (Nat.le_of_ble_eq_true rfl) (Nat.le_of_ble_eq_true rfl) (fun r16 σ16 q16 => ?_)
      obtain ⟨rfl, rfl⟩ := q16
      rw [hl1, hKe]
      refine zz_gsn 3 rfl ?_
      refine zz_br rfl (fun h20 => ?_) (fun h20 => ?_)
      · refine zz_gsn 1 rfl ?_
        refine zz_jp rfl ?_
        refine zz_gsn 3 rfl ?_
        refine zz_br rfl (fun h30 => absurd h30 (by clear hKe hN2 hS q1 q4; omega)) (fun h30 => ?_)
        refine zz_gsn 1 rfl ?_
        refine zz_br rfl (fun h32 => ?_) (fun h32 => ?_)
        · refine zz_gsn 6 rfl ?_
          refine zz_cv (n := 5) rfl rfl (t_Mo_deeds (s := 122) (t := 123) (mk := -1) (kind := K) (x := 1) hP (by decide) (by decide) (by decide) f5 f6 hI.1 hB7 hC hk hkl hpos hn20) (Nat.le_of_ble_eq_true rfl) (Nat.le_of_ble_eq_true rfl) (Nat.le_of_ble_eq_true rfl) (fun r46 σ46 q46 => ?_)
          obtain ⟨rfl, p46, g46, -, -⟩ := q46
          rw [← hS]
          refine zz_gsn 5 rfl ?_
          refine zz_cv (n := 3) rfl rfl (t_Mo_copies (s := 123) (t := 122) (by decide) (by decide) (by decide)) (Nat.le_of_ble_eq_true rfl) (Nat.le_of_ble_eq_true rfl) (Nat.le_of_ble_eq_true rfl) (fun r52 σ52 q52 => ?_)
          obtain ⟨rfl, u52, v52, w52⟩ := q52
          obtain ⟨P52, -⟩ := p46.copy u52 v52 w52
          have F52 : Fx m n0 σ0 σ52 := (hF.tr (g46.x hI.2.1 (by decide))).tr (cp_x v52 w52 (by decide))
          refine zz_gsn 1 rfl ?_
          refine zz_jp rfl ?_
          rw [q1, q4]
          exact ih (i + 1) _ (acc + S) _ _ _ hL2 hN2 q2 q3 hI2 P52 F52
        · refine zz_gsn 3 rfl ?_
          refine zz_cv (n := 3) rfl rfl (t_Mo_of (s := 122) (k := 11) (by decide) (by decide)) (Nat.le_of_ble_eq_true rfl) (Nat.le_of_ble_eq_true rfl) (Nat.le_of_ble_eq_true rfl) (fun r36 σ36 q36 => ?_)
          obtain ⟨rfl, rfl⟩ := q36
          rw [e11]
          refine zz_br rfl (fun h37 => ?_) (fun h37 => absurd h37 (by clear hKe hN2 hS q1 q4; omega))
          refine zz_gsn 6 rfl ?_
          refine zz_cv (n := 5) rfl rfl (t_Mo_deeds (s := 122) (t := 123) (mk := -1) (kind := K) (x := 1) hP (by decide) (by decide) (by decide) f5 f6 hI.1 hB7 hC hk hkl hpos hn20) (Nat.le_of_ble_eq_true rfl) (Nat.le_of_ble_eq_true rfl) (Nat.le_of_ble_eq_true rfl) (fun r46 σ46 q46 => ?_)
          obtain ⟨rfl, p46, g46, -, -⟩ := q46
          rw [← hS]
          refine zz_gsn 5 rfl ?_
          refine zz_cv (n := 3) rfl rfl (t_Mo_copies (s := 123) (t := 122) (by decide) (by decide) (by decide)) (Nat.le_of_ble_eq_true rfl) (Nat.le_of_ble_eq_true rfl) (Nat.le_of_ble_eq_true rfl) (fun r52 σ52 q52 => ?_)
          obtain ⟨rfl, u52, v52, w52⟩ := q52
          obtain ⟨P52, -⟩ := p46.copy u52 v52 w52
          have F52 : Fx m n0 σ0 σ52 := (hF.tr (g46.x hI.2.1 (by decide))).tr (cp_x v52 w52 (by decide))
          refine zz_gsn 1 rfl ?_
          refine zz_jp rfl ?_
          rw [q1, q4]
          exact ih (i + 1) _ (acc + S) _ _ _ hL2 hN2 q2 q3 hI2 P52 F52
      · refine zz_gsn 2 rfl ?_
        refine zz_br rfl (fun h23 => ?_) (fun h23 => ?_)
        · refine zz_gsn 4 rfl ?_
          refine zz_br rfl (fun h30 => absurd h30 (by clear hKe hN2 hS q1 q4; omega)) (fun h30 => ?_)
          refine zz_gsn 1 rfl ?_
          refine zz_br rfl (fun h32 => ?_) (fun h32 => ?_)
          · refine zz_gsn 6 rfl ?_
            refine zz_cv (n := 5) rfl rfl (t_Mo_deeds (s := 122) (t := 123) (mk := -1) (kind := K) (x := 1) hP (by decide) (by decide) (by decide) f5 f6 hI.1 hB7 hC hk hkl hpos hn20) (Nat.le_of_ble_eq_true rfl) (Nat.le_of_ble_eq_true rfl) (Nat.le_of_ble_eq_true rfl) (fun r46 σ46 q46 => ?_)
            obtain ⟨rfl, p46, g46, -, -⟩ := q46
            rw [← hS]
            refine zz_gsn 5 rfl ?_
            refine zz_cv (n := 3) rfl rfl (t_Mo_copies (s := 123) (t := 122) (by decide) (by decide) (by decide)) (Nat.le_of_ble_eq_true rfl) (Nat.le_of_ble_eq_true rfl) (Nat.le_of_ble_eq_true rfl) (fun r52 σ52 q52 => ?_)
            obtain ⟨rfl, u52, v52, w52⟩ := q52
            obtain ⟨P52, -⟩ := p46.copy u52 v52 w52
            have F52 : Fx m n0 σ0 σ52 := (hF.tr (g46.x hI.2.1 (by decide))).tr (cp_x v52 w52 (by decide))
            refine zz_gsn 1 rfl ?_
            refine zz_jp rfl ?_
            rw [q1, q4]
            exact ih (i + 1) _ (acc + S) _ _ _ hL2 hN2 q2 q3 hI2 P52 F52
          · refine zz_gsn 3 rfl ?_
            refine zz_cv (n := 3) rfl rfl (t_Mo_of (s := 122) (k := 11) (by decide) (by decide)) (Nat.le_of_ble_eq_true rfl) (Nat.le_of_ble_eq_true rfl) (Nat.le_of_ble_eq_true rfl) (fun r36 σ36 q36 => ?_)
            obtain ⟨rfl, rfl⟩ := q36
            rw [e11]
            refine zz_br rfl (fun h37 => ?_) (fun h37 => absurd h37 (by clear hKe hN2 hS q1 q4; omega))
            refine zz_gsn 6 rfl ?_
            refine zz_cv (n := 5) rfl rfl (t_Mo_deeds (s := 122) (t := 123) (mk := -1) (kind := K) (x := 1) hP (by decide) (by decide) (by decide) f5 f6 hI.1 hB7 hC hk hkl hpos hn20) (Nat.le_of_ble_eq_true rfl) (Nat.le_of_ble_eq_true rfl) (Nat.le_of_ble_eq_true rfl) (fun r46 σ46 q46 => ?_)
            obtain ⟨rfl, p46, g46, -, -⟩ := q46
            rw [← hS]
            refine zz_gsn 5 rfl ?_
            refine zz_cv (n := 3) rfl rfl (t_Mo_copies (s := 123) (t := 122) (by decide) (by decide) (by decide)) (Nat.le_of_ble_eq_true rfl) (Nat.le_of_ble_eq_true rfl) (Nat.le_of_ble_eq_true rfl) (fun r52 σ52 q52 => ?_)
            obtain ⟨rfl, u52, v52, w52⟩ := q52
            obtain ⟨P52, -⟩ := p46.copy u52 v52 w52
            have F52 : Fx m n0 σ0 σ52 := (hF.tr (g46.x hI.2.1 (by decide))).tr (cp_x v52 w52 (by decide))
            refine zz_gsn 1 rfl ?_
            refine zz_jp rfl ?_
            rw [q1, q4]
            exact ih (i + 1) _ (acc + S) _ _ _ hL2 hN2 q2 q3 hI2 P52 F52
        · refine zz_gsn 1 rfl ?_
          refine zz_jp rfl ?_
          refine zz_gsn 3 rfl ?_
          refine zz_br rfl (fun h30 => absurd h30 (by clear hKe hN2 hS q1 q4; omega)) (fun h30 => ?_)
          refine zz_gsn 1 rfl ?_
          refine zz_br rfl (fun h32 => ?_) (fun h32 => ?_)
          · refine zz_gsn 6 rfl ?_
            refine zz_cv (n := 5) rfl rfl (t_Mo_deeds (s := 122) (t := 123) (mk := -1) (kind := K) (x := 1) hP (by decide) (by decide) (by decide) f5 f6 hI.1 hB7 hC hk hkl hpos hn20) (Nat.le_of_ble_eq_true rfl) (Nat.le_of_ble_eq_true rfl) (Nat.le_of_ble_eq_true rfl) (fun r46 σ46 q46 => ?_)
            obtain ⟨rfl, p46, g46, -, -⟩ := q46
            rw [← hS]
            refine zz_gsn 5 rfl ?_
            refine zz_cv (n := 3) rfl rfl (t_Mo_copies (s := 123) (t := 122) (by decide) (by decide) (by decide)) (Nat.le_of_ble_eq_true rfl) (Nat.le_of_ble_eq_true rfl) (Nat.le_of_ble_eq_true rfl) (fun r52 σ52 q52 => ?_)
            obtain ⟨rfl, u52, v52, w52⟩ := q52
            obtain ⟨P52, -⟩ := p46.copy u52 v52 w52
            have F52 : Fx m n0 σ0 σ52 := (hF.tr (g46.x hI.2.1 (by decide))).tr (cp_x v52 w52 (by decide))
            refine zz_gsn 1 rfl ?_
            refine zz_jp rfl ?_
            rw [q1, q4]
            exact ih (i + 1) _ (acc + S) _ _ _ hL2 hN2 q2 q3 hI2 P52 F52
          · refine zz_gsn 3 rfl ?_
            refine zz_cv (n := 3) rfl rfl (t_Mo_of (s := 122) (k := 11) (by decide) (by decide)) (Nat.le_of_ble_eq_true rfl) (Nat.le_of_ble_eq_true rfl) (Nat.le_of_ble_eq_true rfl) (fun r36 σ36 q36 => ?_)
            obtain ⟨rfl, rfl⟩ := q36
            rw [e11]
            refine zz_br rfl (fun h37 => ?_) (fun h37 => absurd h37 (by clear hKe hN2 hS q1 q4; omega))
            refine zz_gsn 6 rfl ?_
            refine zz_cv (n := 5) rfl rfl (t_Mo_deeds (s := 122) (t := 123) (mk := -1) (kind := K) (x := 1) hP (by decide) (by decide) (by decide) f5 f6 hI.1 hB7 hC hk hkl hpos hn20) (Nat.le_of_ble_eq_true rfl) (Nat.le_of_ble_eq_true rfl) (Nat.le_of_ble_eq_true rfl) (fun r46 σ46 q46 => ?_)
            obtain ⟨rfl, p46, g46, -, -⟩ := q46
            rw [← hS]
            refine zz_gsn 5 rfl ?_
            refine zz_cv (n := 3) rfl rfl (t_Mo_copies (s := 123) (t := 122) (by decide) (by decide) (by decide)) (Nat.le_of_ble_eq_true rfl) (Nat.le_of_ble_eq_true rfl) (Nat.le_of_ble_eq_true rfl) (fun r52 σ52 q52 => ?_)
            obtain ⟨rfl, u52, v52, w52⟩ := q52
            obtain ⟨P52, -⟩ := p46.copy u52 v52 w52
            have F52 : Fx m n0 σ0 σ52 := (hF.tr (g46.x hI.2.1 (by decide))).tr (cp_x v52 w52 (by decide))
            refine zz_gsn 1 rfl ?_
            refine zz_jp rfl ?_
            rw [q1, q4]
            exact ih (i + 1) _ (acc + S) _ _ _ hL2 hN2 q2 q3 hI2 P52 F52
theorem t_Mo_walks {X : zz_X} {σ : zz_M} {m n0 B0 w : Nat} {law C : Int} {W : zz_W} {T : List Int} (hP : MP σ m w W) (hw : w < 61) (hI : r_bd law B0 n0 0 W) (hC : 2 ≤ C ∧ C ≤ 4) (hB : B0 ≤ 60) (hl5 : σ.1 1205 m = law) (hl6 : σ.1 1206 m = C) (hl11 : σ.1 1211 m = law) (hT6 : T.length ≤ 600) (hT0 : ∀ i, i < T.length → σ.2 (m + 13) i = T.getD i 0) : zz_T X 6 p_Mo_walks [zP 12 0 0 m, zI (w : Nat), zI (T.length : Nat)] σ (fun r σ' => r = some (zI (r_wk law C 1 T W 0)) ∧ Fx m n0 σ σ') := by
  refine zz_mk k_Mo_walks o_Mo_walks rfl rfl (Nat.le_of_ble_eq_true rfl) ?_
  show zz_G X 6 p_Mo_walks 0 [zP 12 0 0 m, zI (w : Nat), zI (T.length : Nat), zU, zU, zU, zU] [] σ _
  refine zz_gsn 3 rfl ?_
  refine zz_cv (n := 3) rfl rfl (t_Mo_copies (s := w) (t := 122) (by omega) (by decide) (by omega)) (Nat.le_of_ble_eq_true rfl) (Nat.le_of_ble_eq_true rfl) (Nat.le_of_ble_eq_true rfl) (fun r3 σ3 q3 => ?_)
  obtain ⟨rfl, u3, v3, w3⟩ := q3
  obtain ⟨P3, -⟩ := hP.copy u3 v3 w3
  have F3 : Fx m n0 σ σ3 := cp_x v3 w3 (by decide)
  refine zz_gsn 4 rfl ?_
  exact lp_rwalk (T := T) hC hB hl5 hl6 hl11 hT6 hT0 (fun σ' a => ⟨rfl, a⟩) T 0 W 0 _ _ σ3 rfl rfl (Int.le_refl _) (Int.le_refl _) hI P3 F3
