/-! the reference: drain -/
theorem lp_rdrain {X : zz_X} {m n0 B0 : Nat} {law C v was : Int} {N : Int} {σ0 : zz_M} {Post : Option zz_V → zz_M → Prop} (hC : 2 ≤ C ∧ C ≤ 4) (hB : B0 ≤ 60) (hl5 : σ0.1 1205 m = law) (hl6 : σ0.1 1206 m = C) (kk : ∀ (σ' : zz_M), Fx m n0 σ0 σ' → Post (some (zI N)) (zz_sf σ' 1203 m was)) :
    ∀ (r i : Nat) (W : zz_W) (acc : Int) (σ : zz_M), i + r = 60 → W.S 11 ≤ (r : Nat) → acc + r_sum law C r W = N → 0 ≤ acc → acc ≤ 300 * (i : Int) → r_bd law B0 n0 i W → MP σ m 122 W → Fx m n0 σ0 σ → zz_G X 6 p_Mo_drain 15 [zP 12 0 0 m, zI v, zI was, zI acc] [] σ Post := by
  intro r
  induction r with
  | zero =>
    intro i W acc σ hi hle hN ha0 ha1 hI hP hF
    have e : acc = N := by have z : acc + 0 = N := hN; omega
    rw [← e] at kk
    have e11 : σ.2 (m + 3) (12 * 122 + 11) = W.S 11 := hP.2.1 11 (by decide) (by decide)
    refine zz_gsn 3 rfl ?_
    refine zz_cv (n := 3) rfl rfl (t_Mo_of (s := 122) (k := 11) (by decide) (by decide)) (Nat.le_of_ble_eq_true rfl) (Nat.le_of_ble_eq_true rfl) (Nat.le_of_ble_eq_true rfl) (fun r18 σ18 q18 => ?_)
    obtain ⟨rfl, rfl⟩ := q18
    rw [e11]
    refine zz_br rfl (fun h19 => ?_) (fun h19 => absurd h19 (by clear hN; omega))
    refine zz_gsn 4 rfl ?_
    refine zz_ri rfl (Or.inl rfl) ?_
    exact kk σ hF
  | succ r ih =>
    intro i W acc σ hi hle hN ha0 ha1 hI hP hF
    have e11 : σ.2 (m + 3) (12 * 122 + 11) = W.S 11 := hP.2.1 11 (by decide) (by decide)
    by_cases hp : 0 < W.S 11
    · have hN2 : acc + (w_steps law C (-1) 1 0 W + r_sum law C r (w_deed law C (-1) 1 0 W)) = N := by rw [← hN, show r_sum law C (r + 1) W = w_steps law C (-1) 1 0 W + r_sum law C r (w_deed law C (-1) 1 0 W) from if_pos hp]
      have hI2 := hI.s (C := C) (kind := 1) hC (by decide) (fun _ => by decide) (fun _ => hp)
      have s11 := (IV_deed (C := C) (mk := -1) (kind := 1) (x := 0) hI.1 hC (by decide) (fun _ => by decide) (fun _ => hp)).2.1
      have s11 : (w_deed law C (-1) 1 0 W).S 11 = W.S 11 + -1 := s11
      have su := w_steps_v (C := C) (mk := -1) (kind := 1) (x := 0) hI.1 (by omega) (by decide)
      have sp := w_steps_p (C := C) (mk := -1) (kind := 1) (x := 0) hI.1 (by decide)
      have le2 : (w_deed law C (-1) 1 0 W).S 11 ≤ (r : Nat) := by
        rw [s11]
        clear hN hN2 su sp s11
        omega
      obtain ⟨S, hS⟩ : ∃ S, S = w_steps law C (-1) 1 0 W := ⟨_, rfl⟩
      rw [← hS] at hN2 su sp
      clear hN s11
      refine zz_gsn 3 rfl ?_
      refine zz_cv (n := 3) rfl rfl (t_Mo_of (s := 122) (k := 11) (by decide) (by decide)) (Nat.le_of_ble_eq_true rfl) (Nat.le_of_ble_eq_true rfl) (Nat.le_of_ble_eq_true rfl) (fun r18 σ18 q18 => ?_)
      obtain ⟨rfl, rfl⟩ := q18
      rw [e11]
      refine zz_br rfl (fun h19 => absurd h19 (by clear hN2 le2; omega)) (fun h19 => ?_)
      refine zz_gsn 6 rfl ?_
      refine zz_cv (n := 5) rfl rfl (t_Mo_deeds (s := 122) (t := 123) (mk := -1) (kind := 1) (x := 0) hP (by decide) (by decide) (by decide) ((hF.1 1205 (Or.inr (Or.inl rfl)) (by decide)).trans hl5) ((hF.1 1206 (Or.inr (Or.inr (Or.inl rfl))) (by decide)).trans hl6) hI.1 (by clear hN2 le2 su sp; omega) hC (by decide) (fun _ => by decide) ((fun _ => hp)) (by have := hI.2.2; clear hN2 le2 su sp; omega)) (Nat.le_of_ble_eq_true rfl) (Nat.le_of_ble_eq_true rfl) (Nat.le_of_ble_eq_true rfl) (fun r26 σ26 q26 => ?_)
      obtain ⟨rfl, p26, g26, b1_26, b2_26⟩ := q26
      rw [← hS]
      refine zz_gsn 5 rfl ?_
      refine zz_cv (n := 3) rfl rfl (t_Mo_copies (s := 123) (t := 122) (by decide) (by decide) (by decide)) (Nat.le_of_ble_eq_true rfl) (Nat.le_of_ble_eq_true rfl) (Nat.le_of_ble_eq_true rfl) (fun r32 σ32 q32 => ?_)
      obtain ⟨rfl, u32, v32, w32⟩ := q32
      obtain ⟨P32, -⟩ := p26.copy u32 v32 w32
      have F32 : Fx m n0 σ0 σ32 := (hF.tr (g26.x hI.2.1 (by decide))).tr (cp_x v32 w32 (by decide))
      refine zz_jp rfl ?_
      rw [show zw (acc + S) = acc + S from zw_id (by clear hN2 le2; omega) (by clear hN2 le2; omega)]
      exact ih (i + 1) _ (acc + S) σ32 (by clear hN2 le2; omega) le2 (by rw [← hN2, Int.add_assoc]) (by clear hN2 le2; omega) (by clear hN2 le2; omega) hI2 P32 F32
    · have e : acc = N := by rw [← hN, show r_sum law C (r + 1) W = 0 from if_neg hp, Int.add_zero]
      rw [← e] at kk
      refine zz_gsn 3 rfl ?_
      refine zz_cv (n := 3) rfl rfl (t_Mo_of (s := 122) (k := 11) (by decide) (by decide)) (Nat.le_of_ble_eq_true rfl) (Nat.le_of_ble_eq_true rfl) (Nat.le_of_ble_eq_true rfl) (fun r18 σ18 q18 => ?_)
      obtain ⟨rfl, rfl⟩ := q18
      rw [e11]
      refine zz_br rfl (fun h19 => ?_) (fun h19 => absurd h19 (by clear hN; omega))
      refine zz_gsn 4 rfl ?_
      refine zz_ri rfl (Or.inl rfl) ?_
      exact kk σ hF
theorem t_Mo_drain {X : zz_X} {σ : zz_M} {m : Nat} {G : zz_J} {v : Int} (hG : RG σ m G) (ok : g_ok G) : zz_T X 6 p_Mo_drain [zP 12 0 0 m, zI v] σ (fun r σ' => r = some (zI (a_drain G v)) ∧ RG σ' m G ∧ zz_F (A_rf m) σ σ') := by
  refine zz_mk k_Mo_drain o_Mo_drain rfl rfl (Nat.le_of_ble_eq_true rfl) ?_
  show zz_G X 6 p_Mo_drain 0 [zP 12 0 0 m, zI v, zU, zU] [] σ _
  obtain ⟨hI, hT, hO, hF, hM, h10⟩ := id hG
  obtain ⟨⟨ho, hfx⟩, okt, oko, okm⟩ := id ok
  have hk6 := ho.1.2.2.1
  rcases Classical.em (vz G.I.ho G.I.k v) with hv | hv
  · obtain ⟨w, rfl⟩ : ∃ w : Nat, v = (w : Nat) := ⟨v.toNat, by omega⟩
    obtain ⟨z0, w1, w2⟩ := id hv
    obtain ⟨hone, ⟨q1, q2, q3, q4⟩, hV⟩ := ri_y hI z0
    obtain ⟨⟨r1, r2, r3⟩, r4, r5, r6, r7⟩ := id hV
    have hw1 : w ≤ G.I.k := by omega
    obtain ⟨hS, hq1, hq2⟩ := r4 w hw1
    have hCC := (i_ho ho z0).2
    have hbz : r_bd G.I.law w (IH G.I).n 0 (hw (IH G.I) w) := r_bd.z ho.1 hw1
    refine zz_gsn 2 rfl ?_
    refine zz_cv (n := 2) rfl rfl (t_Mo_isVersion) (Nat.le_of_ble_eq_true rfl) (Nat.le_of_ble_eq_true rfl) (Nat.le_of_ble_eq_true rfl) (fun r2 σ2 q2 => ?_)
    obtain ⟨rfl, n2, rfl, e2⟩ := q2
    replace e2 := rv_of hI ho e2
    replace e2 : n2 = 1 := e2.elim (fun z => z.1) (fun z => absurd hv z.2)
    refine zz_br rfl (fun h3 => ?_) (fun h3 => absurd (by first | exact h3 | exact Decidable.not_not.mp h3) (show n2 ≠ 0 by omega))
    refine zz_gsn 8 rfl ?_
    refine zz_cv (n := 3) rfl rfl (t_Mo_copies (s := w) (t := 122) (by omega) (by decide) (by omega)) (Nat.le_of_ble_eq_true rfl) (Nat.le_of_ble_eq_true rfl) (Nat.le_of_ble_eq_true rfl) (fun r14 σ14 q14 => ?_)
    obtain ⟨rfl, u14, v14, w14⟩ := q14
    obtain ⟨P14, -⟩ := hS.copy u14 v14 w14
    have F14 : Fx m (IH G.I).n σ σ14 := cp_x v14 w14 (by decide)
    have h60 : (hw (IH G.I) w).S 11 ≤ (60 : Nat) := Int.le_trans hbz.1.2.2 (by omega)
    refine lp_rdrain (n0 := (IH G.I).n) (B0 := w) (law := G.I.law) (C := G.I.C) (N := r_sum G.I.law G.I.C 60 (hw (IH G.I) w)) (σ0 := σ) ⟨hCC.1, hCC.2.1⟩ (by omega) r1 r2 (fun σ' F => ?_) 60 0 _ 0 σ14 rfl h60 (Int.zero_add _) (Int.le_refl _) (Int.le_refl _) hbz P14 F14
    obtain ⟨R, Z⟩ := F.cl
    exact ⟨congrArg (fun z => some (zI z)) (if_pos hv).symm, Fr.RG hG ok R, Z⟩
  · refine zz_gsn 2 rfl ?_
    refine zz_cv (n := 2) rfl rfl (t_Mo_isVersion) (Nat.le_of_ble_eq_true rfl) (Nat.le_of_ble_eq_true rfl) (Nat.le_of_ble_eq_true rfl) (fun r2 σ2 q2 => ?_)
    obtain ⟨rfl, n2, rfl, e2⟩ := q2
    replace e2 := rv_of hI ho e2
    replace e2 : n2 = 0 := e2.elim (fun z => absurd z.2 hv) (fun z => z.1)
    refine zz_br rfl (fun h3 => absurd e2 h3) (fun h3 => ?_)
    refine zz_gsn 1 rfl ?_
    refine zz_ri rfl (Or.inl rfl) ?_
    exact ⟨congrArg (fun z => some (zI z)) (if_neg hv).symm, hG, zz_F.rf⟩
