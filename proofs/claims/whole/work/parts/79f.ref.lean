/-! the reference: held, lost -/
theorem lp_rheld {X : zz_X} {m N : Nat} {G : zz_J} {σ0 : zz_M} {Post : Option zz_V → zz_M → Prop} (hG : RG σ0 m G) (ok : g_ok G) (hh0 : G.I.ho ≠ 0) (hN : N < 9223372036854775808) (kk : ∀ (σ' : zz_M) (y : Int), MT σ0 σ' m (gW G).n (z_ab (g_hs G N (G.I.k + 1)) z_no) → zz_G X 3 p_Mo_held 37 [zP 12 0 0 m, zL (N : Nat), zU, zI y] [] σ' Post) :
    ∀ (r j : Nat) (σ : zz_M), j + r = G.I.k + 1 → MT σ0 σ m (gW G).n (z_ab (g_hs G N j) z_no) → zz_G X 3 p_Mo_held 19 [zP 12 0 0 m, zL (N : Nat), zU, zI (j : Nat)] [] σ Post := by
  intro r
  have ho := ok.1.1
  have hk6 := ho.1.2.2.1
  obtain ⟨⟨r1, r2, r3⟩, r4, r5, r6, r7⟩ := (ri_y hG.1 hh0).2.2
  have hn0 : (IH G.I).n ≤ 20000 := h_n2 ho
  induction r with
  | zero =>
    intro j σ hj hM
    obtain rfl : j = G.I.k + 1 := hj
    have e3 : σ.1 1215 m = ((G.I.k + 1 : Nat) : Int) := ((hM.1 m (by omega)).1 1215).trans r3
    refine zz_gsn 3 rfl ?_
    refine zz_br rfl (fun h22 => ?_) (fun h22 => absurd h22 (by rw [e3]; omega))
    exact kk σ _ hM
  | succ r ih =>
    intro j σ hj hM
    have hjk : j ≤ G.I.k := by omega
    have e3 : σ.1 1215 m = ((G.I.k + 1 : Nat) : Int) := ((hM.1 m (by omega)).1 1215).trans r3
    have hS := (r4 j hjk).1
    refine zz_gsn 3 rfl ?_
    refine zz_br rfl (fun h22 => absurd h22 (by rw [e3]; omega)) (fun h22 => ?_)
    refine zz_gsn 7 rfl ?_
    refine zz_br rfl (fun h30 => ?_) (fun h30 => ?_)
    · refine zz_gsn 1 rfl ?_
      refine zz_jp rfl ?_
      have hb : ¬ N / 2 ^ j % 2 = 1 := fun y => h30 ((zl_bit1 (j := j) (by omega) hN).mpr y)
      have e : g_hs G N (j + 1) = g_hs G N j := if_neg hb
      rw [zw_s (by omega)]
      exact ih (j + 1) σ (by omega) (by rw [e]; exact hM)
    · refine zz_gsn 3 rfl ?_
      refine zz_cv (n := 3) rfl rfl (t_Mo_marks (w := j) (mk := 1) (W := hw (IH G.I) j) (g := fun A => z_ab A z_no) (A0 := g_hs G N j) (fun A c => z_ab_1 A _ c) (fun A c x h => z_ab_n1 A _ h) (hM.mp hS) (by omega) hn0 (fun c hc => hM.2 c hc)) (Nat.le_of_ble_eq_true rfl) (Nat.le_of_ble_eq_true rfl) (Nat.le_of_ble_eq_true rfl) (fun r34 σ34 q34 => ?_)
      obtain ⟨rfl, N34⟩ := q34
      have M34 : MT σ0 σ34 m (gW G).n (z_ab (zm_st (g_hs G N j) (hw (gW G) j) 6) z_no) := hM.tr N34
      refine zz_gsn 1 rfl ?_
      refine zz_jp rfl ?_
      have hb : N / 2 ^ j % 2 = 1 := (zl_bit1 (j := j) (by omega) hN).mp (by first | exact h30 | exact Decidable.not_not.mp h30)
      have e : g_hs G N (j + 1) = zm_st (g_hs G N j) (hw (gW G) j) 6 := if_pos hb
      rw [zw_s (by omega)]
      exact ih (j + 1) σ34 (by omega) (by rw [e]; exact M34)
theorem t_Mo_held {X : zz_X} {σ : zz_M} {m : Nat} {G : zz_J} {s : Int} (hG : RG σ m G) (ok : g_ok G) (hs : -9223372036854775808 ≤ s ∧ s < 9223372036854775808) : zz_T X 3 p_Mo_held [zP 12 0 0 m, zL s] σ (fun r σ' => r = some (zI (a_held G s)) ∧ RG σ' m G ∧ zz_F (A_rf m) σ σ') := by
  refine zz_mk k_Mo_held o_Mo_held rfl rfl (Nat.le_of_ble_eq_true rfl) ?_
  show zz_G X 3 p_Mo_held 0 [zP 12 0 0 m, zL s, zU, zU] [] σ _
  obtain ⟨hI, hT, hO, hF, hM, h10⟩ := id hG
  obtain ⟨⟨ho, hfx⟩, okt, oko, okm⟩ := id ok
  have hk6 := ho.1.2.2.1
  rcases (show (G.I.ho = 1 ∧ 0 ≤ s ∧ s < ((2 ^ (G.I.k + 1) : Nat) : Int)) ∨ (G.I.ho = 0 ∧ ¬ (G.I.ho = 1 ∧ 0 ≤ s ∧ s < ((2 ^ (G.I.k + 1) : Nat) : Int))) ∨ (G.I.ho = 1 ∧ ¬ (G.I.ho = 1 ∧ 0 ≤ s ∧ s < ((2 ^ (G.I.k + 1) : Nat) : Int))) from by rcases (i_tk ok.1.1).2.2 with h | h <;> rcases Classical.em (G.I.ho = 1 ∧ 0 ≤ s ∧ s < ((2 ^ (G.I.k + 1) : Nat) : Int)) with h2 | h2 <;> first | exact Or.inl h2 | exact Or.inr (Or.inl ⟨h, h2⟩) | exact Or.inr (Or.inr ⟨h, h2⟩)) with hv | ⟨hh0, hv⟩ | ⟨hh1, hv⟩
  · obtain ⟨hh1, hs0, hs1⟩ := id hv
    obtain ⟨N, rfl⟩ : ∃ N : Nat, s = (N : Nat) := ⟨s.toNat, by omega⟩
    have z0 : G.I.ho ≠ 0 := by rw [hh1]; decide
    obtain ⟨hone, ⟨q1, q2, q3, q4⟩, hV⟩ := ri_y hI z0
    obtain ⟨⟨r1, r2, r3⟩, r4, r5, r6, r7⟩ := id hV
    obtain ⟨hS, -⟩ := r4 0 (Nat.zero_le _)
    obtain ⟨p0, p1⟩ := zl_p62 (y := G.I.k + 1) (by omega)
    have hNP : N < 2 ^ (G.I.k + 1) := Int.ofNat_lt.mp hs1
    have hc0 : σ.1 1203 m = ((IH G.I).n : Nat) := hS.2.2.1.1
    have hn0 : (IH G.I).n ≤ 20000 := h_n2 ho
    refine zz_gsn 1 rfl ?_
    refine zz_cv (n := 1) rfl rfl (t_Mo_isHouse) (Nat.le_of_ble_eq_true rfl) (Nat.le_of_ble_eq_true rfl) (Nat.le_of_ble_eq_true rfl) (fun r1 σ1 q1 => ?_)
    obtain ⟨rfl, n1, rfl, e1⟩ := q1
    replace e1 := rh_of hI e1
    replace e1 : n1 = 1 := e1.elim (fun z => z.1) (fun z => absurd (hh1.symm.trans z.2) (by decide))
    refine zz_br rfl (fun h2 => absurd (e1.symm.trans h2) (by decide)) (fun h2 => ?_)
    refine zz_gsn 8 rfl ?_
    rw [r3]
    refine zz_ste (st' := [zL ((2 ^ (G.I.k + 1) - 1 : Nat) : Int), zL 0, zL (N : Nat)]) (congrArg (fun z : Int => ([zL z, zL 0, zL (N : Nat)] : List zz_V)) (zl_m1' (y := G.I.k + 1) (by omega))) ?_
    refine zz_cs (n := 3) rfl rfl (t_Mo_in) (Nat.le_of_ble_eq_true rfl) (Nat.le_of_ble_eq_true rfl) (Nat.le_of_ble_eq_true rfl) (fun r11 σ11 q11 => ?_)
    obtain ⟨rfl, n11, rfl, e11⟩ := q11
    refine zz_br rfl (fun h12 => ?_) (fun h12 => absurd (by first | exact h12 | exact Decidable.not_not.mp h12) (show n11 ≠ 0 by omega))
    refine zz_gsn 1 rfl ?_
    refine zz_cv (n := 1) rfl rfl (t_Mo_forgets (n := (IH G.I).n) hc0 hn0) (Nat.le_of_ble_eq_true rfl) (Nat.le_of_ble_eq_true rfl) (Nat.le_of_ble_eq_true rfl) (fun r16 σ16 q16 => ?_)
    obtain ⟨rfl, M16⟩ := q16
    refine zz_gsn 2 rfl ?_
    refine lp_rheld (N := N) (σ0 := σ) hG ok z0 (by omega) (fun σ' y M => ?_) (G.I.k + 1) 0 σ16 (Nat.zero_add _) M16
    refine zz_gsn 2 rfl ?_
    refine zz_cv (n := 2) rfl rfl (t_Mo_marked (n := (IH G.I).n) (f := z_ab (g_hs G N (G.I.k + 1)) z_no) (((M.1 m (by omega)).1 1203).trans hc0) hn0 M.2) (Nat.le_of_ble_eq_true rfl) (Nat.le_of_ble_eq_true rfl) (Nat.le_of_ble_eq_true rfl) (fun r39 σ39 q39 => ?_)
    obtain ⟨rfl, rfl⟩ := q39
    refine zz_ri rfl (Or.inl rfl) ?_
    exact ⟨congrArg (fun z => some (zI z)) ((z_eq_1 _ _).trans (if_pos hv).symm), M.rg hG ok⟩
  · refine zz_gsn 1 rfl ?_
    refine zz_cv (n := 1) rfl rfl (t_Mo_isHouse) (Nat.le_of_ble_eq_true rfl) (Nat.le_of_ble_eq_true rfl) (Nat.le_of_ble_eq_true rfl) (fun r1 σ1 q1 => ?_)
    obtain ⟨rfl, n1, rfl, e1⟩ := q1
    replace e1 := rh_of hI e1
    replace e1 : n1 = 0 := e1.elim (fun z => absurd (hh0.symm.trans z.2) (by decide)) (fun z => z.1)
    refine zz_br rfl (fun h2 => ?_) (fun h2 => absurd e1 h2)
    refine zz_gsn 1 rfl ?_
    refine zz_ri rfl (Or.inl rfl) ?_
    exact ⟨congrArg (fun z => some (zI z)) (if_neg hv).symm, hG, zz_F.rf⟩
  · have z0 : G.I.ho ≠ 0 := by rw [hh1]; decide
    obtain ⟨hone, ⟨q1, q2, q3, q4⟩, hV⟩ := ri_y hI z0
    obtain ⟨⟨r1, r2, r3⟩, r4, r5, r6, r7⟩ := id hV
    obtain ⟨p0, p1⟩ := zl_p62 (y := G.I.k + 1) (by omega)
    refine zz_gsn 1 rfl ?_
    refine zz_cv (n := 1) rfl rfl (t_Mo_isHouse) (Nat.le_of_ble_eq_true rfl) (Nat.le_of_ble_eq_true rfl) (Nat.le_of_ble_eq_true rfl) (fun r1 σ1 q1 => ?_)
    obtain ⟨rfl, n1, rfl, e1⟩ := q1
    replace e1 := rh_of hI e1
    replace e1 : n1 = 1 := e1.elim (fun z => z.1) (fun z => absurd (hh1.symm.trans z.2) (by decide))
    refine zz_br rfl (fun h2 => absurd (e1.symm.trans h2) (by decide)) (fun h2 => ?_)
    refine zz_gsn 8 rfl ?_
    rw [r3]
    refine zz_ste (st' := [zL ((2 ^ (G.I.k + 1) - 1 : Nat) : Int), zL 0, zL s]) (congrArg (fun z : Int => ([zL z, zL 0, zL s] : List zz_V)) (zl_m1' (y := G.I.k + 1) (by omega))) ?_
    refine zz_cs (n := 3) rfl rfl (t_Mo_in) (Nat.le_of_ble_eq_true rfl) (Nat.le_of_ble_eq_true rfl) (Nat.le_of_ble_eq_true rfl) (fun r11 σ11 q11 => ?_)
    obtain ⟨rfl, n11, rfl, e11⟩ := q11
    refine zz_br rfl (fun h12 => absurd ⟨hh1, by omega, by omega⟩ hv) (fun h12 => ?_)
    refine zz_gsn 1 rfl ?_
    refine zz_ri rfl (Or.inl rfl) ?_
    exact ⟨congrArg (fun z => some (zI z)) (if_neg hv).symm, hG, zz_F.rf⟩
theorem t_Mo_lost {X : zz_X} {σ : zz_M} {m : Nat} {G : zz_J} (hG : RG σ m G) (ok : g_ok G) : zz_T X 4 p_Mo_lost [zP 12 0 0 m] σ (fun r σ' => r = some (zI (a_lost G)) ∧ RG σ' m G ∧ zz_F (A_rf m) σ σ') := by
  refine zz_mk k_Mo_lost o_Mo_lost rfl rfl (Nat.le_of_ble_eq_true rfl) ?_
  show zz_G X 4 p_Mo_lost 0 [zP 12 0 0 m] [] σ _
  obtain ⟨hI, hT, hO, hF, hM, h10⟩ := id hG
  obtain ⟨⟨ho, hfx⟩, okt, oko, okm⟩ := id ok
  have hk6 := ho.1.2.2.1
  rcases (i_tk ok.1.1).2.2 with hh0 | hh1
  · refine zz_gsn 1 rfl ?_
    refine zz_cv (n := 1) rfl rfl (t_Mo_isHouse) (Nat.le_of_ble_eq_true rfl) (Nat.le_of_ble_eq_true rfl) (Nat.le_of_ble_eq_true rfl) (fun r1 σ1 q1 => ?_)
    obtain ⟨rfl, n1, rfl, e1⟩ := q1
    replace e1 := rh_of hI e1
    replace e1 : n1 = 0 := e1.elim (fun z => absurd (hh0.symm.trans z.2) (by decide)) (fun z => z.1)
    refine zz_br rfl (fun h2 => ?_) (fun h2 => absurd e1 h2)
    refine zz_gsn 1 rfl ?_
    refine zz_ri rfl (Or.inl rfl) ?_
    exact ⟨congrArg (fun z => some (zI z)) (if_neg (by rw [hh0]; decide)).symm, hG, zz_F.rf⟩
  · have z0 : G.I.ho ≠ 0 := by rw [hh1]; decide
    obtain ⟨hone, ⟨q1, q2, q3, q4⟩, hV⟩ := ri_y hI z0
    obtain ⟨⟨r1, r2, r3⟩, r4, r5, r6, r7⟩ := id hV
    obtain ⟨p0, p1⟩ := zl_p62 (y := G.I.k + 1) (by omega)
    obtain ⟨hS, -⟩ := r4 0 (Nat.zero_le _)
    have hc0 : σ.1 1203 m = ((IH G.I).n : Nat) := hS.2.2.1.1
    have hn0 : (IH G.I).n ≤ 20000 := h_n2 ho
    refine zz_gsn 1 rfl ?_
    refine zz_cv (n := 1) rfl rfl (t_Mo_isHouse) (Nat.le_of_ble_eq_true rfl) (Nat.le_of_ble_eq_true rfl) (Nat.le_of_ble_eq_true rfl) (fun r1 σ1 q1 => ?_)
    obtain ⟨rfl, n1, rfl, e1⟩ := q1
    replace e1 := rh_of hI e1
    replace e1 : n1 = 1 := e1.elim (fun z => z.1) (fun z => absurd (hh1.symm.trans z.2) (by decide))
    refine zz_br rfl (fun h2 => absurd (e1.symm.trans h2) (by decide)) (fun h2 => ?_)
    refine zz_gsn 9 rfl ?_
    rw [r3, hc0]
    refine zz_ste (st' := [zL ((2 ^ (G.I.k + 1) - 1 : Nat) : Int), zP 12 0 0 m, zI ((IH G.I).n : Nat)]) (congrArg (fun z : Int => ([zL z, zP 12 0 0 m, zI ((IH G.I).n : Nat)] : List zz_V)) (zl_m1' (y := G.I.k + 1) (by omega))) ?_
    refine zz_cv (n := 2) rfl rfl (t_Mo_held (s := ((2 ^ (G.I.k + 1) - 1 : Nat) : Int)) hG ok ⟨by omega, by omega⟩) (Nat.le_of_ble_eq_true rfl) (Nat.le_of_ble_eq_true rfl) (Nat.le_of_ble_eq_true rfl) (fun r12 σ12 q12 => ?_)
    obtain ⟨rfl, p12, g12⟩ := q12
    refine zz_gsn 1 rfl ?_
    refine zz_jp rfl ?_
    refine zz_ri rfl (Or.inl rfl) ?_
    refine ⟨congrArg (fun z => some (zI z)) (Eq.trans ?_ (if_pos hh1).symm), p12, g12⟩
    have b1 := g_Nb ok (g_hs G (2 ^ (G.I.k + 1) - 1) (G.I.k + 1))
    have b2 : (gW G).n ≤ 1890 := h_nn ho
    have b3 : a_held G ((2 ^ (G.I.k + 1) - 1 : Nat) : Int) = g_N G (g_hs G (2 ^ (G.I.k + 1) - 1) (G.I.k + 1)) := if_pos ⟨hh1, by omega, by omega⟩
    rw [b3]
    exact zw_id (x := ((gW G).n : Nat) - g_N G (g_hs G (2 ^ (G.I.k + 1) - 1) (G.I.k + 1))) (by omega) (by omega)
