/-! the class: what versions hold together -/
theorem h_nn {I : zz_I} (ho : i_ok I) : (IH I).n ≤ 1890 := h_nb (h_inv ho.1) ho.1.2.2.1
theorem g_Nb {G : zz_J} (ok : g_ok G) (A : Nat → Bool) : 0 ≤ g_N G A ∧ g_N G A ≤ 1890 := by
  have z := zm_N_b (mkr := (gW G).mkr) (mk := -1) (n := (gW G).n) (A := A)
  have h : (gW G).n ≤ 1890 := h_nn ok.1.1
  show 0 ≤ zm_N (gW G).mkr (-1) (gW G).n A ∧ zm_N (gW G).mkr (-1) (gW G).n A ≤ 1890
  omega
theorem g_N0 (G : zz_J) : g_N G (fun _ => false) = 0 := zm_N0 _
theorem t_TQ_shares {X : zz_X} {σ : zz_M} {b : Nat} {B : Int} {G : zz_J} {v w : Int} (hG : CG σ b B G) (ok : g_ok G) (hB : B ≤ 900000) : zz_T X 5 p_TQ_shares [zP 11 0 0 b, zI v, zI w] σ (fun r σ' => r = some (zI (a_shares G v w)) ∧ CG σ' b (B + 3) G ∧ zz_F (A_cl b) σ σ') := by
  refine zz_mk k_TQ_shares o_TQ_shares rfl rfl (Nat.le_of_ble_eq_true rfl) ?_
  show zz_G X 5 p_TQ_shares 0 [zP 11 0 0 b, zI v, zI w, zU, zU, zU] [] σ _
  obtain ⟨hH, hBt, hBo, hft, him, hmk, htr⟩ := id hG
  obtain ⟨⟨ho, hfx⟩, okt, oko, okm⟩ := id ok
  obtain ⟨hD, hV⟩ := id hH
  obtain ⟨d1, d2, d3, d4, dR⟩ := id hD
  obtain ⟨d5, d6, d7⟩ := id dR
  rcases (show (vz G.I.ho G.I.k v ∧ vz G.I.ho G.I.k w) ∨ (¬ vz G.I.ho G.I.k v ∧ vz G.I.ho G.I.k w) ∨ (¬ vz G.I.ho G.I.k v ∧ ¬ vz G.I.ho G.I.k w) ∨ (vz G.I.ho G.I.k v ∧ ¬ vz G.I.ho G.I.k w) from by rcases Classical.em (vz G.I.ho G.I.k v) with h | h <;> rcases Classical.em (vz G.I.ho G.I.k w) with h2 | h2 <;> first | exact Or.inl ⟨h, h2⟩ | exact Or.inr (Or.inl ⟨h, h2⟩) | exact Or.inr (Or.inr (Or.inl ⟨h, h2⟩)) | exact Or.inr (Or.inr (Or.inr ⟨h, h2⟩))) with hv | ⟨hvv, hww⟩ | ⟨hvv, hww⟩ | ⟨hvv, hww⟩
  · obtain ⟨hv1, hv2⟩ := id hv
    obtain ⟨v1, rfl⟩ : ∃ z : Nat, v = (z : Nat) := ⟨v.toNat, by have := hv1.2.1; omega⟩
    obtain ⟨w1, rfl⟩ : ∃ z : Nat, w = (z : Nat) := ⟨w.toNat, by have := hv2.2.1; omega⟩
    have hvl : v1 ≤ G.I.k := by have := hv1.2.2; omega
    have hwl : w1 ≤ G.I.k := by have := hv2.2.2; omega
    obtain ⟨hS, -⟩ := hV.2.2.1 v1 hvl
    obtain ⟨hS2, -⟩ := hV.2.2.1 w1 hwl
    refine zz_gsn 3 rfl ?_
    refine zz_cv (n := 2) rfl rfl (t_History_stateOf_y (v := v1) hD hv1) (Nat.le_of_ble_eq_true rfl) (Nat.le_of_ble_eq_true rfl) (Nat.le_of_ble_eq_true rfl) (fun r3 σ3 q3 => ?_)
    obtain ⟨rfl, rfl⟩ := q3
    refine zz_gsn 4 rfl ?_
    refine zz_cv (n := 2) rfl rfl (t_History_stateOf_y (v := w1) hD hv2) (Nat.le_of_ble_eq_true rfl) (Nat.le_of_ble_eq_true rfl) (Nat.le_of_ble_eq_true rfl) (fun r8 σ8 q8 => ?_)
    obtain ⟨rfl, rfl⟩ := q8
    refine zz_gsn 2 rfl ?_
    refine zz_jp rfl ?_
    refine zz_gsn 1 rfl ?_
    refine zz_jp rfl ?_
    refine zz_gsn 3 rfl ?_
    refine zz_cv (n := 1) rfl rfl (t_Cells_unmarkAll) (Nat.le_of_ble_eq_true rfl) (Nat.le_of_ble_eq_true rfl) (Nat.le_of_ble_eq_true rfl) (fun r19 σ19 q19 => ?_)
    obtain ⟨rfl, h19⟩ := q19
    have M19 : MKs σ σ19 b (fun _ => false) := MKs.z hG (by omega) h19
    refine zz_gsn 5 rfl ?_
    refine zz_cv (n := 3) rfl rfl (t_Cells_markState (p := 1890) (m := b + 16) (s := b + 11 + 22 + 9 * v1) (mk := -1) (W := hw (IH G.I) v1) (A := fun _ => false) (M19.sp (s := b + 11 + 22 + 9 * v1) hS (Or.inl (by omega))) (by decide) (by decide) (Or.inl (by omega)) (h_ml ho (by omega)) M19.2.2.2.2) (Nat.le_of_ble_eq_true rfl) (Nat.le_of_ble_eq_true rfl) (Nat.le_of_ble_eq_true rfl) (fun r25 σ25 q25 => ?_)
    obtain ⟨rfl, m25, g25⟩ := q25
    replace m25 : MKR σ25 (b + 17) 1890 (zm_st (fun _ => false) (hw (IH G.I) v1) 6) := m25
    have M25 := M19.add m25 g25
    refine zz_gsn 5 rfl ?_
    refine zz_cv (n := 3) rfl rfl (t_Cells_markState (p := 1890) (m := b + 16) (s := b + 11 + 22 + 9 * w1) (mk := -1) (W := hw (IH G.I) w1) (A := zm_st (fun _ => false) (hw (IH G.I) v1) 6) (M25.sp (s := b + 11 + 22 + 9 * w1) hS2 (Or.inl (by omega))) (by decide) (by decide) (Or.inl (by omega)) (h_ml ho (by omega)) M25.2.2.2.2) (Nat.le_of_ble_eq_true rfl) (Nat.le_of_ble_eq_true rfl) (Nat.le_of_ble_eq_true rfl) (fun r31 σ31 q31 => ?_)
    obtain ⟨rfl, m31, g31⟩ := q31
    replace m31 : MKR σ31 (b + 17) 1890 (zm_st (zm_st (fun _ => false) (hw (IH G.I) v1) 6) (hw (IH G.I) w1) 6) := m31
    have M31 := M25.add m31 g31
    refine zz_gsn 4 rfl ?_
    refine zz_cv (n := 2) rfl rfl (t_TQ_holds (v := (v1 : Nat)) (hG.mk M31) ok (by omega)) (Nat.le_of_ble_eq_true rfl) (Nat.le_of_ble_eq_true rfl) (Nat.le_of_ble_eq_true rfl) (fun r36 σ36 q36 => ?_)
    obtain ⟨rfl, c36, f36⟩ := q36
    refine zz_gsn 2 rfl ?_
    refine zz_cv (n := 2) rfl rfl (t_TQ_holds (v := (w1 : Nat)) c36 ok (by omega)) (Nat.le_of_ble_eq_true rfl) (Nat.le_of_ble_eq_true rfl) (Nat.le_of_ble_eq_true rfl) (fun r39 σ39 q39 => ?_)
    obtain ⟨rfl, c39, f39⟩ := q39
    refine zz_gsn 3 rfl ?_
    refine zz_ri rfl (Or.inl rfl) ?_
    refine ⟨congrArg (fun z => some (zI z)) (Eq.trans ?_ (if_pos hv).symm), c39.up (by omega), M31.cl.tr (f36.tr f39)⟩
    rw [show a_holds G (v1 : Nat) = g_N G (g_hb G v1) from if_pos hv1, show a_holds G (w1 : Nat) = g_N G (g_hb G w1) from if_pos hv2]
    show zw (zw (g_N G (g_hb G v1) + g_N G (g_hb G w1)) - zw (g_N G (g_hb G v1) - g_N G (fun _ => false) + (g_N G (zm_st (g_hb G v1) (hw (gW G) w1) 6) - g_N G (g_hb G v1)))) = g_N G (fun c => g_hb G v1 c && g_hb G w1 c)
    have ie : g_N G (g_hb G v1) + g_N G (g_hb G w1) = g_N G (zm_st (g_hb G v1) (hw (gW G) w1) 6) + g_N G (fun c => g_hb G v1 c && g_hb G w1 c) := zm_ie (fun c => zm_or 6 c) (fun c => rfl) (gW G).n
    rw [g_N0]
    have b1 := g_Nb ok (g_hb G v1)
    have b2 := g_Nb ok (g_hb G w1)
    have b3 := g_Nb ok (zm_st (g_hb G v1) (hw (gW G) w1) 6)
    obtain ⟨x1, e1⟩ : ∃ x, x = g_N G (g_hb G v1) := ⟨_, rfl⟩
    obtain ⟨x2, e2⟩ : ∃ x, x = g_N G (g_hb G w1) := ⟨_, rfl⟩
    obtain ⟨x3, e3⟩ : ∃ x, x = g_N G (zm_st (g_hb G v1) (hw (gW G) w1) 6) := ⟨_, rfl⟩
    rw [← e1, ← e2, ← e3] at ie ⊢
    rw [← e1] at b1
    rw [← e2] at b2
    rw [← e3] at b3
    clear e1 e2 e3
    obtain ⟨x4, e4⟩ : ∃ x, x = g_N G (fun c => g_hb G v1 c && g_hb G w1 c) := ⟨_, rfl⟩
    rw [← e4] at ie ⊢
    clear e4
    rw [zw_id (x := x1 + x2) (by omega) (by omega), zw_id (x := x1 - 0 + (x3 - x1)) (by omega) (by omega), zw_id (by omega) (by omega)]
    omega
  · obtain ⟨w1, rfl⟩ : ∃ z : Nat, w = (z : Nat) := ⟨w.toNat, by have := hww.2.1; omega⟩
    refine zz_gsn 3 rfl ?_
    refine zz_cv (n := 2) rfl rfl (t_History_stateOf_n hD hvv) (Nat.le_of_ble_eq_true rfl) (Nat.le_of_ble_eq_true rfl) (Nat.le_of_ble_eq_true rfl) (fun r3 σ3 q3 => ?_)
    obtain ⟨rfl, rfl⟩ := q3
    refine zz_gsn 4 rfl ?_
    refine zz_cv (n := 2) rfl rfl (t_History_stateOf_y (v := w1) hD hww) (Nat.le_of_ble_eq_true rfl) (Nat.le_of_ble_eq_true rfl) (Nat.le_of_ble_eq_true rfl) (fun r8 σ8 q8 => ?_)
    obtain ⟨rfl, rfl⟩ := q8
    refine zz_gsn 2 rfl ?_
    refine zz_jp rfl ?_
    refine zz_gsn 1 rfl ?_
    refine zz_ri rfl (Or.inl rfl) ?_
    exact ⟨congrArg (fun z => some (zI z)) (if_neg (fun z => hvv z.1)).symm, hG.up (by omega), zz_F.rf⟩
  · refine zz_gsn 3 rfl ?_
    refine zz_cv (n := 2) rfl rfl (t_History_stateOf_n hD hvv) (Nat.le_of_ble_eq_true rfl) (Nat.le_of_ble_eq_true rfl) (Nat.le_of_ble_eq_true rfl) (fun r3 σ3 q3 => ?_)
    obtain ⟨rfl, rfl⟩ := q3
    refine zz_gsn 4 rfl ?_
    refine zz_cv (n := 2) rfl rfl (t_History_stateOf_n hD hww) (Nat.le_of_ble_eq_true rfl) (Nat.le_of_ble_eq_true rfl) (Nat.le_of_ble_eq_true rfl) (fun r8 σ8 q8 => ?_)
    obtain ⟨rfl, rfl⟩ := q8
    refine zz_gsn 2 rfl ?_
    refine zz_jp rfl ?_
    refine zz_gsn 1 rfl ?_
    refine zz_ri rfl (Or.inl rfl) ?_
    exact ⟨congrArg (fun z => some (zI z)) (if_neg (fun z => hvv z.1)).symm, hG.up (by omega), zz_F.rf⟩
  · obtain ⟨v1, rfl⟩ : ∃ z : Nat, v = (z : Nat) := ⟨v.toNat, by have := hvv.2.1; omega⟩
    refine zz_gsn 3 rfl ?_
    refine zz_cv (n := 2) rfl rfl (t_History_stateOf_y (v := v1) hD hvv) (Nat.le_of_ble_eq_true rfl) (Nat.le_of_ble_eq_true rfl) (Nat.le_of_ble_eq_true rfl) (fun r3 σ3 q3 => ?_)
    obtain ⟨rfl, rfl⟩ := q3
    refine zz_gsn 4 rfl ?_
    refine zz_cv (n := 2) rfl rfl (t_History_stateOf_n hD hww) (Nat.le_of_ble_eq_true rfl) (Nat.le_of_ble_eq_true rfl) (Nat.le_of_ble_eq_true rfl) (fun r8 σ8 q8 => ?_)
    obtain ⟨rfl, rfl⟩ := q8
    refine zz_gsn 2 rfl ?_
    refine zz_jp rfl ?_
    refine zz_gsn 1 rfl ?_
    refine zz_jp rfl ?_
    refine zz_gsn 1 rfl ?_
    refine zz_ri rfl (Or.inl rfl) ?_
    exact ⟨congrArg (fun z => some (zI z)) (if_neg (fun z => hww z.2)).symm, hG.up (by omega), zz_F.rf⟩
theorem lp_cheld {X : zz_X} {b N : Nat} {B : Int} {G : zz_J} {σ0 : zz_M} {Post : Option zz_V → zz_M → Prop} (hG : CG σ0 b B G) (ok : g_ok G) (hh1 : G.I.ho = 1) (hN : N < 9223372036854775808) (kk : ∀ σ', MKs σ0 σ' b (g_hs G N (G.I.k + 1)) → Post (some (zI (g_N G (g_hs G N (G.I.k + 1))))) σ') :
    ∀ (r j : Nat) (σ : zz_M), j + r = G.I.k + 1 → MKs σ0 σ b (g_hs G N j) → zz_G X 3 p_History_heldBySet 7 [zP 3 0 0 (b + 11), zL (N : Nat), zU, zI (g_N G (g_hs G N j)), zI (j : Nat)] [] σ Post := by
  intro r
  induction r with
  | zero =>
    intro j σ hj hM
    obtain rfl : j = G.I.k + 1 := hj
    have hD := (hG.mk hM).1.1
    refine zz_gsn 2 rfl ?_
    refine zz_br rfl (fun h9 => ?_) (fun h9 => ?_)
    · refine zz_gsn 1 rfl ?_
      refine zz_ri rfl (Or.inl rfl) ?_
      exact kk σ hM
    · refine zz_gsn 3 rfl ?_
      refine zz_cv (n := 2) rfl rfl (t_Deeds_hasVersion) (Nat.le_of_ble_eq_true rfl) (Nat.le_of_ble_eq_true rfl) (Nat.le_of_ble_eq_true rfl) (fun r13 σ13 q13 => ?_)
      obtain ⟨rfl, n13, rfl, e13⟩ := q13
      replace e13 := vz_of hD e13
      replace e13 : n13 = 0 := e13.elim (fun z => absurd z.2.2.2 (by omega)) (fun z => z.1)
      refine zz_br rfl (fun h14 => ?_) (fun h14 => absurd e13 h14)
      refine zz_gsn 1 rfl ?_
      refine zz_ri rfl (Or.inl rfl) ?_
      exact kk σ hM
  | succ r ih =>
    intro j σ hj hM
    have hjk : j ≤ G.I.k := by omega
    have ho := ok.1.1
    have hk6 := ho.1.2.2.1
    have hD := (hG.mk hM).1.1
    have hS := (hG.1.2.2.2.1 j hjk).1
    have hvj : vz G.I.ho G.I.k ((j : Nat) : Int) := ⟨by rw [hh1]; decide, by omega, by omega⟩
    refine zz_gsn 2 rfl ?_
    refine zz_br rfl (fun h9 => absurd h9 (by omega)) (fun h9 => ?_)
    refine zz_gsn 3 rfl ?_
    refine zz_cv (n := 2) rfl rfl (t_Deeds_hasVersion) (Nat.le_of_ble_eq_true rfl) (Nat.le_of_ble_eq_true rfl) (Nat.le_of_ble_eq_true rfl) (fun r13 σ13 q13 => ?_)
    obtain ⟨rfl, n13, rfl, e13⟩ := q13
    replace e13 := vz_of hD e13
    replace e13 : n13 = 1 := e13.elim (fun z => z.1) (fun z => absurd hvj z.2)
    refine zz_br rfl (fun h14 => absurd (e13.symm.trans h14) (by decide)) (fun h14 => ?_)
    refine zz_gsn 7 rfl ?_
    refine zz_br rfl (fun h22 => ?_) (fun h22 => ?_)
    · refine zz_gsn 1 rfl ?_
      refine zz_jp rfl ?_
      have hb := (zl_bit (j := j) (by omega) hN).mp h22
      have e : g_hs G N (j + 1) = g_hs G N j := if_neg hb
      rw [zw_s (by omega), ← e]
      exact ih (j + 1) σ (by omega) (by rw [e]; exact hM)
    · refine zz_gsn 6 rfl ?_
      refine zz_aad rfl (⟨by omega, by omega⟩) ?_
      refine zz_gsn 1 rfl ?_
      refine zz_cv (n := 3) rfl rfl (t_Cells_markState (p := 1890) (m := b + 16) (s := b + 11 + 22 + 9 * j) (mk := -1) (W := hw (IH G.I) j) (A := g_hs G N j) (hM.sp (s := b + 11 + 22 + 9 * j) hS (Or.inl (by omega))) (by decide) (by decide) (Or.inl (by omega)) (h_ml ho (by omega)) hM.2.2.2.2) (Nat.le_of_ble_eq_true rfl) (Nat.le_of_ble_eq_true rfl) (Nat.le_of_ble_eq_true rfl) (fun r31 σ31 q31 => ?_)
      obtain ⟨rfl, m31, g31⟩ := q31
      replace m31 : MKR σ31 (b + 17) 1890 (zm_st (g_hs G N j) (hw (IH G.I) j) 6) := m31
      have M31 := hM.add m31 g31
      refine zz_gsn 3 rfl ?_
      refine zz_jp rfl ?_
      have hb : N / 2 ^ j % 2 = 1 := Decidable.not_not.mp (fun y => h22 ((zl_bit (j := j) (by omega) hN).mpr y))
      have e : g_hs G N (j + 1) = zm_st (g_hs G N j) (hw (gW G) j) 6 := if_pos hb
      have b1 := g_Nb ok (g_hs G N j)
      have b2 := g_Nb ok (zm_st (g_hs G N j) (hw (gW G) j) 6)
      have ez : zw (g_N G (g_hs G N j) + (g_N G (zm_st (g_hs G N j) (hw (gW G) j) 6) - g_N G (g_hs G N j))) = g_N G (g_hs G N (j + 1)) := by
        rw [zw_id (by omega) (by omega), e]
        omega
      have ez2 : zw (g_N G (g_hs G N j) + (zm_N (hw (IH G.I) j).mkr (-1) (hw (IH G.I) j).n (zm_st (g_hs G N j) (hw (IH G.I) j) 6) - zm_N (hw (IH G.I) j).mkr (-1) (hw (IH G.I) j).n (g_hs G N j))) = g_N G (g_hs G N (j + 1)) := ez
      rw [zw_s (by omega), ez2]
      exact ih (j + 1) σ31 (by omega) (by rw [e]; exact M31)
theorem t_History_heldBySet {X : zz_X} {σ : zz_M} {b : Nat} {B : Int} {G : zz_J} {N : Nat} (hG : CG σ b B G) (ok : g_ok G) (hB : B ≤ 1000000) (hh1 : G.I.ho = 1) (hN : N < 9223372036854775808) : zz_T X 3 p_History_heldBySet [zP 3 0 0 (b + 11), zL (N : Nat)] σ (fun r σ' => r = some (zI (g_N G (g_hs G N (G.I.k + 1)))) ∧ CG σ' b (B + 1) G ∧ zz_F (A_cl b) σ σ') := by
  refine zz_mk k_History_heldBySet o_History_heldBySet rfl rfl (Nat.le_of_ble_eq_true rfl) ?_
  show zz_G X 3 p_History_heldBySet 0 [zP 3 0 0 (b + 11), zL (N : Nat), zU, zU, zU] [] σ _
  refine zz_gsn 4 rfl ?_
  refine zz_cv (n := 1) rfl rfl (t_Cells_unmarkAll) (Nat.le_of_ble_eq_true rfl) (Nat.le_of_ble_eq_true rfl) (Nat.le_of_ble_eq_true rfl) (fun r4 σ4 q4 => ?_)
  obtain ⟨rfl, h4⟩ := q4
  have M4 : MKs σ σ4 b (fun _ => false) := MKs.z hG (by omega) h4
  refine zz_gsn 2 rfl ?_
  have z0 := g_N0 G
  have z1 : zz_G X 3 p_History_heldBySet 7 [zP 3 0 0 (b + 11), zL (N : Nat), zU, zI (g_N G (g_hs G N 0)), zI (0 : Nat)] [] σ4 (fun r σ' => r = some (zI (g_N G (g_hs G N (G.I.k + 1)))) ∧ CG σ' b (B + 1) G ∧ zz_F (A_cl b) σ σ') := lp_cheld (σ0 := σ) hG ok hh1 hN (fun σ' M => ⟨rfl, hG.mk M, M.cl⟩) (G.I.k + 1) 0 σ4 (Nat.zero_add _) M4
  rw [show g_N G (g_hs G N 0) = 0 from z0] at z1
  exact z1
theorem t_History_heldByAll {X : zz_X} {σ : zz_M} {b : Nat} {B : Int} {G : zz_J} (hG : CG σ b B G) (ok : g_ok G) (hB : B ≤ 1000000) (hh1 : G.I.ho = 1) : zz_T X 4 p_History_heldByAll [zP 3 0 0 (b + 11)] σ (fun r σ' => r = some (zI (g_N G (g_hs G (2 ^ (G.I.k + 1) - 1) (G.I.k + 1)))) ∧ CG σ' b (B + 1) G ∧ zz_F (A_cl b) σ σ') := by
  refine zz_mk k_History_heldByAll o_History_heldByAll rfl rfl (Nat.le_of_ble_eq_true rfl) ?_
  show zz_G X 4 p_History_heldByAll 0 [zP 3 0 0 (b + 11)] [] σ _
  obtain ⟨hH, hBt, hBo, hft, him, hmk, htr⟩ := id hG
  obtain ⟨⟨ho, hfx⟩, okt, oko, okm⟩ := id ok
  obtain ⟨hD, hV⟩ := id hH
  obtain ⟨d1, d2, d3, d4, dR⟩ := id hD
  obtain ⟨d5, d6, d7⟩ := id dR
  obtain ⟨p0, p1⟩ := zl_p62 (y := G.I.k + 1) (by omega)
  refine zz_gsn 4 rfl ?_
  refine zz_cv (n := 1) rfl rfl (t_Deeds_versions) (Nat.le_of_ble_eq_true rfl) (Nat.le_of_ble_eq_true rfl) (Nat.le_of_ble_eq_true rfl) (fun r4 σ4 q4 => ?_)
  obtain ⟨rfl, n4, rfl, e4⟩ := q4
  replace e4 : n4 = ((G.I.k + 1 : Nat) : Int) := e4.elim (fun z => by rw [z.2, dR.1]; exact zw_s (by omega)) (fun z => absurd (d1.symm.trans z.1) (by rw [hh1]; decide))
  refine zz_gsn 3 rfl ?_
  rw [e4]
  refine zz_ste (st' := [zL ((2 ^ (G.I.k + 1) - 1 : Nat) : Int), zP 3 0 0 (b + 11)]) (congrArg (fun z : Int => ([zL z, zP 3 0 0 (b + 11)] : List zz_V)) (zl_m1' (y := G.I.k + 1) (by omega))) ?_
  refine zz_cv (n := 2) rfl rfl (t_History_heldBySet (N := 2 ^ (G.I.k + 1) - 1) hG ok hB hh1 (by omega)) (Nat.le_of_ble_eq_true rfl) (Nat.le_of_ble_eq_true rfl) (Nat.le_of_ble_eq_true rfl) (fun r8 σ8 q8 => ?_)
  obtain ⟨rfl, p8, g8⟩ := q8
  refine zz_ri rfl (Or.inl rfl) ?_
  exact ⟨rfl, p8, g8⟩
theorem t_TQ_held {X : zz_X} {σ : zz_M} {b : Nat} {B : Int} {G : zz_J} {s : Int} (hG : CG σ b B G) (ok : g_ok G) (hB : B ≤ 1000000) (hs : -9223372036854775808 ≤ s ∧ s < 9223372036854775808) : zz_T X 4 p_TQ_held [zP 11 0 0 b, zL s] σ (fun r σ' => r = some (zI (a_held G s)) ∧ CG σ' b (B + 1) G ∧ zz_F (A_cl b) σ σ') := by
  refine zz_mk k_TQ_held o_TQ_held rfl rfl (Nat.le_of_ble_eq_true rfl) ?_
  show zz_G X 4 p_TQ_held 0 [zP 11 0 0 b, zL s, zU] [] σ _
  obtain ⟨hH, hBt, hBo, hft, him, hmk, htr⟩ := id hG
  obtain ⟨⟨ho, hfx⟩, okt, oko, okm⟩ := id ok
  obtain ⟨hD, hV⟩ := id hH
  obtain ⟨d1, d2, d3, d4, dR⟩ := id hD
  obtain ⟨d5, d6, d7⟩ := id dR
  rcases (show (G.I.ho = 1 ∧ 0 ≤ s ∧ s < ((2 ^ (G.I.k + 1) : Nat) : Int)) ∨ (G.I.ho = 0 ∧ ¬ (G.I.ho = 1 ∧ 0 ≤ s ∧ s < ((2 ^ (G.I.k + 1) : Nat) : Int))) ∨ (G.I.ho = 1 ∧ ¬ (G.I.ho = 1 ∧ 0 ≤ s ∧ s < ((2 ^ (G.I.k + 1) : Nat) : Int))) from by rcases (i_tk ok.1.1).2.2 with h | h <;> rcases Classical.em (G.I.ho = 1 ∧ 0 ≤ s ∧ s < ((2 ^ (G.I.k + 1) : Nat) : Int)) with h2 | h2 <;> first | exact Or.inl h2 | exact Or.inr (Or.inl ⟨h, h2⟩) | exact Or.inr (Or.inr ⟨h, h2⟩)) with hv | ⟨hh0, hv⟩ | ⟨hh1, hv⟩
  · obtain ⟨hh1, hs0, hs1⟩ := id hv
    obtain ⟨N, rfl⟩ : ∃ N : Nat, s = (N : Nat) := ⟨s.toNat, by omega⟩
    obtain ⟨p0, p1⟩ := zl_p62 (y := G.I.k + 1) (by omega)
    have hNP : N < 2 ^ (G.I.k + 1) := Int.ofNat_lt.mp hs1
    refine zz_gsn 4 rfl ?_
    refine zz_br rfl (fun h4 => absurd (d1.symm.trans h4) (by rw [hh1]; decide)) (fun h4 => ?_)
    refine zz_gsn 4 rfl ?_
    refine zz_cv (n := 1) rfl rfl (t_Deeds_versions) (Nat.le_of_ble_eq_true rfl) (Nat.le_of_ble_eq_true rfl) (Nat.le_of_ble_eq_true rfl) (fun r9 σ9 q9 => ?_)
    obtain ⟨rfl, n9, rfl, e9⟩ := q9
    replace e9 : n9 = ((G.I.k + 1 : Nat) : Int) := e9.elim (fun z => by rw [z.2, dR.1]; exact zw_s (by omega)) (fun z => absurd (d1.symm.trans z.1) (by rw [hh1]; decide))
    rw [e9]
    refine zz_gsn 3 rfl ?_
    refine zz_br rfl (fun h13 => ?_) (fun h13 => absurd (zl_c0.mpr ((zl_ushr0 ⟨by omega, by omega⟩ hs).mpr ⟨hs0, hs1⟩)) h13)
    refine zz_gsn 3 rfl ?_
    refine zz_cv (n := 2) rfl rfl (t_History_heldBySet (N := N) hG ok hB hh1 (by omega)) (Nat.le_of_ble_eq_true rfl) (Nat.le_of_ble_eq_true rfl) (Nat.le_of_ble_eq_true rfl) (fun r19 σ19 q19 => ?_)
    obtain ⟨rfl, p19, g19⟩ := q19
    refine zz_ri rfl (Or.inl rfl) ?_
    exact ⟨congrArg (fun z => some (zI z)) (if_pos hv).symm, p19, g19⟩
  · refine zz_gsn 4 rfl ?_
    refine zz_br rfl (fun h4 => ?_) (fun h4 => absurd (d1.trans hh0) h4)
    refine zz_gsn 1 rfl ?_
    refine zz_ri rfl (Or.inl rfl) ?_
    exact ⟨congrArg (fun z => some (zI z)) (if_neg hv).symm, hG.up (by omega), zz_F.rf⟩
  · refine zz_gsn 4 rfl ?_
    refine zz_br rfl (fun h4 => absurd (d1.symm.trans h4) (by rw [hh1]; decide)) (fun h4 => ?_)
    refine zz_gsn 4 rfl ?_
    refine zz_cv (n := 1) rfl rfl (t_Deeds_versions) (Nat.le_of_ble_eq_true rfl) (Nat.le_of_ble_eq_true rfl) (Nat.le_of_ble_eq_true rfl) (fun r9 σ9 q9 => ?_)
    obtain ⟨rfl, n9, rfl, e9⟩ := q9
    replace e9 : n9 = ((G.I.k + 1 : Nat) : Int) := e9.elim (fun z => by rw [z.2, dR.1]; exact zw_s (by omega)) (fun z => absurd (d1.symm.trans z.1) (by rw [hh1]; decide))
    rw [e9]
    refine zz_gsn 3 rfl ?_
    refine zz_br rfl (fun h13 => absurd ⟨hh1, (zl_ushr0 ⟨by omega, by omega⟩ hs).mp (zl_c0.mp h13)⟩ hv) (fun h13 => ?_)
    refine zz_gsn 1 rfl ?_
    refine zz_ri rfl (Or.inl rfl) ?_
    exact ⟨congrArg (fun z => some (zI z)) (if_neg hv).symm, hG.up (by omega), zz_F.rf⟩
theorem t_TQ_lost {X : zz_X} {σ : zz_M} {b : Nat} {B : Int} {G : zz_J} (hG : CG σ b B G) (ok : g_ok G) (hB : B ≤ 1000000) : zz_T X 5 p_TQ_lost [zP 11 0 0 b] σ (fun r σ' => r = some (zI (a_lost G)) ∧ CG σ' b (B + 1) G ∧ zz_F (A_cl b) σ σ') := by
  refine zz_mk k_TQ_lost o_TQ_lost rfl rfl (Nat.le_of_ble_eq_true rfl) ?_
  show zz_G X 5 p_TQ_lost 0 [zP 11 0 0 b] [] σ _
  obtain ⟨hH, hBt, hBo, hft, him, hmk, htr⟩ := id hG
  obtain ⟨⟨ho, hfx⟩, okt, oko, okm⟩ := id ok
  obtain ⟨hD, hV⟩ := id hH
  obtain ⟨d1, d2, d3, d4, dR⟩ := id hD
  obtain ⟨d5, d6, d7⟩ := id dR
  rcases (i_tk ok.1.1).2.2 with hh0 | hh1
  · refine zz_gsn 4 rfl ?_
    refine zz_br rfl (fun h4 => absurd (d1.trans hh0) h4) (fun h4 => ?_)
    refine zz_gsn 1 rfl ?_
    refine zz_ri rfl (Or.inl rfl) ?_
    exact ⟨congrArg (fun z => some (zI z)) (if_neg (by rw [hh0]; decide)).symm, hG.up (by omega), zz_F.rf⟩
  · refine zz_gsn 4 rfl ?_
    refine zz_br rfl (fun h4 => ?_) (fun h4 => absurd (d1.symm.trans (by first | exact h4 | exact Decidable.not_not.mp h4)) (by rw [hh1]; decide))
    refine zz_gsn 6 rfl ?_
    refine zz_cv (n := 1) rfl rfl (t_History_heldByAll hG ok hB hh1) (Nat.le_of_ble_eq_true rfl) (Nat.le_of_ble_eq_true rfl) (Nat.le_of_ble_eq_true rfl) (fun r13 σ13 q13 => ?_)
    obtain ⟨rfl, p13, g13⟩ := q13
    refine zz_gsn 1 rfl ?_
    refine zz_ri rfl (Or.inl rfl) ?_
    refine ⟨congrArg (fun z => some (zI z)) (Eq.trans ?_ (if_pos hh1).symm), p13, g13⟩
    have z1 : σ.1 100 (b + 11 + 6) = ((gW G).n : Nat) := ((hV.2.2.1 0 (Nat.zero_le _)).1.2.2.2.1 (by decide)).1
    have b1 := g_Nb ok (g_hs G (2 ^ (G.I.k + 1) - 1) (G.I.k + 1))
    have b2 : (gW G).n ≤ 1890 := h_nn ho
    rw [z1, zw_id (by omega) (by omega)]
