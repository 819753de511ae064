/-! the reference: by, peak, balanced, balance -/
theorem g_sum_p {H0 : zz_H} {law C : Int} {k : Nat} {D : zz_D} (hl : 0 ≤ law ∧ law ≤ 2) (hC : 2 ≤ C ∧ C ≤ 4) (hk : k ≤ 60) (hs : hg_st law k D (fun j v => (hg H0 law C D j).Q v)) : ∀ j, j ≤ k → 0 ≤ zz_sum (g_sp H0 law C D) j
  | 0, _ => Int.le_refl _
  | j + 1, hj => by
    have h1 := g_sum_p hl hC hk hs j (by omega)
    obtain ⟨s1, s2, -⟩ := hs j (by omega)
    have i0 := ((hg_inv hl hC hk hs j (by omega)).1 (D j).2.1 s1).1
    have sp : 0 < g_sp H0 law C D j := w_steps_p i0 s2
    show 0 ≤ zz_sum (g_sp H0 law C D) j + g_sp H0 law C D j
    omega
theorem t_Mo_by {X : zz_X} {σ : zz_M} {m : Nat} {G : zz_J} {law : Int} (hG : RG σ m G) (ok : g_ok G) : zz_T X 7 p_Mo_by [zP 12 0 0 m, zI law] σ (fun r σ' => r = some (zI (a_by G law)) ∧ RG σ' m G ∧ zz_F (A_rf m) σ σ') := by
  refine zz_mk k_Mo_by o_Mo_by rfl rfl (Nat.le_of_ble_eq_true rfl) ?_
  show zz_G X 7 p_Mo_by 0 [zP 12 0 0 m, zI law, zU] [] σ _
  obtain ⟨hI, hT, hO, hF, hM, h10⟩ := id hG
  obtain ⟨⟨ho, hfx⟩, okt, oko, okm⟩ := id ok
  have hk6 := ho.1.2.2.1
  rcases zz_c3 (G.I.ho ≠ 0 ∧ 0 ≤ law ∧ law ≤ 2) (law ≠ 2 ∧ zd_two G.I.k G.I.D) with hk | ⟨hk, hw2⟩ | ⟨hk, hw2⟩
  · refine zz_gsn 2 rfl ?_
    refine zz_cv (n := 2) rfl rfl (t_Mo_asksLaw hG ok) (Nat.le_of_ble_eq_true rfl) (Nat.le_of_ble_eq_true rfl) (Nat.le_of_ble_eq_true rfl) (fun r2 σ2 q2 => ?_)
    obtain ⟨rfl, rfl⟩ := q2
    rw [g_ask_n hk]
    refine zz_gsn 2 rfl ?_
    refine zz_br rfl (fun h5 => absurd h5 (by decide)) (fun h5 => ?_)
    refine zz_gsn 1 rfl ?_
    refine zz_jp rfl ?_
    refine zz_ri rfl (Or.inl rfl) ?_
    exact ⟨congrArg (fun z => some (zI z)) (g_ask_n hk).symm, hG, zz_F.rf⟩
  · obtain ⟨hh0, l0, l2⟩ := id hk
    have hCC := (i_ho ho hh0).2
    have hone := (i_ho ho hh0).1
    refine zz_gsn 2 rfl ?_
    refine zz_cv (n := 2) rfl rfl (t_Mo_asksLaw hG ok) (Nat.le_of_ble_eq_true rfl) (Nat.le_of_ble_eq_true rfl) (Nat.le_of_ble_eq_true rfl) (fun r2 σ2 q2 => ?_)
    obtain ⟨rfl, rfl⟩ := q2
    rw [g_ask_m hk hw2]
    refine zz_gsn 2 rfl ?_
    refine zz_br rfl (fun h5 => absurd h5 (by decide)) (fun h5 => ?_)
    refine zz_gsn 1 rfl ?_
    refine zz_jp rfl ?_
    refine zz_ri rfl (Or.inl rfl) ?_
    exact ⟨congrArg (fun z => some (zI z)) (g_ask_m hk hw2).symm, hG, zz_F.rf⟩
  · obtain ⟨hh0, l0, l2⟩ := id hk
    have hCC := (i_ho ho hh0).2
    have hone := (i_ho ho hh0).1
    obtain ⟨-, ⟨q1, q2, q3, q4⟩, hV⟩ := ri_y hI hh0
    refine zz_gsn 2 rfl ?_
    refine zz_cv (n := 2) rfl rfl (t_Mo_asksLaw hG ok) (Nat.le_of_ble_eq_true rfl) (Nat.le_of_ble_eq_true rfl) (Nat.le_of_ble_eq_true rfl) (fun r2 σ2 q2 => ?_)
    obtain ⟨rfl, rfl⟩ := q2
    rw [g_ask_y hk hw2]
    refine zz_gsn 2 rfl ?_
    refine zz_br rfl (fun h5 => ?_) (fun h5 => absurd h5 (by decide))
    refine zz_gsn 4 rfl ?_
    rw [q2]
    refine zz_cv (n := 3) rfl rfl (t_Mo_replays (law := law) (C := G.I.C) hG ok hh0 ⟨l0, l2⟩ ⟨hCC.1, hCC.2.1⟩ (g_ask_o hw2)) (Nat.le_of_ble_eq_true rfl) (Nat.le_of_ble_eq_true rfl) (Nat.le_of_ble_eq_true rfl) (fun r12 σ12 q12 => ?_)
    obtain ⟨rfl, m12, g12, f12⟩ := q12
    refine zz_ri rfl (Or.inl rfl) ?_
    exact ⟨congrArg (fun z => some (zI z)) (g_ask_y hk hw2).symm, g12, f12⟩
theorem t_Mo_peak {X : zz_X} {σ : zz_M} {m : Nat} {G : zz_J} {law : Int} (hG : RG σ m G) (ok : g_ok G) : zz_T X 7 p_Mo_peak [zP 12 0 0 m, zI law] σ (fun r σ' => r = some (zI (a_peak G law)) ∧ RG σ' m G ∧ zz_F (A_rf m) σ σ') := by
  refine zz_mk k_Mo_peak o_Mo_peak rfl rfl (Nat.le_of_ble_eq_true rfl) ?_
  show zz_G X 7 p_Mo_peak 0 [zP 12 0 0 m, zI law, zU, zU] [] σ _
  obtain ⟨hI, hT, hO, hF, hM, h10⟩ := id hG
  obtain ⟨⟨ho, hfx⟩, okt, oko, okm⟩ := id ok
  have hk6 := ho.1.2.2.1
  rcases zz_c3 (G.I.ho ≠ 0 ∧ 0 ≤ law ∧ law ≤ 2) (law ≠ 2 ∧ zd_two G.I.k G.I.D) with hk | ⟨hk, hw2⟩ | ⟨hk, hw2⟩
  · refine zz_gsn 2 rfl ?_
    refine zz_cv (n := 2) rfl rfl (t_Mo_asksLaw hG ok) (Nat.le_of_ble_eq_true rfl) (Nat.le_of_ble_eq_true rfl) (Nat.le_of_ble_eq_true rfl) (fun r2 σ2 q2 => ?_)
    obtain ⟨rfl, rfl⟩ := q2
    rw [g_ask_n hk]
    refine zz_gsn 2 rfl ?_
    refine zz_br rfl (fun h5 => absurd h5 (by decide)) (fun h5 => ?_)
    refine zz_gsn 1 rfl ?_
    refine zz_ri rfl (Or.inl rfl) ?_
    exact ⟨congrArg (fun z => some (zI z)) (g_ask_n hk).symm, hG, zz_F.rf⟩
  · obtain ⟨hh0, l0, l2⟩ := id hk
    have hCC := (i_ho ho hh0).2
    have hone := (i_ho ho hh0).1
    refine zz_gsn 2 rfl ?_
    refine zz_cv (n := 2) rfl rfl (t_Mo_asksLaw hG ok) (Nat.le_of_ble_eq_true rfl) (Nat.le_of_ble_eq_true rfl) (Nat.le_of_ble_eq_true rfl) (fun r2 σ2 q2 => ?_)
    obtain ⟨rfl, rfl⟩ := q2
    rw [g_ask_m hk hw2]
    refine zz_gsn 2 rfl ?_
    refine zz_br rfl (fun h5 => absurd h5 (by decide)) (fun h5 => ?_)
    refine zz_gsn 1 rfl ?_
    refine zz_ri rfl (Or.inl rfl) ?_
    exact ⟨congrArg (fun z => some (zI z)) (g_ask_m hk hw2).symm, hG, zz_F.rf⟩
  · obtain ⟨hh0, l0, l2⟩ := id hk
    have hCC := (i_ho ho hh0).2
    have hone := (i_ho ho hh0).1
    obtain ⟨-, ⟨q1, q2, q3, q4⟩, hV⟩ := ri_y hI hh0
    have hp : 0 ≤ zz_sum (g_s G law G.I.C) G.I.k := g_sum_p ⟨l0, l2⟩ ⟨hCC.1, hCC.2.1⟩ hk6 (g_st ho (gW G) G.I.C (g_ask_o hw2)) G.I.k (Nat.le_refl _)
    refine zz_gsn 2 rfl ?_
    refine zz_cv (n := 2) rfl rfl (t_Mo_asksLaw hG ok) (Nat.le_of_ble_eq_true rfl) (Nat.le_of_ble_eq_true rfl) (Nat.le_of_ble_eq_true rfl) (fun r2 σ2 q2 => ?_)
    obtain ⟨rfl, rfl⟩ := q2
    rw [g_ask_y hk hw2]
    refine zz_gsn 2 rfl ?_
    refine zz_br rfl (fun h5 => ?_) (fun h5 => absurd h5 (by decide))
    refine zz_gsn 4 rfl ?_
    rw [q2]
    refine zz_cv (n := 3) rfl rfl (t_Mo_replays (law := law) (C := G.I.C) hG ok hh0 ⟨l0, l2⟩ ⟨hCC.1, hCC.2.1⟩ (g_ask_o hw2)) (Nat.le_of_ble_eq_true rfl) (Nat.le_of_ble_eq_true rfl) (Nat.le_of_ble_eq_true rfl) (fun r12 σ12 q12 => ?_)
    obtain ⟨rfl, m12, g12, f12⟩ := q12
    refine zz_gsn 2 rfl ?_
    refine zz_br rfl (fun h15 => ?_) (fun h15 => absurd h15 (Int.not_lt.mpr hp))
    refine zz_gsn 2 rfl ?_
    refine zz_ri rfl (Or.inl rfl) ?_
    exact ⟨congrArg (fun z => some (zI z)) (m12.trans (g_ask_y hk hw2).symm), g12, f12⟩
theorem t_Mo_balanced {X : zz_X} {σ : zz_M} {m : Nat} {G : zz_J} {c : Int} (hG : RG σ m G) (ok : g_ok G) : zz_T X 7 p_Mo_balanced [zP 12 0 0 m, zI c] σ (fun r σ' => r = some (zI (a_balanced G c)) ∧ RG σ' m G ∧ zz_F (A_rf m) σ σ') := by
  refine zz_mk k_Mo_balanced o_Mo_balanced rfl rfl (Nat.le_of_ble_eq_true rfl) ?_
  show zz_G X 7 p_Mo_balanced 0 [zP 12 0 0 m, zI c] [] σ _
  obtain ⟨hI, hT, hO, hF, hM, h10⟩ := id hG
  obtain ⟨⟨ho, hfx⟩, okt, oko, okm⟩ := id ok
  have hk6 := ho.1.2.2.1
  rcases Classical.em (G.I.ho ≠ 0 ∧ 2 ≤ c ∧ c ≤ 4) with hk | hk
  · obtain ⟨hh0, l0, l2⟩ := id hk
    refine zz_gsn 1 rfl ?_
    refine zz_cv (n := 1) rfl rfl (t_Mo_isHouse) (Nat.le_of_ble_eq_true rfl) (Nat.le_of_ble_eq_true rfl) (Nat.le_of_ble_eq_true rfl) (fun r1 σ1 q1 => ?_)
    obtain ⟨rfl, n1, rfl, e1⟩ := q1
    replace e1 := rh_of hI e1
    refine zz_br rfl (fun h2 => absurd (show n1 = 0 from h2) (by omega)) (fun h2 => ?_)
    refine zz_gsn 4 rfl ?_
    refine zz_cs (n := 3) rfl rfl (t_Mo_in) (Nat.le_of_ble_eq_true rfl) (Nat.le_of_ble_eq_true rfl) (Nat.le_of_ble_eq_true rfl) (fun r7 σ7 q7 => ?_)
    obtain ⟨rfl, n7, rfl, e7⟩ := q7
    refine zz_br rfl (fun h8 => absurd (show n7 = 0 from h8) (by omega)) (fun h8 => ?_)
    refine zz_gsn 3 rfl ?_
    refine zz_cv (n := 3) rfl rfl (t_Mo_replays (law := 2) (C := c) hG ok hh0 (by decide) ⟨l0, l2⟩ (Or.inl rfl)) (Nat.le_of_ble_eq_true rfl) (Nat.le_of_ble_eq_true rfl) (Nat.le_of_ble_eq_true rfl) (fun r12 σ12 q12 => ?_)
    obtain ⟨rfl, m12, g12, f12⟩ := q12
    refine zz_jp rfl ?_
    refine zz_ri rfl (Or.inl rfl) ?_
    exact ⟨congrArg (fun z => some (zI z)) (if_pos hk).symm, g12, f12⟩
  · refine zz_gsn 1 rfl ?_
    refine zz_cv (n := 1) rfl rfl (t_Mo_isHouse) (Nat.le_of_ble_eq_true rfl) (Nat.le_of_ble_eq_true rfl) (Nat.le_of_ble_eq_true rfl) (fun r1 σ1 q1 => ?_)
    obtain ⟨rfl, n1, rfl, e1⟩ := q1
    replace e1 := rh_of hI e1
    refine zz_br rfl (fun h2 => ?_) (fun h2 => ?_)
    · refine zz_gsn 1 rfl ?_
      refine zz_ri rfl (Or.inl rfl) ?_
      exact ⟨congrArg (fun z => some (zI z)) (if_neg hk).symm, hG, zz_F.rf⟩
    · refine zz_gsn 4 rfl ?_
      refine zz_cs (n := 3) rfl rfl (t_Mo_in) (Nat.le_of_ble_eq_true rfl) (Nat.le_of_ble_eq_true rfl) (Nat.le_of_ble_eq_true rfl) (fun r7 σ7 q7 => ?_)
      obtain ⟨rfl, n7, rfl, e7⟩ := q7
      refine zz_br rfl (fun h8 => ?_) (fun h8 => absurd (show G.I.ho ≠ 0 ∧ 2 ≤ c ∧ c ≤ 4 from ⟨fun z => by omega, by omega, by omega⟩) hk)
      refine zz_gsn 1 rfl ?_
      refine zz_ri rfl (Or.inl rfl) ?_
      exact ⟨congrArg (fun z => some (zI z)) (if_neg hk).symm, hG, zz_F.rf⟩
theorem lp_rcheap {X : zz_X} {m : Nat} {N : Int} {G : zz_J} {σ0 : zz_M} {Post : Option zz_V → zz_M → Prop} (ok : g_ok G) (hh0 : G.I.ho ≠ 0) (kk : ∀ σ', RG σ' m G → zz_F (A_rf m) σ0 σ' → Post (some (zI N)) σ') :
    ∀ (r : Nat) (i c : Int) (σ : zz_M), i + (r : Int) = 5 → 3 ≤ i → 2 ≤ c ∧ c ≤ 4 → g_lr (fun c => zz_sum (g_s G 2 c) G.I.k) r i c (zz_sum (g_s G 2 c) G.I.k) = N → RG σ m G → zz_F (A_rf m) σ0 σ → zz_G X 7 p_Mo_balance 9 [zP 12 0 0 m, zI c, zI i] [] σ Post := by
  intro r
  induction r with
  | zero =>
    intro i c σ hi h3 hc hN hG hF
    have e : c = N := hN
    subst e
    refine zz_gsn 2 rfl ?_
    refine zz_br rfl (fun h11 => ?_) (fun h11 => absurd h11 (by omega))
    refine zz_gsn 1 rfl ?_
    refine zz_ri rfl (Or.inl rfl) ?_
    exact kk σ hG hF
  | succ r ih =>
    intro i c σ hi h3 hc hN hG hF
    have hy : zz_sum (g_s G 2 i) G.I.k < zz_sum (g_s G 2 c) G.I.k → g_lr (fun c => zz_sum (g_s G 2 c) G.I.k) r (i + 1) i (zz_sum (g_s G 2 i) G.I.k) = N := fun z => by
      rw [← hN]
      exact (if_pos z).symm
    have hn : ¬ zz_sum (g_s G 2 i) G.I.k < zz_sum (g_s G 2 c) G.I.k → g_lr (fun c => zz_sum (g_s G 2 c) G.I.k) r (i + 1) c (zz_sum (g_s G 2 c) G.I.k) = N := fun z => by
      rw [← hN]
      exact (if_neg z).symm
    have e1 : zw (i + 1) = i + 1 := zw_id (by clear hy hn hN; omega) (by clear hy hn hN; omega)
    have i5 : ¬ i ≥ 5 := by clear hy hn hN; omega
    have i4 : 2 ≤ i ∧ i ≤ 4 := by clear hy hn hN; omega
    have i6 : (i + 1) + (r : Int) = 5 := by clear hy hn hN; omega
    have i7 : 3 ≤ i + 1 := by clear hy hn hN; omega
    refine zz_gsn 2 rfl ?_
    refine zz_br rfl (fun h11 => absurd h11 i5) (fun h11 => ?_)
    refine zz_gsn 3 rfl ?_
    refine zz_cv (n := 3) rfl rfl (t_Mo_replays (law := 2) (C := i) hG ok hh0 (by decide) i4 (Or.inl rfl)) (Nat.le_of_ble_eq_true rfl) (Nat.le_of_ble_eq_true rfl) (Nat.le_of_ble_eq_true rfl) (fun r15 σ15 q15 => ?_)
    obtain ⟨rfl, m15, g15, f15⟩ := q15
    refine zz_gsn 3 rfl ?_
    refine zz_cv (n := 3) rfl rfl (t_Mo_replays (law := 2) (C := c) g15 ok hh0 (by decide) hc (Or.inl rfl)) (Nat.le_of_ble_eq_true rfl) (Nat.le_of_ble_eq_true rfl) (Nat.le_of_ble_eq_true rfl) (fun r19 σ19 q19 => ?_)
    obtain ⟨rfl, m19, g19, f19⟩ := q19
    refine zz_br rfl (fun h20 => ?_) (fun h20 => ?_)
    · refine zz_gsn 1 rfl ?_
      refine zz_jp rfl ?_
      rw [e1]
      exact ih (i + 1) c σ19 i6 i7 hc (hn (Int.not_lt.mpr h20)) g19 ((hF.tr f15).tr f19)
    · refine zz_gsn 3 rfl ?_
      refine zz_jp rfl ?_
      rw [e1]
      exact ih (i + 1) i σ19 i6 i7 i4 (hy h20) g19 ((hF.tr f15).tr f19)
theorem t_Mo_balance {X : zz_X} {σ : zz_M} {m : Nat} {G : zz_J} (hG : RG σ m G) (ok : g_ok G) : zz_T X 7 p_Mo_balance [zP 12 0 0 m] σ (fun r σ' => r = some (zI (a_balance G)) ∧ RG σ' m G ∧ zz_F (A_rf m) σ σ') := by
  refine zz_mk k_Mo_balance o_Mo_balance rfl rfl (Nat.le_of_ble_eq_true rfl) ?_
  show zz_G X 7 p_Mo_balance 0 [zP 12 0 0 m, zU, zU] [] σ _
  obtain ⟨hI, hT, hO, hF, hM, h10⟩ := id hG
  obtain ⟨⟨ho, hfx⟩, okt, oko, okm⟩ := id ok
  have hk6 := ho.1.2.2.1
  rcases Classical.em (G.I.ho ≠ 0) with hk | hk
  · refine zz_gsn 1 rfl ?_
    refine zz_cv (n := 1) rfl rfl (t_Mo_isHouse) (Nat.le_of_ble_eq_true rfl) (Nat.le_of_ble_eq_true rfl) (Nat.le_of_ble_eq_true rfl) (fun r1 σ1 q1 => ?_)
    obtain ⟨rfl, n1, rfl, e1⟩ := q1
    replace e1 := rh_of hI e1
    refine zz_br rfl (fun h2 => ?_) (fun h2 => absurd (by first | exact h2 | exact Decidable.not_not.mp h2) (show n1 ≠ 0 by omega))
    refine zz_gsn 4 rfl ?_
    exact lp_rcheap ok hk (fun σ' a b => ⟨congrArg (fun z => some (zI z)) (if_pos hk).symm, a, b⟩) 2 3 2 σ (by decide) (by decide) (by decide) rfl hG zz_F.rf
  · refine zz_gsn 1 rfl ?_
    refine zz_cv (n := 1) rfl rfl (t_Mo_isHouse) (Nat.le_of_ble_eq_true rfl) (Nat.le_of_ble_eq_true rfl) (Nat.le_of_ble_eq_true rfl) (fun r1 σ1 q1 => ?_)
    obtain ⟨rfl, n1, rfl, e1⟩ := q1
    replace e1 := rh_of hI e1
    refine zz_br rfl (fun h2 => absurd (show n1 = 0 by omega) h2) (fun h2 => ?_)
    refine zz_gsn 1 rfl ?_
    refine zz_ri rfl (Or.inl rfl) ?_
    exact ⟨congrArg (fun z => some (zI z)) (if_neg hk).symm, hG, zz_F.rf⟩
