/-! the reference: which LAW may be asked -/
def z_tw (D : zz_D) (j : Nat) : Int := if zd_tw D j = true then 1 else 0
theorem z_tw_1 {D : zz_D} {j : Nat} (h : z_tw D j ≠ 0 ∨ ((D j).1 = 2 ∨ (D j).1 = 3)) : z_tw D (j + 1) = 1 := by
  refine if_pos ?_
  show (zd_tw D j || decide ((D j).1 = 2 ∨ (D j).1 = 3)) = true
  rcases h with h | h
  · have z : zd_tw D j = true := Classical.byContradiction fun y => h (if_neg y)
    rw [z, Bool.true_or]
  · rw [decide_eq_true h, Bool.or_true]
theorem z_tw_0 {D : zz_D} {j : Nat} (h : z_tw D j = 0) (h2 : ¬ ((D j).1 = 2 ∨ (D j).1 = 3)) : z_tw D (j + 1) = 0 := by
  refine if_neg ?_
  show ¬ (zd_tw D j || decide ((D j).1 = 2 ∨ (D j).1 = 3)) = true
  rw [decide_eq_false h2, Bool.or_false]
  intro z
  have y : z_tw D j = 1 := if_pos z
  rw [y] at h
  exact absurd h (by decide)
theorem z_tw_b (D : zz_D) (j : Nat) : z_tw D j = 0 ∨ z_tw D j = 1 := by
  unfold z_tw
  split
  · exact Or.inr rfl
  · exact Or.inl rfl
theorem lp_rtwo {X : zz_X} {m k : Nat} {D : zz_D} {σ : zz_M} {Post : Option zz_V → zz_M → Prop} (hk : k ≤ 60) (r3 : σ.1 1215 m = ((k + 1 : Nat) : Int)) (hD : ∀ i, i < k → σ.2 (m + 6) (i + 1) = (D i).1 ∧ (0 ≤ (D i).1 ∧ (D i).1 ≤ 3)) (kk : Post (some (zI (z_tw D k))) σ) :
    ∀ (r j : Nat), j + r = k → zz_G X 1 p_Mo_isTwoSided 4 [zP 12 0 0 m, zI (z_tw D j), zI ((j + 1 : Nat) : Int)] [] σ Post := by
  intro r
  induction r with
  | zero =>
    intro j hj
    have e : j = k := hj
    subst e
    have hb := z_tw_b D j
    obtain ⟨x, hx⟩ : ∃ x, x = z_tw D j := ⟨_, rfl⟩
    rw [← hx] at hb kk ⊢
    refine zz_gsn 3 rfl ?_
    refine zz_br rfl (fun h7 => ?_) (fun h7 => absurd h7 (by omega))
    refine zz_gsn 1 rfl ?_
    refine zz_ri rfl (Or.inr ⟨rfl, by first | exact Or.inl rfl | exact Or.inr rfl | omega⟩) ?_
    exact kk
  | succ r ih =>
    intro j hj
    obtain ⟨m1, m2⟩ := hD j (by omega)
    have z := ih (j + 1) (by omega)
    have t1 := z_tw_1 (D := D) (j := j)
    have t0 := z_tw_0 (D := D) (j := j)
    have hj1 : ¬ ((j + 1 : Nat) : Int) ≥ σ.1 1215 m := by
      rw [r3]
      omega
    have hj2 : j + 1 < 61 := by omega
    obtain ⟨x, hx⟩ : ∃ x, x = z_tw D j := ⟨_, rfl⟩
    obtain ⟨y, hy⟩ : ∃ y, y = z_tw D (j + 1) := ⟨_, rfl⟩
    rw [← hx] at t1 t0 ⊢
    rw [← hy] at t1 t0 z
    refine zz_gsn 3 rfl ?_
    refine zz_br rfl (fun h7 => absurd h7 hj1) (fun h7 => ?_)
    refine zz_gsn 1 rfl ?_
    refine zz_br rfl (fun h9 => ?_) (fun h9 => ?_)
    · refine zz_gsn 1 rfl ?_
      refine zz_jp rfl ?_
      refine zz_gsn 2 rfl ?_
      refine zz_jp rfl ?_
      rw [zw_s (by omega)]
      rw [t1 (Or.inl h9)] at z
      exact z
    · refine zz_gsn 3 rfl ?_
      refine zz_ald rfl (by omega) ?_
      rw [show σ.2 (m + 6) ((j + 1 : Nat) : Int).toNat = (D j).1 from m1]
      refine zz_gsn 1 rfl ?_
      refine zz_br rfl (fun h15 => ?_) (fun h15 => ?_)
      · refine zz_gsn 3 rfl ?_
        refine zz_jp rfl ?_
        rw [zw_s (by omega)]
        rw [t0 (by omega) (by omega)] at z
        exact z
      · refine zz_gsn 1 rfl ?_
        refine zz_jp rfl ?_
        refine zz_gsn 2 rfl ?_
        refine zz_jp rfl ?_
        rw [zw_s (by omega)]
        rw [t1 (Or.inr (by omega))] at z
        exact z
theorem t_Mo_isTwoSided {X : zz_X} {σ : zz_M} {m : Nat} {G : zz_J} (hG : RG σ m G) (ok : g_ok G) (hh0 : G.I.ho ≠ 0) : zz_T X 1 p_Mo_isTwoSided [zP 12 0 0 m] σ (fun r σ' => σ = σ' ∧ r = some (zI (z_tw G.I.D G.I.k))) := by
  refine zz_mk k_Mo_isTwoSided o_Mo_isTwoSided rfl rfl (Nat.le_of_ble_eq_true rfl) ?_
  show zz_G X 1 p_Mo_isTwoSided 0 [zP 12 0 0 m, zU, zU] [] σ _
  obtain ⟨hI, hT, hO, hF, hM, h10⟩ := id hG
  obtain ⟨⟨ho, hfx⟩, okt, oko, okm⟩ := id ok
  have hk6 := ho.1.2.2.1
  obtain ⟨hone, -, hV⟩ := ri_y hI hh0
  obtain ⟨⟨r1, r2, r3⟩, r4, r5, r6, r7⟩ := id hV
  refine zz_gsn 4 rfl ?_
  exact lp_rtwo (D := G.I.D) hk6 r3 (fun i hi => ⟨(r5 i hi).2.2.1, (ho.1.2.2.2 i hi).2.1⟩) ⟨rfl, rfl⟩ G.I.k 0 (Nat.zero_add _)
theorem t_Mo_asksLaw {X : zz_X} {σ : zz_M} {m : Nat} {G : zz_J} {law : Int} (hG : RG σ m G) (ok : g_ok G) : zz_T X 2 p_Mo_asksLaw [zP 12 0 0 m, zI law] σ (fun r σ' => σ = σ' ∧ r = some (zI (g_ask G law 0))) := by
  refine zz_mk k_Mo_asksLaw o_Mo_asksLaw rfl rfl (Nat.le_of_ble_eq_true rfl) ?_
  show zz_G X 2 p_Mo_asksLaw 0 [zP 12 0 0 m, zI law] [] σ _
  obtain ⟨hI, hT, hO, hF, hM, h10⟩ := id hG
  obtain ⟨⟨ho, hfx⟩, okt, oko, okm⟩ := id ok
  have hk6 := ho.1.2.2.1
  rcases zz_c3 (G.I.ho ≠ 0 ∧ 0 ≤ law ∧ law ≤ 2) (law ≠ 2 ∧ zd_two G.I.k G.I.D) with hk | ⟨hk, hw2⟩ | ⟨hk, hw2⟩
  · refine zz_gsn 1 rfl ?_
    refine zz_cv (n := 1) rfl rfl (t_Mo_isHouse) (Nat.le_of_ble_eq_true rfl) (Nat.le_of_ble_eq_true rfl) (Nat.le_of_ble_eq_true rfl) (fun r1 σ1 q1 => ?_)
    obtain ⟨rfl, n1, rfl, e1⟩ := q1
    replace e1 := rh_of hI e1
    refine zz_br rfl (fun h2 => ?_) (fun h2 => ?_)
    · refine zz_gsn 1 rfl ?_
      refine zz_ri rfl (Or.inl rfl) ?_
      exact ⟨rfl, congrArg (fun z => some (zI z)) (g_ask_n hk).symm⟩
    · refine zz_gsn 4 rfl ?_
      refine zz_cs (n := 3) rfl rfl (t_Mo_in) (Nat.le_of_ble_eq_true rfl) (Nat.le_of_ble_eq_true rfl) (Nat.le_of_ble_eq_true rfl) (fun r7 σ7 q7 => ?_)
      obtain ⟨rfl, n7, rfl, e7⟩ := q7
      refine zz_br rfl (fun h8 => absurd (show G.I.ho ≠ 0 ∧ 0 ≤ law ∧ law ≤ 2 from ⟨fun z => by omega, by omega, by omega⟩) hk) (fun h8 => ?_)
      refine zz_gsn 1 rfl ?_
      refine zz_ri rfl (Or.inl rfl) ?_
      exact ⟨rfl, congrArg (fun z => some (zI z)) (g_ask_n hk).symm⟩
  · obtain ⟨hh0, l0, l2⟩ := id hk
    have hCC := (i_ho ho hh0).2
    have hone := (i_ho ho hh0).1
    have ht : z_tw G.I.D G.I.k = 1 := if_pos (zd_tw_t hw2.2)
    refine zz_gsn 1 rfl ?_
    refine zz_cv (n := 1) rfl rfl (t_Mo_isHouse) (Nat.le_of_ble_eq_true rfl) (Nat.le_of_ble_eq_true rfl) (Nat.le_of_ble_eq_true rfl) (fun r1 σ1 q1 => ?_)
    obtain ⟨rfl, n1, rfl, e1⟩ := q1
    replace e1 := rh_of hI e1
    refine zz_br rfl (fun h2 => absurd (show n1 = 0 from h2) (by omega)) (fun h2 => ?_)
    refine zz_gsn 4 rfl ?_
    refine zz_cs (n := 3) rfl rfl (t_Mo_in) (Nat.le_of_ble_eq_true rfl) (Nat.le_of_ble_eq_true rfl) (Nat.le_of_ble_eq_true rfl) (fun r7 σ7 q7 => ?_)
    obtain ⟨rfl, n7, rfl, e7⟩ := q7
    refine zz_br rfl (fun h8 => ?_) (fun h8 => absurd (by first | exact h8 | exact Decidable.not_not.mp h8) (show n7 ≠ 0 by omega))
    refine zz_gsn 2 rfl ?_
    refine zz_br rfl (fun h13 => absurd h13 (by omega)) (fun h13 => ?_)
    refine zz_gsn 1 rfl ?_
    refine zz_cv (n := 1) rfl rfl (t_Mo_isTwoSided hG ok hh0) (Nat.le_of_ble_eq_true rfl) (Nat.le_of_ble_eq_true rfl) (Nat.le_of_ble_eq_true rfl) (fun r15 σ15 q15 => ?_)
    obtain ⟨rfl, rfl⟩ := q15
    rw [ht]
    refine zz_br rfl (fun h16 => absurd h16 (by decide)) (fun h16 => ?_)
    refine zz_gsn 1 rfl ?_
    refine zz_jp rfl ?_
    refine zz_ri rfl (Or.inl rfl) ?_
    exact ⟨rfl, congrArg (fun z => some (zI z)) (g_ask_m hk hw2).symm⟩
  · obtain ⟨hh0, l0, l2⟩ := id hk
    have hCC := (i_ho ho hh0).2
    have hone := (i_ho ho hh0).1
    refine zz_gsn 1 rfl ?_
    refine zz_cv (n := 1) rfl rfl (t_Mo_isHouse) (Nat.le_of_ble_eq_true rfl) (Nat.le_of_ble_eq_true rfl) (Nat.le_of_ble_eq_true rfl) (fun r1 σ1 q1 => ?_)
    obtain ⟨rfl, n1, rfl, e1⟩ := q1
    replace e1 := rh_of hI e1
    refine zz_br rfl (fun h2 => absurd (show n1 = 0 from h2) (by omega)) (fun h2 => ?_)
    refine zz_gsn 4 rfl ?_
    refine zz_cs (n := 3) rfl rfl (t_Mo_in) (Nat.le_of_ble_eq_true rfl) (Nat.le_of_ble_eq_true rfl) (Nat.le_of_ble_eq_true rfl) (fun r7 σ7 q7 => ?_)
    obtain ⟨rfl, n7, rfl, e7⟩ := q7
    refine zz_br rfl (fun h8 => ?_) (fun h8 => absurd (by first | exact h8 | exact Decidable.not_not.mp h8) (show n7 ≠ 0 by omega))
    refine zz_gsn 2 rfl ?_
    refine zz_br rfl (fun h13 => ?_) (fun h13 => ?_)
    · refine zz_gsn 1 rfl ?_
      refine zz_ri rfl (Or.inl rfl) ?_
      exact ⟨rfl, congrArg (fun z => some (zI z)) (g_ask_y hk hw2).symm⟩
    · refine zz_gsn 1 rfl ?_
      refine zz_cv (n := 1) rfl rfl (t_Mo_isTwoSided hG ok hh0) (Nat.le_of_ble_eq_true rfl) (Nat.le_of_ble_eq_true rfl) (Nat.le_of_ble_eq_true rfl) (fun r15 σ15 q15 => ?_)
      obtain ⟨rfl, rfl⟩ := q15
      refine zz_br rfl (fun h16 => ?_) (fun h16 => absurd (g_ask_o hw2) (fun z => z.elim (fun z => absurd h13 (by omega)) (fun z => h16 (if_neg (fun y => by rw [zd_tw_f z] at y; exact absurd y (by decide))))))
      refine zz_gsn 1 rfl ?_
      refine zz_ri rfl (Or.inl rfl) ?_
      exact ⟨rfl, congrArg (fun z => some (zI z)) (g_ask_y hk hw2).symm⟩
