/-! the reference: words of the reading -/
theorem t_Mo_good {X : zz_X} {σ : zz_M} {m : Nat}  : zz_T X 1 p_Mo_good [zP 12 0 0 m] σ (fun r σ' => σ = σ' ∧ ∃ n : Int, r = some (zI n) ∧ ((n = 1 ∧ σ.1 1232 m = 0) ∨ (n = 0 ∧ σ.1 1232 m ≠ 0))) := by
  refine zz_mk k_Mo_good o_Mo_good rfl rfl (Nat.le_of_ble_eq_true rfl) ?_
  show zz_G X 1 p_Mo_good 0 [zP 12 0 0 m] [] σ _
  refine zz_gsn 2 rfl ?_
  refine zz_br rfl (fun h2 => ?_) (fun h2 => ?_)
  · refine zz_gsn 1 rfl ?_
    refine zz_ri rfl (Or.inr ⟨rfl, by first | exact Or.inl rfl | exact Or.inr rfl | omega⟩) ?_
    exact ⟨rfl, 0, rfl, Or.inr ⟨rfl, h2⟩⟩
  · refine zz_gsn 1 rfl ?_
    refine zz_jp rfl ?_
    refine zz_ri rfl (Or.inr ⟨rfl, by first | exact Or.inl rfl | exact Or.inr rfl | omega⟩) ?_
    exact ⟨rfl, 1, rfl, Or.inl ⟨rfl, (by first | exact h2 | exact Decidable.not_not.mp h2)⟩⟩
theorem t_Mo_errs {X : zz_X} {σ : zz_M} {m : Nat} {x : Int} {T : List Int} {k : zr_T} (hR : RRd σ m k) (hT : RTp σ m T) : zz_T X 2 p_Mo_errs [zP 12 0 0 m, zI x] σ (fun r σ' => r = none ∧ RRd σ' m (zr_err x k) ∧ RTp σ' m T ∧ Ft m σ σ') := by
  refine zz_mk k_Mo_errs o_Mo_errs rfl rfl (Nat.le_of_ble_eq_true rfl) ?_
  show zz_G X 2 p_Mo_errs 0 [zP 12 0 0 m, zI x] [] σ _
  obtain ⟨r1, r2, r3, r4, r5, r6⟩ := id hR
  rcases Classical.em (k.f = 0) with hf | hf
  · rw [show zr_err x k = (k.s, k.n, k.t, k.v, x, ((k.s : Nat) : Int)) from if_pos hf]
    refine zz_gsn 1 rfl ?_
    refine zz_cv (n := 1) rfl rfl (t_Mo_good) (Nat.le_of_ble_eq_true rfl) (Nat.le_of_ble_eq_true rfl) (Nat.le_of_ble_eq_true rfl) (fun r1 σ1 q1 => ?_)
    obtain ⟨rfl, n1, rfl, e1⟩ := q1
    replace e1 : n1 = 1 := e1.elim (fun z => z.1) (fun z => absurd (hR.2.2.2.2.1.trans hf) z.2)
    refine zz_br rfl (fun h2 => ?_) (fun h2 => absurd (by first | exact h2 | exact Decidable.not_not.mp h2) (by rw [e1]; decide))
    refine zz_gsn 7 rfl ?_
    refine zz_rv rfl rfl ?_
    rw [show (zz_sf σ 1232 m x).1 1229 m = (k.s : Nat) from (sf_f _ _ (by decide)).trans r2]
    have g : ∀ f, f ≠ 1232 → f ≠ 1233 → (zz_sf (zz_sf σ 1232 m x) 1233 m ((k.s : Nat) : Int)).1 f m = σ.1 f m := fun f a1 a2 => (sf_f _ _ a2).trans (sf_f _ _ a1)
    have G : Ft m σ (zz_sf (zz_sf σ 1232 m x) 1233 m ((k.s : Nat) : Int)) := (show Ft m σ (zz_sf σ 1232 m x) from Ft.sf ⟨by decide, by decide⟩).tr (Ft.sf ⟨by decide, by decide⟩)
    exact ⟨rfl, ⟨(g _ (by decide) (by decide)).trans r1, (g _ (by decide) (by decide)).trans r2, (g _ (by decide) (by decide)).trans r3, fun z => (g _ (by decide) (by decide)).trans (r4 z), (sf_f _ _ (by decide)).trans (sf_h _ _ _ _), sf_h _ _ _ _⟩, hT.f G, G⟩
  · rw [show zr_err x k = k from if_neg hf]
    refine zz_gsn 1 rfl ?_
    refine zz_cv (n := 1) rfl rfl (t_Mo_good) (Nat.le_of_ble_eq_true rfl) (Nat.le_of_ble_eq_true rfl) (Nat.le_of_ble_eq_true rfl) (fun r1 σ1 q1 => ?_)
    obtain ⟨rfl, n1, rfl, e1⟩ := q1
    replace e1 : n1 = 0 := e1.elim (fun z => absurd (hR.2.2.2.2.1.symm.trans z.2) hf) (fun z => z.1)
    refine zz_br rfl (fun h2 => absurd e1 h2) (fun h2 => ?_)
    refine zz_rv rfl rfl ?_
    exact ⟨rfl, hR, hT, Ft.rf⟩
theorem zt_c127 : ∀ w, w < 37 → ∀ c ∈ zz_tx w, c ≤ 127 := by decide +kernel
theorem zr_chr {T : List Int} {i c : Nat} (ok : zb_ok T) (h : i < T.length) (hc : c ≤ 127) : zl_b T (i : Nat) = (c : Nat) ↔ T.getD i 0 = (c : Nat) := by
  rw [zl_b_s h]
  obtain ⟨a, b, d⟩ := zz_ab2 (ok.2 _ (getD_m h))
  constructor
  · intro z
    rw [z] at b
    rw [← b (by omega)]
  · intro z
    rw [← z]
    exact d (by omega)
theorem zt_gD {w i : Nat} (hw : w < 37) (h : i < (zz_tx w).length) : (zz_tx w).getD i 0 ≤ 127 := by
  rw [List.getD_eq_getElem?_getD, List.getElem?_eq_getElem h]
  exact zt_c127 w hw _ (List.getElem_mem h)
theorem rk_1 {t : Int} : zr_rk t = 1 ↔ t = 1 := by
  unfold zr_rk
  split
  · omega
  · split <;> omega
theorem rk_2 {t : Int} : zr_rk t = 2 ↔ t = 2 := by
  unfold zr_rk
  split
  · omega
  · split <;> omega
theorem rk_3 {t : Int} : zr_rk t = 3 ↔ t = 3 := by
  unfold zr_rk
  split
  · omega
  · split <;> omega
theorem rk_0 {t : Int} : zr_rk t = 0 ↔ t = 4 := by
  unfold zr_rk
  split
  · omega
  · split <;> omega
theorem lp_ris {X : zz_X} {m w s : Nat} {T : List Int} {σ : zz_M} {Post : Option zz_V → zz_M → Prop} (ok : zb_ok T) (hT : RTp σ m T) (hw : w < 37) (hs : σ.1 1229 m = (s : Nat)) (hsl : s + (zz_tx w).length ≤ T.length) (k1 : (∀ i, i < (zz_tx w).length → zl_b T (s + i : Nat) = (((zz_tx w).getD i 0 : Nat) : Int)) → Post (some (zI 1)) σ) (k0 : ¬ (∀ i, i < (zz_tx w).length → zl_b T (s + i : Nat) = (((zz_tx w).getD i 0 : Nat) : Int)) → Post (some (zI 0)) σ) :
    ∀ (r i : Nat), i + r = (zz_tx w).length → (∀ j, j < i → zl_b T (s + j : Nat) = (((zz_tx w).getD j 0 : Nat) : Int)) → zz_G X 5 p_Mo_is 21 [zP 12 0 0 m, zO (w + 2), zI 1, zI (i : Nat)] [] σ Post := by
  have hl := ok.1
  intro r
  induction r with
  | zero =>
    intro i hi hj
    have i24 : ((i : Nat) : Int) ≥ ((zz_tx w).length : Nat) := by omega
    have he := k1 (fun j hj2 => hj j (by omega))
    refine zz_gsn 2 rfl ?_
    refine zz_cst rfl (Nat.le_of_ble_eq_true rfl) (Nat.le_of_ble_eq_true rfl) ?_
    refine zz_br rfl (fun h24 => ?_) (fun h24 => absurd i24 (by first | exact h24 | exact Int.not_le.mpr h24))
    refine zz_gsn 1 rfl ?_
    refine zz_ri rfl (Or.inr ⟨rfl, by first | exact Or.inl rfl | exact Or.inr rfl | omega⟩) ?_
    exact he
  | succ r ih =>
    intro i hi hj
    have hil : i < (zz_tx w).length := by omega
    have i24 : ¬ ((i : Nat) : Int) ≥ ((zz_tx w).length : Nat) := by omega
    have i9 : i + 1 + r = (zz_tx w).length := by omega
    have o36 : 0 ≤ (i : Int) ∧ (i : Int) < ((zz_tx w).length : Nat) := ⟨by omega, by omega⟩
    have sil : s + i < T.length := by omega
    have o33 : 0 ≤ ((s + i : Nat) : Int) ∧ ((s + i : Nat) : Int) < 600 := ⟨by omega, by omega⟩
    have hch := zr_chr ok sil (zt_gD hw hil)
    have zi : zw ((s : Int) + (i : Nat)) = ((s + i : Nat) : Int) := by rw [zw_id (by omega) (by omega)]; omega
    have zs : zw ((i : Int) + 1) = ((i + 1 : Nat) : Int) := zw_s (Nat.lt_of_lt_of_le hil (Nat.le_trans (Nat.le_trans (Nat.le_add_left _ _) hsl) (Nat.le_trans hl (by decide))))
    refine zz_gsn 2 rfl ?_
    refine zz_cst rfl (Nat.le_of_ble_eq_true rfl) (Nat.le_of_ble_eq_true rfl) ?_
    refine zz_br rfl (fun h24 => absurd h24 i24) (fun h24 => ?_)
    refine zz_gsn 1 rfl ?_
    refine zz_br rfl (fun h26 => absurd h26 (by decide)) (fun h26 => ?_)
    refine zz_gsn 6 rfl ?_
    rw [hs, zi]
    refine zz_ald rfl (o33) ?_
    rw [show σ.2 (m + 13) ((s + i : Nat) : Int).toNat = T.getD (s + i) 0 from hT.2 _ sil]
    refine zz_gsn 2 rfl ?_
    refine zz_csc rfl (Nat.le_of_ble_eq_true rfl) (Nat.le_of_ble_eq_true rfl) (o36) ?_
    refine zz_br rfl (fun h37 => ?_) (fun h37 => ?_)
    · have hne : ¬ (∀ i, i < (zz_tx w).length → zl_b T (s + i : Nat) = (((zz_tx w).getD i 0 : Nat) : Int)) := fun z => h37 (hch.mp (z i hil))
      refine zz_gsn 3 rfl ?_
      refine zz_jp rfl ?_
      refine zz_gsn 2 rfl ?_
      refine zz_cst rfl (Nat.le_of_ble_eq_true rfl) (Nat.le_of_ble_eq_true rfl) ?_
      refine zz_br rfl (fun h24 => ?_) (fun h24 => ?_)
      · refine zz_gsn 1 rfl ?_
        refine zz_ri rfl (Or.inr ⟨rfl, by first | exact Or.inl rfl | exact Or.inr rfl | omega⟩) ?_
        exact k0 hne
      · refine zz_gsn 1 rfl ?_
        refine zz_br rfl (fun h26 => ?_) (fun h26 => absurd rfl h26)
        refine zz_gsn 1 rfl ?_
        refine zz_ri rfl (Or.inr ⟨rfl, by first | exact Or.inl rfl | exact Or.inr rfl | omega⟩) ?_
        exact k0 hne
    · refine zz_gsn 1 rfl ?_
      refine zz_jp rfl ?_
      refine zz_gsn 2 rfl ?_
      refine zz_jp rfl ?_
      rw [zs]
      refine ih (i + 1) i9 (fun j hj2 => ?_)
      by_cases z : j = i
      · rw [z]
        exact hch.mpr (by first | exact h37 | exact Decidable.not_not.mp h37)
      · exact hj j (Nat.lt_of_le_of_ne (Nat.le_of_lt_succ hj2) z)
theorem t_Mo_is {X : zz_X} {σ : zz_M} {m w : Nat} {T : List Int} {k : zr_T} (okT : zb_ok T) (hT : RTp σ m T) (hR : RRd σ m k) (ok : zr_ok T k) (hw : w < 37) : zz_T X 5 p_Mo_is [zP 12 0 0 m, zO (w + 2)] σ (fun r σ' => σ = σ' ∧ ∃ n : Int, r = some (zI n) ∧ ((n = 1 ∧ k.f = 0 ∧ zr_is T w k = true) ∨ (n = 0 ∧ ¬ (k.f = 0 ∧ zr_is T w k = true)))) := by
  refine zz_mk k_Mo_is o_Mo_is rfl rfl (Nat.le_of_ble_eq_true rfl) ?_
  show zz_G X 5 p_Mo_is 0 [zP 12 0 0 m, zO (w + 2), zU, zU] [] σ _
  obtain ⟨r1, r2, r3, r4, r5, r6⟩ := id hR
  obtain ⟨o1, o2, -⟩ := id ok
  have hl := okT.1
  have zm : zw (((k.n : Nat) : Int) - (k.s : Nat)) = ((k.n - k.s : Nat) : Int) := by rw [zw_id (by omega) (by omega)]; omega
  have hnn : ((k.n - k.s : Nat) : Int) = ((zz_tx w).length : Nat) → k.n = k.s + (zz_tx w).length := fun z => by clear zm; omega
  have hnn2 : k.n = k.s + (zz_tx w).length → ((k.n - k.s : Nat) : Int) = ((zz_tx w).length : Nat) := fun z => by clear zm; omega
  have hsl2 : k.n = k.s + (zz_tx w).length → k.s + (zz_tx w).length ≤ T.length := fun z => by clear zm; omega
  refine zz_gsn 1 rfl ?_
  refine zz_cv (n := 1) rfl rfl (t_Mo_good) (Nat.le_of_ble_eq_true rfl) (Nat.le_of_ble_eq_true rfl) (Nat.le_of_ble_eq_true rfl) (fun r1 σ1 q1 => ?_)
  obtain ⟨rfl, n1, rfl, e1⟩ := q1
  refine zz_br rfl (fun h2 => ?_) (fun h2 => ?_)
  · have hne : ¬ (k.f = 0 ∧ zr_is T w k = true) := fun z => e1.elim (fun y => absurd (y.1.symm.trans (by first | exact h2 | exact Decidable.not_not.mp h2)) (by decide)) (fun y => y.2 (r5.trans z.1))
    refine zz_gsn 6 rfl ?_
    refine zz_cst rfl (Nat.le_of_ble_eq_true rfl) (Nat.le_of_ble_eq_true rfl) ?_
    refine zz_br rfl (fun h24 => ?_) (fun h24 => ?_)
    · refine zz_gsn 1 rfl ?_
      refine zz_ri rfl (Or.inr ⟨rfl, by first | exact Or.inl rfl | exact Or.inr rfl | omega⟩) ?_
      exact ⟨rfl, 0, rfl, Or.inr ⟨rfl, hne⟩⟩
    · refine zz_gsn 1 rfl ?_
      refine zz_br rfl (fun h26 => ?_) (fun h26 => absurd rfl h26)
      refine zz_gsn 1 rfl ?_
      refine zz_ri rfl (Or.inr ⟨rfl, by first | exact Or.inl rfl | exact Or.inr rfl | omega⟩) ?_
      exact ⟨rfl, 0, rfl, Or.inr ⟨rfl, hne⟩⟩
  · refine zz_gsn 3 rfl ?_
    refine zz_br rfl (fun h6 => ?_) (fun h6 => ?_)
    · have hne : ¬ (k.f = 0 ∧ zr_is T w k = true) := fun z => h6 (r3.trans (rk_1.mpr (z_B_p z.2).1))
      refine zz_gsn 6 rfl ?_
      refine zz_cst rfl (Nat.le_of_ble_eq_true rfl) (Nat.le_of_ble_eq_true rfl) ?_
      refine zz_br rfl (fun h24 => ?_) (fun h24 => ?_)
      · refine zz_gsn 1 rfl ?_
        refine zz_ri rfl (Or.inr ⟨rfl, by first | exact Or.inl rfl | exact Or.inr rfl | omega⟩) ?_
        exact ⟨rfl, 0, rfl, Or.inr ⟨rfl, hne⟩⟩
      · refine zz_gsn 1 rfl ?_
        refine zz_br rfl (fun h26 => ?_) (fun h26 => absurd rfl h26)
        refine zz_gsn 1 rfl ?_
        refine zz_ri rfl (Or.inr ⟨rfl, by first | exact Or.inl rfl | exact Or.inr rfl | omega⟩) ?_
        exact ⟨rfl, 0, rfl, Or.inr ⟨rfl, hne⟩⟩
    · refine zz_gsn 5 rfl ?_
      rw [r1, r2, zm]
      refine zz_gsn 1 rfl ?_
      refine zz_cst rfl (Nat.le_of_ble_eq_true rfl) (Nat.le_of_ble_eq_true rfl) ?_
      refine zz_br rfl (fun h14 => ?_) (fun h14 => ?_)
      · have hne : ¬ (k.f = 0 ∧ zr_is T w k = true) := fun z => h14 (hnn2 (z_B_p z.2).2.1)
        refine zz_gsn 6 rfl ?_
        refine zz_cst rfl (Nat.le_of_ble_eq_true rfl) (Nat.le_of_ble_eq_true rfl) ?_
        refine zz_br rfl (fun h24 => ?_) (fun h24 => ?_)
        · refine zz_gsn 1 rfl ?_
          refine zz_ri rfl (Or.inr ⟨rfl, by first | exact Or.inl rfl | exact Or.inr rfl | omega⟩) ?_
          exact ⟨rfl, 0, rfl, Or.inr ⟨rfl, hne⟩⟩
        · refine zz_gsn 1 rfl ?_
          refine zz_br rfl (fun h26 => ?_) (fun h26 => absurd rfl h26)
          refine zz_gsn 1 rfl ?_
          refine zz_ri rfl (Or.inr ⟨rfl, by first | exact Or.inl rfl | exact Or.inr rfl | omega⟩) ?_
          exact ⟨rfl, 0, rfl, Or.inr ⟨rfl, hne⟩⟩
      · refine zz_gsn 1 rfl ?_
        refine zz_jp rfl ?_
        refine zz_gsn 3 rfl ?_
        have f0 : k.f = 0 := r5.symm.trans (e1.elim (fun z => z.2) (fun z => absurd z.1 h2))
        have t1 : k.t = 1 := rk_1.mp (r3.symm.trans (by first | exact h6 | exact Decidable.not_not.mp h6))
        have en := hnn (by first | exact h14 | exact Decidable.not_not.mp h14)
        exact lp_ris okT hT hw r2 (hsl2 en) (fun z => ⟨rfl, 1, rfl, Or.inl ⟨rfl, f0, z_B_t ⟨t1, en, z⟩⟩⟩) (fun z => ⟨rfl, 0, rfl, Or.inr ⟨rfl, fun y => z (z_B_p y.2).2.2⟩⟩) (zz_tx w).length 0 (Nat.zero_add _) (fun j hj => absurd hj (Nat.not_lt_zero j))
