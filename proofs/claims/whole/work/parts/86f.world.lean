/-! the class: words of the reading -/
theorem t_Reader_step {X : zz_X} {σ : zz_M} {c a p : Nat} {T : List Int} {k : zr_T} (hB : BL σ a T) (hT : T.length ≤ 600) (hpT : T.length ≤ p) (hac : c ≠ a ∧ c ≠ a + 1) (hR : CRd σ c k) (ok : zr_ok T k) : zz_T X 4 p_Reader_step [zP 6 0 0 c, zP 0 p 0 a] σ (fun r σ' => r = none ∧ CRd σ' c (zr_adv T k) ∧ BL σ' a T ∧ zz_F (A_c1 c) σ σ') := by
  obtain ⟨r1, r2, r3, r4, r5, r6⟩ := id hR
  by_cases hf : k.f = 0
  · rw [show zr_adv T k = zr_ad T k from if_pos hf]
    exact t_Reader_step0 hB hT hpT hac (r1.trans hf) r2 r5 ok.2.1 hf
  · rw [show zr_adv T k = k from if_neg hf]
    refine zz_mk k_Reader_step o_Reader_step rfl rfl (Nat.le_of_ble_eq_true rfl) ?_
    show zz_G X 4 p_Reader_step 0 [zP 6 0 0 c, zP 0 p 0 a, zU] [] σ _
    refine zz_gsn 2 rfl ?_
    refine zz_br rfl (fun h2 => absurd (r1.symm.trans h2) hf) (fun h2 => ?_)
    refine zz_rv rfl rfl ?_
    exact ⟨rfl, hR, hB, zz_F.rf⟩
theorem t_Reader_refuse {X : zz_X} {σ : zz_M} {c : Nat} {x : Int} {k : zr_T} (hR : CRd σ c k) : zz_T X 1 p_Reader_refuse [zP 6 0 0 c, zI x] σ (fun r σ' => r = none ∧ CRd σ' c (zr_err x k) ∧ zz_F (A_c1 c) σ σ') := by
  refine zz_mk k_Reader_refuse o_Reader_refuse rfl rfl (Nat.le_of_ble_eq_true rfl) ?_
  show zz_G X 1 p_Reader_refuse 0 [zP 6 0 0 c, zI x] [] σ _
  obtain ⟨r1, r2, r3, r4, r5, r6⟩ := id hR
  rcases Classical.em (k.f = 0) with hf | hf
  · rw [show zr_err x k = (k.s, k.n, k.t, k.v, x, ((k.s : Nat) : Int)) from if_pos hf]
    refine zz_gsn 2 rfl ?_
    refine zz_br rfl (fun h2 => absurd (r1.trans hf) h2) (fun h2 => ?_)
    refine zz_gsn 7 rfl ?_
    refine zz_rv rfl rfl ?_
    rw [show (zz_sf σ 601 c x).1 605 c = (k.s : Nat) from (sf_f _ _ (by decide)).trans r4]
    have g : ∀ f, f ≠ 601 → f ≠ 602 → (zz_sf (zz_sf σ 601 c x) 602 c ((k.s : Nat) : Int)).1 f c = σ.1 f c := fun f a1 a2 => (sf_f _ _ a2).trans (sf_f _ _ a1)
    refine ⟨rfl, ⟨(sf_f _ _ (by decide)).trans (sf_h _ _ _ _), sf_h _ _ _ _, (g _ (by decide) (by decide)).trans r3, (g _ (by decide) (by decide)).trans r4, (g _ (by decide) (by decide)).trans r5, fun z => (g _ (by decide) (by decide)).trans (r6 z)⟩, (show zz_F (A_c1 c) σ (zz_sf σ 601 c x) from zz_F.sf rfl).tr (zz_F.sf rfl)⟩
  · rw [show zr_err x k = k from if_neg hf]
    refine zz_gsn 2 rfl ?_
    refine zz_br rfl (fun h2 => ?_) (fun h2 => absurd (r1.symm.trans (by first | exact h2 | exact Decidable.not_not.mp h2)) hf)
    refine zz_rv rfl rfl ?_
    exact ⟨rfl, hR, zz_F.rf⟩
theorem lp_isw {X : zz_X} {c a p w s : Nat} {T : List Int} {σ : zz_M} {Post : Option zz_V → zz_M → Prop} (hB : BL σ a T) (hT : T.length ≤ 600) (hpT : T.length ≤ p) (hac : c ≠ a ∧ c ≠ a + 1) (hs : σ.1 605 c = (s : Nat)) (hsl : s + (zz_tx w).length ≤ T.length) (k1 : (∀ i, i < (zz_tx w).length → zl_b T (s + i : Nat) = (((zz_tx w).getD i 0 : Nat) : Int)) → Post (some (zI 1)) σ) (k0 : ¬ (∀ i, i < (zz_tx w).length → zl_b T (s + i : Nat) = (((zz_tx w).getD i 0 : Nat) : Int)) → Post (some (zI 0)) σ) :
    ∀ (r i : Nat), i + r = (zz_tx w).length → (∀ j, j < i → zl_b T (s + j : Nat) = (((zz_tx w).getD j 0 : Nat) : Int)) → zz_G X 5 p_Reader_isWord 18 [zP 6 0 0 c, zP 0 p 0 a, zO (w + 2), zI 1, zI (i : Nat)] [] σ Post := by
  intro r
  induction r with
  | zero =>
    intro i hi hj
    have i23 : ((i : Nat) : Int) ≥ ((zz_tx w).length : Nat) := by omega
    have he := k1 (fun j hj2 => hj j (by omega))
    refine zz_gsn 1 rfl ?_
    refine zz_br rfl (fun h19 => absurd h19 (by decide)) (fun h19 => ?_)
    refine zz_gsn 2 rfl ?_
    refine zz_cst rfl (Nat.le_of_ble_eq_true rfl) (Nat.le_of_ble_eq_true rfl) ?_
    refine zz_br rfl (fun h23 => ?_) (fun h23 => absurd i23 (by first | exact h23 | exact Int.not_le.mpr h23))
    refine zz_gsn 1 rfl ?_
    refine zz_ri rfl (Or.inr ⟨rfl, by first | exact Or.inl rfl | exact Or.inr rfl | omega⟩) ?_
    exact he
  | succ r ih =>
    intro i hi hj
    have hil : i < (zz_tx w).length := by omega
    have i23 : ¬ ((i : Nat) : Int) ≥ ((zz_tx w).length : Nat) := by omega
    have i9 : i + 1 + r = (zz_tx w).length := by omega
    have o32 : 0 ≤ (i : Int) ∧ (i : Int) < ((zz_tx w).length : Nat) := ⟨by omega, by omega⟩
    have zi : zw ((s : Int) + (i : Nat)) = ((s + i : Nat) : Int) := by rw [zw_id (by omega) (by omega)]; omega
    have zs : zw ((i : Int) + 1) = ((i + 1 : Nat) : Int) := zw_s (Nat.lt_of_lt_of_le hil (Nat.le_trans (Nat.le_trans (Nat.le_add_left _ _) hsl) (Nat.le_trans hT (by decide))))
    refine zz_gsn 1 rfl ?_
    refine zz_br rfl (fun h19 => absurd h19 (by decide)) (fun h19 => ?_)
    refine zz_gsn 2 rfl ?_
    refine zz_cst rfl (Nat.le_of_ble_eq_true rfl) (Nat.le_of_ble_eq_true rfl) ?_
    refine zz_br rfl (fun h23 => absurd h23 i23) (fun h23 => ?_)
    refine zz_gsn 5 rfl ?_
    rw [hs, zi]
    refine zz_cv (n := 2) rfl rfl (t_Bytes_byteAt) (Nat.le_of_ble_eq_true rfl) (Nat.le_of_ble_eq_true rfl) (Nat.le_of_ble_eq_true rfl) (fun r29 σ29 q29 => ?_)
    obtain ⟨rfl, n29, rfl, e29⟩ := q29
    replace e29 := bl_at hB hpT e29
    rw [e29]
    clear e29
    refine zz_gsn 2 rfl ?_
    refine zz_csc rfl (Nat.le_of_ble_eq_true rfl) (Nat.le_of_ble_eq_true rfl) (o32) ?_
    refine zz_br rfl (fun h33 => ?_) (fun h33 => ?_)
    · have hne : ¬ (∀ i, i < (zz_tx w).length → zl_b T (s + i : Nat) = (((zz_tx w).getD i 0 : Nat) : Int)) := fun z => h33 (z i hil)
      refine zz_gsn 3 rfl ?_
      refine zz_jp rfl ?_
      refine zz_gsn 1 rfl ?_
      refine zz_br rfl (fun h19 => ?_) (fun h19 => absurd rfl h19)
      refine zz_gsn 1 rfl ?_
      refine zz_ri rfl (Or.inr ⟨rfl, by first | exact Or.inl rfl | exact Or.inr rfl | omega⟩) ?_
      exact k0 hne
    · refine zz_gsn 1 rfl ?_
      refine zz_jp rfl ?_
      refine zz_gsn 2 rfl ?_
      refine zz_jp rfl ?_
      rw [zs]
      refine ih (i + 1) i9 (fun j hj2 => ?_)
      by_cases z : j = i
      · rw [z]
        exact (by first | exact h33 | exact Decidable.not_not.mp h33)
      · exact hj j (Nat.lt_of_le_of_ne (Nat.le_of_lt_succ hj2) z)
theorem t_Reader_isWord {X : zz_X} {σ : zz_M} {c a p w : Nat} {T : List Int} {k : zr_T} (hB : BL σ a T) (hT : T.length ≤ 600) (hpT : T.length ≤ p) (hac : c ≠ a ∧ c ≠ a + 1) (hR : CRd σ c k) (ok : zr_ok T k) (hw : (zz_tx w).length ≤ 20) : zz_T X 5 p_Reader_isWord [zP 6 0 0 c, zP 0 p 0 a, zO (w + 2)] σ (fun r σ' => σ = σ' ∧ ∃ n : Int, r = some (zI n) ∧ ((n = 1 ∧ zr_is T w k = true) ∨ (n = 0 ∧ zr_is T w k = false))) := by
  refine zz_mk k_Reader_isWord o_Reader_isWord rfl rfl (Nat.le_of_ble_eq_true rfl) ?_
  show zz_G X 5 p_Reader_isWord 0 [zP 6 0 0 c, zP 0 p 0 a, zO (w + 2), zU, zU] [] σ _
  obtain ⟨r1, r2, r3, r4, r5, r6⟩ := id hR
  obtain ⟨o1, o2, -⟩ := id ok
  have zm : zw (((k.n : Nat) : Int) - (k.s : Nat)) = ((k.n - k.s : Nat) : Int) := by rw [zw_id (by omega) (by omega)]; omega
  have hnn : ((k.n - k.s : Nat) : Int) = ((zz_tx w).length : Nat) → k.n = k.s + (zz_tx w).length := fun z => by clear zm; omega
  have hnn2 : k.n = k.s + (zz_tx w).length → ((k.n - k.s : Nat) : Int) = ((zz_tx w).length : Nat) := fun z => by clear zm; omega
  refine zz_gsn 3 rfl ?_
  refine zz_br rfl (fun h3 => ?_) (fun h3 => ?_)
  · refine zz_gsn 5 rfl ?_
    refine zz_br rfl (fun h19 => ?_) (fun h19 => absurd rfl h19)
    refine zz_gsn 1 rfl ?_
    refine zz_ri rfl (Or.inr ⟨rfl, by first | exact Or.inl rfl | exact Or.inr rfl | omega⟩) ?_
    exact ⟨rfl, 0, rfl, Or.inr ⟨rfl, z_B_f (fun z => h3 (r3.trans z.1))⟩⟩
  · refine zz_gsn 5 rfl ?_
    rw [r4, r5, zm]
    refine zz_gsn 1 rfl ?_
    refine zz_cst rfl (Nat.le_of_ble_eq_true rfl) (Nat.le_of_ble_eq_true rfl) ?_
    refine zz_br rfl (fun h11 => ?_) (fun h11 => ?_)
    · have hne : ¬ k.n = k.s + (zz_tx w).length := fun z => h11 (hnn2 z)
      refine zz_gsn 5 rfl ?_
      refine zz_br rfl (fun h19 => ?_) (fun h19 => absurd rfl h19)
      refine zz_gsn 1 rfl ?_
      refine zz_ri rfl (Or.inr ⟨rfl, by first | exact Or.inl rfl | exact Or.inr rfl | omega⟩) ?_
      exact ⟨rfl, 0, rfl, Or.inr ⟨rfl, z_B_f (fun z => hne z.2.1)⟩⟩
    · refine zz_gsn 1 rfl ?_
      refine zz_jp rfl ?_
      refine zz_gsn 3 rfl ?_
      have t1 : k.t = 1 := r3.symm.trans (by first | exact h3 | exact Decidable.not_not.mp h3)
      have en := hnn (by first | exact h11 | exact Decidable.not_not.mp h11)
      exact lp_isw hB hT hpT hac r4 (by clear zm; omega) (fun z => ⟨rfl, 1, rfl, Or.inl ⟨rfl, z_B_t ⟨t1, en, z⟩⟩⟩) (fun z => ⟨rfl, 0, rfl, Or.inr ⟨rfl, z_B_f (fun y => z y.2.2)⟩⟩) (zz_tx w).length 0 (Nat.zero_add _) (fun j hj => absurd hj (Nat.not_lt_zero j))
