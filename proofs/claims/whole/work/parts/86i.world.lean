/-! the class: a VERSION told -/
theorem t_Reader_expectVersion {X : zz_X} {σ : zz_M} {c a p n : Nat} {pf kd : Int} {T : List Int} {k : zr_T} {z : Nat → Int} (hT : T.length ≤ 600) (hpT : T.length ≤ p) (hac : a + 1 < c ∨ c + 5 < a) (hB : BL σ a T) (hR : CRd σ c k) (ok : zr_ok T k) (hn : n ≤ 40) (h4 : σ.1 204 (c + 1) = (n : Nat)) (hz : ∀ v, v ≤ n → σ.2 (c + 5) v = z v) (hpf : (pf = 1 ∧ zr_pt kd) ∨ (pf = 0 ∧ ¬ zr_pt kd)) : zz_T X 6 p_Reader_expectVersion [zP 6 0 0 c, zP 0 p 0 a, zI pf] σ (fun r σ' => ∃ v : Int, r = some (zI v) ∧ CRd σ' c (zr_nm T 0 (n : Nat) (zr_lc kd n z k)) ∧ BL σ' a T ∧ zz_F (A_c1 c) σ σ' ∧ ((zr_nm T 0 (n : Nat) (zr_lc kd n z k)).f = 0 → v = (zr_lc kd n z k).v)) := by
  refine zz_mk k_Reader_expectVersion o_Reader_expectVersion rfl rfl (Nat.le_of_ble_eq_true rfl) ?_
  show zz_G X 6 p_Reader_expectVersion 0 [zP 6 0 0 c, zP 0 p 0 a, zI pf, zU] [] σ _
  have hac1 : c ≠ a ∧ c ≠ a + 1 := ⟨by omega, by omega⟩
  obtain ⟨r1, r2, r3, r4, r5, r6⟩ := id hR
  have hn100 : ((n : Nat) : Int) ≤ 100 := by omega
  have hlc0 : ¬ (k.t = 2 ∧ k.v ≤ (n : Nat) ∧ ¬ zr_pt kd ∧ z k.v.toNat = 0) → zr_lc kd n z k = k := fun y => if_neg y
  have hlc1 : (k.t = 2 ∧ k.v ≤ (n : Nat) ∧ ¬ zr_pt kd ∧ z k.v.toNat = 0) → zr_lc kd n z k = zr_err 2 k := fun y => if_pos y
  have hm : 0 ≤ k.v → min k.v 990 ≤ (n : Nat) → k.v ≤ (n : Nat) ∧ min k.v 990 = ((k.v.toNat : Nat) : Int) ∧ k.v.toNat ≤ n ∧ ¬ min k.v 990 ≥ 41 ∧ (0 ≤ min k.v 990 ∧ min k.v 990 < 41) := fun y1 y2 => by omega
  have hm2 : ¬ min k.v 990 ≤ (n : Nat) → ¬ k.v ≤ (n : Nat) := fun y => by omega
  have hm0 : 0 ≤ k.v → ¬ min k.v 990 < 0 := fun y => by omega
  refine zz_gsn 3 rfl ?_
  refine zz_br rfl (fun h3 => ?_) (fun h3 => ?_)
  · refine zz_gsn 3 rfl ?_
    refine zz_br rfl (fun h24 => ?_) (fun h24 => absurd rfl h24)
    refine zz_gsn 6 rfl ?_
    rw [h4]
    refine zz_cv (n := 4) rfl rfl (t_Reader_expectNumber (k := k) (lo := 0) (hi := (n : Nat)) hB hT hpT hac1 hR ok (by decide) hn100) (Nat.le_of_ble_eq_true rfl) (Nat.le_of_ble_eq_true rfl) (Nat.le_of_ble_eq_true rfl) (fun r42 σ42 q42 => ?_)
    obtain ⟨v42, rfl, p42, B42, g42, x42⟩ := q42
    refine zz_ri rfl (Or.inl rfl) ?_
    rw [hlc0 (fun y => h3 (r3.trans y.1))]
    exact ⟨_, rfl, p42, B42, g42, x42⟩
  · refine zz_gsn 2 rfl ?_
    have t2 : k.t = 2 := r3.symm.trans (by first | exact h3 | exact Decidable.not_not.mp h3)
    have v0 := (ok.2.2 t2).1
    rw [r6 t2]
    refine zz_br rfl (fun h6 => absurd h6 (hm0 v0)) (fun h6 => ?_)
    refine zz_gsn 5 rfl ?_
    rw [r6 t2, h4]
    refine zz_br rfl (fun h12 => ?_) (fun h12 => ?_)
    · refine zz_gsn 3 rfl ?_
      refine zz_br rfl (fun h24 => ?_) (fun h24 => absurd rfl h24)
      refine zz_gsn 6 rfl ?_
      rw [h4]
      refine zz_cv (n := 4) rfl rfl (t_Reader_expectNumber (k := k) (lo := 0) (hi := (n : Nat)) hB hT hpT hac1 hR ok (by decide) hn100) (Nat.le_of_ble_eq_true rfl) (Nat.le_of_ble_eq_true rfl) (Nat.le_of_ble_eq_true rfl) (fun r42 σ42 q42 => ?_)
      obtain ⟨v42, rfl, p42, B42, g42, x42⟩ := q42
      refine zz_ri rfl (Or.inl rfl) ?_
      rw [hlc0 (fun y => absurd y.2.1 (hm2 (Int.not_le.mpr h12)))]
      exact ⟨_, rfl, p42, B42, g42, x42⟩
    · refine zz_gsn 5 rfl ?_
      have hmm := hm v0 h12
      rw [r6 t2]
      refine zz_br rfl (fun h18 => absurd h18 hmm.2.2.2.1) (fun h18 => ?_)
      refine zz_gsn 1 rfl ?_
      refine zz_jp rfl ?_
      refine zz_gsn 2 rfl ?_
      refine zz_br rfl (fun h24 => absurd h24 (by decide)) (fun h24 => ?_)
      refine zz_gsn 1 rfl ?_
      refine zz_br rfl (fun h26 => ?_) (fun h26 => ?_)
      · refine zz_gsn 6 rfl ?_
        rw [h4]
        refine zz_cv (n := 4) rfl rfl (t_Reader_expectNumber (k := k) (lo := 0) (hi := (n : Nat)) hB hT hpT hac1 hR ok (by decide) hn100) (Nat.le_of_ble_eq_true rfl) (Nat.le_of_ble_eq_true rfl) (Nat.le_of_ble_eq_true rfl) (fun r42 σ42 q42 => ?_)
        obtain ⟨v42, rfl, p42, B42, g42, x42⟩ := q42
        refine zz_ri rfl (Or.inl rfl) ?_
        rw [hlc0 (fun y => y.2.2.1 (hpf.elim (fun w => w.2) (fun w => absurd w.1 h26)))]
        exact ⟨_, rfl, p42, B42, g42, x42⟩
      · refine zz_gsn 4 rfl ?_
        rw [r6 t2]
        refine zz_ald rfl (hmm.2.2.2.2) ?_
        have ez : σ.2 (c + 5) (min k.v 990).toNat = z k.v.toNat := by rw [hmm.2.1, Int.toNat_natCast]; exact hz _ hmm.2.2.1
        rw [ez]
        refine zz_br rfl (fun h32 => ?_) (fun h32 => ?_)
        · refine zz_gsn 6 rfl ?_
          rw [h4]
          refine zz_cv (n := 4) rfl rfl (t_Reader_expectNumber (k := k) (lo := 0) (hi := (n : Nat)) hB hT hpT hac1 hR ok (by decide) hn100) (Nat.le_of_ble_eq_true rfl) (Nat.le_of_ble_eq_true rfl) (Nat.le_of_ble_eq_true rfl) (fun r42 σ42 q42 => ?_)
          obtain ⟨v42, rfl, p42, B42, g42, x42⟩ := q42
          refine zz_ri rfl (Or.inl rfl) ?_
          rw [hlc0 (fun y => h32 y.2.2.2)]
          exact ⟨_, rfl, p42, B42, g42, x42⟩
        · refine zz_gsn 2 rfl ?_
          refine zz_cv (n := 2) rfl rfl (t_Reader_refuse (x := 2) (k := k) hR) (Nat.le_of_ble_eq_true rfl) (Nat.le_of_ble_eq_true rfl) (Nat.le_of_ble_eq_true rfl) (fun r35 σ35 q35 => ?_)
          obtain ⟨rfl, p35, g35⟩ := q35
          have B35 := hB.f g35 (fun z => hac1.1 z.symm) (fun z => hac1.2 z.symm)
          refine zz_gsn 6 rfl ?_
          rw [show σ35.1 204 (c + 1) = (n : Nat) from ((g35 (c + 1) (by show ¬ c + 1 = c; omega)).1 204).trans h4]
          refine zz_cv (n := 4) rfl rfl (t_Reader_expectNumber (k := zr_err 2 k) (lo := 0) (hi := (n : Nat)) B35 hT hpT hac1 p35 (zr_err_ok ok) (by decide) hn100) (Nat.le_of_ble_eq_true rfl) (Nat.le_of_ble_eq_true rfl) (Nat.le_of_ble_eq_true rfl) (fun r42 σ42 q42 => ?_)
          obtain ⟨v42, rfl, p42, B42, g42, x42⟩ := q42
          refine zz_ri rfl (Or.inl rfl) ?_
          rw [hlc1 ⟨t2, hmm.1, hpf.elim (fun y => absurd (y.1.symm.trans (by first | exact h26 | exact Decidable.not_not.mp h26)) (by decide)) (fun y => y.2), (by first | exact h32 | exact Decidable.not_not.mp h32)⟩]
          exact ⟨_, rfl, p42, B42, g35.tr g42, x42⟩
