/-! deeds: by another LAW -/
/-- only an evening LAW has deeds of the other two kinds -/
def zd_two (k : Nat) (D : zz_D) : Prop := ∃ j, j < k ∧ ((D j).1 = 2 ∨ (D j).1 = 3)
theorem lp_refuse {X : zz_X} {a k : Nat} {law : Int} {D : zz_D} {σ : zz_M} {Post : Option zz_V → zz_M → Prop} (hD : DR σ a k D) (k0 : law = 2 ∨ ¬ zd_two k D → Post (some (zI 0)) σ) (k1 : law ≠ 2 → zd_two k D → Post (some (zI (-1))) σ) :
    ∀ (r i : Nat), i + r = k → (∀ j, j < i → ¬ ((D j).1 = 2 ∨ (D j).1 = 3)) → zz_G X 2 p_Deeds_lawRefusal 12 [zP 2 0 0 a, zI law, zI (i : Nat)] [] σ Post := by
  obtain ⟨d1, d2, d3⟩ := hD
  intro r
  induction r with
  | zero =>
    intro i hi hno
    have hz : ¬ zd_two k D := fun ⟨j, h1, h2⟩ => hno j (by omega) h2
    refine zz_gsn 2 rfl ?_
    refine zz_br rfl (fun h14 => ?_) (fun h14 => ?_)
    · refine zz_gsn 1 rfl ?_
      refine zz_ri rfl (Or.inl rfl) ?_
      exact k0 (Or.inr hz)
    · refine zz_gsn 2 rfl ?_
      refine zz_br rfl (fun h17 => ?_) (fun h17 => ?_)
      · refine zz_gsn 1 rfl ?_
        refine zz_ri rfl (Or.inl rfl) ?_
        exact k0 (Or.inr hz)
      · refine zz_gsn 2 rfl ?_
        refine zz_cv (n := 2) rfl rfl (t_Deeds_hasDeed) (Nat.le_of_ble_eq_true rfl) (Nat.le_of_ble_eq_true rfl) (Nat.le_of_ble_eq_true rfl) (fun r20 σ20 q20 => ?_)
        obtain ⟨rfl, n20, rfl, e20⟩ := q20
        refine zz_br rfl (fun h21 => ?_) (fun h21 => absurd h21 (by omega))
        refine zz_gsn 1 rfl ?_
        refine zz_ri rfl (Or.inl rfl) ?_
        exact k0 (Or.inr hz)
  | succ r ih =>
    intro i hi hno
    have ei : zw ((i : Int) + 1) = ((i + 1 : Nat) : Int) := by rw [zw_id (by omega) (by omega)]; omega
    have hz : σ.2 (a + 1) i = (D i).1 := (d3 i (by omega)).1
    refine zz_gsn 2 rfl ?_
    refine zz_br rfl (fun h14 => absurd h14 (by omega)) (fun h14 => ?_)
    refine zz_gsn 2 rfl ?_
    refine zz_br rfl (fun h17 => ?_) (fun h17 => ?_)
    · refine zz_gsn 1 rfl ?_
      refine zz_ri rfl (Or.inl rfl) ?_
      exact k0 (Or.inl h17)
    · refine zz_gsn 2 rfl ?_
      refine zz_cv (n := 2) rfl rfl (t_Deeds_hasDeed) (Nat.le_of_ble_eq_true rfl) (Nat.le_of_ble_eq_true rfl) (Nat.le_of_ble_eq_true rfl) (fun r20 σ20 q20 => ?_)
      obtain ⟨rfl, n20, rfl, e20⟩ := q20
      refine zz_br rfl (fun h21 => absurd h21 (by omega)) (fun h21 => ?_)
      refine zz_gsn 3 rfl ?_
      refine zz_ald rfl (by omega) ?_
      refine zz_gsn 1 rfl ?_
      refine zz_br rfl (fun h27 => ?_) (fun h27 => ?_)
      · refine zz_gsn 1 rfl ?_
        refine zz_ri rfl (Or.inl rfl) ?_
        rw [Int.toNat_natCast, hz] at h27
        exact k1 h17 ⟨i, by omega, Or.inl h27⟩
      · refine zz_gsn 3 rfl ?_
        refine zz_ald rfl (by omega) ?_
        refine zz_gsn 1 rfl ?_
        refine zz_br rfl (fun h33 => ?_) (fun h33 => ?_)
        · refine zz_gsn 1 rfl ?_
          refine zz_jp rfl ?_
          rw [ei]
          rw [Int.toNat_natCast, hz] at h27 h33
          exact ih (i + 1) (by omega) (fun j hj => by
            by_cases z : j = i
            · subst z
              exact fun y => y.elim h27 h33
            · exact hno j (by omega))
        · refine zz_gsn 1 rfl ?_
          refine zz_ri rfl (Or.inl rfl) ?_
          rw [Int.toNat_natCast, hz] at h33
          exact k1 h17 ⟨i, by omega, Or.inr (by omega)⟩
theorem t_Deeds_lawRefusal {X : zz_X} {σ : zz_M} {a k : Nat} {law : Int} {D : zz_D} (hD : DR σ a k D) : zz_T X 2 p_Deeds_lawRefusal [zP 2 0 0 a, zI law] σ (fun r σ' => σ = σ' ∧ ∃ n : Int, r = some (zI n) ∧ ((n = -2 ∧ (σ.1 200 a = 0 ∨ law < 0 ∨ 2 < law)) ∨ (n = 0 ∧ σ.1 200 a ≠ 0 ∧ 0 ≤ law ∧ law ≤ 2 ∧ (law = 2 ∨ ¬ zd_two k D)) ∨ (n = -1 ∧ σ.1 200 a ≠ 0 ∧ 0 ≤ law ∧ law < 2 ∧ zd_two k D))) := by
  refine zz_mk k_Deeds_lawRefusal o_Deeds_lawRefusal rfl rfl (Nat.le_of_ble_eq_true rfl) ?_
  show zz_G X 2 p_Deeds_lawRefusal 0 [zP 2 0 0 a, zI law, zU] [] σ _
  refine zz_gsn 2 rfl ?_
  refine zz_br rfl (fun h2 => ?_) (fun h2 => ?_)
  · refine zz_gsn 1 rfl ?_
    refine zz_ri rfl (Or.inl rfl) ?_
    exact ⟨rfl, _, rfl, Or.inl ⟨rfl, by omega⟩⟩
  · refine zz_gsn 1 rfl ?_
    refine zz_br rfl (fun h4 => ?_) (fun h4 => ?_)
    · refine zz_gsn 1 rfl ?_
      refine zz_ri rfl (Or.inl rfl) ?_
      exact ⟨rfl, _, rfl, Or.inl ⟨rfl, by omega⟩⟩
    · refine zz_gsn 2 rfl ?_
      refine zz_br rfl (fun h7 => ?_) (fun h7 => ?_)
      · refine zz_gsn 2 rfl ?_
        exact lp_refuse hD (fun h => ⟨rfl, _, rfl, Or.inr (Or.inl ⟨rfl, h2, by omega, by omega, h⟩)⟩) (fun h1 h3 => ⟨rfl, _, rfl, Or.inr (Or.inr ⟨rfl, h2, by omega, by omega, h3⟩)⟩) k 0 (Nat.zero_add _) (fun j hj => absurd hj (Nat.not_lt_zero j))
      · refine zz_gsn 1 rfl ?_
        refine zz_ri rfl (Or.inl rfl) ?_
        exact ⟨rfl, _, rfl, Or.inl ⟨rfl, by omega⟩⟩
