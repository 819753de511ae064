/-! small methods -/
theorem t_Deeds_hasDeed {X : zz_X} {σ : zz_M} {a : Nat} {v : Int}  : zz_T X 1 p_Deeds_hasDeed [zP 2 0 0 a, zI v] σ (fun r σ' => σ' = σ ∧ ∃ n : Int, r = some (zI n) ∧ ((n = 1 ∧ 0 ≤ v ∧ v < σ.1 204 a ∧ v < 60) ∨ (n = 0 ∧ ¬ (0 ≤ v ∧ v < σ.1 204 a ∧ v < 60)))) := by
  refine zz_mk k_Deeds_hasDeed o_Deeds_hasDeed rfl rfl (Nat.le_of_ble_eq_true rfl) ?_
  show zz_G X 1 p_Deeds_hasDeed 0 [zP 2 0 0 a, zI v] [] σ _
  refine zz_gsn 1 rfl ?_
  refine zz_br rfl (fun h1 => ?_) (fun h1 => ?_)
  · refine zz_gsn 1 rfl ?_
    refine zz_ri rfl (Or.inr ⟨rfl, by first | exact Or.inl rfl | exact Or.inr rfl | omega⟩) ?_
    exact ⟨rfl, _, rfl, by omega⟩
  · refine zz_gsn 3 rfl ?_
    refine zz_br rfl (fun h5 => ?_) (fun h5 => ?_)
    · refine zz_gsn 1 rfl ?_
      refine zz_ri rfl (Or.inr ⟨rfl, by first | exact Or.inl rfl | exact Or.inr rfl | omega⟩) ?_
      exact ⟨rfl, _, rfl, by omega⟩
    · refine zz_gsn 2 rfl ?_
      refine zz_br rfl (fun h8 => ?_) (fun h8 => ?_)
      · refine zz_gsn 1 rfl ?_
        refine zz_ri rfl (Or.inr ⟨rfl, by first | exact Or.inl rfl | exact Or.inr rfl | omega⟩) ?_
        exact ⟨rfl, _, rfl, by omega⟩
      · refine zz_gsn 1 rfl ?_
        refine zz_jp rfl ?_
        refine zz_ri rfl (Or.inr ⟨rfl, by first | exact Or.inl rfl | exact Or.inr rfl | omega⟩) ?_
        exact ⟨rfl, _, rfl, by omega⟩
theorem t_Deeds_versions {X : zz_X} {σ : zz_M} {a : Nat}  : zz_T X 1 p_Deeds_versions [zP 2 0 0 a] σ (fun r σ' => σ' = σ ∧ r = some (zI (if σ.1 200 a ≠ 0 then zw (σ.1 204 a + 1) else 0))) := by
  refine zz_mk k_Deeds_versions o_Deeds_versions rfl rfl (Nat.le_of_ble_eq_true rfl) ?_
  show zz_G X 1 p_Deeds_versions 0 [zP 2 0 0 a] [] σ _
  refine zz_gsn 2 rfl ?_
  refine zz_br rfl (fun h2 => ?_) (fun h2 => ?_)
  · refine zz_gsn 1 rfl ?_
    refine zz_ri rfl (Or.inl rfl) ?_
    exact ⟨rfl, by rw [if_neg (fun z => z h2)]⟩
  · refine zz_gsn 4 rfl ?_
    refine zz_jp rfl ?_
    refine zz_ri rfl (Or.inl rfl) ?_
    exact ⟨rfl, by rw [if_pos h2]⟩
theorem t_Row_become {X : zz_X} {σ : zz_M} {a b : Nat}  : zz_T X 1 p_Row_become [zP 7 0 0 a, zP 7 0 0 b] σ (fun r σ' => r = none ∧ σ' = zz_sf (zz_sf σ 700 a (σ.1 700 b)) 701 a ((zz_sf σ 700 a (σ.1 700 b)).1 701 b)) := by
  refine zz_mk k_Row_become o_Row_become rfl rfl (Nat.le_of_ble_eq_true rfl) ?_
  show zz_G X 1 p_Row_become 0 [zP 7 0 0 a, zP 7 0 0 b] [] σ _
  refine zz_gsn 8 rfl ?_
  refine zz_rv rfl rfl ?_
  exact ⟨rfl, rfl⟩
theorem t_Row_clear {X : zz_X} {σ : zz_M} {a : Nat}  : zz_T X 1 p_Row_clear [zP 7 0 0 a] σ (fun r σ' => r = none ∧ σ' = zz_sf (zz_sf σ 700 a (-1)) 701 a 0) := by
  refine zz_mk k_Row_clear o_Row_clear rfl rfl (Nat.le_of_ble_eq_true rfl) ?_
  show zz_G X 1 p_Row_clear 0 [zP 7 0 0 a] [] σ _
  refine zz_gsn 6 rfl ?_
  refine zz_rv rfl rfl ?_
  exact ⟨rfl, rfl⟩
