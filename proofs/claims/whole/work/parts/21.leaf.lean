/-! leaves of the class -/
theorem t_Deeds_hasDeed {X : zz_X} {σ : zz_M} {a : Nat} {v : Int}  : zz_T X 1 p_Deeds_hasDeed [zP 2 0 0 a, zI v] σ (fun r σ' => σ = σ' ∧ ∃ n : Int, r = some (zI n) ∧ ((n = 1 ∧ 0 ≤ v ∧ v < σ.1 204 a ∧ v < 60) ∨ (n = 0 ∧ ¬ (0 ≤ v ∧ v < σ.1 204 a ∧ v < 60)))) := by
  refine zz_mk k_Deeds_hasDeed o_Deeds_hasDeed rfl rfl (Nat.le_of_ble_eq_true rfl) ?_
  show zz_G X 1 p_Deeds_hasDeed 0 [zP 2 0 0 a, zI v] [] σ _
  refine zz_gsn 1 rfl ?_
  refine zz_br rfl (fun h1 => ?_) (fun h1 => ?_)
  · refine zz_gsn 1 rfl ?_
    refine zz_ri rfl (Or.inr ⟨rfl, by first | exact Or.inl rfl | exact Or.inr rfl | omega⟩) ?_
    exact ⟨rfl, _, rfl, by omega⟩
  · refine zz_gsn 3 rfl ?_
    refine zz_br rfl (fun h5 => ?_) (fun h5 => ?_)
    · refine zz_gsn 1 rfl ?_
      refine zz_ri rfl (Or.inr ⟨rfl, by first | exact Or.inl rfl | exact Or.inr rfl | omega⟩) ?_
      exact ⟨rfl, _, rfl, by omega⟩
    · refine zz_gsn 2 rfl ?_
      refine zz_br rfl (fun h8 => ?_) (fun h8 => ?_)
      · refine zz_gsn 1 rfl ?_
        refine zz_ri rfl (Or.inr ⟨rfl, by first | exact Or.inl rfl | exact Or.inr rfl | omega⟩) ?_
        exact ⟨rfl, _, rfl, by omega⟩
      · refine zz_gsn 1 rfl ?_
        refine zz_jp rfl ?_
        refine zz_ri rfl (Or.inr ⟨rfl, by first | exact Or.inl rfl | exact Or.inr rfl | omega⟩) ?_
        exact ⟨rfl, _, rfl, by omega⟩
theorem t_Deeds_versions {X : zz_X} {σ : zz_M} {a : Nat}  : zz_T X 1 p_Deeds_versions [zP 2 0 0 a] σ (fun r σ' => σ = σ' ∧ ∃ n : Int, r = some (zI n) ∧ ((σ.1 200 a ≠ 0 ∧ n = zw (σ.1 204 a + 1)) ∨ (σ.1 200 a = 0 ∧ n = 0))) := by
  refine zz_mk k_Deeds_versions o_Deeds_versions rfl rfl (Nat.le_of_ble_eq_true rfl) ?_
  show zz_G X 1 p_Deeds_versions 0 [zP 2 0 0 a] [] σ _
  refine zz_gsn 2 rfl ?_
  refine zz_br rfl (fun h2 => ?_) (fun h2 => ?_)
  · refine zz_gsn 1 rfl ?_
    refine zz_ri rfl (Or.inl rfl) ?_
    exact ⟨rfl, _, rfl, by omega⟩
  · refine zz_gsn 4 rfl ?_
    refine zz_jp rfl ?_
    refine zz_ri rfl (Or.inl rfl) ?_
    exact ⟨rfl, _, rfl, by omega⟩
theorem t_Deeds_lines {X : zz_X} {σ : zz_M} {a : Nat}  : zz_T X 1 p_Deeds_lines [zP 2 0 0 a] σ (fun r σ' => σ = σ' ∧ ∃ n : Int, r = some (zI n) ∧ ((σ.1 200 a ≠ 0 ∧ n = zw (σ.1 203 a + 1)) ∨ (σ.1 200 a = 0 ∧ n = 0))) := by
  refine zz_mk k_Deeds_lines o_Deeds_lines rfl rfl (Nat.le_of_ble_eq_true rfl) ?_
  show zz_G X 1 p_Deeds_lines 0 [zP 2 0 0 a] [] σ _
  refine zz_gsn 2 rfl ?_
  refine zz_br rfl (fun h2 => ?_) (fun h2 => ?_)
  · refine zz_gsn 1 rfl ?_
    refine zz_ri rfl (Or.inl rfl) ?_
    exact ⟨rfl, _, rfl, by omega⟩
  · refine zz_gsn 4 rfl ?_
    refine zz_jp rfl ?_
    refine zz_ri rfl (Or.inl rfl) ?_
    exact ⟨rfl, _, rfl, by omega⟩
theorem t_Deeds_acts {X : zz_X} {σ : zz_M} {a : Nat}  : zz_T X 1 p_Deeds_acts [zP 2 0 0 a] σ (fun r σ' => σ = σ' ∧ r = some (zI (zw (σ.1 204 a - σ.1 203 a)))) := by
  refine zz_mk k_Deeds_acts o_Deeds_acts rfl rfl (Nat.le_of_ble_eq_true rfl) ?_
  show zz_G X 1 p_Deeds_acts 0 [zP 2 0 0 a] [] σ _
  refine zz_gsn 5 rfl ?_
  refine zz_ri rfl (Or.inl rfl) ?_
  exact ⟨rfl, rfl⟩
theorem t_Deeds_hasVersion {X : zz_X} {σ : zz_M} {a : Nat} {v : Int}  : zz_T X 2 p_Deeds_hasVersion [zP 2 0 0 a, zI v] σ (fun r σ' => σ = σ' ∧ ∃ n : Int, r = some (zI n) ∧ ((n = 1 ∧ 0 ≤ v ∧ v < 61 ∧ σ.1 200 a ≠ 0 ∧ v < zw (σ.1 204 a + 1)) ∨ (n = 0 ∧ ¬ (0 ≤ v ∧ v < 61 ∧ σ.1 200 a ≠ 0 ∧ v < zw (σ.1 204 a + 1))))) := by
  refine zz_mk k_Deeds_hasVersion o_Deeds_hasVersion rfl rfl (Nat.le_of_ble_eq_true rfl) ?_
  show zz_G X 2 p_Deeds_hasVersion 0 [zP 2 0 0 a, zI v] [] σ _
  refine zz_gsn 1 rfl ?_
  refine zz_br rfl (fun h1 => ?_) (fun h1 => ?_)
  · refine zz_gsn 1 rfl ?_
    refine zz_ri rfl (Or.inr ⟨rfl, by first | exact Or.inl rfl | exact Or.inr rfl | omega⟩) ?_
    exact ⟨rfl, _, rfl, by omega⟩
  · refine zz_gsn 2 rfl ?_
    refine zz_cv (n := 1) rfl rfl (t_Deeds_versions) (Nat.le_of_ble_eq_true rfl) (Nat.le_of_ble_eq_true rfl) (Nat.le_of_ble_eq_true rfl) (fun r4 σ4 q4 => ?_)
    obtain ⟨rfl, n4, rfl, e4⟩ := q4
    refine zz_br rfl (fun h5 => ?_) (fun h5 => ?_)
    · refine zz_gsn 1 rfl ?_
      refine zz_ri rfl (Or.inr ⟨rfl, by first | exact Or.inl rfl | exact Or.inr rfl | omega⟩) ?_
      exact ⟨rfl, _, rfl, by omega⟩
    · refine zz_gsn 2 rfl ?_
      refine zz_br rfl (fun h8 => ?_) (fun h8 => ?_)
      · refine zz_gsn 1 rfl ?_
        refine zz_ri rfl (Or.inr ⟨rfl, by first | exact Or.inl rfl | exact Or.inr rfl | omega⟩) ?_
        exact ⟨rfl, _, rfl, by omega⟩
      · refine zz_gsn 1 rfl ?_
        refine zz_jp rfl ?_
        refine zz_ri rfl (Or.inr ⟨rfl, by first | exact Or.inl rfl | exact Or.inr rfl | omega⟩) ?_
        exact ⟨rfl, _, rfl, by omega⟩
theorem t_Deeds_baseOf {X : zz_X} {σ : zz_M} {a : Nat} {v : Int} (hv : -2147483648 < v ∧ v < 2147483648) : zz_T X 2 p_Deeds_baseOf [zP 2 0 0 a, zI v] σ (fun r σ' => σ = σ' ∧ ∃ n : Int, r = some (zI n) ∧ ((1 ≤ v ∧ v ≤ σ.1 204 a ∧ v ≤ 60 ∧ n = σ.2 (a + 2) (zw (v - 1)).toNat) ∨ (¬ (1 ≤ v ∧ v ≤ σ.1 204 a ∧ v ≤ 60) ∧ n = -1))) := by
  refine zz_mk k_Deeds_baseOf o_Deeds_baseOf rfl rfl (Nat.le_of_ble_eq_true rfl) ?_
  show zz_G X 2 p_Deeds_baseOf 0 [zP 2 0 0 a, zI v] [] σ _
  have hw := zw_id (x := v - 1) (by omega) (by omega)
  refine zz_gsn 4 rfl ?_
  refine zz_cv (n := 2) rfl rfl (t_Deeds_hasDeed) (Nat.le_of_ble_eq_true rfl) (Nat.le_of_ble_eq_true rfl) (Nat.le_of_ble_eq_true rfl) (fun r4 σ4 q4 => ?_)
  obtain ⟨rfl, n4, rfl, e4⟩ := q4
  refine zz_br rfl (fun h5 => ?_) (fun h5 => ?_)
  · refine zz_gsn 1 rfl ?_
    refine zz_ri rfl (Or.inl rfl) ?_
    exact ⟨rfl, _, rfl, by omega⟩
  · refine zz_gsn 5 rfl ?_
    refine zz_ald rfl (by omega) ?_
    refine zz_jp rfl ?_
    refine zz_ri rfl (Or.inl rfl) ?_
    exact ⟨rfl, _, rfl, by omega⟩
theorem t_Deeds_clear {X : zz_X} {σ : zz_M} {a : Nat}  : zz_T X 1 p_Deeds_clear [zP 2 0 0 a] σ (fun r σ' => r = none ∧ σ' = zz_sf (zz_sf (zz_sf (zz_sf (zz_sf σ 200 a 0) 201 a 0) 202 a 0) 203 a 0) 204 a 0) := by
  refine zz_mk k_Deeds_clear o_Deeds_clear rfl rfl (Nat.le_of_ble_eq_true rfl) ?_
  show zz_G X 1 p_Deeds_clear 0 [zP 2 0 0 a] [] σ _
  refine zz_gsn 2 rfl ?_
  refine zz_ptz rfl (by first | exact Or.inl rfl | exact Or.inr rfl | omega) ?_
  refine zz_gsn 12 rfl ?_
  refine zz_rv rfl rfl ?_
  exact ⟨rfl, rfl⟩
theorem t_Row_become {X : zz_X} {σ : zz_M} {a b : Nat}  : zz_T X 1 p_Row_become [zP 7 0 0 a, zP 7 0 0 b] σ (fun r σ' => r = none ∧ σ' = zz_sf (zz_sf σ 700 a (σ.1 700 b)) 701 a (σ.1 701 b)) := by
  refine zz_mk k_Row_become o_Row_become rfl rfl (Nat.le_of_ble_eq_true rfl) ?_
  show zz_G X 1 p_Row_become 0 [zP 7 0 0 a, zP 7 0 0 b] [] σ _
  refine zz_gsn 8 rfl ?_
  refine zz_rv rfl rfl ?_
  exact ⟨rfl, rfl⟩
theorem t_Row_clear {X : zz_X} {σ : zz_M} {a : Nat}  : zz_T X 1 p_Row_clear [zP 7 0 0 a] σ (fun r σ' => r = none ∧ σ' = zz_sf (zz_sf σ 700 a (-1)) 701 a 0) := by
  refine zz_mk k_Row_clear o_Row_clear rfl rfl (Nat.le_of_ble_eq_true rfl) ?_
  show zz_G X 1 p_Row_clear 0 [zP 7 0 0 a] [] σ _
  refine zz_gsn 6 rfl ?_
  refine zz_rv rfl rfl ?_
  exact ⟨rfl, rfl⟩
theorem t_Cells_numberOf {X : zz_X} {σ : zz_M} {p c : Nat} {v : Int}  : zz_T X 1 p_Cells_numberOf [zP 1 p 0 c, zI v] σ (fun r σ' => σ = σ' ∧ ∃ n : Int, r = some (zI n) ∧ ((0 ≤ v ∧ v < p ∧ n = σ.2 (c + 1) v.toNat) ∨ (¬ (0 ≤ v ∧ v < p) ∧ n = -1))) := by
  refine zz_mk k_Cells_numberOf o_Cells_numberOf rfl rfl (Nat.le_of_ble_eq_true rfl) ?_
  show zz_G X 1 p_Cells_numberOf 0 [zP 1 p 0 c, zI v] [] σ _
  refine zz_gsn 1 rfl ?_
  refine zz_br rfl (fun h1 => ?_) (fun h1 => ?_)
  · refine zz_gsn 1 rfl ?_
    refine zz_ri rfl (Or.inl rfl) ?_
    exact ⟨rfl, _, rfl, by omega⟩
  · refine zz_gsn 4 rfl ?_
    refine zz_br rfl (fun h6 => ?_) (fun h6 => ?_)
    · refine zz_gsn 1 rfl ?_
      refine zz_ri rfl (Or.inl rfl) ?_
      exact ⟨rfl, _, rfl, by omega⟩
    · refine zz_gsn 3 rfl ?_
      refine zz_ald rfl (by omega) ?_
      refine zz_jp rfl ?_
      refine zz_ri rfl (Or.inl rfl) ?_
      exact ⟨rfl, _, rfl, by omega⟩
theorem t_Cells_makerOf {X : zz_X} {σ : zz_M} {p c : Nat} {v : Int}  : zz_T X 1 p_Cells_makerOf [zP 1 p 0 c, zI v] σ (fun r σ' => σ = σ' ∧ ∃ n : Int, r = some (zI n) ∧ ((0 ≤ v ∧ v < p ∧ n = σ.2 (c + 3) v.toNat) ∨ (¬ (0 ≤ v ∧ v < p) ∧ n = -1))) := by
  refine zz_mk k_Cells_makerOf o_Cells_makerOf rfl rfl (Nat.le_of_ble_eq_true rfl) ?_
  show zz_G X 1 p_Cells_makerOf 0 [zP 1 p 0 c, zI v] [] σ _
  refine zz_gsn 1 rfl ?_
  refine zz_br rfl (fun h1 => ?_) (fun h1 => ?_)
  · refine zz_gsn 1 rfl ?_
    refine zz_ri rfl (Or.inl rfl) ?_
    exact ⟨rfl, _, rfl, by omega⟩
  · refine zz_gsn 4 rfl ?_
    refine zz_br rfl (fun h6 => ?_) (fun h6 => ?_)
    · refine zz_gsn 1 rfl ?_
      refine zz_ri rfl (Or.inl rfl) ?_
      exact ⟨rfl, _, rfl, by omega⟩
    · refine zz_gsn 3 rfl ?_
      refine zz_ald rfl (by omega) ?_
      refine zz_jp rfl ?_
      refine zz_ri rfl (Or.inl rfl) ?_
      exact ⟨rfl, _, rfl, by omega⟩
theorem t_Cells_behind {X : zz_X} {σ : zz_M} {p c : Nat} {v : Int}  : zz_T X 1 p_Cells_behind [zP 1 p 0 c, zI v] σ (fun r σ' => σ = σ' ∧ ∃ n : Int, r = some (zI n) ∧ ((0 ≤ v ∧ v < p ∧ n = σ.2 (c + 2) v.toNat) ∨ (¬ (0 ≤ v ∧ v < p) ∧ n = -1))) := by
  refine zz_mk k_Cells_behind o_Cells_behind rfl rfl (Nat.le_of_ble_eq_true rfl) ?_
  show zz_G X 1 p_Cells_behind 0 [zP 1 p 0 c, zI v] [] σ _
  refine zz_gsn 1 rfl ?_
  refine zz_br rfl (fun h1 => ?_) (fun h1 => ?_)
  · refine zz_gsn 1 rfl ?_
    refine zz_ri rfl (Or.inl rfl) ?_
    exact ⟨rfl, _, rfl, by omega⟩
  · refine zz_gsn 4 rfl ?_
    refine zz_br rfl (fun h6 => ?_) (fun h6 => ?_)
    · refine zz_gsn 1 rfl ?_
      refine zz_ri rfl (Or.inl rfl) ?_
      exact ⟨rfl, _, rfl, by omega⟩
    · refine zz_gsn 3 rfl ?_
      refine zz_ald rfl (by omega) ?_
      refine zz_jp rfl ?_
      refine zz_ri rfl (Or.inl rfl) ?_
      exact ⟨rfl, _, rfl, by omega⟩
theorem t_Cells_unmarkAll {X : zz_X} {σ : zz_M} {p c : Nat}  : zz_T X 1 p_Cells_unmarkAll [zP 1 p 0 c] σ (fun r σ' => r = none ∧ σ' = zz_sf σ 105 c (zw (σ.1 105 c + 1))) := by
  refine zz_mk k_Cells_unmarkAll o_Cells_unmarkAll rfl rfl (Nat.le_of_ble_eq_true rfl) ?_
  show zz_G X 1 p_Cells_unmarkAll 0 [zP 1 p 0 c] [] σ _
  refine zz_gsn 6 rfl ?_
  refine zz_rv rfl rfl ?_
  exact ⟨rfl, rfl⟩
theorem t_Cells_add {X : zz_X} {σ : zz_M} {p c r : Nat} {x mk : Int}  : zz_T X 1 p_Cells_add [zP 1 p 0 c, zP 7 0 0 r, zI x, zI mk] σ (fun r_ σ' => r_ = none ∧ ((0 ≤ σ.1 100 c ∧ σ.1 100 c < p ∧ σ' = zz_sf (zz_sf (zz_sf (zz_sa (zz_sa (zz_sa σ (c + 1) (σ.1 100 c).toNat x) (c + 2) (σ.1 100 c).toNat (σ.1 700 r)) (c + 3) (σ.1 100 c).toNat mk) 100 c (zw (σ.1 100 c + 1))) 700 r (σ.1 100 c)) 701 r (zw (σ.1 701 r + 1))) ∨ (¬ (0 ≤ σ.1 100 c ∧ σ.1 100 c < p) ∧ σ' = zz_sf (zz_sf σ 700 r (-1)) 701 r (zw (σ.1 701 r + 1))))) := by
  refine zz_mk k_Cells_add o_Cells_add rfl rfl (Nat.le_of_ble_eq_true rfl) ?_
  show zz_G X 1 p_Cells_add 0 [zP 1 p 0 c, zP 7 0 0 r, zI x, zI mk, zU] [] σ _
  refine zz_gsn 4 rfl ?_
  refine zz_br rfl (fun h4 => ?_) (fun h4 => ?_)
  · refine zz_gsn 9 rfl ?_
    refine zz_rv rfl rfl ?_
    exact ⟨rfl, Or.inr ⟨by omega, rfl⟩⟩
  · refine zz_gsn 5 rfl ?_
    refine zz_br rfl (fun h10 => ?_) (fun h10 => ?_)
    · refine zz_gsn 9 rfl ?_
      refine zz_rv rfl rfl ?_
      exact ⟨rfl, Or.inr ⟨by omega, rfl⟩⟩
    · refine zz_gsn 7 rfl ?_
      refine zz_ast rfl (by omega) ?_
      refine zz_gsn 5 rfl ?_
      refine zz_ast rfl (by omega) ?_
      refine zz_gsn 4 rfl ?_
      refine zz_ast rfl (by omega) ?_
      refine zz_gsn 15 rfl ?_
      refine zz_rv rfl rfl ?_
      exact ⟨rfl, Or.inl ⟨by omega, by omega, rfl⟩⟩
theorem t_Cells_dropFirst {X : zz_X} {σ : zz_M} {p c r : Nat}  : zz_T X 1 p_Cells_dropFirst [zP 1 p 0 c, zP 7 0 0 r] σ (fun r_ σ' => r_ = none ∧ ((0 < σ.1 701 r ∧ ∃ w : Int, ((0 ≤ σ.1 700 r ∧ σ.1 700 r < p ∧ w = σ.2 (c + 2) (σ.1 700 r).toNat) ∨ (¬ (0 ≤ σ.1 700 r ∧ σ.1 700 r < p) ∧ w = -1)) ∧ σ' = zz_sf (zz_sf σ 700 r w) 701 r (zw (σ.1 701 r - 1))) ∨ (σ.1 701 r ≤ 0 ∧ σ' = σ))) := by
  refine zz_mk k_Cells_dropFirst o_Cells_dropFirst rfl rfl (Nat.le_of_ble_eq_true rfl) ?_
  show zz_G X 1 p_Cells_dropFirst 0 [zP 1 p 0 c, zP 7 0 0 r, zU] [] σ _
  refine zz_gsn 5 rfl ?_
  refine zz_br rfl (fun h5 => ?_) (fun h5 => ?_)
  · refine zz_rv rfl rfl ?_
    exact ⟨rfl, Or.inr ⟨by omega, rfl⟩⟩
  · refine zz_gsn 2 rfl ?_
    refine zz_br rfl (fun h8 => ?_) (fun h8 => ?_)
    · refine zz_gsn 8 rfl ?_
      refine zz_rv rfl rfl ?_
      exact ⟨rfl, Or.inl ⟨by omega, _, by omega, rfl⟩⟩
    · refine zz_gsn 4 rfl ?_
      refine zz_br rfl (fun h13 => ?_) (fun h13 => ?_)
      · refine zz_gsn 8 rfl ?_
        refine zz_rv rfl rfl ?_
        exact ⟨rfl, Or.inl ⟨by omega, _, by omega, rfl⟩⟩
      · refine zz_gsn 3 rfl ?_
        refine zz_ald rfl (by omega) ?_
        refine zz_jp rfl ?_
        refine zz_gsn 7 rfl ?_
        refine zz_rv rfl rfl ?_
        exact ⟨rfl, Or.inl ⟨by omega, _, by omega, rfl⟩⟩
theorem t_Numbers_numberAt {X : zz_X} {σ : zz_M} {p a : Nat} {v : Int}  : zz_T X 1 p_Numbers_numberAt [zP 5 p 0 a, zI v] σ (fun r σ' => σ = σ' ∧ ∃ n : Int, r = some (zI n) ∧ ((0 ≤ v ∧ v < σ.1 500 a ∧ v < p ∧ n = σ.2 (a + 1) v.toNat) ∨ (¬ (0 ≤ v ∧ v < σ.1 500 a ∧ v < p) ∧ n = -1))) := by
  refine zz_mk k_Numbers_numberAt o_Numbers_numberAt rfl rfl (Nat.le_of_ble_eq_true rfl) ?_
  show zz_G X 1 p_Numbers_numberAt 0 [zP 5 p 0 a, zI v] [] σ _
  refine zz_gsn 1 rfl ?_
  refine zz_br rfl (fun h1 => ?_) (fun h1 => ?_)
  · refine zz_gsn 1 rfl ?_
    refine zz_ri rfl (Or.inl rfl) ?_
    exact ⟨rfl, _, rfl, by omega⟩
  · refine zz_gsn 3 rfl ?_
    refine zz_br rfl (fun h5 => ?_) (fun h5 => ?_)
    · refine zz_gsn 1 rfl ?_
      refine zz_ri rfl (Or.inl rfl) ?_
      exact ⟨rfl, _, rfl, by omega⟩
    · refine zz_gsn 4 rfl ?_
      refine zz_br rfl (fun h10 => ?_) (fun h10 => ?_)
      · refine zz_gsn 1 rfl ?_
        refine zz_ri rfl (Or.inl rfl) ?_
        exact ⟨rfl, _, rfl, by omega⟩
      · refine zz_gsn 3 rfl ?_
        refine zz_ald rfl (by omega) ?_
        refine zz_jp rfl ?_
        refine zz_ri rfl (Or.inl rfl) ?_
        exact ⟨rfl, _, rfl, by omega⟩
theorem t_Bytes_byteAt {X : zz_X} {σ : zz_M} {p a : Nat} {v : Int}  : zz_T X 1 p_Bytes_byteAt [zP 0 p 0 a, zI v] σ (fun r σ' => σ = σ' ∧ ∃ n : Int, r = some (zI n) ∧ ((0 ≤ v ∧ v < σ.1 0 a ∧ v < p ∧ n = zz_and (σ.2 (a + 1) v.toNat) 255) ∨ (¬ (0 ≤ v ∧ v < σ.1 0 a ∧ v < p) ∧ n = -1))) := by
  refine zz_mk k_Bytes_byteAt o_Bytes_byteAt rfl rfl (Nat.le_of_ble_eq_true rfl) ?_
  show zz_G X 1 p_Bytes_byteAt 0 [zP 0 p 0 a, zI v] [] σ _
  refine zz_gsn 1 rfl ?_
  refine zz_br rfl (fun h1 => ?_) (fun h1 => ?_)
  · refine zz_gsn 1 rfl ?_
    refine zz_ri rfl (Or.inl rfl) ?_
    exact ⟨rfl, _, rfl, by omega⟩
  · refine zz_gsn 3 rfl ?_
    refine zz_br rfl (fun h5 => ?_) (fun h5 => ?_)
    · refine zz_gsn 1 rfl ?_
      refine zz_ri rfl (Or.inl rfl) ?_
      exact ⟨rfl, _, rfl, by omega⟩
    · refine zz_gsn 4 rfl ?_
      refine zz_br rfl (fun h10 => ?_) (fun h10 => ?_)
      · refine zz_gsn 1 rfl ?_
        refine zz_ri rfl (Or.inl rfl) ?_
        exact ⟨rfl, _, rfl, by omega⟩
      · refine zz_gsn 3 rfl ?_
        refine zz_ald rfl (by omega) ?_
        refine zz_gsn 2 rfl ?_
        refine zz_jp rfl ?_
        refine zz_ri rfl (Or.inl rfl) ?_
        exact ⟨rfl, _, rfl, by omega⟩
theorem t_Bytes_add {X : zz_X} {σ : zz_M} {p a : Nat} {v : Int}  : zz_T X 1 p_Bytes_add [zP 0 p 0 a, zI v] σ (fun r σ' => r = none ∧ ((0 ≤ σ.1 0 a ∧ σ.1 0 a < p ∧ σ' = zz_sf (zz_sa σ (a + 1) (σ.1 0 a).toNat (zz_i2b (zz_i2b v))) 0 a (zw (σ.1 0 a + 1))) ∨ (¬ (0 ≤ σ.1 0 a ∧ σ.1 0 a < p) ∧ σ' = σ))) := by
  refine zz_mk k_Bytes_add o_Bytes_add rfl rfl (Nat.le_of_ble_eq_true rfl) ?_
  show zz_G X 1 p_Bytes_add 0 [zP 0 p 0 a, zI v] [] σ _
  refine zz_gsn 2 rfl ?_
  refine zz_br rfl (fun h2 => ?_) (fun h2 => ?_)
  · refine zz_rv rfl rfl ?_
    exact ⟨rfl, Or.inr ⟨by omega, rfl⟩⟩
  · refine zz_gsn 5 rfl ?_
    refine zz_br rfl (fun h8 => ?_) (fun h8 => ?_)
    · refine zz_rv rfl rfl ?_
      exact ⟨rfl, Or.inr ⟨by omega, rfl⟩⟩
    · refine zz_gsn 6 rfl ?_
      refine zz_ast rfl (by omega) ?_
      refine zz_gsn 6 rfl ?_
      refine zz_rv rfl rfl ?_
      exact ⟨rfl, Or.inl ⟨by omega, by omega, rfl⟩⟩
theorem t_TQ_isPutting {X : zz_X} {σ : zz_M} {v : Int}  : zz_T X 1 p_TQ_isPutting [zI v] σ (fun r σ' => σ = σ' ∧ ∃ n : Int, r = some (zI n) ∧ ((n = 1 ∧ (v = 0 ∨ v = 2)) ∨ (n = 0 ∧ ¬ (v = 0 ∨ v = 2)))) := by
  refine zz_mk k_TQ_isPutting o_TQ_isPutting rfl rfl (Nat.le_of_ble_eq_true rfl) ?_
  show zz_G X 1 p_TQ_isPutting 0 [zI v] [] σ _
  refine zz_gsn 1 rfl ?_
  refine zz_br rfl (fun h1 => ?_) (fun h1 => ?_)
  · refine zz_gsn 1 rfl ?_
    refine zz_jp rfl ?_
    refine zz_ri rfl (Or.inr ⟨rfl, by first | exact Or.inl rfl | exact Or.inr rfl | omega⟩) ?_
    exact ⟨rfl, _, rfl, by omega⟩
  · refine zz_gsn 2 rfl ?_
    refine zz_br rfl (fun h4 => ?_) (fun h4 => ?_)
    · refine zz_gsn 1 rfl ?_
      refine zz_ri rfl (Or.inr ⟨rfl, by first | exact Or.inl rfl | exact Or.inr rfl | omega⟩) ?_
      exact ⟨rfl, _, rfl, by omega⟩
    · refine zz_gsn 1 rfl ?_
      refine zz_jp rfl ?_
      refine zz_ri rfl (Or.inr ⟨rfl, by first | exact Or.inl rfl | exact Or.inr rfl | omega⟩) ?_
      exact ⟨rfl, _, rfl, by omega⟩
theorem t_State_isAtRest {X : zz_X} {σ : zz_M} {s : Nat}  : zz_T X 1 p_State_isAtRest [zP 9 0 0 s] σ (fun r σ' => σ = σ' ∧ ∃ n : Int, r = some (zI n) ∧ ((n = 1 ∧ σ.1 908 s = 0 ∧ σ.1 910 s = 0 ∧ σ.1 911 s = 0) ∨ (n = 0 ∧ ¬ (σ.1 908 s = 0 ∧ σ.1 910 s = 0 ∧ σ.1 911 s = 0)))) := by
  refine zz_mk k_State_isAtRest o_State_isAtRest rfl rfl (Nat.le_of_ble_eq_true rfl) ?_
  show zz_G X 1 p_State_isAtRest 0 [zP 9 0 0 s] [] σ _
  refine zz_gsn 2 rfl ?_
  refine zz_br rfl (fun h2 => ?_) (fun h2 => ?_)
  · refine zz_gsn 1 rfl ?_
    refine zz_ri rfl (Or.inr ⟨rfl, by first | exact Or.inl rfl | exact Or.inr rfl | omega⟩) ?_
    exact ⟨rfl, _, rfl, by omega⟩
  · refine zz_gsn 2 rfl ?_
    refine zz_br rfl (fun h5 => ?_) (fun h5 => ?_)
    · refine zz_gsn 1 rfl ?_
      refine zz_ri rfl (Or.inr ⟨rfl, by first | exact Or.inl rfl | exact Or.inr rfl | omega⟩) ?_
      exact ⟨rfl, _, rfl, by omega⟩
    · refine zz_gsn 2 rfl ?_
      refine zz_br rfl (fun h8 => ?_) (fun h8 => ?_)
      · refine zz_gsn 1 rfl ?_
        refine zz_ri rfl (Or.inr ⟨rfl, by first | exact Or.inl rfl | exact Or.inr rfl | omega⟩) ?_
        exact ⟨rfl, _, rfl, by omega⟩
      · refine zz_gsn 1 rfl ?_
        refine zz_jp rfl ?_
        refine zz_ri rfl (Or.inr ⟨rfl, by first | exact Or.inl rfl | exact Or.inr rfl | omega⟩) ?_
        exact ⟨rfl, _, rfl, by omega⟩
