/-! the class: the scout notes -/
theorem t_Scout_noteDeed {X : zz_X} {σ : zz_M} {s j : Nat} {kind S : Int} (hj : j < 6) : zz_T X 1 p_Scout_noteDeed [zP 8 0 0 s, zI (j : Nat), zI kind, zI S] σ (fun r σ' => r = none ∧ σ' = zz_sa (zz_sa (zz_sf σ 800 s (max (σ.1 800 s) S)) (s + 1) j kind) (s + 3) j (max (σ.2 (s + 3) j) S)) := by
  refine zz_mk k_Scout_noteDeed o_Scout_noteDeed rfl rfl (Nat.le_of_ble_eq_true rfl) ?_
  show zz_G X 1 p_Scout_noteDeed 0 [zP 8 0 0 s, zI (j : Nat), zI kind, zI S] [] σ _
  refine zz_gsn 4 rfl ?_
  refine zz_mth rfl (Nat.le_of_ble_eq_true rfl) (Nat.le_of_ble_eq_true rfl) ?_
  refine zz_gsn 2 rfl ?_
  refine zz_br rfl (fun h7 => absurd h7 (by omega)) (fun h7 => ?_)
  refine zz_gsn 2 rfl ?_
  refine zz_br rfl (fun h10 => absurd h10 (by omega)) (fun h10 => ?_)
  refine zz_gsn 4 rfl ?_
  refine zz_ast rfl (⟨by omega, by omega⟩) ?_
  refine zz_gsn 6 rfl ?_
  refine zz_ald rfl (⟨by omega, by omega⟩) ?_
  refine zz_gsn 1 rfl ?_
  refine zz_mth rfl (Nat.le_of_ble_eq_true rfl) (Nat.le_of_ble_eq_true rfl) ?_
  refine zz_ast rfl (⟨by omega, by omega⟩) ?_
  refine zz_rv rfl rfl ?_
  refine ⟨rfl, ?_⟩
  rw [Int.toNat_natCast, sa_a _ _ (by omega)]
  rfl
theorem t_Scout_worstKind {X : zz_X} {σ : zz_M} {s : Nat} {i : Int}  : zz_T X 1 p_Scout_worstKind [zP 8 0 0 s, zI i] σ (fun r σ' => σ = σ' ∧ r = some (zI (if 0 ≤ i ∧ i < σ.1 803 s ∧ i < 6 then σ.2 (s + 2) i.toNat else -1))) := by
  refine zz_mk k_Scout_worstKind o_Scout_worstKind rfl rfl (Nat.le_of_ble_eq_true rfl) ?_
  show zz_G X 1 p_Scout_worstKind 0 [zP 8 0 0 s, zI i] [] σ _
  refine zz_gsn 1 rfl ?_
  refine zz_br rfl (fun h1 => ?_) (fun h1 => ?_)
  · refine zz_gsn 1 rfl ?_
    refine zz_ri rfl (Or.inl rfl) ?_
    exact ⟨rfl, congrArg (fun z => some (zI z)) (if_neg (by omega)).symm⟩
  · refine zz_gsn 3 rfl ?_
    refine zz_br rfl (fun h5 => ?_) (fun h5 => ?_)
    · refine zz_gsn 1 rfl ?_
      refine zz_ri rfl (Or.inl rfl) ?_
      exact ⟨rfl, congrArg (fun z => some (zI z)) (if_neg (by omega)).symm⟩
    · refine zz_gsn 2 rfl ?_
      refine zz_br rfl (fun h8 => ?_) (fun h8 => ?_)
      · refine zz_gsn 1 rfl ?_
        refine zz_ri rfl (Or.inl rfl) ?_
        exact ⟨rfl, congrArg (fun z => some (zI z)) (if_neg (by omega)).symm⟩
      · refine zz_gsn 3 rfl ?_
        refine zz_ald rfl (⟨by omega, by omega⟩) ?_
        refine zz_jp rfl ?_
        refine zz_ri rfl (Or.inl rfl) ?_
        exact ⟨rfl, congrArg (fun z => some (zI z)) (if_pos ⟨by omega, by omega, by omega⟩).symm⟩
