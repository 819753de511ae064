/-! the reference: letters -/
theorem r_bd.x {law C kind x : Int} {B0 n0 i : Nat} {W : zz_W} (h : r_bd law B0 n0 i W) (hC : 2 ≤ C ∧ C ≤ 4) (hk : 0 ≤ kind ∧ kind ≤ 3) (hkl : law ≠ 2 → kind ≤ 1) (hp : kind = 1 ∨ kind = 3 → 0 < W.S 11) : r_bd law B0 n0 (i + 1) (w_deed law C (-1) kind x W) := by
  obtain ⟨a, b, c⟩ := h
  obtain ⟨d1, d2, d3, -⟩ := IV_deed (C := C) (mk := -1) (kind := kind) (x := x) a hC hk hkl hp
  have e := (x_deed law C (-1) kind x W hk).1
  exact ⟨d1, Nat.le_trans b e, by omega⟩
theorem t_Mo_kindBy {X : zz_X} {σ : zz_M} {m : Nat} {c : Int}  : zz_T X 1 p_Mo_kindBy [zP 12 0 0 m, zI c] σ (fun r σ' => σ = σ' ∧ r = some (zI (l_kd (σ.1 1211 m) c))) := by
  refine zz_mk k_Mo_kindBy o_Mo_kindBy rfl rfl (Nat.le_of_ble_eq_true rfl) ?_
  show zz_G X 1 p_Mo_kindBy 0 [zP 12 0 0 m, zI c] [] σ _
  refine zz_gsn 2 rfl ?_
  refine zz_br rfl (fun h2 => ?_) (fun h2 => ?_)
  · refine zz_gsn 2 rfl ?_
    refine zz_br rfl (fun h7 => ?_) (fun h7 => ?_)
    · refine zz_gsn 3 rfl ?_
      refine zz_br rfl (fun h13 => ?_) (fun h13 => ?_)
      · refine zz_gsn 3 rfl ?_
        refine zz_br rfl (fun h22 => ?_) (fun h22 => ?_)
        · refine zz_gsn 1 rfl ?_
          refine zz_ri rfl (Or.inl rfl) ?_
          exact ⟨rfl, congrArg (fun z => some (zI z)) (l_kd_o h2 h7 (fun z => h13 z.1) (fun z => h22 z.1)).symm⟩
        · refine zz_gsn 2 rfl ?_
          refine zz_br rfl (fun h25 => ?_) (fun h25 => ?_)
          · refine zz_gsn 1 rfl ?_
            refine zz_ri rfl (Or.inl rfl) ?_
            exact ⟨rfl, congrArg (fun z => some (zI z)) (l_kd_o h2 h7 (fun z => h13 z.1) (fun z => h25 z.2)).symm⟩
          · refine zz_gsn 1 rfl ?_
            refine zz_jp rfl ?_
            refine zz_ri rfl (Or.inl rfl) ?_
            have e : c = 108 := by first | exact h25 | exact Decidable.not_not.mp h25
            have e2 : σ.1 1211 m = 2 := by first | exact h22 | exact Decidable.not_not.mp h22
            subst e
            rw [e2]
            exact ⟨rfl, rfl⟩
      · refine zz_gsn 2 rfl ?_
        refine zz_br rfl (fun h16 => ?_) (fun h16 => ?_)
        · refine zz_gsn 3 rfl ?_
          refine zz_br rfl (fun h22 => ?_) (fun h22 => ?_)
          · refine zz_gsn 1 rfl ?_
            refine zz_ri rfl (Or.inl rfl) ?_
            exact ⟨rfl, congrArg (fun z => some (zI z)) (l_kd_o h2 h7 (fun z => h16 z.2) (fun z => h22 z.1)).symm⟩
          · refine zz_gsn 2 rfl ?_
            refine zz_br rfl (fun h25 => ?_) (fun h25 => ?_)
            · refine zz_gsn 1 rfl ?_
              refine zz_ri rfl (Or.inl rfl) ?_
              exact ⟨rfl, congrArg (fun z => some (zI z)) (l_kd_o h2 h7 (fun z => h16 z.2) (fun z => h25 z.2)).symm⟩
            · refine zz_gsn 1 rfl ?_
              refine zz_jp rfl ?_
              refine zz_ri rfl (Or.inl rfl) ?_
              have e : c = 108 := by first | exact h25 | exact Decidable.not_not.mp h25
              have e2 : σ.1 1211 m = 2 := by first | exact h22 | exact Decidable.not_not.mp h22
              subst e
              rw [e2]
              exact ⟨rfl, rfl⟩
        · refine zz_gsn 1 rfl ?_
          refine zz_ri rfl (Or.inl rfl) ?_
          have e : c = 102 := by first | exact h16 | exact Decidable.not_not.mp h16
          have e2 : σ.1 1211 m = 2 := by first | exact h13 | exact Decidable.not_not.mp h13
          subst e
          rw [e2]
          exact ⟨rfl, rfl⟩
    · refine zz_gsn 1 rfl ?_
      refine zz_ri rfl (Or.inl rfl) ?_
      have e : c = 116 := by first | exact h7 | exact Decidable.not_not.mp h7
      subst e
      exact ⟨rfl, rfl⟩
  · refine zz_gsn 1 rfl ?_
    refine zz_ri rfl (Or.inl rfl) ?_
    have e : c = 112 := by first | exact h2 | exact Decidable.not_not.mp h2
    subst e
    exact ⟨rfl, rfl⟩
