/-! rows of numbers: by a deed -/
theorem t_Numbers_change {X : zz_X} {σ : zz_M} {p a : Nat} {kind x : Int} {q : zq_T} (hq : QR σ a q) (hkd : 0 ≤ kind ∧ kind ≤ 3) (hp : kind = 0 ∨ kind = 2 → q.1 < p) (hp1 : kind = 1 ∨ kind = 3 → 0 < q.1) (hp2 : q.1 ≤ p) (hb : p < 100000) : zz_T X 3 p_Numbers_change [zP 5 p 0 a, zI kind, zI x] σ (fun r σ' => r = some (zI (zq_num kind x q)) ∧ QR σ' a (zq_chg kind x q) ∧ zz_F (zz_A2 a) σ σ') := by
  refine zz_mk k_Numbers_change o_Numbers_change rfl rfl (Nat.le_of_ble_eq_true rfl) ?_
  show zz_G X 3 p_Numbers_change 0 [zP 5 p 0 a, zI kind, zI x] [] σ _
  have hq1 := hq.1
  refine zz_gsn 1 rfl ?_
  have hk : kind = 0 ∨ kind = 1 ∨ kind = 2 ∨ kind = 3 := by omega
  rcases hk with hk | hk | hk | hk
  · refine zz_swI 0 2 rfl (by omega) rfl ?_
    refine zz_gsn 4 rfl ?_
    rw [hq1]
    refine zz_cv (n := 3) rfl rfl (t_Numbers_insert (pl := q.1) hq (hp (Or.inl hk)) (Nat.le_refl _) hb) (Nat.le_of_ble_eq_true rfl) (Nat.le_of_ble_eq_true rfl) (Nat.le_of_ble_eq_true rfl) (fun r6 σ6 q6 => ?_)
    obtain ⟨rfl, p6, g6⟩ := q6
    refine zz_gsn 1 rfl ?_
    refine zz_ri rfl (Or.inl rfl) ?_
    subst hk
    exact ⟨rfl, p6, g6⟩
  · refine zz_swI 1 15 rfl (by omega) rfl ?_
    refine zz_gsn 2 rfl ?_
    refine zz_cv (n := 2) rfl rfl (t_Numbers_remove (pl := 0) hq hp2 (hp1 (Or.inl hk)) hb) (Nat.le_of_ble_eq_true rfl) (Nat.le_of_ble_eq_true rfl) (Nat.le_of_ble_eq_true rfl) (fun r17 σ17 q17 => ?_)
    obtain ⟨rfl, p17, g17⟩ := q17
    refine zz_ri rfl (Or.inl rfl) ?_
    subst hk
    exact ⟨rfl, p17, g17⟩
  · refine zz_swI 2 9 rfl (by omega) rfl ?_
    refine zz_gsn 3 rfl ?_
    refine zz_cv (n := 3) rfl rfl (t_Numbers_insert (pl := 0) hq (hp (Or.inr hk)) (Nat.zero_le _) hb) (Nat.le_of_ble_eq_true rfl) (Nat.le_of_ble_eq_true rfl) (Nat.le_of_ble_eq_true rfl) (fun r12 σ12 q12 => ?_)
    obtain ⟨rfl, p12, g12⟩ := q12
    refine zz_gsn 1 rfl ?_
    refine zz_ri rfl (Or.inl rfl) ?_
    subst hk
    exact ⟨rfl, p12, g12⟩
  · refine zz_swO 19 rfl (by show kind < 0 ∨ 0 + 4 ≤ kind + 1; omega) rfl ?_
    refine zz_gsn 5 rfl ?_
    have em : zw (σ.1 500 a - 1) = ((q.1 - 1 : Nat) : Int) := by rw [hq1, zw_id (by omega) (by omega)]; have := hp1 (Or.inr hk); omega
    rw [em]
    refine zz_cv (n := 2) rfl rfl (t_Numbers_remove (pl := q.1 - 1) hq hp2 (by have := hp1 (Or.inr hk); omega) hb) (Nat.le_of_ble_eq_true rfl) (Nat.le_of_ble_eq_true rfl) (Nat.le_of_ble_eq_true rfl) (fun r24 σ24 q24 => ?_)
    obtain ⟨rfl, p24, g24⟩ := q24
    refine zz_ri rfl (Or.inl rfl) ?_
    subst hk
    exact ⟨rfl, p24, g24⟩
