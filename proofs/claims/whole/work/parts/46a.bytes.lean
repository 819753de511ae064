/-! bytes: four more -/
def zb_four (w : Int) (q : zq_T) : zq_T := zb_add w (zb_add (zz_ushr w 8) (zb_add (zz_ushr w 16) (zb_add (zz_ushr w 24) q)))
theorem t_Bytes_addFour {X : zz_X} {σ : zz_M} {p a : Nat} {w : Int} {q : zq_T} (hq : BR σ a q) (hp : q.1 + 4 ≤ p) (hb : p < 100000) : zz_T X 2 p_Bytes_addFour [zP 0 p 0 a, zI w] σ (fun r σ' => r = none ∧ BR σ' a (zb_four w q) ∧ zz_F (zz_A2 a) σ σ') := by
  refine zz_mk k_Bytes_addFour o_Bytes_addFour rfl rfl (Nat.le_of_ble_eq_true rfl) ?_
  show zz_G X 2 p_Bytes_addFour 0 [zP 0 p 0 a, zI w] [] σ _
  refine zz_gsn 4 rfl ?_
  refine zz_cv (n := 2) rfl rfl (t_Bytes_add) (Nat.le_of_ble_eq_true rfl) (Nat.le_of_ble_eq_true rfl) (Nat.le_of_ble_eq_true rfl) (fun r4 σ4 q4 => ?_)
  obtain ⟨rfl, q4⟩ := q4
  obtain ⟨p4, g4⟩ := br_add hq (by show q.1 + 0 < p; omega) hb q4
  clear q4
  refine zz_gsn 4 rfl ?_
  refine zz_cv (n := 2) rfl rfl (t_Bytes_add) (Nat.le_of_ble_eq_true rfl) (Nat.le_of_ble_eq_true rfl) (Nat.le_of_ble_eq_true rfl) (fun r9 σ9 q9 => ?_)
  obtain ⟨rfl, q9⟩ := q9
  obtain ⟨p9, g9⟩ := br_add p4 (by show q.1 + 1 < p; omega) hb q9
  clear q9
  refine zz_gsn 4 rfl ?_
  refine zz_cv (n := 2) rfl rfl (t_Bytes_add) (Nat.le_of_ble_eq_true rfl) (Nat.le_of_ble_eq_true rfl) (Nat.le_of_ble_eq_true rfl) (fun r14 σ14 q14 => ?_)
  obtain ⟨rfl, q14⟩ := q14
  obtain ⟨p14, g14⟩ := br_add p9 (by show q.1 + 2 < p; omega) hb q14
  clear q14
  refine zz_gsn 2 rfl ?_
  refine zz_cv (n := 2) rfl rfl (t_Bytes_add) (Nat.le_of_ble_eq_true rfl) (Nat.le_of_ble_eq_true rfl) (Nat.le_of_ble_eq_true rfl) (fun r17 σ17 q17 => ?_)
  obtain ⟨rfl, q17⟩ := q17
  obtain ⟨p17, g17⟩ := br_add p14 (by show q.1 + 3 < p; omega) hb q17
  clear q17
  refine zz_rv rfl rfl ?_
  exact ⟨rfl, p17, ((g4.tr g9).tr g14).tr g17⟩
