/-! deeds: how many are made of one -/
def zz_sum (f : Nat → Int) : Nat → Int
  | 0 => 0
  | n + 1 => zz_sum f n + f n
theorem zz_sum_b {f : Nat → Int} {B : Int} (hB : 0 ≤ B) (h : ∀ j, 0 ≤ f j ∧ f j ≤ B) : ∀ n : Nat, 0 ≤ zz_sum f n ∧ zz_sum f n ≤ B * (n : Int)
  | 0 => ⟨Int.le_refl _, by show (0 : Int) ≤ B * 0; omega⟩
  | n + 1 => by
    have h1 := zz_sum_b hB h n
    have h2 := h n
    have e : B * ((n + 1 : Nat) : Int) = B * (n : Int) + B := by rw [Int.natCast_succ, Int.mul_add, Int.mul_one]
    show 0 ≤ zz_sum f n + f n ∧ zz_sum f n + f n ≤ _
    rw [e]
    omega
def zd_is (D : zz_D) (v : Int) (j : Nat) : Int := if ((zd_B D j : Nat) : Int) = v then 1 else 0
theorem zd_is_b (D : zz_D) (v : Int) (j : Nat) : 0 ≤ zd_is D v j ∧ zd_is D v j ≤ 1 := by
  unfold zd_is
  split <;> omega
theorem lp_madeOf {X : zz_X} {a k : Nat} {D : zz_D} {σ : zz_M} {v : Int} {Post : Option zz_V → zz_M → Prop} (hD : DR σ a k D) (kk : Post (some (zI (zz_sum (zd_is D v) k))) σ) :
    ∀ (r i : Nat), i + r = k → zz_G X 2 p_Deeds_madeOf 4 [zP 2 0 0 a, zI v, zI (zz_sum (zd_is D v) i), zI (i : Nat)] [] σ Post := by
  obtain ⟨d1, d2, d3⟩ := hD
  intro r
  induction r with
  | zero =>
    intro i hi
    have e : i = k := by omega
    subst e
    refine zz_gsn 2 rfl ?_
    refine zz_br rfl (fun h6 => ?_) (fun h6 => ?_)
    · refine zz_gsn 1 rfl ?_
      refine zz_ri rfl (Or.inl rfl) ?_
      exact kk
    · refine zz_gsn 2 rfl ?_
      refine zz_cv (n := 2) rfl rfl (t_Deeds_hasDeed) (Nat.le_of_ble_eq_true rfl) (Nat.le_of_ble_eq_true rfl) (Nat.le_of_ble_eq_true rfl) (fun r9 σ9 q9 => ?_)
      obtain ⟨rfl, n9, rfl, e9⟩ := q9
      refine zz_br rfl (fun h10 => ?_) (fun h10 => absurd h10 (by omega))
      refine zz_gsn 1 rfl ?_
      refine zz_ri rfl (Or.inl rfl) ?_
      exact kk
  | succ r ih =>
    intro i hi
    have ei : zw ((i : Int) + 1) = ((i + 1 : Nat) : Int) := by rw [zw_id (by omega) (by omega)]; omega
    have hb := zz_sum_b (f := zd_is D v) (B := 1) (by decide) (zd_is_b D v) i
    have hz : σ.2 (a + 2) i = ((zd_B D i : Nat) : Int) := (d3 i (by omega)).2.1
    refine zz_gsn 2 rfl ?_
    refine zz_br rfl (fun h6 => absurd h6 (by omega)) (fun h6 => ?_)
    refine zz_gsn 2 rfl ?_
    refine zz_cv (n := 2) rfl rfl (t_Deeds_hasDeed) (Nat.le_of_ble_eq_true rfl) (Nat.le_of_ble_eq_true rfl) (Nat.le_of_ble_eq_true rfl) (fun r9 σ9 q9 => ?_)
    obtain ⟨rfl, n9, rfl, e9⟩ := q9
    refine zz_br rfl (fun h10 => absurd h10 (by omega)) (fun h10 => ?_)
    refine zz_gsn 4 rfl ?_
    refine zz_ald rfl (by omega) ?_
    refine zz_gsn 1 rfl ?_
    refine zz_br rfl (fun h17 => ?_) (fun h17 => ?_)
    · refine zz_gsn 4 rfl ?_
      refine zz_jp rfl ?_
      rw [Int.toNat_natCast] at h17
      have es : zw (zz_sum (zd_is D v) i + 0) = zz_sum (zd_is D v) (i + 1) := by
        show _ = zz_sum (zd_is D v) i + zd_is D v i
        rw [zw_id (by omega) (by omega), show zd_is D v i = 0 from if_neg (by rw [← hz]; exact h17)]
      rw [ei, es]
      exact ih (i + 1) (by omega)
    · refine zz_gsn 1 rfl ?_
      refine zz_jp rfl ?_
      refine zz_gsn 3 rfl ?_
      refine zz_jp rfl ?_
      rw [Int.toNat_natCast] at h17
      have es : zw (zz_sum (zd_is D v) i + 1) = zz_sum (zd_is D v) (i + 1) := by
        show _ = zz_sum (zd_is D v) i + zd_is D v i
        rw [zw_id (by omega) (by omega), show zd_is D v i = 1 from if_pos (by rw [← hz]; exact h17)]
      rw [ei, es]
      exact ih (i + 1) (by omega)
theorem t_Deeds_madeOf {X : zz_X} {σ : zz_M} {a k : Nat} {v : Int} {D : zz_D} (hD : DR σ a k D) : zz_T X 2 p_Deeds_madeOf [zP 2 0 0 a, zI v] σ (fun r σ' => σ = σ' ∧ r = some (zI (zz_sum (zd_is D v) k))) := by
  refine zz_mk k_Deeds_madeOf o_Deeds_madeOf rfl rfl (Nat.le_of_ble_eq_true rfl) ?_
  show zz_G X 2 p_Deeds_madeOf 0 [zP 2 0 0 a, zI v, zU, zU] [] σ _
  refine zz_gsn 4 rfl ?_
  exact lp_madeOf hD ⟨rfl, rfl⟩ k 0 (Nat.zero_add _)
