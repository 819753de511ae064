/-! rows of numbers: alike -/
theorem lp_neq {X : zz_X} {p p' a b : Nat} {q q' : zq_T} {σ : zz_M} {Post : Option zz_V → zz_M → Prop} (hq : QR σ a q) (hq' : QR σ b q') (hp : q.1 ≤ p) (hp' : q'.1 ≤ p') (hb : p < 100000) (hn : q.1 = q'.1) (k1 : zq_eq q q' → Post (some (zI 1)) σ) (k0 : ¬ zq_eq q q' → Post (some (zI 0)) σ) :
    ∀ (r i : Nat), i + r = q.1 → (∀ j, j < i → q.2 j = q'.2 j) → zz_G X 2 p_Numbers_equalTo 11 [zP 5 p 0 a, zP 5 p' 0 b, zI 1, zI (i : Nat)] [] σ Post := by
  have hq1 := hq.1
  intro r
  induction r with
  | zero =>
    intro i hi h
    have he : zq_eq q q' := ⟨hn, fun j hj => h j (by omega)⟩
    refine zz_gsn 1 rfl ?_
    refine zz_br rfl (fun h12 => absurd h12 (by decide)) (fun h12 => ?_)
    refine zz_gsn 3 rfl ?_
    refine zz_br rfl (fun h16 => ?_) (fun h16 => absurd h16 (by omega))
    refine zz_gsn 1 rfl ?_
    refine zz_ri rfl (Or.inr ⟨rfl, by first | exact Or.inl rfl | exact Or.inr rfl | omega⟩) ?_
    exact k1 he
  | succ r ih =>
    intro i hi h
    have ei : zw ((i : Int) + 1) = ((i + 1 : Nat) : Int) := by rw [zw_id (by omega) (by omega)]; omega
    refine zz_gsn 1 rfl ?_
    refine zz_br rfl (fun h12 => absurd h12 (by decide)) (fun h12 => ?_)
    refine zz_gsn 3 rfl ?_
    refine zz_br rfl (fun h16 => absurd h16 (by omega)) (fun h16 => ?_)
    refine zz_gsn 2 rfl ?_
    refine zz_cv (n := 2) rfl rfl (t_Numbers_numberAt) (Nat.le_of_ble_eq_true rfl) (Nat.le_of_ble_eq_true rfl) (Nat.le_of_ble_eq_true rfl) (fun r19 σ19 q19 => ?_)
    obtain ⟨rfl, n19, rfl, e19⟩ := q19
    have v19 : n19 = q.2 i := by
      rcases e19 with ⟨-, -, -, e19⟩ | ⟨e19, -⟩
      · rw [e19, Int.toNat_natCast]
        exact hq.2 i (by omega)
      · exact absurd ⟨by omega, by omega, by omega⟩ e19
    clear e19
    refine zz_gsn 2 rfl ?_
    refine zz_cv (n := 2) rfl rfl (t_Numbers_numberAt) (Nat.le_of_ble_eq_true rfl) (Nat.le_of_ble_eq_true rfl) (Nat.le_of_ble_eq_true rfl) (fun r22 σ22 q22 => ?_)
    obtain ⟨rfl, n22, rfl, e22⟩ := q22
    have v22 : n22 = q'.2 i := by
      have hq2 := hq'.1
      rcases e22 with ⟨-, -, -, e22⟩ | ⟨e22, -⟩
      · rw [e22, Int.toNat_natCast]
        exact hq'.2 i (by omega)
      · exact absurd ⟨by omega, by omega, by omega⟩ e22
    clear e22
    refine zz_br rfl (fun h23 => ?_) (fun h23 => ?_)
    · refine zz_gsn 3 rfl ?_
      refine zz_jp rfl ?_
      have hne : ¬ zq_eq q q' := fun z => h23 (by rw [v19, v22]; exact z.2 i (by omega))
      refine zz_gsn 1 rfl ?_
      refine zz_br rfl (fun h12 => ?_) (fun h12 => absurd rfl h12)
      refine zz_gsn 1 rfl ?_
      refine zz_ri rfl (Or.inr ⟨rfl, by first | exact Or.inl rfl | exact Or.inr rfl | omega⟩) ?_
      exact k0 hne
    · refine zz_gsn 1 rfl ?_
      refine zz_jp rfl ?_
      refine zz_gsn 2 rfl ?_
      refine zz_jp rfl ?_
      rw [ei]
      exact ih (i + 1) (by omega) (fun j hj => by
        by_cases z : j = i
        · subst z
          rw [← v19, ← v22]
          exact h23
        · exact h j (by omega))
theorem t_Numbers_equalTo {X : zz_X} {σ : zz_M} {p p' a b : Nat} {q q' : zq_T} (hq : QR σ a q) (hq' : QR σ b q') (hp : q.1 ≤ p) (hp' : q'.1 ≤ p') (hb : p < 100000) : zz_T X 2 p_Numbers_equalTo [zP 5 p 0 a, zP 5 p' 0 b] σ (fun r σ' => σ = σ' ∧ ∃ n : Int, r = some (zI n) ∧ ((n = 1 ∧ zq_eq q q') ∨ (n = 0 ∧ ¬ zq_eq q q'))) := by
  refine zz_mk k_Numbers_equalTo o_Numbers_equalTo rfl rfl (Nat.le_of_ble_eq_true rfl) ?_
  show zz_G X 2 p_Numbers_equalTo 0 [zP 5 p 0 a, zP 5 p' 0 b, zU, zU] [] σ _
  have hq1 := hq.1
  have hq2 := hq'.1
  refine zz_gsn 4 rfl ?_
  refine zz_br rfl (fun h4 => ?_) (fun h4 => ?_)
  · refine zz_gsn 4 rfl ?_
    have hne : ¬ zq_eq q q' := fun z => h4 (by rw [hq1, hq2, z.1])
    refine zz_gsn 1 rfl ?_
    refine zz_br rfl (fun h12 => ?_) (fun h12 => absurd rfl h12)
    refine zz_gsn 1 rfl ?_
    refine zz_ri rfl (Or.inr ⟨rfl, by first | exact Or.inl rfl | exact Or.inr rfl | omega⟩) ?_
    exact ⟨rfl, _, rfl, Or.inr ⟨rfl, hne⟩⟩
  · refine zz_gsn 1 rfl ?_
    refine zz_jp rfl ?_
    refine zz_gsn 3 rfl ?_
    exact lp_neq hq hq' hp hp' hb (by omega) (fun h => ⟨rfl, _, rfl, Or.inl ⟨rfl, h⟩⟩) (fun h => ⟨rfl, _, rfl, Or.inr ⟨rfl, h⟩⟩) q.1 0 (Nat.zero_add _) (fun j hj => absurd hj (Nat.not_lt_zero j))
