/-! deeds: where two meet -/
def zd_meet (D : zz_D) : Nat → Nat → Nat → Nat
  | 0, v, _ => v
  | f + 1, v, w => if v = w then v else if w < v then zd_meet D f (zd_B D (v - 1)) w else zd_meet D f v (zd_B D (w - 1))
theorem zd_meet_le {k : Nat} {D : zz_D} (h : zd_ok k D) : ∀ (f v w : Nat), v ≤ k → w ≤ k → zd_meet D f v w ≤ v
  | 0, _, _, _, _ => Nat.le_refl _
  | f + 1, v, w, hv, hw => by
    show (if v = w then v else if w < v then zd_meet D f (zd_B D (v - 1)) w else zd_meet D f v (zd_B D (w - 1))) ≤ v
    by_cases e : v = w
    · rw [if_pos e]
      exact Nat.le_refl _
    · rw [if_neg e]
      by_cases e2 : w < v
      · rw [if_pos e2]
        have h1 := h (v - 1) (by omega)
        have h2 := zd_meet_le h f (zd_B D (v - 1)) w (by omega) hw
        omega
      · rw [if_neg e2]
        have h1 := h (w - 1) (by omega)
        exact zd_meet_le h f v (zd_B D (w - 1)) hv (by omega)
theorem zd_bp (D : zz_D) {u : Nat} (h : 0 < u) : zd_b D u = (zd_B D (u - 1) : Nat) := if_neg (by omega)
theorem lp_meet {X : zz_X} {a k n : Nat} {D : zz_D} {σ : zz_M} {x y : Int} {Post : Option zz_V → zz_M → Prop} (hD : DR σ a k D) (hok : zd_ok k D) (kk : Post (some (zI (n : Nat))) σ) :
    ∀ (f v w i : Nat), i + f = 122 → v + w < f → v ≤ k → w ≤ k → zd_meet D f v w = n → zz_G X 3 p_Deeds_meeting 6 [zP 2 0 0 a, zI x, zI y, zI (v : Nat), zI (w : Nat), zI (i : Nat)] [] σ Post := by
  have hk := hD.2.1
  intro f
  induction f with
  | zero =>
    intro v w i hi hf hv hw he
    exact absurd hf (Nat.not_lt_zero _)
  | succ f ih =>
    intro v w i hi hf hv hw he
    have hc : (if v = w then v else if w < v then zd_meet D f (zd_B D (v - 1)) w else zd_meet D f v (zd_B D (w - 1))) = n := he
    have ei : zw ((i : Int) + 1) = ((i + 1 : Nat) : Int) := by rw [zw_id (by omega) (by omega)]; omega
    by_cases e : v = w
    · rw [if_pos e] at hc
      subst hc
      refine zz_gsn 2 rfl ?_
      refine zz_br rfl (fun h8 => absurd h8 (by omega)) (fun h8 => ?_)
      refine zz_gsn 2 rfl ?_
      refine zz_br rfl (fun h11 => ?_) (fun h11 => absurd (by omega) h11)
      refine zz_gsn 1 rfl ?_
      refine zz_ri rfl (Or.inl rfl) ?_
      exact kk
    · rw [if_neg e] at hc
      by_cases e2 : w < v
      · rw [if_pos e2] at hc
        have h1 := hok (v - 1) (by omega)
        refine zz_gsn 2 rfl ?_
        refine zz_br rfl (fun h8 => absurd h8 (by omega)) (fun h8 => ?_)
        refine zz_gsn 2 rfl ?_
        refine zz_br rfl (fun h11 => absurd h11 (by omega)) (fun h11 => ?_)
        refine zz_gsn 2 rfl ?_
        refine zz_br rfl (fun h14 => absurd h14 (by omega)) (fun h14 => ?_)
        refine zz_gsn 2 rfl ?_
        refine zz_cv (n := 2) rfl rfl (t_Deeds_baseOf (by omega)) (Nat.le_of_ble_eq_true rfl) (Nat.le_of_ble_eq_true rfl) (Nat.le_of_ble_eq_true rfl) (fun r17 σ17 q17 => ?_)
        obtain ⟨rfl, n17, rfl, e17⟩ := q17
        have e18 := dr_b hD hv e17
        rw [zd_bp D (by omega)] at e18
        subst e18
        refine zz_gsn 1 rfl ?_
        refine zz_jp rfl ?_
        refine zz_gsn 1 rfl ?_
        refine zz_jp rfl ?_
        rw [ei]
        exact ih (zd_B D (v - 1)) w (i + 1) (by omega) (by omega) (by omega) hw hc
      · rw [if_neg e2] at hc
        have h1 := hok (w - 1) (by omega)
        refine zz_gsn 2 rfl ?_
        refine zz_br rfl (fun h8 => absurd h8 (by omega)) (fun h8 => ?_)
        refine zz_gsn 2 rfl ?_
        refine zz_br rfl (fun h11 => absurd h11 (by omega)) (fun h11 => ?_)
        refine zz_gsn 2 rfl ?_
        refine zz_br rfl (fun h14 => ?_) (fun h14 => absurd h14 (by omega))
        refine zz_gsn 2 rfl ?_
        refine zz_cv (n := 2) rfl rfl (t_Deeds_baseOf (by omega)) (Nat.le_of_ble_eq_true rfl) (Nat.le_of_ble_eq_true rfl) (Nat.le_of_ble_eq_true rfl) (fun r22 σ22 q22 => ?_)
        obtain ⟨rfl, n22, rfl, e22⟩ := q22
        have e23 := dr_b hD hw e22
        rw [zd_bp D (by omega)] at e23
        subst e23
        refine zz_gsn 2 rfl ?_
        refine zz_jp rfl ?_
        rw [ei]
        exact ih v (zd_B D (w - 1)) (i + 1) (by omega) (by omega) hv (by omega) hc
theorem t_Deeds_meeting {X : zz_X} {σ : zz_M} {a k v w : Nat} {D : zz_D} (hD : DR σ a k D) (hok : zd_ok k D) (hv : v ≤ k) (hw : w ≤ k) : zz_T X 3 p_Deeds_meeting [zP 2 0 0 a, zI (v : Nat), zI (w : Nat)] σ (fun r σ' => σ = σ' ∧ r = some (zI (zd_meet D 122 v w : Nat))) := by
  refine zz_mk k_Deeds_meeting o_Deeds_meeting rfl rfl (Nat.le_of_ble_eq_true rfl) ?_
  show zz_G X 3 p_Deeds_meeting 0 [zP 2 0 0 a, zI (v : Nat), zI (w : Nat), zU, zU, zU] [] σ _
  have hk := hD.2.1
  refine zz_gsn 6 rfl ?_
  exact lp_meet hD hok ⟨rfl, rfl⟩ 122 v w 0 rfl (by omega) hv hw rfl
