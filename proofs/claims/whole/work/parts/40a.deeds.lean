/-! deeds: how deep -/
/-- deeds: kind, base, number -/
abbrev zz_D : Type := Nat → Int × Nat × Int
def zd_B (D : zz_D) (j : Nat) : Nat := (D j).2.1
/-- the class's deeds at a are k ones of D -/
def DR (σ : zz_M) (a k : Nat) (D : zz_D) : Prop := σ.1 204 a = (k : Nat) ∧ k ≤ 60 ∧ ∀ j, j < k → σ.2 (a + 1) j = (D j).1 ∧ σ.2 (a + 2) j = ((D j).2.1 : Nat) ∧ σ.2 (a + 3) j = (D j).2.2
abbrev zz_A4 (a : Nat) : Nat → Prop := fun c => a ≤ c ∧ c ≤ a + 3
theorem DR.f {A : Nat → Prop} {σ σ' : zz_M} {a k : Nat} {D : zz_D} (h : DR σ a k D) (hF : zz_F A σ σ') (h0 : ∀ c, a ≤ c → c ≤ a + 3 → ¬ A c) : DR σ' a k D := ⟨((hF a (h0 a (by omega) (by omega))).1 204).trans h.1, h.2.1, fun j hj => ⟨((hF (a + 1) (h0 _ (by omega) (by omega))).2 j).trans (h.2.2 j hj).1, ((hF (a + 2) (h0 _ (by omega) (by omega))).2 j).trans (h.2.2 j hj).2.1, ((hF (a + 3) (h0 _ (by omega) (by omega))).2 j).trans (h.2.2 j hj).2.2⟩⟩
/-- a version is made of a lesser one -/
def zd_ok (k : Nat) (D : zz_D) : Prop := ∀ j, j < k → zd_B D j ≤ j
def zd_b (D : zz_D) (u : Nat) : Int := if u = 0 then -1 else (zd_B D (u - 1) : Nat)
theorem zd_b0 (D : zz_D) : zd_b D 0 = -1 := rfl
theorem zd_bs (D : zz_D) (u : Nat) : zd_b D (u + 1) = (zd_B D u : Nat) := rfl
def zd_dep (D : zz_D) : Nat → Nat → Nat
  | 0, _ => 0
  | _ + 1, 0 => 0
  | f + 1, u + 1 => zd_dep D f (zd_B D u) + 1
theorem zd_dep0 (D : zz_D) (f : Nat) : zd_dep D f 0 = 0 := by
  cases f <;> rfl
theorem zd_dep_le {k : Nat} {D : zz_D} (h : zd_ok k D) : ∀ (f u : Nat), u ≤ k → zd_dep D f u ≤ u
  | 0, _, _ => Nat.zero_le _
  | _ + 1, 0, _ => Nat.zero_le _
  | f + 1, u + 1, hu => by
    have h1 := h u hu
    have h2 := zd_dep_le h f (zd_B D u) (by omega)
    show zd_dep D f (zd_B D u) + 1 ≤ u + 1
    omega
theorem zd_dep_f {k : Nat} {D : zz_D} (h : zd_ok k D) : ∀ (f g u : Nat), u ≤ k → u ≤ f → u ≤ g → zd_dep D f u = zd_dep D g u
  | 0, g, u, _, hf, _ => by
    have e : u = 0 := by omega
    subst e
    rw [zd_dep0, zd_dep0]
  | f + 1, g, 0, _, _, _ => by rw [zd_dep0, zd_dep0]
  | f + 1, 0, u + 1, _, _, hg => by omega
  | f + 1, g + 1, u + 1, hu, hf, hg => by
    have h1 := h u hu
    show zd_dep D f (zd_B D u) + 1 = zd_dep D g (zd_B D u) + 1
    rw [zd_dep_f h f g (zd_B D u) (by omega) (by omega) (by omega)]
theorem dr_b {σ : zz_M} {a k u : Nat} {D : zz_D} {n : Int} (hD : DR σ a k D) (hu : u ≤ k) (e : (1 ≤ (u : Int) ∧ (u : Int) ≤ σ.1 204 a ∧ (u : Int) ≤ 60 ∧ n = σ.2 (a + 2) (zw ((u : Int) - 1)).toNat) ∨ (¬ (1 ≤ (u : Int) ∧ (u : Int) ≤ σ.1 204 a ∧ (u : Int) ≤ 60) ∧ n = -1)) : n = zd_b D u := by
  obtain ⟨d1, d2, d3⟩ := hD
  cases u with
  | zero =>
    rcases e with ⟨e, -⟩ | ⟨-, e⟩
    · omega
    · exact e
  | succ u =>
    rcases e with ⟨-, -, -, e⟩ | ⟨e, -⟩
    · have ez : (zw (((u + 1 : Nat) : Int) - 1)).toNat = u := by rw [zw_id (by omega) (by omega)]; omega
      rw [e, ez, (d3 u hu).2.1]
      rfl
    · exact absurd ⟨by omega, by omega, by omega⟩ e
theorem lp_depth {X : zz_X} {a k n : Nat} {D : zz_D} {σ : zz_M} {v : Int} {Post : Option zz_V → zz_M → Prop} (hD : DR σ a k D) (hok : zd_ok k D) (hn : n ≤ 60) (kk : Post (some (zI (n : Nat))) σ) :
    ∀ (f u acc : Nat), u ≤ f → u ≤ k → acc + zd_dep D f u = n → zz_G X 3 p_Deeds_depth 6 [zP 2 0 0 a, zI v, zI (acc : Nat), zI (zd_b D u)] [] σ Post := by
  have hk60 := hD.2.1
  intro f
  induction f with
  | zero =>
    intro u acc hu hk he
    have e : u = 0 := by omega
    subst e
    have e2 : acc = n := he
    subst e2
    rw [zd_b0]
    refine zz_gsn 2 rfl ?_
    refine zz_br rfl (fun h8 => ?_) (fun h8 => absurd rfl h8)
    refine zz_gsn 1 rfl ?_
    refine zz_ri rfl (Or.inl rfl) ?_
    exact kk
  | succ f ih =>
    intro u acc hu hk he
    cases u with
    | zero =>
      have e2 : acc = n := he
      subst e2
      rw [zd_b0]
      refine zz_gsn 2 rfl ?_
      refine zz_br rfl (fun h8 => ?_) (fun h8 => absurd rfl h8)
      refine zz_gsn 1 rfl ?_
      refine zz_ri rfl (Or.inl rfl) ?_
      exact kk
    | succ u =>
      have hb := hok u hk
      have he2 : acc + (zd_dep D f (zd_B D u) + 1) = n := he
      rw [zd_bs]
      have ea : zw ((acc : Int) + 1) = ((acc + 1 : Nat) : Int) := by rw [zw_id (by omega) (by omega)]; omega
      refine zz_gsn 2 rfl ?_
      refine zz_br rfl (fun h8 => absurd h8 (by omega)) (fun h8 => ?_)
      refine zz_gsn 2 rfl ?_
      refine zz_br rfl (fun h11 => absurd h11 (by omega)) (fun h11 => ?_)
      refine zz_gsn 3 rfl ?_
      refine zz_cv (n := 2) rfl rfl (t_Deeds_baseOf (by omega)) (Nat.le_of_ble_eq_true rfl) (Nat.le_of_ble_eq_true rfl) (Nat.le_of_ble_eq_true rfl) (fun r15 σ15 q15 => ?_)
      obtain ⟨rfl, n15, rfl, e15⟩ := q15
      have e16 := dr_b hD (by omega) e15
      subst e16
      refine zz_gsn 1 rfl ?_
      refine zz_jp rfl ?_
      rw [ea]
      exact ih (zd_B D u) (acc + 1) (by omega) (by omega) (by omega)
theorem t_Deeds_depth {X : zz_X} {σ : zz_M} {a k v : Nat} {D : zz_D} (hD : DR σ a k D) (hok : zd_ok k D) (hv : v ≤ k) : zz_T X 3 p_Deeds_depth [zP 2 0 0 a, zI (v : Nat)] σ (fun r σ' => σ = σ' ∧ r = some (zI (zd_dep D v v : Nat))) := by
  refine zz_mk k_Deeds_depth o_Deeds_depth rfl rfl (Nat.le_of_ble_eq_true rfl) ?_
  show zz_G X 3 p_Deeds_depth 0 [zP 2 0 0 a, zI (v : Nat), zU, zU] [] σ _
  have hk := hD.2.1
  have hle := zd_dep_le hok v v hv
  refine zz_gsn 4 rfl ?_
  refine zz_cv (n := 2) rfl rfl (t_Deeds_baseOf (by omega)) (Nat.le_of_ble_eq_true rfl) (Nat.le_of_ble_eq_true rfl) (Nat.le_of_ble_eq_true rfl) (fun r4 σ4 q4 => ?_)
  obtain ⟨rfl, n4, rfl, e4⟩ := q4
  have e5 := dr_b hD hv e4
  subst e5
  refine zz_gsn 1 rfl ?_
  exact lp_depth hD hok (by omega) ⟨rfl, rfl⟩ v v 0 (Nat.le_refl _) hv (Nat.zero_add _)
