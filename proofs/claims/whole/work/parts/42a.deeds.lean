/-! deeds: copied, one more -/
/-- all that an image keeps -/
def DF (σ : zz_M) (a : Nat) (ho law C told : Int) (k : Nat) (D : zz_D) : Prop := σ.1 200 a = ho ∧ σ.1 201 a = law ∧ σ.1 202 a = C ∧ σ.1 203 a = told ∧ DR σ a k D
theorem DF.f {A : Nat → Prop} {σ σ' : zz_M} {a k : Nat} {ho law C told : Int} {D : zz_D} (h : DF σ a ho law C told k D) (hF : zz_F A σ σ') (h0 : ∀ c, a ≤ c → c ≤ a + 3 → ¬ A c) : DF σ' a ho law C told k D := by
  have z := (hF a (h0 a (by omega) (by omega))).1
  exact ⟨(z 200).trans h.1, (z 201).trans h.2.1, (z 202).trans h.2.2.1, (z 203).trans h.2.2.2.1, h.2.2.2.2.f hF h0⟩
theorem lp_dbec {X : zz_X} {a b : Nat} {σ0 σ1 : zz_M} {Post : Option zz_V → zz_M → Prop} (hab : a + 3 < b ∨ b + 3 < a) (kk : ∀ σ' : zz_M, σ'.1 = σ1.1 → (∀ e, 1 ≤ e → e ≤ 3 → ∀ j, j < 60 → σ'.2 (a + e) j = σ0.2 (b + e) j) → zz_F (zz_A4 a) σ0 σ' → Post none σ') :
    ∀ (r i : Nat) (σ : zz_M), i + r = 60 → σ.1 = σ1.1 → (∀ e, 1 ≤ e → e ≤ 3 → ∀ j, j < i → σ.2 (a + e) j = σ0.2 (b + e) j) → zz_F (zz_A4 a) σ0 σ → zz_G X 1 p_Deeds_become 22 [zP 2 0 0 a, zP 2 0 0 b, zI (i : Nat)] [] σ Post := by
  intro r
  induction r with
  | zero =>
    intro i σ hi h1 h2 hF
    refine zz_gsn 2 rfl ?_
    refine zz_br rfl (fun h24 => ?_) (fun h24 => absurd h24 (by omega))
    refine zz_rv rfl rfl ?_
    exact kk σ h1 (fun e x y j hj => h2 e x y j (by omega)) hF
  | succ r ih =>
    intro i σ hi h1 h2 hF
    have ei : zw ((i : Int) + 1) = ((i + 1 : Nat) : Int) := by rw [zw_id (by omega) (by omega)]; omega
    have b1 : σ.2 (b + 1) i = σ0.2 (b + 1) i := (hF (b + 1) (by show ¬ (a ≤ b + 1 ∧ b + 1 ≤ a + 3); omega)).2 i
    have b2 : σ.2 (b + 2) i = σ0.2 (b + 2) i := (hF (b + 2) (by show ¬ (a ≤ b + 2 ∧ b + 2 ≤ a + 3); omega)).2 i
    have b3 : σ.2 (b + 3) i = σ0.2 (b + 3) i := (hF (b + 3) (by show ¬ (a ≤ b + 3 ∧ b + 3 ≤ a + 3); omega)).2 i
    refine zz_gsn 2 rfl ?_
    refine zz_br rfl (fun h24 => absurd h24 (by omega)) (fun h24 => ?_)
    refine zz_gsn 6 rfl ?_
    refine zz_ald rfl (by omega) ?_
    refine zz_ast rfl (by omega) ?_
    refine zz_gsn 6 rfl ?_
    refine zz_ald rfl (by omega) ?_
    refine zz_ast rfl (by omega) ?_
    refine zz_gsn 6 rfl ?_
    refine zz_ald rfl (by omega) ?_
    refine zz_ast rfl (by omega) ?_
    refine zz_gsn 1 rfl ?_
    refine zz_jp rfl ?_
    rw [ei]
    have F3 := (((zz_F.sa (i := (i : Int).toNat) (v := σ.2 (b + 1) (i : Int).toNat) (σ := σ) (A := zz_A4 a) (a := a + 1) ⟨by omega, by omega⟩)))
    refine ih (i + 1) _ (by omega) h1 (fun e x y j hj => ?_) (((hF.tr (zz_F.sa ⟨by omega, by omega⟩)).tr (zz_F.sa ⟨by omega, by omega⟩)).tr (zz_F.sa ⟨by omega, by omega⟩))
    have he : e = 1 ∨ e = 2 ∨ e = 3 := by omega
    rw [Int.toNat_natCast]
    by_cases z : j = i
    · subst z
      rcases he with e1 | e1 | e1 <;> subst e1
      · rw [sa_a _ _ (by omega), sa_a _ _ (by omega), sa_h]
        exact b1
      · rw [sa_a _ _ (by omega), sa_h, sa_a _ _ (by omega)]
        exact b2
      · rw [sa_h, sa_a _ _ (by omega), sa_a _ _ (by omega)]
        exact b3
    · rw [sa_i _ _ z, sa_i _ _ z, sa_i _ _ z]
      exact h2 e x y j (by omega)
theorem t_Deeds_become {X : zz_X} {σ : zz_M} {a b k : Nat} {ho law C told : Int} {D : zz_D} (hab : a + 3 < b ∨ b + 3 < a) (hD : DF σ b ho law C told k D) (hho : ho = 0 ∨ ho = 1) : zz_T X 1 p_Deeds_become [zP 2 0 0 a, zP 2 0 0 b] σ (fun r σ' => r = none ∧ DF σ' a ho law C told k D ∧ zz_F (zz_A4 a) σ σ') := by
  refine zz_mk k_Deeds_become o_Deeds_become rfl rfl (Nat.le_of_ble_eq_true rfl) ?_
  show zz_G X 1 p_Deeds_become 0 [zP 2 0 0 a, zP 2 0 0 b, zU] [] σ _
  obtain ⟨d1, d2, d3, d4, d5, d6, d7⟩ := hD
  refine zz_gsn 3 rfl ?_
  refine zz_ptz rfl (by rw [d1]; exact hho) ?_
  refine zz_gsn 18 rfl ?_
  refine zz_sge (σ' := zz_sf (zz_sf (zz_sf (zz_sf (zz_sf σ 200 a ho) 201 a law) 202 a C) 203 a told) 204 a (k : Nat)) (by rw [← d1, ← d2, ← d3, ← d4, ← d5]; rfl) ?_
  have F5 : zz_F (zz_A4 a) σ (zz_sf (zz_sf (zz_sf (zz_sf (zz_sf σ 200 a ho) 201 a law) 202 a C) 203 a told) 204 a (k : Nat)) := ((((zz_F.sf ⟨by omega, by omega⟩).tr (zz_F.sf ⟨by omega, by omega⟩)).tr (zz_F.sf ⟨by omega, by omega⟩)).tr (zz_F.sf ⟨by omega, by omega⟩)).tr (zz_F.sf ⟨by omega, by omega⟩)
  refine lp_dbec hab (σ0 := σ) (σ1 := zz_sf (zz_sf (zz_sf (zz_sf (zz_sf σ 200 a ho) 201 a law) 202 a C) 203 a told) 204 a (k : Nat)) (fun σ' x1 x2 x3 => ⟨rfl, ⟨?_, ?_, ?_, ?_, ?_, d6, fun j hj => ⟨?_, ?_, ?_⟩⟩, x3⟩) 60 0 _ rfl rfl (fun e _ _ j hj => absurd hj (Nat.not_lt_zero j)) F5
  · rw [x1, sf_f _ _ (by decide), sf_f _ _ (by decide), sf_f _ _ (by decide), sf_f _ _ (by decide), sf_h]
  · rw [x1, sf_f _ _ (by decide), sf_f _ _ (by decide), sf_f _ _ (by decide), sf_h]
  · rw [x1, sf_f _ _ (by decide), sf_f _ _ (by decide), sf_h]
  · rw [x1, sf_f _ _ (by decide), sf_h]
  · rw [x1, sf_h]
  · rw [x2 1 (by decide) (by decide) j (by omega)]
    exact (d7 j hj).1
  · rw [x2 2 (by decide) (by decide) j (by omega)]
    exact (d7 j hj).2.1
  · rw [x2 3 (by decide) (by decide) j (by omega)]
    exact (d7 j hj).2.2
theorem t_Deeds_add {X : zz_X} {σ : zz_M} {a k base : Nat} {kind x : Int} {D : zz_D} (hD : DR σ a k D) (hk : k < 60) : zz_T X 1 p_Deeds_add [zP 2 0 0 a, zI kind, zI (base : Nat), zI x] σ (fun r σ' => r = none ∧ DR σ' a (k + 1) (zu D k (kind, base, x)) ∧ zz_F (zz_A4 a) σ σ' ∧ (∀ f, f ≠ 204 → σ'.1 f a = σ.1 f a)) := by
  refine zz_mk k_Deeds_add o_Deeds_add rfl rfl (Nat.le_of_ble_eq_true rfl) ?_
  show zz_G X 1 p_Deeds_add 0 [zP 2 0 0 a, zI kind, zI (base : Nat), zI x] [] σ _
  obtain ⟨d5, d6, d7⟩ := hD
  have hob : 0 ≤ σ.1 204 a ∧ σ.1 204 a < 60 := ⟨by omega, by omega⟩
  refine zz_gsn 2 rfl ?_
  refine zz_br rfl (fun h2 => absurd h2 (by omega)) (fun h2 => ?_)
  refine zz_gsn 3 rfl ?_
  refine zz_br rfl (fun h6 => absurd h6 (by omega)) (fun h6 => ?_)
  refine zz_gsn 5 rfl ?_
  refine zz_ast rfl (hob) ?_
  refine zz_gsn 5 rfl ?_
  refine zz_ast rfl (hob) ?_
  refine zz_gsn 5 rfl ?_
  refine zz_ast rfl (hob) ?_
  refine zz_gsn 6 rfl ?_
  refine zz_rv rfl rfl ?_
  have ek : (σ.1 204 a).toNat = k := by rw [d5, Int.toNat_natCast]
  refine ⟨rfl, ⟨?_, by omega, fun j hj => ?_⟩, (((zz_F.sa ⟨by omega, by omega⟩).tr (zz_F.sa ⟨by omega, by omega⟩)).tr (zz_F.sa ⟨by omega, by omega⟩)).tr (zz_F.sf ⟨by omega, by omega⟩), fun f hf => sf_f _ _ hf⟩
  · rw [sf_h]
    show zw (σ.1 204 a + 1) = _
    rw [d5, zw_id (by omega) (by omega)]
    omega
  · show (zz_sa (zz_sa (zz_sa σ (a + 1) (σ.1 204 a).toNat kind) (a + 2) (σ.1 204 a).toNat (base : Nat)) (a + 3) (σ.1 204 a).toNat x).2 (a + 1) j = _ ∧ (zz_sa (zz_sa (zz_sa σ (a + 1) (σ.1 204 a).toNat kind) (a + 2) (σ.1 204 a).toNat (base : Nat)) (a + 3) (σ.1 204 a).toNat x).2 (a + 2) j = _ ∧ (zz_sa (zz_sa (zz_sa σ (a + 1) (σ.1 204 a).toNat kind) (a + 2) (σ.1 204 a).toNat (base : Nat)) (a + 3) (σ.1 204 a).toNat x).2 (a + 3) j = _
    rw [ek]
    by_cases z : j = k
    · subst z
      rw [zu_s]
      refine ⟨?_, ?_, sa_h _ _ _ _⟩
      · rw [sa_a _ _ (by omega), sa_a _ _ (by omega), sa_h]
      · rw [sa_a _ _ (by omega), sa_h]
    · rw [zu_n _ _ z]
      have hj2 : j < k := by omega
      refine ⟨?_, ?_, ?_⟩ <;> rw [sa_i _ _ z, sa_i _ _ z, sa_i _ _ z]
      · exact (d7 j hj2).1
      · exact (d7 j hj2).2.1
      · exact (d7 j hj2).2.2
