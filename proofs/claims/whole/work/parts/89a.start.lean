/-! THE START: the memory behind both constructors. -/
def zk_K : List (Nat × Nat × Nat) := kF_TQ ++ [(12, 0, 0), (50, 20000, 0), (50, 20000, 0), (50, 2184, 0), (50, 800, 0), (50, 61, 0), (50, 61, 0), (50, 61, 0), (50, 61, 0), (52, 61, 0), (50, 61, 0), (50, 3904, 0), (50, 61, 0), (51, 600, 0), (50, 5, 0), (50, 40, 0), (50, 40, 0), (50, 40, 0), (50, 41, 0), (50, 20000, 0), (50, 6, 0), (50, 6, 0), (50, 61, 0), (50, 800, 0), (51, 1400, 0), (50, 564, 0)]
theorem zk_K_ok : zk_K = (List.range zz_n).map zz_K := by decide +kernel
theorem zk_ws (X : zz_X) : zk_w X (zk_m X X.b zk_K) = zz_ws X zs0 := by
  rw [zk_K_ok]
  unfold zk_w zk_m zz_ws
  refine List.ext_getElem? fun i => ?_
  rw [List.getElem?_mapIdx, List.getElem?_mapIdx, List.getElem?_map, List.getElem?_map]
  by_cases h : i < zz_n
  · rw [List.getElem?_range h]
    rfl
  · rw [List.getElem?_eq_none (by rw [List.length_range]; omega)]
    rfl
theorem zs0_in : (∀ f a, zz_in (zs0.1 f a)) ∧ ∀ a i, zz_in (zs0.2 a i) := by
  refine ⟨fun f a => ?_, fun a i => ?_⟩
  · show zz_in (if f = 700 ∨ f = 602 ∨ f = 1233 then -1 else 0)
    unfold zz_in
    split <;> omega
  · show zz_in 0
    unfold zz_in
    omega
theorem zk_R0 {X : zz_X} {H : Heap} (h : zk_H X (zk_m X X.b kF_TQ ++ zk_m X (X.b + 1101) [(12, 0, 0), (50, 20000, 0), (50, 20000, 0), (50, 2184, 0), (50, 800, 0), (50, 61, 0), (50, 61, 0), (50, 61, 0), (50, 61, 0), (52, 61, 0), (50, 61, 0), (50, 3904, 0), (50, 61, 0), (51, 600, 0), (50, 5, 0), (50, 40, 0), (50, 40, 0), (50, 40, 0), (50, 41, 0), (50, 20000, 0), (50, 6, 0), (50, 6, 0), (50, 61, 0), (50, 800, 0), (51, 1400, 0), (50, 564, 0)]) H) : zz_R X zs0 H := by
  rw [zk_m_app X X.b kF_TQ _ kL_TQ] at h
  refine ⟨?_, zs0_in⟩
  rw [← zk_ws]
  exact h.1
/-- both sides at the start -/
def G0 : zz_J := (zr_I0, [], [], 0, -1, fun _ => zr_I0)
theorem G0_ok : g_ok G0 := ⟨zr_I0_ok, ⟨Nat.zero_le _, fun x h => by cases h⟩, ⟨Nat.zero_le _, fun x h => by cases h⟩, fun _ _ => zr_I0_ok⟩
theorem z0_f (f a : Nat) (h : ¬ (f = 700 ∨ f = 602 ∨ f = 1233)) : zs0.1 f a = 0 := if_neg h
theorem z0_DF (a : Nat) (D : zz_D) : DF zs0 a 0 0 0 ((0 : Nat) : Int) 0 D := ⟨rfl, rfl, rfl, rfl, rfl, Nat.zero_le _, fun j hj => absurd hj (Nat.not_lt_zero j)⟩
theorem z0_SP (p m s : Nat) : SP zs0 p m s (hw h0 0) := by
  refine ⟨fun k hk => ⟨?_, fun _ => ?_⟩, fun j h1 h2 => ?_, rfl, fun _ => ⟨rfl, Nat.zero_le _, fun i hi => absurd hi (Nat.not_lt_zero i)⟩, fun k hk c hc => ?_⟩
  · rfl
  · rfl
  · exact z0_f _ _ (by omega)
  · cases hc
theorem CG0 (b : Nat) : CG zs0 b 0 G0 := by
  refine ⟨⟨z0_DF _ _, rfl, rfl, fun v hv => ⟨?_, rfl, fun i hi => absurd hi (Nat.not_lt_zero i)⟩, fun i hi => absurd hi (Nat.not_lt_zero i)⟩, ⟨rfl, fun i hi => absurd hi (Nat.not_lt_zero i)⟩, ⟨rfl, fun i hi => absurd hi (Nat.not_lt_zero i)⟩, ⟨rfl, rfl⟩, fun i hi => z0_DF _ _, ⟨fun i hi => Int.le_refl _, Int.le_refl _, Int.le_refl _⟩, z0_SP _ _ _⟩
  have hv : v = 0 := by
    have h2 : v ≤ 0 := hv
    omega
  subst hv
  exact z0_SP _ _ _
theorem RG0 (m : Nat) : RG zs0 m G0 := ⟨Or.inl ⟨rfl, rfl⟩, ⟨rfl, fun i hi => absurd hi (Nat.not_lt_zero i)⟩, ⟨rfl, fun i hi => absurd hi (Nat.not_lt_zero i)⟩, ⟨rfl, rfl⟩, fun i hi => Or.inl ⟨rfl, rfl⟩, rfl⟩
