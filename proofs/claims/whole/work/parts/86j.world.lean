/-! the class: the first line -/
abbrev A_rd (c : Nat) : Nat → Prop := fun a => c ≤ a ∧ a ≤ c + 5
def RSt (σ : zz_M) (c a : Nat) (T : List Int) (law C : Int) (S : zr_S) : Prop := CRd σ c S.k ∧ DF σ (c + 1) 1 law C 0 S.c S.D ∧ (∀ v, v ≤ S.c → σ.2 (c + 5) v = S.z v) ∧ BL σ a T
theorem c1_rd {c : Nat} {σ σ' : zz_M} (h : zz_F (A_c1 c) σ σ') : zz_F (A_rd c) σ σ' := h.mono (fun a z => by
  have z2 : a = c := z
  unfold A_rd
  omega)
theorem zr_2_f {T : List Int} (h : (zr_4 T).f = 0) : (zr_nm T 0 2 (zr_2 T)).f = 0 ∧ (zr_nm T 2 4 (zr_3 T)).f = 0 := by
  have a0 := zr_sg_f (k := zr_nm T 2 4 (zr_3 T)) h
  have a1 := (zr_nm_f a0).1
  exact ⟨zr_wd_f (w := 2) (k := zr_nm T 0 2 (zr_2 T)) a1, a0⟩
theorem t_Reader_readHouseLine {X : zz_X} {σ : zz_M} {c a p : Nat} {T : List Int} (hT : T.length ≤ 600) (hpT : T.length ≤ p) (hac : a + 1 < c ∨ c + 5 < a) (hB : BL σ a T) (hR : CRd σ c (zr_1 T)) (ok : zr_ok T (zr_1 T)) (h3 : σ.1 203 (c + 1) = 0) (h4 : σ.1 204 (c + 1) = 0) : zz_T X 7 p_Reader_readHouseLine [zP 6 0 0 c, zP 0 p 0 a] σ (fun r σ' => r = none ∧ CRd σ' c (zr_4 T) ∧ BL σ' a T ∧ zz_F (A_rd c) σ σ' ∧ ((zr_4 T).f = 0 → RSt σ' c a T (zr_law T) (zr_C T) (zr_4 T, 0, zr_D0, fun _ => 0))) := by
  refine zz_mk k_Reader_readHouseLine o_Reader_readHouseLine rfl rfl (Nat.le_of_ble_eq_true rfl) ?_
  show zz_G X 7 p_Reader_readHouseLine 0 [zP 6 0 0 c, zP 0 p 0 a] [] σ _
  have hac1 : c ≠ a ∧ c ≠ a + 1 := ⟨by omega, by omega⟩
  have ok3 : zr_ok T (zr_wd T 0 (zr_1 T)) := zr_wd_ok ok
  have ok2 : zr_ok T (zr_2 T) := zr_wd_ok ok3
  have ok5 : zr_ok T (zr_nm T 0 2 (zr_2 T)) := zr_nm_ok ok2
  have ok6 : zr_ok T (zr_3 T) := zr_wd_ok ok5
  have ok7 : zr_ok T (zr_nm T 2 4 (zr_3 T)) := zr_nm_ok ok6
  have n1 : ¬ A_c1 c (c + 1) := fun z => absurd z (Nat.succ_ne_self c)
  have na : ¬ a = c + 1 := by omega
  have na1 : ¬ a + 1 = c + 1 := by omega
  refine zz_gsn 3 rfl ?_
  refine zz_cv (n := 3) rfl rfl (t_Reader_expectWord (w := 0) (T := T) (k := zr_1 T) hB hT hpT hac1 hR ok (by decide)) (Nat.le_of_ble_eq_true rfl) (Nat.le_of_ble_eq_true rfl) (Nat.le_of_ble_eq_true rfl) (fun r3 σ3 q3 => ?_)
  obtain ⟨rfl, p3, B3, g3⟩ := q3
  refine zz_gsn 3 rfl ?_
  refine zz_cv (n := 3) rfl rfl (t_Reader_expectWord (w := 1) (T := T) (k := zr_wd T 0 (zr_1 T)) B3 hT hpT hac1 p3 ok3 (by decide)) (Nat.le_of_ble_eq_true rfl) (Nat.le_of_ble_eq_true rfl) (Nat.le_of_ble_eq_true rfl) (fun r7 σ7 q7 => ?_)
  obtain ⟨rfl, p7, B7, g7⟩ := q7
  refine zz_gsn 6 rfl ?_
  refine zz_cv (n := 4) rfl rfl (t_Reader_expectNumber (T := T) (k := zr_2 T) (lo := 0) (hi := 2) B7 hT hpT hac1 p7 ok2 (by decide) (by decide)) (Nat.le_of_ble_eq_true rfl) (Nat.le_of_ble_eq_true rfl) (Nat.le_of_ble_eq_true rfl) (fun r14 σ14 q14 => ?_)
  obtain ⟨v14, rfl, p14, B14, g14, x14⟩ := q14
  refine zz_gsn 1 rfl ?_
  obtain ⟨σ15, h15⟩ : ∃ s, s = zz_sf σ14 201 (c + 1) v14 := ⟨_, rfl⟩
  refine zz_sge (σ' := σ15) h15 ?_
  have F15 : zz_F (fun x => x = c + 1) σ14 σ15 := by rw [h15]; exact zz_F.sf rfl
  have B15 := B14.f F15 na na1
  have p15 := p14.f F15 (fun z => Nat.succ_ne_self c z.symm)
  refine zz_gsn 3 rfl ?_
  refine zz_cv (n := 3) rfl rfl (t_Reader_expectWord (w := 2) (T := T) (k := zr_nm T 0 2 (zr_2 T)) B15 hT hpT hac1 p15 ok5 (by decide)) (Nat.le_of_ble_eq_true rfl) (Nat.le_of_ble_eq_true rfl) (Nat.le_of_ble_eq_true rfl) (fun r19 σ19 q19 => ?_)
  obtain ⟨rfl, p19, B19, g19⟩ := q19
  refine zz_gsn 6 rfl ?_
  refine zz_cv (n := 4) rfl rfl (t_Reader_expectNumber (T := T) (k := zr_3 T) (lo := 2) (hi := 4) B19 hT hpT hac1 p19 ok6 (by decide) (by decide)) (Nat.le_of_ble_eq_true rfl) (Nat.le_of_ble_eq_true rfl) (Nat.le_of_ble_eq_true rfl) (fun r26 σ26 q26 => ?_)
  obtain ⟨v26, rfl, p26, B26, g26, x26⟩ := q26
  refine zz_gsn 1 rfl ?_
  obtain ⟨σ27, h27⟩ : ∃ s, s = zz_sf σ26 202 (c + 1) v26 := ⟨_, rfl⟩
  refine zz_sge (σ' := σ27) h27 ?_
  have F27 : zz_F (fun x => x = c + 1) σ26 σ27 := by rw [h27]; exact zz_F.sf rfl
  have B27 := B26.f F27 na na1
  have p27 := p26.f F27 (fun z => Nat.succ_ne_self c z.symm)
  refine zz_gsn 2 rfl ?_
  refine zz_cv (n := 2) rfl rfl (t_Reader_expectSign (T := T) (k := zr_nm T 2 4 (zr_3 T)) B27 hT hpT hac1 p27 ok7) (Nat.le_of_ble_eq_true rfl) (Nat.le_of_ble_eq_true rfl) (Nat.le_of_ble_eq_true rfl) (fun r30 σ30 q30 => ?_)
  obtain ⟨rfl, p30, B30, g30⟩ := q30
  refine zz_gsn 3 rfl ?_
  refine zz_ptz rfl (by first | exact Or.inr rfl | exact Or.inl rfl | decide) ?_
  refine zz_gsn 4 rfl ?_
  refine zz_ast rfl (⟨by decide, by decide⟩) ?_
  refine zz_rv rfl rfl ?_
  obtain ⟨σ40, h40⟩ : ∃ s, s = zz_sa (zz_sf σ30 200 (c + 1) 1) (c + 5) 0 0 := ⟨_, rfl⟩
  rw [show zz_sa (zz_sf σ30 200 (c + 1) 1) (c + 5) (Int.toNat 0) 0 = σ40 from h40.symm]
  have F40 : zz_F (fun x => x = c + 1 ∨ x = c + 5) σ30 σ40 := by rw [h40]; exact (show zz_F (fun x => x = c + 1 ∨ x = c + 5) σ30 (zz_sf σ30 200 (c + 1) 1) from zz_F.sf (Or.inl rfl)).tr (zz_F.sa (Or.inr rfl))
  have P40 : CRd σ40 c (zr_4 T) := p30.f F40 (fun z => by omega)
  have B40 := B30.f F40 (fun z => by omega) (fun z => by omega)
  have lft : ∀ {σ σ' : zz_M}, zz_F (fun x => x = c + 1) σ σ' → zz_F (A_rd c) σ σ' := fun h => h.mono (fun x z => by have z2 : x = c + 1 := z; unfold A_rd; omega)
  have FA : zz_F (A_rd c) σ σ40 := ((((((c1_rd g3).tr (c1_rd g7)).tr (c1_rd g14)).tr (lft F15)).tr ((c1_rd g19).tr (c1_rd g26))).tr ((lft F27).tr (c1_rd g30))).tr (F40.mono (fun x z => by unfold A_rd; omega))
  refine ⟨rfl, P40, B40, FA, fun hf => ?_⟩
  obtain ⟨f1, f2⟩ := zr_2_f hf
  have e14 := x14 f1
  have e26 := x26 f2
  have u3 : ∀ f, f ≠ 200 → f ≠ 201 → f ≠ 202 → σ40.1 f (c + 1) = σ.1 f (c + 1) := fun f a0 a1 a2 => by
    rw [h40]
    show (zz_sf σ30 200 (c + 1) 1).1 f (c + 1) = _
    rw [sf_f _ _ a0, (g30 _ n1).1, h27, sf_f _ _ a2, (g26 _ n1).1, (g19 _ n1).1, h15, sf_f _ _ a1, (g14 _ n1).1, (g7 _ n1).1, (g3 _ n1).1]
  refine ⟨P40, ⟨?_, ?_, ?_, (u3 _ (by decide) (by decide) (by decide)).trans h3, (u3 _ (by decide) (by decide) (by decide)).trans h4, Nat.zero_le _, fun j hj => absurd hj (Nat.not_lt_zero j)⟩, fun v hv => ?_, B40⟩
  · rw [h40]
    exact sf_h _ _ _ _
  · rw [h40]
    show (zz_sf σ30 200 (c + 1) 1).1 201 (c + 1) = _
    rw [sf_f _ _ (by decide), (g30 _ n1).1, h27, sf_f _ _ (by decide), (g26 _ n1).1, (g19 _ n1).1, h15, sf_h]
    exact e14
  · rw [h40]
    show (zz_sf σ30 200 (c + 1) 1).1 202 (c + 1) = _
    rw [sf_f _ _ (by decide), (g30 _ n1).1, h27, sf_h]
    exact e26
  · obtain rfl : v = 0 := Nat.le_zero.mp hv
    rw [h40]
    exact sa_h _ _ _ _
