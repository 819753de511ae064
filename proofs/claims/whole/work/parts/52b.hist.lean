/-! the class: deeds taken back -/
/-- the class's HISTORY at h -/
def CH (σ : zz_M) (h : Nat) (I : zz_I) : Prop := DF σ (h + 1) I.ho I.law I.C (I.told : Nat) I.k I.D ∧ CV σ h I.law I.C I.k (IH I)
def A_hc (h : Nat) : Nat → Prop := fun a => A_hi h a ∨ (h + 1 ≤ a ∧ a ≤ h + 3)
theorem CV.f {A : Nat → Prop} {σ σ' : zz_M} {h j : Nat} {law C : Int} {H : zz_H} (hV : CV σ h law C j H) (hj : j ≤ 60) (hF : zz_F A σ σ') (hA : ∀ a, A a → ¬ ((h + 5 ≤ a ∧ a ≤ h + 9) ∨ (h + 14 ≤ a ∧ a ≤ h + 16) ∨ (h + 22 ≤ a ∧ a < h + 571))) : CV σ' h law C j H := by
  obtain ⟨c1, c2, c3, c4⟩ := hV
  refine ⟨((hF (h + 5) (fun z => hA _ z (by omega))).1 404).trans c1, ((hF (h + 5) (fun z => hA _ z (by omega))).1 405).trans c2, fun v hv => ⟨(c3 v hv).1.f hF (fun a y1 y2 z => hA _ z (by omega)) (fun _ a y1 y2 z => hA _ z (by omega)), (c3 v hv).2.f hF (fun z => hA _ z (by omega)) (fun z => hA _ z (by omega))⟩, fun i hi => ?_⟩
  rw [(hF (h + 14) (fun z => hA _ z (by omega))).2, (hF (h + 15) (fun z => hA _ z (by omega))).2, (hF (h + 16) (fun z => hA _ z (by omega))).2]
  exact c4 i hi
theorem CH.f {A : Nat → Prop} {σ σ' : zz_M} {h : Nat} {I : zz_I} (hH : CH σ h I) (hF : zz_F A σ σ') (hA : ∀ a, A a → ¬ ((h + 1 ≤ a ∧ a ≤ h + 9) ∨ (h + 14 ≤ a ∧ a ≤ h + 16) ∨ (h + 22 ≤ a ∧ a < h + 571))) : CH σ' h I := ⟨hH.1.f hF (fun c a b z => hA _ z (by omega)), hH.2.f hH.1.2.2.2.2.2.1 hF (fun a z y => hA a z (by omega))⟩
theorem CV.cut {σ σ' : zz_M} {h j k : Nat} {law C : Int} {D : zz_D} (hV : CV σ h law C k (hh law C D k)) (ho : h_ok law C k D) (hj : j < k) (e : σ' = zz_sf (zz_sf σ 100 (h + 6) ((hh law C D k).bf j : Nat)) 204 (h + 1) (j : Nat)) : CV σ' h law C j (hh law C D j) := by
  obtain ⟨c1, c2, c3, c4⟩ := hV
  obtain ⟨l1, l2, l3, l4, l5⟩ := hh_le (Nat.le_of_lt hj) ho
  have hin := h_inv (ho.le (Nat.le_of_lt hj))
  have f1 : ∀ f a, ¬ (f = 100 ∧ a = h + 6) → ¬ (f = 204 ∧ a = h + 1) → σ'.1 f a = σ.1 f a := fun f a n1 n2 => by
    rw [e, sf_1, if_neg n2, sf_1, if_neg n1]
  have f2 : σ'.2 = σ.2 := by rw [e]; rfl
  have nb : (hh law C D k).n ≤ 1890 := by
    have := ((c3 k (Nat.le_refl _)).1.2.2.2.1 (by decide)).2.1
    exact this
  refine ⟨(f1 _ _ (by omega) (by omega)).trans c1, (f1 _ _ (by omega) (by omega)).trans c2, fun v hv => ?_, fun i hi => ?_⟩
  · obtain ⟨s1, s2, s3, s4, s5⟩ := (c3 v (by omega)).1
    obtain ⟨q1, q2⟩ := (c3 v (by omega)).2
    have eR : (hw (hh law C D k) v).R = (hw (hh law C D j) v).R := by show ((hh law C D k).V v).1 = ((hh law C D j).V v).1; rw [(l1 v hv).1]
    have eS : (hw (hh law C D k) v).S = (hw (hh law C D j) v).S := by show ((hh law C D k).V v).2 = ((hh law C D j).V v).2; rw [(l1 v hv).1]
    rw [← (l1 v hv).2]
    refine ⟨⟨fun i hi => ?_, fun i a1 a2 => ?_, ?_, fun _ => ⟨?_, Nat.le_trans l3 nb, fun c hc => ?_⟩, fun i hi c hc => (hin.2.1 v hv).1 i c hc⟩, ⟨(f1 _ _ (by omega) (by omega)).trans q1, fun i hi => by rw [f2]; exact q2 i hi⟩⟩
    · have z := s1 i hi
      have el : w_len i (hw (hh law C D k) v) = w_len i (hw (hh law C D j) v) := by show (((hw (hh law C D k) v).R i).length : Int) = _; rw [eR]
      rw [eR, el] at z
      rw [f1 _ _ (by omega) (by omega), f1 _ _ (by omega) (by omega), f2]
      exact z
    · rw [f1 _ _ (by omega) (by omega), ← eS]
      exact s2 i a1 a2
    · rw [f1 _ _ (by omega) (by omega), ← eS]
      exact s3
    · rw [e, sf_a _ _ (by omega), sf_h, l5 hj]
      rfl
    · have hc2 : c < (hh law C D j).n := hc
      have z := (s4 (by decide)).2.2 c (Nat.lt_of_lt_of_le hc2 l3)
      rw [f2]
      show _ = (hh law C D j).num c ∧ _ = (hh law C D j).mkr c
      rw [← (l4 c hc2).1, ← (l4 c hc2).2]
      exact z
  · obtain ⟨z1, z2, z3⟩ := c4 i (by omega)
    obtain ⟨y1, y2, y3⟩ := l2 i hi
    rw [f2, ← y1, ← y2, ← y3]
    exact ⟨z1, z2, z3⟩
theorem t_History_cutTo {X : zz_X} {σ : zz_M} {h j : Nat} {I : zz_I} (hH : CH σ h I) (ho : h_ok I.law I.C I.k I.D) (hj : j < I.k) : zz_T X 2 p_History_cutTo [zP 3 0 0 h, zI (j : Nat)] σ (fun r σ' => r = none ∧ CH σ' h (i_cut I j) ∧ zz_F (fun a => a = h + 1 ∨ a = h + 6) σ σ' ∧ σ'.1 105 (h + 6) = σ.1 105 (h + 6)) := by
  refine zz_mk k_History_cutTo o_History_cutTo rfl rfl (Nat.le_of_ble_eq_true rfl) ?_
  show zz_G X 2 p_History_cutTo 0 [zP 3 0 0 h, zI (j : Nat)] [] σ _
  obtain ⟨hD, hV⟩ := hH
  have dR := hD.2.2.2.2
  have e16 := (hV.2.2.2 j hj).2.2
  have hk6 := ho.2.2.1
  refine zz_gsn 3 rfl ?_
  refine zz_cv (n := 2) rfl rfl (t_Deeds_hasDeed) (Nat.le_of_ble_eq_true rfl) (Nat.le_of_ble_eq_true rfl) (Nat.le_of_ble_eq_true rfl) (fun r3 σ3 q3 => ?_)
  obtain ⟨rfl, n3, rfl, e3⟩ := q3
  have e3 := vd_of dR e3
  have e3 : n3 = 1 := e3.elim (fun z => z.1) (fun z => absurd ⟨by omega, by omega⟩ z.2)
  refine zz_br rfl (fun h4 => absurd h4 (by omega)) (fun h4 => ?_)
  refine zz_gsn 5 rfl ?_
  refine zz_ald rfl (⟨by omega, by omega⟩) ?_
  refine zz_ste (st' := [zI ((IH I).bf j : Nat), zP 1 1890 0 (h + 6)]) (congrArg (fun z : Int => ([zI z, zP 1 1890 0 (h + 6)] : List zz_V)) e16) ?_
  refine zz_gsn 5 rfl ?_
  obtain ⟨σ', h'⟩ : ∃ s, s = zz_sf (zz_sf σ 100 (h + 6) ((IH I).bf j : Nat)) 204 (h + 1) (j : Nat) := ⟨_, rfl⟩
  refine zz_sge (σ' := σ') h' ?_
  refine zz_rv rfl rfl ?_
  have F : zz_F (fun a => a = h + 1 ∨ a = h + 6) σ σ' := by
    rw [h']
    exact (zz_F.sf (Or.inr rfl)).tr (zz_F.sf (Or.inl rfl))
  have f0 : ∀ f, f ≠ 204 → σ'.1 f (h + 1) = σ.1 f (h + 1) := fun f hf => by
    rw [h', sf_f _ _ hf, sf_a _ _ (by omega)]
  have f2 : σ'.2 = σ.2 := by rw [h']; rfl
  obtain ⟨d1, d2, d3, d4, d5, d6, d7⟩ := hD
  refine ⟨rfl, ⟨⟨(f0 200 (by decide)).trans d1, (f0 201 (by decide)).trans d2, (f0 202 (by decide)).trans d3, (f0 203 (by decide)).trans d4, ?_, by show j ≤ 60; omega, fun i hi => ?_⟩, hV.cut ho hj h'⟩, F, ?_⟩
  · rw [h', sf_h]; rfl
  · rw [f2]
    exact d7 i (Nat.lt_trans hi hj)
  · rw [h', sf_f _ _ (by decide), sf_f _ _ (by decide)]
