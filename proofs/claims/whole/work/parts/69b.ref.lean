/-! the reference: acts taken back -/
theorem RV.cut {σ σ' : zz_M} {m j : Nat} {law C : Int} {D : zz_D} (hR : RV σ m law C (j + 1) (hh law C D (j + 1)) D) (ho : h_ok law C (j + 1) D) (e : σ' = zz_sf (zz_sf σ 1215 m ((j + 1 : Nat) : Int)) 1203 m ((hh law C D (j + 1)).bf j : Nat)) : RV σ' m law C j (hh law C D j) D := by
  obtain ⟨⟨r1, r2, r3⟩, r4, r5, r6, r7⟩ := hR
  obtain ⟨l1, l2, l3, l4, l5⟩ := hh_le (j := j) (Nat.le_succ j) ho
  have hin := h_inv (ho.le (Nat.le_succ j))
  have f2 : σ'.2 = σ.2 := by rw [e]; rfl
  have f1 : ∀ f, f ≠ 1203 → f ≠ 1215 → σ'.1 f m = σ.1 f m := fun f n1 n2 => by rw [e, sf_f _ _ n1, sf_f _ _ n2]
  refine ⟨⟨(f1 _ (by decide) (by decide)).trans r1, (f1 _ (by decide) (by decide)).trans r2, ?_⟩, fun v hv => ?_, fun i hi => ?_, by rw [f2]; exact r6, by rw [f2]; exact r7⟩
  · rw [e, sf_f _ _ (by decide), sf_h]
  · obtain ⟨⟨s1, s2, s3, s4⟩, q1, q2⟩ := r4 v (by omega)
    have eR : (hw (hh law C D (j + 1)) v).R = (hw (hh law C D j) v).R := by show ((hh law C D (j + 1)).V v).1 = ((hh law C D j).V v).1; rw [(l1 v hv).1]
    have eS : (hw (hh law C D (j + 1)) v).S = (hw (hh law C D j) v).S := by show ((hh law C D (j + 1)).V v).2 = ((hh law C D j).V v).2; rw [(l1 v hv).1]
    rw [← (l1 v hv).2]
    refine ⟨⟨fun k hk => ?_, fun i a b => ?_, ⟨?_, fun i hi => ?_⟩, fun k hk c hc => (hin.2.1 v hv).1 k c hc⟩, by rw [f2]; exact q1, fun i hi => by rw [f2]; exact q2 i hi⟩
    · rw [f2, ← eR]; exact s1 k hk
    · rw [f2, ← eS]; exact s2 i a b
    · rw [e, sf_h, l5 (Nat.lt_succ_self j)]
      rfl
    · have hi2 : i < (hh law C D j).n := hi
      rw [f2]
      show _ = (hh law C D j).num i
      rw [← (l4 i hi2).1]
      exact s3.2 i (Nat.lt_of_lt_of_le hi2 l3)
  · rw [f2, ← (l2 i hi).1, ← (l2 i hi).2.1, ← (l2 i hi).2.2]
    exact r5 i (by omega)
def Fu (m : Nat) (σ σ' : zz_M) : Prop := (∀ f a, ¬ (a = m ∧ (f = 1203 ∨ f = 1215)) → σ'.1 f a = σ.1 f a) ∧ σ'.2 = σ.2
theorem Fu.rf {m : Nat} {σ : zz_M} : Fu m σ σ := ⟨fun _ _ _ => rfl, rfl⟩
theorem Fu.tr {m : Nat} {σ σ1 σ2 : zz_M} (h : Fu m σ σ1) (h2 : Fu m σ1 σ2) : Fu m σ σ2 := ⟨fun f a q => (h2.1 f a q).trans (h.1 f a q), h2.2.trans h.2⟩
theorem Fu.F {m : Nat} {σ σ' : zz_M} (h : Fu m σ σ') : zz_F (A_rf m) σ σ' := fun a ha => ⟨fun f => h.1 f a (fun z => ha (by unfold A_rf; omega)), fun i => by rw [h.2]⟩
theorem RG.cut {σ σ' : zz_M} {m j : Nat} {G : zz_J} (h : RG σ m G) (h1 : G.I.ho = 1) (hq : σ.1 1211 m = G.I.law ∧ σ.1 1212 m = G.I.C ∧ σ.1 1213 m = ((G.I.told + 1 : Nat) : Int) ∧ σ.1 1214 m = (G.I.told : Nat)) (hV : RV σ' m G.I.law G.I.C j (hh G.I.law G.I.C G.I.D j) G.I.D) (hF : Fu m σ σ') : RG σ' m (i_cut G.I j, G.2) := by
  refine h.h (Or.inr ⟨h1, ⟨?_, ?_, ?_, ?_⟩, hV⟩) hV.2.2.2.2 (fun f hf => hF.1 f m (by omega)) (fun a i ha => by rw [hF.2])
  · rw [hF.1 _ _ (by omega)]; exact hq.1
  · rw [hF.1 _ _ (by omega)]; exact hq.2.1
  · rw [hF.1 _ _ (by omega)]; exact hq.2.2.1
  · rw [hF.1 _ _ (by omega)]; exact hq.2.2.2
theorem t_Mo_takesBack {X : zz_X} {σ : zz_M} {m j : Nat} {law C : Int} {D : zz_D} (hR : RV σ m law C (j + 1) (hh law C D (j + 1)) D) (ho : h_ok law C (j + 1) D) : zz_T X 1 p_Mo_takesBack [zP 12 0 0 m] σ (fun r σ' => r = none ∧ RV σ' m law C j (hh law C D j) D ∧ Fu m σ σ') := by
  refine zz_mk k_Mo_takesBack o_Mo_takesBack rfl rfl (Nat.le_of_ble_eq_true rfl) ?_
  show zz_G X 1 p_Mo_takesBack 0 [zP 12 0 0 m] [] σ _
  have r3 := hR.1.2.2
  have hj := ho.2.2.1
  have e10 := (hR.2.2.1 j (Nat.lt_succ_self j)).1.2.2
  have ev : zw (σ.1 1215 m - 1) = ((j + 1 : Nat) : Int) := by rw [r3]; exact zw_p (n := j + 1 + 1) (Nat.succ_pos _) (by omega)
  refine zz_gsn 6 rfl ?_
  obtain ⟨σ5, h5⟩ : ∃ s, s = zz_sf σ 1215 m ((j + 1 : Nat) : Int) := ⟨_, rfl⟩
  refine zz_sge (σ' := σ5) (h5.trans (congrArg (zz_sf σ 1215 m) ev.symm)) ?_
  clear ev
  have e15 : σ5.1 1215 m = ((j + 1 : Nat) : Int) := by rw [h5, sf_h]
  have e52 : σ5.2 (m + 10) (j + 1) = ((hh law C D (j + 1)).bf j : Nat) := by rw [h5]; exact e10
  refine zz_gsn 5 rfl ?_
  rw [e15]
  refine zz_ald rfl (⟨by omega, by omega⟩) ?_
  rw [Int.toNat_natCast, e52]
  refine zz_gsn 1 rfl ?_
  refine zz_rv rfl rfl ?_
  have e : zz_sf σ5 1203 m ((hh law C D (j + 1)).bf j : Nat) = zz_sf (zz_sf σ 1215 m ((j + 1 : Nat) : Int)) 1203 m ((hh law C D (j + 1)).bf j : Nat) := by rw [h5]
  refine ⟨rfl, RV.cut hR ho e, fun f a q => ?_, by rw [e]; rfl⟩
  rw [e, sf_1, if_neg (by omega), sf_1, if_neg (by omega)]
theorem t_Mo_undo {X : zz_X} {σ : zz_M} {m : Nat} {G : zz_J} (hG : RG σ m G) (ok : g_ok G) : zz_T X 2 p_Mo_undo [zP 12 0 0 m] σ (fun r σ' => r = some (zI (a_undo G).1) ∧ RG σ' m (a_undo G).2 ∧ zz_F (A_rf m) σ σ') := by
  refine zz_mk k_Mo_undo o_Mo_undo rfl rfl (Nat.le_of_ble_eq_true rfl) ?_
  show zz_G X 2 p_Mo_undo 0 [zP 12 0 0 m] [] σ _
  obtain ⟨hI, hT, hO, hF, hM, h10⟩ := id hG
  obtain ⟨⟨ho, hfx⟩, okt, oko, okm⟩ := id ok
  have hk6 := ho.1.2.2.1
  rcases zz_c3 (G.I.ho = 1) (G.I.k = G.I.told) with h1 | ⟨h1, hk⟩ | ⟨h1, hk⟩
  · have h0 : G.I.ho = 0 := by rcases ho.2 with z | z <;> omega
    refine zz_gsn 1 rfl ?_
    refine zz_cv (n := 1) rfl rfl (t_Mo_isHouse) (Nat.le_of_ble_eq_true rfl) (Nat.le_of_ble_eq_true rfl) (Nat.le_of_ble_eq_true rfl) (fun r1 σ1 q1 => ?_)
    obtain ⟨rfl, n1, rfl, e1⟩ := q1
    replace e1 := rh_of hI e1
    refine zz_br rfl (fun h2 => absurd (show n1 = 0 by omega) h2) (fun h2 => ?_)
    refine zz_gsn 1 rfl ?_
    refine zz_ri rfl (Or.inl rfl) ?_
    rw [show a_undo G = (-2, G) from if_pos h0]
    exact ⟨rfl, hG, zz_F.rf⟩
  · obtain ⟨-, ⟨q1, q2, q3, q4⟩, hV⟩ := ri_y hI (by omega)
    have r3 := hV.1.2.2
    obtain ⟨-, -, -, htk, -⟩ := i_ho ho (show G.I.ho ≠ 0 by omega)
    refine zz_gsn 1 rfl ?_
    refine zz_cv (n := 1) rfl rfl (t_Mo_isHouse) (Nat.le_of_ble_eq_true rfl) (Nat.le_of_ble_eq_true rfl) (Nat.le_of_ble_eq_true rfl) (fun r1 σ1 q1 => ?_)
    obtain ⟨rfl, n1, rfl, e1⟩ := q1
    replace e1 := rh_of hI e1
    refine zz_br rfl (fun h2 => ?_) (fun h2 => absurd (by first | exact h2 | exact Decidable.not_not.mp h2) (show n1 ≠ 0 by omega))
    refine zz_gsn 1 rfl ?_
    refine zz_cv (n := 1) rfl rfl (t_Mo_deedMany) (Nat.le_of_ble_eq_true rfl) (Nat.le_of_ble_eq_true rfl) (Nat.le_of_ble_eq_true rfl) (fun r6 σ6 q6 => ?_)
    obtain ⟨rfl, rfl⟩ := q6
    rw [r3, zw_p (n := G.I.k + 1) (Nat.succ_pos _) (by omega)]
    refine zz_gsn 2 rfl ?_
    rw [q4]
    refine zz_br rfl (fun h9 => absurd (show ((G.I.k + 1 - 1 : Nat) : Int) = (G.I.told : Nat) by omega) h9) (fun h9 => ?_)
    refine zz_gsn 1 rfl ?_
    refine zz_ri rfl (Or.inl rfl) ?_
    rw [show a_undo G = (-5, G) from (if_neg (by omega)).trans (if_pos hk)]
    exact ⟨rfl, hG, zz_F.rf⟩
  · obtain ⟨-, ⟨q1, q2, q3, q4⟩, hV⟩ := ri_y hI (by omega)
    have r3 := hV.1.2.2
    obtain ⟨-, -, -, htk, -⟩ := i_ho ho (show G.I.ho ≠ 0 by omega)
    obtain ⟨j, hj⟩ : ∃ j, G.I.k = j + 1 := ⟨G.I.k - 1, by omega⟩
    have hV2 : RV σ m G.I.law G.I.C (j + 1) (hh G.I.law G.I.C G.I.D (j + 1)) G.I.D := by rw [← hj]; exact hV
    have ho2 : h_ok G.I.law G.I.C (j + 1) G.I.D := by rw [← hj]; exact ho.1
    refine zz_gsn 1 rfl ?_
    refine zz_cv (n := 1) rfl rfl (t_Mo_isHouse) (Nat.le_of_ble_eq_true rfl) (Nat.le_of_ble_eq_true rfl) (Nat.le_of_ble_eq_true rfl) (fun r1 σ1 q1 => ?_)
    obtain ⟨rfl, n1, rfl, e1⟩ := q1
    replace e1 := rh_of hI e1
    refine zz_br rfl (fun h2 => ?_) (fun h2 => absurd (by first | exact h2 | exact Decidable.not_not.mp h2) (show n1 ≠ 0 by omega))
    refine zz_gsn 1 rfl ?_
    refine zz_cv (n := 1) rfl rfl (t_Mo_deedMany) (Nat.le_of_ble_eq_true rfl) (Nat.le_of_ble_eq_true rfl) (Nat.le_of_ble_eq_true rfl) (fun r6 σ6 q6 => ?_)
    obtain ⟨rfl, rfl⟩ := q6
    rw [r3, zw_p (n := G.I.k + 1) (Nat.succ_pos _) (by omega)]
    refine zz_gsn 2 rfl ?_
    rw [q4]
    refine zz_br rfl (fun h9 => ?_) (fun h9 => absurd (by first | exact h9 | exact Decidable.not_not.mp h9) (show ((G.I.k + 1 - 1 : Nat) : Int) ≠ (G.I.told : Nat) by omega))
    refine zz_gsn 1 rfl ?_
    refine zz_cv (n := 1) rfl rfl (t_Mo_takesBack hV2 ho2) (Nat.le_of_ble_eq_true rfl) (Nat.le_of_ble_eq_true rfl) (Nat.le_of_ble_eq_true rfl) (fun r13 σ13 q13 => ?_)
    obtain ⟨rfl, p13, f13⟩ := q13
    refine zz_gsn 1 rfl ?_
    refine zz_cv (n := 1) rfl rfl (t_Mo_deedMany) (Nat.le_of_ble_eq_true rfl) (Nat.le_of_ble_eq_true rfl) (Nat.le_of_ble_eq_true rfl) (fun r15 σ15 q15 => ?_)
    obtain ⟨rfl, rfl⟩ := q15
    refine zz_gsn 3 rfl ?_
    refine zz_ri rfl (Or.inl rfl) ?_
    rw [show a_undo G = ((((G.I.k - 1 : Nat) : Int) - (G.I.told : Nat)), (i_cut G.I (G.I.k - 1), G.2)) from (if_neg (by omega)).trans (if_neg hk)]
    have ej : G.I.k - 1 = j := by omega
    rw [ej]
    refine ⟨congrArg (fun z => some (zI z)) ?_, hG.cut h1 ⟨q1, q2, q3, q4⟩ p13 f13, f13.F⟩
    rw [p13.1.2.2, f13.1 1214 m (by omega), q4, zw_p (n := j + 1) (Nat.succ_pos _) (by omega)]
    show zw (((j + 1 - 1 : Nat) : Int) - (G.I.told : Nat)) = ((j : Nat) : Int) - (G.I.told : Nat)
    rw [zw_id (by omega) (by omega)]
    omega
theorem lp_ranew {X : zz_X} {m : Nat} {G : zz_J} {u : Int} {σ0 : zz_M} {Post : Option zz_V → zz_M → Prop} (ho : h_ok G.I.law G.I.C G.I.k G.I.D) (q4 : σ0.1 1214 m = (G.I.told : Nat)) (kk : ∀ σ', RV σ' m G.I.law G.I.C G.I.told (hh G.I.law G.I.C G.I.D G.I.told) G.I.D → Fu m σ0 σ' → Post (some (zI u)) σ') :
    ∀ (r j : Nat) (σ : zz_M), G.I.told + r = j → j ≤ G.I.k → RV σ m G.I.law G.I.C j (hh G.I.law G.I.C G.I.D j) G.I.D → Fu m σ0 σ → zz_G X 2 p_Mo_anew 11 [zP 12 0 0 m, zI u] [] σ Post := by
  have hk6 := ho.2.2.1
  intro r
  induction r with
  | zero =>
    intro j σ hj hjk hV hF
    have e : j = G.I.told := by omega
    subst e
    have r3 := hV.1.2.2
    have q4' : σ.1 1214 m = (G.I.told : Nat) := (hF.1 _ _ (by omega)).trans q4
    refine zz_gsn 1 rfl ?_
    refine zz_cv (n := 1) rfl rfl (t_Mo_deedMany) (Nat.le_of_ble_eq_true rfl) (Nat.le_of_ble_eq_true rfl) (Nat.le_of_ble_eq_true rfl) (fun r12 σ12 q12 => ?_)
    obtain ⟨rfl, rfl⟩ := q12
    rw [r3, zw_p (n := G.I.told + 1) (Nat.succ_pos _) (by omega)]
    refine zz_gsn 2 rfl ?_
    rw [q4']
    refine zz_br rfl (fun h15 => ?_) (fun h15 => absurd h15 (by omega))
    refine zz_gsn 1 rfl ?_
    refine zz_ri rfl (Or.inl rfl) ?_
    exact kk σ hV hF
  | succ r ih =>
    intro j σ hj hjk hV hF
    obtain ⟨j', rfl⟩ : ∃ j', j = j' + 1 := ⟨j - 1, by omega⟩
    have r3 := hV.1.2.2
    have q4' : σ.1 1214 m = (G.I.told : Nat) := (hF.1 _ _ (by omega)).trans q4
    refine zz_gsn 1 rfl ?_
    refine zz_cv (n := 1) rfl rfl (t_Mo_deedMany) (Nat.le_of_ble_eq_true rfl) (Nat.le_of_ble_eq_true rfl) (Nat.le_of_ble_eq_true rfl) (fun r12 σ12 q12 => ?_)
    obtain ⟨rfl, rfl⟩ := q12
    rw [r3, zw_p (n := j' + 1 + 1) (Nat.succ_pos _) (by omega)]
    refine zz_gsn 2 rfl ?_
    rw [q4']
    refine zz_br rfl (fun h15 => absurd h15 (by omega)) (fun h15 => ?_)
    refine zz_gsn 1 rfl ?_
    refine zz_cv (n := 1) rfl rfl (t_Mo_takesBack hV (ho.le hjk)) (Nat.le_of_ble_eq_true rfl) (Nat.le_of_ble_eq_true rfl) (Nat.le_of_ble_eq_true rfl) (fun r17 σ17 q17 => ?_)
    obtain ⟨rfl, p17, f17⟩ := q17
    refine zz_jp rfl ?_
    exact ih j' σ17 (by omega) (by omega) p17 (hF.tr f17)
theorem t_Mo_anew {X : zz_X} {σ : zz_M} {m : Nat} {G : zz_J} (hG : RG σ m G) (ok : g_ok G) : zz_T X 2 p_Mo_anew [zP 12 0 0 m] σ (fun r σ' => r = some (zI (a_anew G).1) ∧ RG σ' m (a_anew G).2 ∧ zz_F (A_rf m) σ σ') := by
  refine zz_mk k_Mo_anew o_Mo_anew rfl rfl (Nat.le_of_ble_eq_true rfl) ?_
  show zz_G X 2 p_Mo_anew 0 [zP 12 0 0 m, zU] [] σ _
  obtain ⟨hI, hT, hO, hF, hM, h10⟩ := id hG
  obtain ⟨⟨ho, hfx⟩, okt, oko, okm⟩ := id ok
  have hk6 := ho.1.2.2.1
  rcases Classical.em (G.I.ho = 1) with h1 | h1
  · obtain ⟨-, ⟨q1, q2, q3, q4⟩, hV⟩ := ri_y hI (by omega)
    have r3 := hV.1.2.2
    obtain ⟨-, -, -, htk, -⟩ := i_ho ho (show G.I.ho ≠ 0 by omega)
    have em : zw (zw (σ.1 1215 m - 1) - σ.1 1214 m) = (G.I.k : Int) - (G.I.told : Nat) := by
      rw [r3, zw_p (n := G.I.k + 1) (Nat.succ_pos _) (by omega), q4]
      show zw (((G.I.k + 1 - 1 : Nat) : Int) - (G.I.told : Nat)) = _
      rw [zw_id (by omega) (by omega)]
      omega
    refine zz_gsn 1 rfl ?_
    refine zz_cv (n := 1) rfl rfl (t_Mo_isHouse) (Nat.le_of_ble_eq_true rfl) (Nat.le_of_ble_eq_true rfl) (Nat.le_of_ble_eq_true rfl) (fun r1 σ1 q1 => ?_)
    obtain ⟨rfl, n1, rfl, e1⟩ := q1
    replace e1 := rh_of hI e1
    refine zz_br rfl (fun h2 => ?_) (fun h2 => absurd (by first | exact h2 | exact Decidable.not_not.mp h2) (show n1 ≠ 0 by clear em; omega))
    refine zz_gsn 1 rfl ?_
    refine zz_cv (n := 1) rfl rfl (t_Mo_deedMany) (Nat.le_of_ble_eq_true rfl) (Nat.le_of_ble_eq_true rfl) (Nat.le_of_ble_eq_true rfl) (fun r6 σ6 q6 => ?_)
    obtain ⟨rfl, rfl⟩ := q6
    refine zz_gsn 4 rfl ?_
    rw [em]
    clear em
    rw [show a_anew G = (((G.I.k : Nat) : Int) - (G.I.told : Nat), (i_cut G.I G.I.told, G.2)) from if_neg (by omega)]
    exact lp_ranew (σ0 := σ) ho.1 q4 (fun σ' a c => ⟨rfl, hG.cut h1 ⟨q1, q2, q3, q4⟩ a c, c.F⟩) (G.I.k - G.I.told) G.I.k σ (by omega) (Nat.le_refl _) hV Fu.rf
  · have h0 : G.I.ho = 0 := by rcases ho.2 with z | z <;> omega
    refine zz_gsn 1 rfl ?_
    refine zz_cv (n := 1) rfl rfl (t_Mo_isHouse) (Nat.le_of_ble_eq_true rfl) (Nat.le_of_ble_eq_true rfl) (Nat.le_of_ble_eq_true rfl) (fun r1 σ1 q1 => ?_)
    obtain ⟨rfl, n1, rfl, e1⟩ := q1
    replace e1 := rh_of hI e1
    refine zz_br rfl (fun h2 => absurd (show n1 = 0 by omega) h2) (fun h2 => ?_)
    refine zz_gsn 1 rfl ?_
    refine zz_ri rfl (Or.inl rfl) ?_
    rw [show a_anew G = (-2, G) from if_pos h0]
    exact ⟨rfl, hG, zz_F.rf⟩
