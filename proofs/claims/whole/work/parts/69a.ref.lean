/-! the reference: acts -/
def A_rf (m : Nat) : Nat → Prop := fun a => m ≤ a ∧ a ≤ m + 25
theorem Fm.F {m : Nat} {σ σ' : zz_M} (h : Fm m σ σ') : zz_F (A_rf m) σ σ' := fun a ha => ⟨fun f => h.1 f a (fun z => ha (by unfold A_rf; omega)), fun i => by rw [h.2 a (fun z => ha (by unfold A_rf; omega))]⟩
theorem RMg.e {σ σ' : zz_M} {m i : Nat} {I : zz_I} (h : RMg σ m i I) (e : ∀ i, σ'.2 (m + 25) i = σ.2 (m + 25) i) : RMg σ' m i I := by
  unfold RMg
  simp only [e]
  exact h
/-- behind a change of the deeds alone -/
theorem RG.h {σ σ' : zz_M} {m : Nat} {G : zz_J} {I' : zz_I} (h : RG σ m G) (hI : RI σ' m I') (h0 : σ'.2 (m + 10) 0 = 0) (f1 : ∀ f, f = 1225 ∨ f = 1256 ∨ f = 1232 ∨ f = 1233 → σ'.1 f m = σ.1 f m) (f2 : ∀ a i, a = m + 13 ∨ a = m + 24 ∨ a = m + 25 → σ'.2 a i = σ.2 a i) : RG σ' m (I', G.2) := by
  obtain ⟨-, hT, hO, hF, hM, -⟩ := h
  exact ⟨hI, ⟨(f1 _ (by omega)).trans hT.1, fun i hi => (f2 _ _ (by omega)).trans (hT.2 i hi)⟩, ⟨(f1 _ (by omega)).trans hO.1, fun i hi => (f2 _ _ (by omega)).trans (hO.2 i hi)⟩, ⟨(f1 _ (by omega)).trans hF.1, (f1 _ (by omega)).trans hF.2⟩, fun i hi => (hM i hi).e (fun j => f2 _ _ (by omega)), h0⟩
theorem RG.act {σ σ' : zz_M} {m w : Nat} {kind x : Int} {G : zz_J} (h : RG σ m G) (h1 : G.I.ho = 1) (hq : σ.1 1211 m = G.I.law ∧ σ.1 1212 m = G.I.C ∧ σ.1 1213 m = ((G.I.told + 1 : Nat) : Int) ∧ σ.1 1214 m = (G.I.told : Nat)) (hV : RV σ' m G.I.law G.I.C (G.I.k + 1) (h_one G.I.law G.I.C G.I.k (kind, w, x) (IH G.I)) (zu G.I.D G.I.k (kind, w, h_x (kind, w, x) (IH G.I)))) (hF : Fm m σ σ') : RG σ' m (i_act G.I kind w x, G.2) := by
  refine h.h (Or.inr ⟨h1, ⟨?_, ?_, ?_, ?_⟩, ?_⟩) hV.2.2.2.2 (fun f hf => hF.1 f m (by omega)) (fun a i ha => by rw [hF.2 a (by omega)])
  · rw [hF.1 _ _ (by omega)]; exact hq.1
  · rw [hF.1 _ _ (by omega)]; exact hq.2.1
  · rw [hF.1 _ _ (by omega)]; exact hq.2.2.1
  · rw [hF.1 _ _ (by omega)]; exact hq.2.2.2
  · rw [IH_act]
    exact hV
theorem a_put_n {G : zz_J} {kind v x : Int} (h : ¬ (vz G.I.ho G.I.k v ∧ 0 ≤ x ∧ x ≤ 99)) : a_put G kind v x = (-2, G) := by
  unfold a_put
  rw [ap_n h]
theorem a_put_f {G : zz_J} {kind v x : Int} (h : vz G.I.ho G.I.k v ∧ 0 ≤ x ∧ x ≤ 99) (hk : G.I.k = 60) : a_put G kind v x = (-5, G) := by
  unfold a_put
  rw [ap_f h hk]
theorem a_put_y {G : zz_J} {kind v x : Int} (h : vz G.I.ho G.I.k v ∧ 0 ≤ x ∧ x ≤ 99) (hk : G.I.k ≠ 60) : a_put G kind v x = (((G.I.k + 1 : Nat) : Int), (i_act G.I kind v.toNat x, G.2)) := by
  unfold a_put
  rw [ap_y h hk]
theorem a_take_n {G : zz_J} {kind v : Int} (h : ¬ vz G.I.ho G.I.k v) : a_take G kind v = (-2, G) := by
  unfold a_take
  rw [aq_n h]
theorem a_take_f {G : zz_J} {kind v : Int} (h : vz G.I.ho G.I.k v) (hk : ((IH G.I).Q v.toNat).1 = 0 ∨ G.I.k = 60) : a_take G kind v = (-5, G) := by
  unfold a_take
  rw [aq_f h hk]
theorem a_take_y {G : zz_J} {kind v : Int} (h : vz G.I.ho G.I.k v) (hk : ¬ (((IH G.I).Q v.toNat).1 = 0 ∨ G.I.k = 60)) : a_take G kind v = (zq_num kind 0 ((IH G.I).Q v.toNat), (i_act G.I kind v.toNat 0, G.2)) := by
  unfold a_take
  rw [aq_y h hk]
theorem t_Mo_put {X : zz_X} {σ : zz_M} {m : Nat} {G : zz_J} {v x : Int} (hG : RG σ m G) (ok : g_ok G) : zz_T X 7 p_Mo_put [zP 12 0 0 m, zI v, zI x] σ (fun r σ' => r = some (zI (a_put G 0 v x).1) ∧ RG σ' m (a_put G 0 v x).2 ∧ zz_F (A_rf m) σ σ') := by
  refine zz_mk k_Mo_put o_Mo_put rfl rfl (Nat.le_of_ble_eq_true rfl) ?_
  show zz_G X 7 p_Mo_put 0 [zP 12 0 0 m, zI v, zI x] [] σ _
  obtain ⟨hI, hT, hO, hF, hM, h10⟩ := id hG
  obtain ⟨⟨ho, hfx⟩, okt, oko, okm⟩ := id ok
  have hk6 := ho.1.2.2.1
  rcases zz_c4 (vz G.I.ho G.I.k v) (0 ≤ x ∧ x ≤ 99) (G.I.k = 60) with hv | ⟨hv, hx⟩ | ⟨hv, hx, hk⟩ | ⟨hv, hx, hk⟩
  · refine zz_gsn 2 rfl ?_
    refine zz_cv (n := 2) rfl rfl (t_Mo_isVersion) (Nat.le_of_ble_eq_true rfl) (Nat.le_of_ble_eq_true rfl) (Nat.le_of_ble_eq_true rfl) (fun r2 σ2 q2 => ?_)
    obtain ⟨rfl, n2, rfl, e2⟩ := q2
    replace e2 := rv_of hI ho e2
    replace e2 : n2 = 0 := e2.elim (fun z => absurd z.2 hv) (fun z => z.1)
    refine zz_br rfl (fun h3 => ?_) (fun h3 => absurd e2 h3)
    refine zz_gsn 1 rfl ?_
    refine zz_ri rfl (Or.inl rfl) ?_
    rw [a_put_n (fun z => hv z.1)]
    exact ⟨rfl, hG, zz_F.rf⟩
  · refine zz_gsn 2 rfl ?_
    refine zz_cv (n := 2) rfl rfl (t_Mo_isVersion) (Nat.le_of_ble_eq_true rfl) (Nat.le_of_ble_eq_true rfl) (Nat.le_of_ble_eq_true rfl) (fun r2 σ2 q2 => ?_)
    obtain ⟨rfl, n2, rfl, e2⟩ := q2
    replace e2 := rv_of hI ho e2
    replace e2 : n2 = 1 := e2.elim (fun z => z.1) (fun z => absurd hv z.2)
    refine zz_br rfl (fun h3 => absurd h3 (by omega)) (fun h3 => ?_)
    refine zz_gsn 4 rfl ?_
    refine zz_cs (n := 3) rfl rfl (t_Mo_in) (Nat.le_of_ble_eq_true rfl) (Nat.le_of_ble_eq_true rfl) (Nat.le_of_ble_eq_true rfl) (fun r8 σ8 q8 => ?_)
    obtain ⟨rfl, n8, rfl, e8⟩ := q8
    refine zz_br rfl (fun h9 => absurd ⟨by omega, by omega⟩ hx) (fun h9 => ?_)
    refine zz_gsn 1 rfl ?_
    refine zz_ri rfl (Or.inl rfl) ?_
    rw [a_put_n (fun z => hx z.2)]
    exact ⟨rfl, hG, zz_F.rf⟩
  · obtain ⟨w, rfl⟩ : ∃ w : Nat, v = (w : Nat) := ⟨v.toNat, by omega⟩
    obtain ⟨z0, w1, w2⟩ := id hv
    obtain ⟨hone, ⟨q1, q2, q3, q4⟩, hV⟩ := ri_y hI z0
    obtain ⟨⟨r1, r2, r3⟩, r4, r5, r6, r7⟩ := id hV
    have hw1 : w ≤ G.I.k := by omega
    obtain ⟨hS, hq1, hq2⟩ := r4 w hw1
    refine zz_gsn 2 rfl ?_
    refine zz_cv (n := 2) rfl rfl (t_Mo_isVersion) (Nat.le_of_ble_eq_true rfl) (Nat.le_of_ble_eq_true rfl) (Nat.le_of_ble_eq_true rfl) (fun r2 σ2 q2 => ?_)
    obtain ⟨rfl, n2, rfl, e2⟩ := q2
    replace e2 := rv_of hI ho e2
    replace e2 : n2 = 1 := e2.elim (fun z => z.1) (fun z => absurd hv z.2)
    refine zz_br rfl (fun h3 => absurd h3 (by omega)) (fun h3 => ?_)
    refine zz_gsn 4 rfl ?_
    refine zz_cs (n := 3) rfl rfl (t_Mo_in) (Nat.le_of_ble_eq_true rfl) (Nat.le_of_ble_eq_true rfl) (Nat.le_of_ble_eq_true rfl) (fun r8 σ8 q8 => ?_)
    obtain ⟨rfl, n8, rfl, e8⟩ := q8
    refine zz_br rfl (fun h9 => ?_) (fun h9 => absurd (show n8 = 1 by omega) (by omega))
    refine zz_gsn 1 rfl ?_
    refine zz_cv (n := 1) rfl rfl (t_Mo_isFull) (Nat.le_of_ble_eq_true rfl) (Nat.le_of_ble_eq_true rfl) (Nat.le_of_ble_eq_true rfl) (fun r13 σ13 q13 => ?_)
    obtain ⟨rfl, n13, rfl, e13⟩ := q13
    rw [r3] at e13
    refine zz_br rfl (fun h14 => absurd h14 (by omega)) (fun h14 => ?_)
    refine zz_gsn 1 rfl ?_
    refine zz_ri rfl (Or.inl rfl) ?_
    rw [a_put_f ⟨hv, hx⟩ hk]
    exact ⟨rfl, hG, zz_F.rf⟩
  · obtain ⟨w, rfl⟩ : ∃ w : Nat, v = (w : Nat) := ⟨v.toNat, by omega⟩
    obtain ⟨z0, w1, w2⟩ := id hv
    obtain ⟨hone, ⟨q1, q2, q3, q4⟩, hV⟩ := ri_y hI z0
    obtain ⟨⟨r1, r2, r3⟩, r4, r5, r6, r7⟩ := id hV
    have hw1 : w ≤ G.I.k := by omega
    obtain ⟨hS, hq1, hq2⟩ := r4 w hw1
    have hCC := (i_ho ho z0).2
    have hCC : 2 ≤ G.I.C ∧ G.I.C ≤ 4 := ⟨hCC.1, hCC.2.1⟩
    refine zz_gsn 2 rfl ?_
    refine zz_cv (n := 2) rfl rfl (t_Mo_isVersion) (Nat.le_of_ble_eq_true rfl) (Nat.le_of_ble_eq_true rfl) (Nat.le_of_ble_eq_true rfl) (fun r2 σ2 q2 => ?_)
    obtain ⟨rfl, n2, rfl, e2⟩ := q2
    replace e2 := rv_of hI ho e2
    replace e2 : n2 = 1 := e2.elim (fun z => z.1) (fun z => absurd hv z.2)
    refine zz_br rfl (fun h3 => absurd h3 (by omega)) (fun h3 => ?_)
    refine zz_gsn 4 rfl ?_
    refine zz_cs (n := 3) rfl rfl (t_Mo_in) (Nat.le_of_ble_eq_true rfl) (Nat.le_of_ble_eq_true rfl) (Nat.le_of_ble_eq_true rfl) (fun r8 σ8 q8 => ?_)
    obtain ⟨rfl, n8, rfl, e8⟩ := q8
    refine zz_br rfl (fun h9 => ?_) (fun h9 => absurd (show n8 = 1 by omega) (by omega))
    refine zz_gsn 1 rfl ?_
    refine zz_cv (n := 1) rfl rfl (t_Mo_isFull) (Nat.le_of_ble_eq_true rfl) (Nat.le_of_ble_eq_true rfl) (Nat.le_of_ble_eq_true rfl) (fun r13 σ13 q13 => ?_)
    obtain ⟨rfl, n13, rfl, e13⟩ := q13
    rw [r3] at e13
    refine zz_br rfl (fun h14 => ?_) (fun h14 => absurd (show n13 = 0 by omega) h14)
    refine zz_gsn 4 rfl ?_
    refine zz_cv (n := 4) rfl rfl (t_Mo_makes (v := w) (kind := 0) (x := x) hV (by omega) (h_inv ho.1) hCC (ap_st hw1 hx (Or.inl rfl))) (Nat.le_of_ble_eq_true rfl) (Nat.le_of_ble_eq_true rfl) (Nat.le_of_ble_eq_true rfl) (fun r21 σ21 q21 => ?_)
    obtain ⟨rfl, p21, f21⟩ := q21
    refine zz_gsn 5 rfl ?_
    refine zz_ri rfl (Or.inl rfl) ?_
    rw [a_put_y ⟨hv, hx⟩ hk, Int.toNat_natCast]
    refine ⟨congrArg (fun z => some (zI z)) ?_, hG.act hone ⟨q1, q2, q3, q4⟩ p21 f21, f21.F⟩
    rw [p21.1.2.2]
    exact zw_p (n := G.I.k + 1 + 1) (Nat.succ_pos _) (by omega)
theorem t_Mo_fore {X : zz_X} {σ : zz_M} {m : Nat} {G : zz_J} {v x : Int} (hG : RG σ m G) (ok : g_ok G) : zz_T X 7 p_Mo_fore [zP 12 0 0 m, zI v, zI x] σ (fun r σ' => r = some (zI (a_fore G v x).1) ∧ RG σ' m (a_fore G v x).2 ∧ zz_F (A_rf m) σ σ') := by
  refine zz_mk k_Mo_fore o_Mo_fore rfl rfl (Nat.le_of_ble_eq_true rfl) ?_
  show zz_G X 7 p_Mo_fore 0 [zP 12 0 0 m, zI v, zI x] [] σ _
  obtain ⟨hI, hT, hO, hF, hM, h10⟩ := id hG
  obtain ⟨⟨ho, hfx⟩, okt, oko, okm⟩ := id ok
  have hk6 := ho.1.2.2.1
  rcases (show ¬ G.I.law = 2 ∨ (G.I.law = 2 ∧ ¬ vz G.I.ho G.I.k v) ∨ (G.I.law = 2 ∧ vz G.I.ho G.I.k v ∧ ¬ (0 ≤ x ∧ x ≤ 99)) ∨ (G.I.law = 2 ∧ vz G.I.ho G.I.k v ∧ (0 ≤ x ∧ x ≤ 99) ∧ G.I.k = 60) ∨ (G.I.law = 2 ∧ vz G.I.ho G.I.k v ∧ (0 ≤ x ∧ x ≤ 99) ∧ ¬ G.I.k = 60) by
    by_cases z : G.I.law = 2
    · rcases zz_c4 (vz G.I.ho G.I.k v) (0 ≤ x ∧ x ≤ 99) (G.I.k = 60) with y | y | y | y
      · exact Or.inr (Or.inl ⟨z, y⟩)
      · exact Or.inr (Or.inr (Or.inl ⟨z, y⟩))
      · exact Or.inr (Or.inr (Or.inr (Or.inl ⟨z, y⟩)))
      · exact Or.inr (Or.inr (Or.inr (Or.inr ⟨z, y⟩)))
    · exact Or.inl z) with hlw | ⟨hlw, hv⟩ | ⟨hlw, hv, hx⟩ | ⟨hlw, hv, hx, hk⟩ | ⟨hlw, hv, hx, hk⟩
  · have hl02 := ho.1.1
    have hlr : ∀ z, RI σ m G.I → z = σ.1 1211 m → vz G.I.ho G.I.k v → z < 2 := fun z h e hv => by
      obtain ⟨-, ⟨y1, -⟩, -⟩ := ri_y h hv.1
      omega
    refine zz_gsn 2 rfl ?_
    refine zz_cv (n := 2) rfl rfl (t_Mo_isVersion) (Nat.le_of_ble_eq_true rfl) (Nat.le_of_ble_eq_true rfl) (Nat.le_of_ble_eq_true rfl) (fun r2 σ2 q2 => ?_)
    obtain ⟨rfl, n2, rfl, e2⟩ := q2
    replace e2 := rv_of hI ho e2
    refine zz_br rfl (fun h3 => ?_) (fun h3 => ?_)
    · refine zz_gsn 1 rfl ?_
      refine zz_ri rfl (Or.inl rfl) ?_
      rw [show a_fore G v x = (-2, G) from if_neg hlw]
      exact ⟨rfl, hG, zz_F.rf⟩
    · refine zz_gsn 4 rfl ?_
      refine zz_cs (n := 3) rfl rfl (t_Mo_in) (Nat.le_of_ble_eq_true rfl) (Nat.le_of_ble_eq_true rfl) (Nat.le_of_ble_eq_true rfl) (fun r8 σ8 q8 => ?_)
      obtain ⟨rfl, n8, rfl, e8⟩ := q8
      refine zz_br rfl (fun h9 => ?_) (fun h9 => ?_)
      · refine zz_gsn 1 rfl ?_
        refine zz_ri rfl (Or.inl rfl) ?_
        rw [show a_fore G v x = (-2, G) from if_neg hlw]
        exact ⟨rfl, hG, zz_F.rf⟩
      · refine zz_gsn 3 rfl ?_
        refine zz_br rfl (fun h13 => absurd h13 (by have := hlr _ hI rfl (e2.elim (fun z => z.2) (fun z => absurd z.1 h3)); omega)) (fun h13 => ?_)
        refine zz_gsn 1 rfl ?_
        refine zz_ri rfl (Or.inl rfl) ?_
        rw [show a_fore G v x = (-2, G) from if_neg hlw]
        exact ⟨rfl, hG, zz_F.rf⟩
  · refine zz_gsn 2 rfl ?_
    refine zz_cv (n := 2) rfl rfl (t_Mo_isVersion) (Nat.le_of_ble_eq_true rfl) (Nat.le_of_ble_eq_true rfl) (Nat.le_of_ble_eq_true rfl) (fun r2 σ2 q2 => ?_)
    obtain ⟨rfl, n2, rfl, e2⟩ := q2
    replace e2 := rv_of hI ho e2
    replace e2 : n2 = 0 := e2.elim (fun z => absurd z.2 hv) (fun z => z.1)
    refine zz_br rfl (fun h3 => ?_) (fun h3 => absurd e2 h3)
    refine zz_gsn 1 rfl ?_
    refine zz_ri rfl (Or.inl rfl) ?_
    rw [show ∀ v, a_fore G v x = a_put G 2 v x from fun _ => if_pos hlw]
    rw [a_put_n (fun z => hv z.1)]
    exact ⟨rfl, hG, zz_F.rf⟩
  · refine zz_gsn 2 rfl ?_
    refine zz_cv (n := 2) rfl rfl (t_Mo_isVersion) (Nat.le_of_ble_eq_true rfl) (Nat.le_of_ble_eq_true rfl) (Nat.le_of_ble_eq_true rfl) (fun r2 σ2 q2 => ?_)
    obtain ⟨rfl, n2, rfl, e2⟩ := q2
    replace e2 := rv_of hI ho e2
    replace e2 : n2 = 1 := e2.elim (fun z => z.1) (fun z => absurd hv z.2)
    refine zz_br rfl (fun h3 => absurd h3 (by omega)) (fun h3 => ?_)
    refine zz_gsn 4 rfl ?_
    refine zz_cs (n := 3) rfl rfl (t_Mo_in) (Nat.le_of_ble_eq_true rfl) (Nat.le_of_ble_eq_true rfl) (Nat.le_of_ble_eq_true rfl) (fun r8 σ8 q8 => ?_)
    obtain ⟨rfl, n8, rfl, e8⟩ := q8
    refine zz_br rfl (fun h9 => ?_) (fun h9 => absurd (show n8 = 0 from e8.elim (fun z => absurd z.2 hx) (fun z => z.1)) h9)
    refine zz_gsn 1 rfl ?_
    refine zz_ri rfl (Or.inl rfl) ?_
    rw [show ∀ v, a_fore G v x = a_put G 2 v x from fun _ => if_pos hlw]
    rw [a_put_n (fun z => hx z.2)]
    exact ⟨rfl, hG, zz_F.rf⟩
  · obtain ⟨w, rfl⟩ : ∃ w : Nat, v = (w : Nat) := ⟨v.toNat, by omega⟩
    obtain ⟨z0, w1, w2⟩ := id hv
    obtain ⟨hone, ⟨q1, q2, q3, q4⟩, hV⟩ := ri_y hI z0
    obtain ⟨⟨r1, r2, r3⟩, r4, r5, r6, r7⟩ := id hV
    have hw1 : w ≤ G.I.k := by omega
    obtain ⟨hS, hq1, hq2⟩ := r4 w hw1
    refine zz_gsn 2 rfl ?_
    refine zz_cv (n := 2) rfl rfl (t_Mo_isVersion) (Nat.le_of_ble_eq_true rfl) (Nat.le_of_ble_eq_true rfl) (Nat.le_of_ble_eq_true rfl) (fun r2 σ2 q2 => ?_)
    obtain ⟨rfl, n2, rfl, e2⟩ := q2
    replace e2 := rv_of hI ho e2
    replace e2 : n2 = 1 := e2.elim (fun z => z.1) (fun z => absurd hv z.2)
    refine zz_br rfl (fun h3 => absurd h3 (by omega)) (fun h3 => ?_)
    refine zz_gsn 4 rfl ?_
    refine zz_cs (n := 3) rfl rfl (t_Mo_in) (Nat.le_of_ble_eq_true rfl) (Nat.le_of_ble_eq_true rfl) (Nat.le_of_ble_eq_true rfl) (fun r8 σ8 q8 => ?_)
    obtain ⟨rfl, n8, rfl, e8⟩ := q8
    refine zz_br rfl (fun h9 => absurd h9 (by omega)) (fun h9 => ?_)
    refine zz_gsn 3 rfl ?_
    refine zz_br rfl (fun h13 => ?_) (fun h13 => absurd h13 (by omega))
    refine zz_gsn 1 rfl ?_
    refine zz_cv (n := 1) rfl rfl (t_Mo_isFull) (Nat.le_of_ble_eq_true rfl) (Nat.le_of_ble_eq_true rfl) (Nat.le_of_ble_eq_true rfl) (fun r17 σ17 q17 => ?_)
    obtain ⟨rfl, n17, rfl, e17⟩ := q17
    rw [r3] at e17
    refine zz_br rfl (fun h18 => absurd h18 (by omega)) (fun h18 => ?_)
    refine zz_gsn 1 rfl ?_
    refine zz_ri rfl (Or.inl rfl) ?_
    rw [show ∀ v, a_fore G v x = a_put G 2 v x from fun _ => if_pos hlw]
    rw [a_put_f ⟨hv, hx⟩ hk]
    exact ⟨rfl, hG, zz_F.rf⟩
  · obtain ⟨w, rfl⟩ : ∃ w : Nat, v = (w : Nat) := ⟨v.toNat, by omega⟩
    obtain ⟨z0, w1, w2⟩ := id hv
    obtain ⟨hone, ⟨q1, q2, q3, q4⟩, hV⟩ := ri_y hI z0
    obtain ⟨⟨r1, r2, r3⟩, r4, r5, r6, r7⟩ := id hV
    have hw1 : w ≤ G.I.k := by omega
    obtain ⟨hS, hq1, hq2⟩ := r4 w hw1
    have hCC := (i_ho ho z0).2
    have hCC : 2 ≤ G.I.C ∧ G.I.C ≤ 4 := ⟨hCC.1, hCC.2.1⟩
    refine zz_gsn 2 rfl ?_
    refine zz_cv (n := 2) rfl rfl (t_Mo_isVersion) (Nat.le_of_ble_eq_true rfl) (Nat.le_of_ble_eq_true rfl) (Nat.le_of_ble_eq_true rfl) (fun r2 σ2 q2 => ?_)
    obtain ⟨rfl, n2, rfl, e2⟩ := q2
    replace e2 := rv_of hI ho e2
    replace e2 : n2 = 1 := e2.elim (fun z => z.1) (fun z => absurd hv z.2)
    refine zz_br rfl (fun h3 => absurd h3 (by omega)) (fun h3 => ?_)
    refine zz_gsn 4 rfl ?_
    refine zz_cs (n := 3) rfl rfl (t_Mo_in) (Nat.le_of_ble_eq_true rfl) (Nat.le_of_ble_eq_true rfl) (Nat.le_of_ble_eq_true rfl) (fun r8 σ8 q8 => ?_)
    obtain ⟨rfl, n8, rfl, e8⟩ := q8
    refine zz_br rfl (fun h9 => absurd h9 (by omega)) (fun h9 => ?_)
    refine zz_gsn 3 rfl ?_
    refine zz_br rfl (fun h13 => ?_) (fun h13 => absurd h13 (by omega))
    refine zz_gsn 1 rfl ?_
    refine zz_cv (n := 1) rfl rfl (t_Mo_isFull) (Nat.le_of_ble_eq_true rfl) (Nat.le_of_ble_eq_true rfl) (Nat.le_of_ble_eq_true rfl) (fun r17 σ17 q17 => ?_)
    obtain ⟨rfl, n17, rfl, e17⟩ := q17
    rw [r3] at e17
    refine zz_br rfl (fun h18 => ?_) (fun h18 => absurd (show n17 = 0 by omega) h18)
    refine zz_gsn 4 rfl ?_
    refine zz_cv (n := 4) rfl rfl (t_Mo_makes (v := w) (kind := 2) (x := x) hV (by omega) (h_inv ho.1) hCC (ap_st hw1 hx (Or.inr ⟨rfl, hlw⟩))) (Nat.le_of_ble_eq_true rfl) (Nat.le_of_ble_eq_true rfl) (Nat.le_of_ble_eq_true rfl) (fun r25 σ25 q25 => ?_)
    obtain ⟨rfl, p25, f25⟩ := q25
    refine zz_gsn 5 rfl ?_
    refine zz_ri rfl (Or.inl rfl) ?_
    rw [show ∀ v, a_fore G v x = a_put G 2 v x from fun _ => if_pos hlw]
    rw [a_put_y ⟨hv, hx⟩ hk, Int.toNat_natCast]
    refine ⟨congrArg (fun z => some (zI z)) ?_, hG.act hone ⟨q1, q2, q3, q4⟩ p25 f25, f25.F⟩
    rw [p25.1.2.2]
    exact zw_p (n := G.I.k + 1 + 1) (Nat.succ_pos _) (by omega)
theorem t_Mo_take {X : zz_X} {σ : zz_M} {m : Nat} {G : zz_J} {v : Int} (hG : RG σ m G) (ok : g_ok G) : zz_T X 7 p_Mo_take [zP 12 0 0 m, zI v] σ (fun r σ' => r = some (zI (a_take G 1 v).1) ∧ RG σ' m (a_take G 1 v).2 ∧ zz_F (A_rf m) σ σ') := by
  refine zz_mk k_Mo_take o_Mo_take rfl rfl (Nat.le_of_ble_eq_true rfl) ?_
  show zz_G X 7 p_Mo_take 0 [zP 12 0 0 m, zI v] [] σ _
  obtain ⟨hI, hT, hO, hF, hM, h10⟩ := id hG
  obtain ⟨⟨ho, hfx⟩, okt, oko, okm⟩ := id ok
  have hk6 := ho.1.2.2.1
  rcases (show ¬ vz G.I.ho G.I.k v ∨ (vz G.I.ho G.I.k v ∧ G.I.k = 60) ∨ (vz G.I.ho G.I.k v ∧ ((IH G.I).Q v.toNat).1 = 0 ∧ G.I.k ≠ 60) ∨ (vz G.I.ho G.I.k v ∧ ((IH G.I).Q v.toNat).1 ≠ 0 ∧ G.I.k ≠ 60) by
    by_cases z : vz G.I.ho G.I.k v
    · by_cases y : G.I.k = 60
      · exact Or.inr (Or.inl ⟨z, y⟩)
      · by_cases u : ((IH G.I).Q v.toNat).1 = 0
        · exact Or.inr (Or.inr (Or.inl ⟨z, u, y⟩))
        · exact Or.inr (Or.inr (Or.inr ⟨z, u, y⟩))
    · exact Or.inl z) with hv | ⟨hv, hk⟩ | ⟨hv, hq, hk⟩ | ⟨hv, hq, hk⟩
  · refine zz_gsn 2 rfl ?_
    refine zz_cv (n := 2) rfl rfl (t_Mo_isVersion) (Nat.le_of_ble_eq_true rfl) (Nat.le_of_ble_eq_true rfl) (Nat.le_of_ble_eq_true rfl) (fun r2 σ2 q2 => ?_)
    obtain ⟨rfl, n2, rfl, e2⟩ := q2
    replace e2 := rv_of hI ho e2
    replace e2 : n2 = 0 := e2.elim (fun z => absurd z.2 hv) (fun z => z.1)
    refine zz_br rfl (fun h3 => absurd e2 h3) (fun h3 => ?_)
    refine zz_gsn 1 rfl ?_
    refine zz_ri rfl (Or.inl rfl) ?_
    rw [a_take_n hv]
    exact ⟨rfl, hG, zz_F.rf⟩
  · obtain ⟨w, rfl⟩ : ∃ w : Nat, v = (w : Nat) := ⟨v.toNat, by omega⟩
    obtain ⟨z0, w1, w2⟩ := id hv
    obtain ⟨hone, ⟨q1, q2, q3, q4⟩, hV⟩ := ri_y hI z0
    obtain ⟨⟨r1, r2, r3⟩, r4, r5, r6, r7⟩ := id hV
    have hw1 : w ≤ G.I.k := by omega
    obtain ⟨hS, hq1, hq2⟩ := r4 w hw1
    refine zz_gsn 2 rfl ?_
    refine zz_cv (n := 2) rfl rfl (t_Mo_isVersion) (Nat.le_of_ble_eq_true rfl) (Nat.le_of_ble_eq_true rfl) (Nat.le_of_ble_eq_true rfl) (fun r2 σ2 q2 => ?_)
    obtain ⟨rfl, n2, rfl, e2⟩ := q2
    replace e2 := rv_of hI ho e2
    replace e2 : n2 = 1 := e2.elim (fun z => z.1) (fun z => absurd hv z.2)
    refine zz_br rfl (fun h3 => ?_) (fun h3 => absurd (e2.symm.trans (by first | exact h3 | exact Decidable.not_not.mp h3)) (by decide))
    refine zz_gsn 1 rfl ?_
    refine zz_cv (n := 1) rfl rfl (t_Mo_isFull) (Nat.le_of_ble_eq_true rfl) (Nat.le_of_ble_eq_true rfl) (Nat.le_of_ble_eq_true rfl) (fun r7 σ7 q7 => ?_)
    obtain ⟨rfl, n7, rfl, e7⟩ := q7
    rw [r3] at e7
    refine zz_br rfl (fun h8 => ?_) (fun h8 => absurd (by first | exact h8 | exact Decidable.not_not.mp h8) (show n7 ≠ 0 by omega))
    refine zz_gsn 1 rfl ?_
    refine zz_jp rfl ?_
    refine zz_ri rfl (Or.inl rfl) ?_
    rw [a_take_f hv (Or.inr hk)]
    exact ⟨rfl, hG, zz_F.rf⟩
  · obtain ⟨w, rfl⟩ : ∃ w : Nat, v = (w : Nat) := ⟨v.toNat, by omega⟩
    obtain ⟨z0, w1, w2⟩ := id hv
    obtain ⟨hone, ⟨q1, q2, q3, q4⟩, hV⟩ := ri_y hI z0
    obtain ⟨⟨r1, r2, r3⟩, r4, r5, r6, r7⟩ := id hV
    have hw1 : w ≤ G.I.k := by omega
    obtain ⟨hS, hq1, hq2⟩ := r4 w hw1
    have hql := h_ql ho hw1
    rw [Int.toNat_natCast] at hq
    refine zz_gsn 2 rfl ?_
    refine zz_cv (n := 2) rfl rfl (t_Mo_isVersion) (Nat.le_of_ble_eq_true rfl) (Nat.le_of_ble_eq_true rfl) (Nat.le_of_ble_eq_true rfl) (fun r2 σ2 q2 => ?_)
    obtain ⟨rfl, n2, rfl, e2⟩ := q2
    replace e2 := rv_of hI ho e2
    replace e2 : n2 = 1 := e2.elim (fun z => z.1) (fun z => absurd hv z.2)
    refine zz_br rfl (fun h3 => ?_) (fun h3 => absurd (e2.symm.trans (by first | exact h3 | exact Decidable.not_not.mp h3)) (by decide))
    refine zz_gsn 1 rfl ?_
    refine zz_cv (n := 1) rfl rfl (t_Mo_isFull) (Nat.le_of_ble_eq_true rfl) (Nat.le_of_ble_eq_true rfl) (Nat.le_of_ble_eq_true rfl) (fun r7 σ7 q7 => ?_)
    obtain ⟨rfl, n7, rfl, e7⟩ := q7
    rw [r3] at e7
    refine zz_br rfl (fun h8 => absurd (show n7 = 0 by omega) h8) (fun h8 => ?_)
    refine zz_gsn 3 rfl ?_
    refine zz_ald rfl (⟨by omega, by omega⟩) ?_
    rw [show σ.2 (m + 12) (Int.toNat (w : Int)) = (((IH G.I).Q w).1 : Nat) from hq1]
    refine zz_br rfl (fun h13 => absurd (show ((((IH G.I).Q w).1 : Nat) : Int) = 0 by omega) h13) (fun h13 => ?_)
    refine zz_gsn 1 rfl ?_
    refine zz_jp rfl ?_
    refine zz_ri rfl (Or.inl rfl) ?_
    rw [a_take_f hv (Or.inl hq)]
    exact ⟨rfl, hG, zz_F.rf⟩
  · obtain ⟨w, rfl⟩ : ∃ w : Nat, v = (w : Nat) := ⟨v.toNat, by omega⟩
    obtain ⟨z0, w1, w2⟩ := id hv
    obtain ⟨hone, ⟨q1, q2, q3, q4⟩, hV⟩ := ri_y hI z0
    obtain ⟨⟨r1, r2, r3⟩, r4, r5, r6, r7⟩ := id hV
    have hw1 : w ≤ G.I.k := by omega
    obtain ⟨hS, hq1, hq2⟩ := r4 w hw1
    have hql := h_ql ho hw1
    rw [Int.toNat_natCast] at hq
    have hCC := (i_ho ho z0).2
    have hCC : 2 ≤ G.I.C ∧ G.I.C ≤ 4 := ⟨hCC.1, hCC.2.1⟩
    refine zz_gsn 2 rfl ?_
    refine zz_cv (n := 2) rfl rfl (t_Mo_isVersion) (Nat.le_of_ble_eq_true rfl) (Nat.le_of_ble_eq_true rfl) (Nat.le_of_ble_eq_true rfl) (fun r2 σ2 q2 => ?_)
    obtain ⟨rfl, n2, rfl, e2⟩ := q2
    replace e2 := rv_of hI ho e2
    replace e2 : n2 = 1 := e2.elim (fun z => z.1) (fun z => absurd hv z.2)
    refine zz_br rfl (fun h3 => ?_) (fun h3 => absurd (e2.symm.trans (by first | exact h3 | exact Decidable.not_not.mp h3)) (by decide))
    refine zz_gsn 1 rfl ?_
    refine zz_cv (n := 1) rfl rfl (t_Mo_isFull) (Nat.le_of_ble_eq_true rfl) (Nat.le_of_ble_eq_true rfl) (Nat.le_of_ble_eq_true rfl) (fun r7 σ7 q7 => ?_)
    obtain ⟨rfl, n7, rfl, e7⟩ := q7
    rw [r3] at e7
    refine zz_br rfl (fun h8 => absurd (show n7 = 0 by omega) h8) (fun h8 => ?_)
    refine zz_gsn 3 rfl ?_
    refine zz_ald rfl (⟨by omega, by omega⟩) ?_
    rw [show σ.2 (m + 12) (Int.toNat (w : Int)) = (((IH G.I).Q w).1 : Nat) from hq1]
    refine zz_br rfl (fun h13 => ?_) (fun h13 => absurd (by first | exact h13 | exact Decidable.not_not.mp h13) (show ((((IH G.I).Q w).1 : Nat) : Int) ≠ 0 by omega))
    refine zz_gsn 4 rfl ?_
    refine zz_cv (n := 4) rfl rfl (t_Mo_makes (v := w) (kind := 1) (x := 0) hV (by omega) (h_inv ho.1) hCC (aq_st hw1 hq (Or.inl rfl))) (Nat.le_of_ble_eq_true rfl) (Nat.le_of_ble_eq_true rfl) (Nat.le_of_ble_eq_true rfl) (fun r20 σ20 q20 => ?_)
    obtain ⟨rfl, p20, f20⟩ := q20
    refine zz_ri rfl (Or.inl rfl) ?_
    rw [a_take_y hv (fun z => z.elim hq hk), Int.toNat_natCast]
    exact ⟨rfl, hG.act hone ⟨q1, q2, q3, q4⟩ p20 f20, f20.F⟩
theorem t_Mo_last {X : zz_X} {σ : zz_M} {m : Nat} {G : zz_J} {v : Int} (hG : RG σ m G) (ok : g_ok G) : zz_T X 7 p_Mo_last [zP 12 0 0 m, zI v] σ (fun r σ' => r = some (zI (a_last G v).1) ∧ RG σ' m (a_last G v).2 ∧ zz_F (A_rf m) σ σ') := by
  refine zz_mk k_Mo_last o_Mo_last rfl rfl (Nat.le_of_ble_eq_true rfl) ?_
  show zz_G X 7 p_Mo_last 0 [zP 12 0 0 m, zI v] [] σ _
  obtain ⟨hI, hT, hO, hF, hM, h10⟩ := id hG
  obtain ⟨⟨ho, hfx⟩, okt, oko, okm⟩ := id ok
  have hk6 := ho.1.2.2.1
  rcases (show ¬ G.I.law = 2 ∨ (G.I.law = 2 ∧ ¬ vz G.I.ho G.I.k v) ∨ (G.I.law = 2 ∧ vz G.I.ho G.I.k v ∧ G.I.k = 60) ∨ (G.I.law = 2 ∧ vz G.I.ho G.I.k v ∧ ((IH G.I).Q v.toNat).1 = 0 ∧ G.I.k ≠ 60) ∨ (G.I.law = 2 ∧ vz G.I.ho G.I.k v ∧ ((IH G.I).Q v.toNat).1 ≠ 0 ∧ G.I.k ≠ 60) by
    by_cases l : G.I.law = 2
    · by_cases z : vz G.I.ho G.I.k v
      · by_cases y : G.I.k = 60
        · exact Or.inr (Or.inr (Or.inl ⟨l, z, y⟩))
        · by_cases u : ((IH G.I).Q v.toNat).1 = 0
          · exact Or.inr (Or.inr (Or.inr (Or.inl ⟨l, z, u, y⟩)))
          · exact Or.inr (Or.inr (Or.inr (Or.inr ⟨l, z, u, y⟩)))
      · exact Or.inr (Or.inl ⟨l, z⟩)
    · exact Or.inl l) with hlw | ⟨hlw, hv⟩ | ⟨hlw, hv, hk⟩ | ⟨hlw, hv, hq, hk⟩ | ⟨hlw, hv, hq, hk⟩
  · have hl02 := ho.1.1
    have hlr : ∀ z, RI σ m G.I → z = σ.1 1211 m → vz G.I.ho G.I.k v → z < 2 := fun z h e hv => by
      obtain ⟨-, ⟨y1, -⟩, -⟩ := ri_y h hv.1
      omega
    refine zz_gsn 2 rfl ?_
    refine zz_cv (n := 2) rfl rfl (t_Mo_isVersion) (Nat.le_of_ble_eq_true rfl) (Nat.le_of_ble_eq_true rfl) (Nat.le_of_ble_eq_true rfl) (fun r2 σ2 q2 => ?_)
    obtain ⟨rfl, n2, rfl, e2⟩ := q2
    replace e2 := rv_of hI ho e2
    refine zz_br rfl (fun h3 => ?_) (fun h3 => ?_)
    · refine zz_gsn 1 rfl ?_
      refine zz_ri rfl (Or.inl rfl) ?_
      rw [show a_last G v = (-2, G) from if_neg hlw]
      exact ⟨rfl, hG, zz_F.rf⟩
    · refine zz_gsn 3 rfl ?_
      refine zz_br rfl (fun h7 => absurd h7 (by have := hlr _ hI rfl (e2.elim (fun z => z.2) (fun z => absurd z.1 h3)); omega)) (fun h7 => ?_)
      refine zz_gsn 1 rfl ?_
      refine zz_ri rfl (Or.inl rfl) ?_
      rw [show a_last G v = (-2, G) from if_neg hlw]
      exact ⟨rfl, hG, zz_F.rf⟩
  · refine zz_gsn 2 rfl ?_
    refine zz_cv (n := 2) rfl rfl (t_Mo_isVersion) (Nat.le_of_ble_eq_true rfl) (Nat.le_of_ble_eq_true rfl) (Nat.le_of_ble_eq_true rfl) (fun r2 σ2 q2 => ?_)
    obtain ⟨rfl, n2, rfl, e2⟩ := q2
    replace e2 := rv_of hI ho e2
    replace e2 : n2 = 0 := e2.elim (fun z => absurd z.2 hv) (fun z => z.1)
    refine zz_br rfl (fun h3 => ?_) (fun h3 => absurd e2 h3)
    refine zz_gsn 1 rfl ?_
    refine zz_ri rfl (Or.inl rfl) ?_
    rw [show ∀ v, a_last G v = a_take G 3 v from fun _ => if_pos hlw]
    rw [a_take_n hv]
    exact ⟨rfl, hG, zz_F.rf⟩
  · obtain ⟨w, rfl⟩ : ∃ w : Nat, v = (w : Nat) := ⟨v.toNat, by omega⟩
    obtain ⟨z0, w1, w2⟩ := id hv
    obtain ⟨hone, ⟨q1, q2, q3, q4⟩, hV⟩ := ri_y hI z0
    obtain ⟨⟨r1, r2, r3⟩, r4, r5, r6, r7⟩ := id hV
    have hw1 : w ≤ G.I.k := by omega
    obtain ⟨hS, hq1, hq2⟩ := r4 w hw1
    refine zz_gsn 2 rfl ?_
    refine zz_cv (n := 2) rfl rfl (t_Mo_isVersion) (Nat.le_of_ble_eq_true rfl) (Nat.le_of_ble_eq_true rfl) (Nat.le_of_ble_eq_true rfl) (fun r2 σ2 q2 => ?_)
    obtain ⟨rfl, n2, rfl, e2⟩ := q2
    replace e2 := rv_of hI ho e2
    replace e2 : n2 = 1 := e2.elim (fun z => z.1) (fun z => absurd hv z.2)
    refine zz_br rfl (fun h3 => absurd h3 (by omega)) (fun h3 => ?_)
    refine zz_gsn 3 rfl ?_
    refine zz_br rfl (fun h7 => ?_) (fun h7 => absurd h7 (by omega))
    refine zz_gsn 1 rfl ?_
    refine zz_cv (n := 1) rfl rfl (t_Mo_isFull) (Nat.le_of_ble_eq_true rfl) (Nat.le_of_ble_eq_true rfl) (Nat.le_of_ble_eq_true rfl) (fun r11 σ11 q11 => ?_)
    obtain ⟨rfl, n11, rfl, e11⟩ := q11
    rw [r3] at e11
    refine zz_br rfl (fun h12 => ?_) (fun h12 => absurd (by first | exact h12 | exact Decidable.not_not.mp h12) (show n11 ≠ 0 by omega))
    refine zz_gsn 1 rfl ?_
    refine zz_jp rfl ?_
    refine zz_ri rfl (Or.inl rfl) ?_
    rw [show ∀ v, a_last G v = a_take G 3 v from fun _ => if_pos hlw]
    rw [a_take_f hv (Or.inr hk)]
    exact ⟨rfl, hG, zz_F.rf⟩
  · obtain ⟨w, rfl⟩ : ∃ w : Nat, v = (w : Nat) := ⟨v.toNat, by omega⟩
    obtain ⟨z0, w1, w2⟩ := id hv
    obtain ⟨hone, ⟨q1, q2, q3, q4⟩, hV⟩ := ri_y hI z0
    obtain ⟨⟨r1, r2, r3⟩, r4, r5, r6, r7⟩ := id hV
    have hw1 : w ≤ G.I.k := by omega
    obtain ⟨hS, hq1, hq2⟩ := r4 w hw1
    have hql := h_ql ho hw1
    rw [Int.toNat_natCast] at hq
    refine zz_gsn 2 rfl ?_
    refine zz_cv (n := 2) rfl rfl (t_Mo_isVersion) (Nat.le_of_ble_eq_true rfl) (Nat.le_of_ble_eq_true rfl) (Nat.le_of_ble_eq_true rfl) (fun r2 σ2 q2 => ?_)
    obtain ⟨rfl, n2, rfl, e2⟩ := q2
    replace e2 := rv_of hI ho e2
    replace e2 : n2 = 1 := e2.elim (fun z => z.1) (fun z => absurd hv z.2)
    refine zz_br rfl (fun h3 => absurd h3 (by omega)) (fun h3 => ?_)
    refine zz_gsn 3 rfl ?_
    refine zz_br rfl (fun h7 => ?_) (fun h7 => absurd h7 (by omega))
    refine zz_gsn 1 rfl ?_
    refine zz_cv (n := 1) rfl rfl (t_Mo_isFull) (Nat.le_of_ble_eq_true rfl) (Nat.le_of_ble_eq_true rfl) (Nat.le_of_ble_eq_true rfl) (fun r11 σ11 q11 => ?_)
    obtain ⟨rfl, n11, rfl, e11⟩ := q11
    rw [r3] at e11
    refine zz_br rfl (fun h12 => absurd (show n11 = 0 by omega) h12) (fun h12 => ?_)
    refine zz_gsn 3 rfl ?_
    refine zz_ald rfl (⟨by omega, by omega⟩) ?_
    rw [show σ.2 (m + 12) (Int.toNat (w : Int)) = (((IH G.I).Q w).1 : Nat) from hq1]
    refine zz_br rfl (fun h17 => absurd (show ((((IH G.I).Q w).1 : Nat) : Int) = 0 by omega) h17) (fun h17 => ?_)
    refine zz_gsn 1 rfl ?_
    refine zz_jp rfl ?_
    refine zz_ri rfl (Or.inl rfl) ?_
    rw [show ∀ v, a_last G v = a_take G 3 v from fun _ => if_pos hlw]
    rw [a_take_f hv (Or.inl hq)]
    exact ⟨rfl, hG, zz_F.rf⟩
  · obtain ⟨w, rfl⟩ : ∃ w : Nat, v = (w : Nat) := ⟨v.toNat, by omega⟩
    obtain ⟨z0, w1, w2⟩ := id hv
    obtain ⟨hone, ⟨q1, q2, q3, q4⟩, hV⟩ := ri_y hI z0
    obtain ⟨⟨r1, r2, r3⟩, r4, r5, r6, r7⟩ := id hV
    have hw1 : w ≤ G.I.k := by omega
    obtain ⟨hS, hq1, hq2⟩ := r4 w hw1
    have hql := h_ql ho hw1
    rw [Int.toNat_natCast] at hq
    have hCC := (i_ho ho z0).2
    have hCC : 2 ≤ G.I.C ∧ G.I.C ≤ 4 := ⟨hCC.1, hCC.2.1⟩
    refine zz_gsn 2 rfl ?_
    refine zz_cv (n := 2) rfl rfl (t_Mo_isVersion) (Nat.le_of_ble_eq_true rfl) (Nat.le_of_ble_eq_true rfl) (Nat.le_of_ble_eq_true rfl) (fun r2 σ2 q2 => ?_)
    obtain ⟨rfl, n2, rfl, e2⟩ := q2
    replace e2 := rv_of hI ho e2
    replace e2 : n2 = 1 := e2.elim (fun z => z.1) (fun z => absurd hv z.2)
    refine zz_br rfl (fun h3 => absurd h3 (by omega)) (fun h3 => ?_)
    refine zz_gsn 3 rfl ?_
    refine zz_br rfl (fun h7 => ?_) (fun h7 => absurd h7 (by omega))
    refine zz_gsn 1 rfl ?_
    refine zz_cv (n := 1) rfl rfl (t_Mo_isFull) (Nat.le_of_ble_eq_true rfl) (Nat.le_of_ble_eq_true rfl) (Nat.le_of_ble_eq_true rfl) (fun r11 σ11 q11 => ?_)
    obtain ⟨rfl, n11, rfl, e11⟩ := q11
    rw [r3] at e11
    refine zz_br rfl (fun h12 => absurd (show n11 = 0 by omega) h12) (fun h12 => ?_)
    refine zz_gsn 3 rfl ?_
    refine zz_ald rfl (⟨by omega, by omega⟩) ?_
    rw [show σ.2 (m + 12) (Int.toNat (w : Int)) = (((IH G.I).Q w).1 : Nat) from hq1]
    refine zz_br rfl (fun h17 => ?_) (fun h17 => absurd (by first | exact h17 | exact Decidable.not_not.mp h17) (show ((((IH G.I).Q w).1 : Nat) : Int) ≠ 0 by omega))
    refine zz_gsn 4 rfl ?_
    refine zz_cv (n := 4) rfl rfl (t_Mo_makes (v := w) (kind := 3) (x := 0) hV (by omega) (h_inv ho.1) hCC (aq_st hw1 hq (Or.inr ⟨rfl, hlw⟩))) (Nat.le_of_ble_eq_true rfl) (Nat.le_of_ble_eq_true rfl) (Nat.le_of_ble_eq_true rfl) (fun r24 σ24 q24 => ?_)
    obtain ⟨rfl, p24, f24⟩ := q24
    refine zz_ri rfl (Or.inl rfl) ?_
    rw [show ∀ v, a_last G v = a_take G 3 v from fun _ => if_pos hlw]
    rw [a_take_y hv (fun z => z.elim hq hk), Int.toNat_natCast]
    exact ⟨rfl, hG.act hone ⟨q1, q2, q3, q4⟩ p24 f24, f24.F⟩
