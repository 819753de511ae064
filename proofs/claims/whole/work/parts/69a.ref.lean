/-! the reference: acts -/
def A_rf (m : Nat) : Nat → Prop := fun a => m ≤ a ∧ a ≤ m + 25
theorem Fm.F {m : Nat} {σ σ' : zz_M} (h : Fm m σ σ') : zz_F (A_rf m) σ σ' := fun a ha => ⟨fun f => h.1 f a (fun z => ha (by unfold A_rf; omega)), fun i => by rw [h.2 a (fun z => ha (by unfold A_rf; omega))]⟩
theorem RMg.e {σ σ' : zz_M} {m i : Nat} {I : zz_I} (h : RMg σ m i I) (e : ∀ i, σ'.2 (m + 25) i = σ.2 (m + 25) i) : RMg σ' m i I := by
  unfold RMg
  simp only [e]
  exact h
/-- behind a change of the deeds alone -/
theorem RG.h {σ σ' : zz_M} {m : Nat} {G : zz_J} {I' : zz_I} (h : RG σ m G) (hI : RI σ' m I') (h0 : σ'.2 (m + 10) 0 = 0) (f1 : ∀ f, f = 1225 ∨ f = 1256 ∨ f = 1232 ∨ f = 1233 → σ'.1 f m = σ.1 f m) (f2 : ∀ a i, a = m + 13 ∨ a = m + 24 ∨ a = m + 25 → σ'.2 a i = σ.2 a i) : RG σ' m (I', G.2) := by
  obtain ⟨-, hT, hO, hF, hM, -⟩ := h
  exact ⟨hI, ⟨(f1 _ (by omega)).trans hT.1, fun i hi => (f2 _ _ (by omega)).trans (hT.2 i hi)⟩, ⟨(f1 _ (by omega)).trans hO.1, fun i hi => (f2 _ _ (by omega)).trans (hO.2 i hi)⟩, ⟨(f1 _ (by omega)).trans hF.1, (f1 _ (by omega)).trans hF.2⟩, fun i hi => (hM i hi).e (fun j => f2 _ _ (by omega)), h0⟩
theorem RG.act {σ σ' : zz_M} {m w : Nat} {kind x : Int} {G : zz_J} (h : RG σ m G) (h1 : G.I.ho = 1) (hq : σ.1 1211 m = G.I.law ∧ σ.1 1212 m = G.I.C ∧ σ.1 1213 m = ((G.I.told + 1 : Nat) : Int) ∧ σ.1 1214 m = (G.I.told : Nat)) (hV : RV σ' m G.I.law G.I.C (G.I.k + 1) (h_one G.I.law G.I.C G.I.k (kind, w, x) (IH G.I)) (zu G.I.D G.I.k (kind, w, h_x (kind, w, x) (IH G.I)))) (hF : Fm m σ σ') : RG σ' m (i_act G.I kind w x, G.2) := by
  refine h.h (Or.inr ⟨h1, ⟨?_, ?_, ?_, ?_⟩, ?_⟩) hV.2.2.2.2 (fun f hf => hF.1 f m (by omega)) (fun a i ha => by rw [hF.2 a (by omega)])
  · rw [hF.1 _ _ (by omega)]; exact hq.1
  · rw [hF.1 _ _ (by omega)]; exact hq.2.1
  · rw [hF.1 _ _ (by omega)]; exact hq.2.2.1
  · rw [hF.1 _ _ (by omega)]; exact hq.2.2.2
  · rw [IH_act]
    exact hV
theorem a_put_n {G : zz_J} {kind v x : Int} (h : ¬ (vz G.I.ho G.I.k v ∧ 0 ≤ x ∧ x ≤ 99)) : a_put G kind v x = (-2, G) := by
  unfold a_put
  rw [ap_n h]
theorem a_put_f {G : zz_J} {kind v x : Int} (h : vz G.I.ho G.I.k v ∧ 0 ≤ x ∧ x ≤ 99) (hk : G.I.k = 60) : a_put G kind v x = (-5, G) := by
  unfold a_put
  rw [ap_f h hk]
theorem a_put_y {G : zz_J} {kind v x : Int} (h : vz G.I.ho G.I.k v ∧ 0 ≤ x ∧ x ≤ 99) (hk : G.I.k ≠ 60) : a_put G kind v x = (((G.I.k + 1 : Nat) : Int), (i_act G.I kind v.toNat x, G.2)) := by
  unfold a_put
  rw [ap_y h hk]
theorem a_take_n {G : zz_J} {kind v : Int} (h : ¬ vz G.I.ho G.I.k v) : a_take G kind v = (-2, G) := by
  unfold a_take
  rw [aq_n h]
theorem a_take_f {G : zz_J} {kind v : Int} (h : vz G.I.ho G.I.k v) (hk : ((IH G.I).Q v.toNat).1 = 0 ∨ G.I.k = 60) : a_take G kind v = (-5, G) := by
  unfold a_take
  rw [aq_f h hk]
theorem a_take_y {G : zz_J} {kind v : Int} (h : vz G.I.ho G.I.k v) (hk : ¬ (((IH G.I).Q v.toNat).1 = 0 ∨ G.I.k = 60)) : a_take G kind v = (zq_num kind 0 ((IH G.I).Q v.toNat), (i_act G.I kind v.toNat 0, G.2)) := by
  unfold a_take
  rw [aq_y h hk]
theorem t_Mo_put {X : zz_X} {σ : zz_M} {m : Nat} {G : zz_J} {v x : Int} (hG : RG σ m G) (ok : g_ok G) : zz_T X 7 p_Mo_put [zP 12 0 0 m, zI v, zI x] σ (fun r σ' => r = some (zI (a_put G 0 v x).1) ∧ RG σ' m (a_put G 0 v x).2 ∧ zz_F (A_rf m) σ σ') := by
  refine zz_mk k_Mo_put o_Mo_put rfl rfl (Nat.le_of_ble_eq_true rfl) ?_
  show zz_G X 7 p_Mo_put 0 [zP 12 0 0 m, zI v, zI x] [] σ _
  obtain ⟨hI, hT, hO, hF, hM, h10⟩ := id hG
  obtain ⟨⟨ho, hfx⟩, okt, oko, okm⟩ := id ok
  have hk6 := ho.1.2.2.1
  rcases zz_c4 (vz G.I.ho G.I.k v) (0 ≤ x ∧ x ≤ 99) (G.I.k = 60) with hv | ⟨hv, hx⟩ | ⟨hv, hx, hk⟩ | ⟨hv, hx, hk⟩
  · refine zz_gsn 2 rfl ?_
    refine zz_cv (n := 2) rfl rfl (t_Mo_isVersion) (Nat.le_of_ble_eq_true rfl) (Nat.le_of_ble_eq_true rfl) (Nat.le_of_ble_eq_true rfl) (fun r2 σ2 q2 => ?_)
    obtain ⟨rfl, n2, rfl, e2⟩ := q2
    replace e2 := rv_of hI ho e2
    replace e2 : n2 = 0 := e2.elim (fun z => absurd z.2 hv) (fun z => z.1)
    refine zz_br rfl (fun h3 => ?_) (fun h3 => absurd e2 h3)
    refine zz_gsn 1 rfl ?_
    refine zz_ri rfl (Or.inl rfl) ?_
    rw [a_put_n (fun z => hv z.1)]
    exact ⟨rfl, hG, zz_F.rf⟩
  · refine zz_gsn 2 rfl ?_
    refine zz_cv (n := 2) rfl rfl (t_Mo_isVersion) (Nat.le_of_ble_eq_true rfl) (Nat.le_of_ble_eq_true rfl) (Nat.le_of_ble_eq_true rfl) (fun r2 σ2 q2 => ?_)
    obtain ⟨rfl, n2, rfl, e2⟩ := q2
    replace e2 := rv_of hI ho e2
    replace e2 : n2 = 1 := e2.elim (fun z => z.1) (fun z => absurd hv z.2)
    refine zz_br rfl (fun h3 => absurd h3 (by omega)) (fun h3 => ?_)
    refine zz_gsn 4 rfl ?_
    refine zz_cs (n := 3) rfl rfl (t_Mo_in) (Nat.le_of_ble_eq_true rfl) (Nat.le_of_ble_eq_true rfl) (Nat.le_of_ble_eq_true rfl) (fun r8 σ8 q8 => ?_)
    obtain ⟨rfl, n8, rfl, e8⟩ := q8
    refine zz_br rfl (fun h9 => absurd ⟨by omega, by omega⟩ hx) (fun h9 => ?_)
    refine zz_gsn 1 rfl ?_
    refine zz_ri rfl (Or.inl rfl) ?_
    rw [a_put_n (fun z => hx z.2)]
    exact ⟨rfl, hG, zz_F.rf⟩
  · obtain ⟨w, rfl⟩ : ∃ w : Nat, v = (w : Nat) := ⟨v.toNat, by omega⟩
    obtain ⟨z0, w1, w2⟩ := id hv
    obtain ⟨hone, ⟨q1, q2, q3, q4⟩, hV⟩ := ri_y hI z0
    obtain ⟨⟨r1, r2, r3⟩, r4, r5, r6, r7⟩ := id hV
    have hw1 : w ≤ G.I.k := by omega
    obtain ⟨hS, hq1, hq2⟩ := r4 w hw1
    refine zz_gsn 2 rfl ?_
    refine zz_cv (n := 2) rfl rfl (t_Mo_isVersion) (Nat.le_of_ble_eq_true rfl) (Nat.le_of_ble_eq_true rfl) (Nat.le_of_ble_eq_true rfl) (fun r2 σ2 q2 => ?_)
    obtain ⟨rfl, n2, rfl, e2⟩ := q2
    replace e2 := rv_of hI ho e2
    replace e2 : n2 = 1 := e2.elim (fun z => z.1) (fun z => absurd hv z.2)
    refine zz_br rfl (fun h3 => absurd h3 (by omega)) (fun h3 => ?_)
    refine zz_gsn 4 rfl ?_
    refine zz_cs (n := 3) rfl rfl (t_Mo_in) (Nat.le_of_ble_eq_true rfl) (Nat.le_of_ble_eq_true rfl) (Nat.le_of_ble_eq_true rfl) (fun r8 σ8 q8 => ?_)
    obtain ⟨rfl, n8, rfl, e8⟩ := q8
    refine zz_br rfl (fun h9 => ?_) (fun h9 => absurd (show n8 = 1 by omega) (by omega))
    refine zz_gsn 1 rfl ?_
    refine zz_cv (n := 1) rfl rfl (t_Mo_isFull) (Nat.le_of_ble_eq_true rfl) (Nat.le_of_ble_eq_true rfl) (Nat.le_of_ble_eq_true rfl) (fun r13 σ13 q13 => ?_)
    obtain ⟨rfl, n13, rfl, e13⟩ := q13
    rw [r3] at e13
    refine zz_br rfl (fun h14 => absurd h14 (by omega)) (fun h14 => ?_)
    refine zz_gsn 1 rfl ?_
    refine zz_ri rfl (Or.inl rfl) ?_
    rw [a_put_f ⟨hv, hx⟩ hk]
    exact ⟨rfl, hG, zz_F.rf⟩
  · obtain ⟨w, rfl⟩ : ∃ w : Nat, v = (w : Nat) := ⟨v.toNat, by omega⟩
    obtain ⟨z0, w1, w2⟩ := id hv
    obtain ⟨hone, ⟨q1, q2, q3, q4⟩, hV⟩ := ri_y hI z0
    obtain ⟨⟨r1, r2, r3⟩, r4, r5, r6, r7⟩ := id hV
    have hw1 : w ≤ G.I.k := by omega
    obtain ⟨hS, hq1, hq2⟩ := r4 w hw1
    have hCC := (i_ho ho z0).2
    have hCC : 2 ≤ G.I.C ∧ G.I.C ≤ 4 := ⟨hCC.1, hCC.2.1⟩
    refine zz_gsn 2 rfl ?_
    refine zz_cv (n := 2) rfl rfl (t_Mo_isVersion) (Nat.le_of_ble_eq_true rfl) (Nat.le_of_ble_eq_true rfl) (Nat.le_of_ble_eq_true rfl) (fun r2 σ2 q2 => ?_)
    obtain ⟨rfl, n2, rfl, e2⟩ := q2
    replace e2 := rv_of hI ho e2
    replace e2 : n2 = 1 := e2.elim (fun z => z.1) (fun z => absurd hv z.2)
    refine zz_br rfl (fun h3 => absurd h3 (by omega)) (fun h3 => ?_)
    refine zz_gsn 4 rfl ?_
    refine zz_cs (n := 3) rfl rfl (t_Mo_in) (Nat.le_of_ble_eq_true rfl) (Nat.le_of_ble_eq_true rfl) (Nat.le_of_ble_eq_true rfl) (fun r8 σ8 q8 => ?_)
    obtain ⟨rfl, n8, rfl, e8⟩ := q8
    refine zz_br rfl (fun h9 => ?_) (fun h9 => absurd (show n8 = 1 by omega) (by omega))
    refine zz_gsn 1 rfl ?_
    refine zz_cv (n := 1) rfl rfl (t_Mo_isFull) (Nat.le_of_ble_eq_true rfl) (Nat.le_of_ble_eq_true rfl) (Nat.le_of_ble_eq_true rfl) (fun r13 σ13 q13 => ?_)
    obtain ⟨rfl, n13, rfl, e13⟩ := q13
    rw [r3] at e13
    refine zz_br rfl (fun h14 => ?_) (fun h14 => absurd (show n13 = 0 by omega) h14)
    refine zz_gsn 4 rfl ?_
    refine zz_cv (n := 4) rfl rfl (t_Mo_makes (v := w) (kind := 0) (x := x) hV (by omega) (h_inv ho.1) hCC (ap_st hw1 hx (Or.inl rfl))) (Nat.le_of_ble_eq_true rfl) (Nat.le_of_ble_eq_true rfl) (Nat.le_of_ble_eq_true rfl) (fun r21 σ21 q21 => ?_)
    obtain ⟨rfl, p21, f21⟩ := q21
    refine zz_gsn 5 rfl ?_
    refine zz_ri rfl (Or.inl rfl) ?_
    rw [a_put_y ⟨hv, hx⟩ hk, Int.toNat_natCast]
    refine ⟨congrArg (fun z => some (zI z)) ?_, hG.act hone ⟨q1, q2, q3, q4⟩ p21 f21, f21.F⟩
    rw [p21.1.2.2]
    exact zw_p (n := G.I.k + 1 + 1) (Nat.succ_pos _) (by omega)
