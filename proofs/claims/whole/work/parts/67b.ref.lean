/-! the reference: what a version has -/
theorem t_Mo_size {X : zz_X} {σ : zz_M} {m : Nat} {G : zz_J} {v : Int} (hG : RG σ m G) (ok : g_ok G) : zz_T X 3 p_Mo_size [zP 12 0 0 m, zI v] σ (fun r σ' => σ = σ' ∧ r = some (zI (a_size G v))) := by
  refine zz_mk k_Mo_size o_Mo_size rfl rfl (Nat.le_of_ble_eq_true rfl) ?_
  show zz_G X 3 p_Mo_size 0 [zP 12 0 0 m, zI v] [] σ _
  obtain ⟨hI, hT, hO, hF, hM, h10⟩ := id hG
  obtain ⟨⟨ho, hfx⟩, okt, oko, okm⟩ := id ok
  have hk6 := ho.1.2.2.1
  rcases Classical.em (vz G.I.ho G.I.k v) with hv | hv
  · obtain ⟨w, rfl⟩ : ∃ w : Nat, v = (w : Nat) := ⟨v.toNat, by omega⟩
    obtain ⟨z0, w1, w2⟩ := id hv
    obtain ⟨hone, ⟨q1, q2, q3, q4⟩, hV⟩ := ri_y hI z0
    obtain ⟨⟨r1, r2, r3⟩, r4, r5, r6, r7⟩ := id hV
    have hw1 : w ≤ G.I.k := by omega
    obtain ⟨hS, hq1, hq2⟩ := r4 w hw1
    refine zz_gsn 2 rfl ?_
    refine zz_cv (n := 2) rfl rfl (t_Mo_isVersion) (Nat.le_of_ble_eq_true rfl) (Nat.le_of_ble_eq_true rfl) (Nat.le_of_ble_eq_true rfl) (fun r2 σ2 q2 => ?_)
    obtain ⟨rfl, n2, rfl, e2⟩ := q2
    replace e2 := rv_of hI ho e2
    replace e2 : n2 = 1 := e2.elim (fun z => z.1) (fun z => absurd hv z.2)
    refine zz_br rfl (fun h3 => absurd h3 (by omega)) (fun h3 => ?_)
    refine zz_gsn 3 rfl ?_
    refine zz_ald rfl (⟨by omega, by omega⟩) ?_
    refine zz_jp rfl ?_
    refine zz_ri rfl (Or.inl rfl) ?_
    exact ⟨rfl, congrArg (fun z => some (zI z)) ((hq1).trans (if_pos hv).symm)⟩
  · refine zz_gsn 2 rfl ?_
    refine zz_cv (n := 2) rfl rfl (t_Mo_isVersion) (Nat.le_of_ble_eq_true rfl) (Nat.le_of_ble_eq_true rfl) (Nat.le_of_ble_eq_true rfl) (fun r2 σ2 q2 => ?_)
    obtain ⟨rfl, n2, rfl, e2⟩ := q2
    replace e2 := rv_of hI ho e2
    replace e2 : n2 = 0 := e2.elim (fun z => absurd z.2 hv) (fun z => z.1)
    refine zz_br rfl (fun h3 => ?_) (fun h3 => absurd e2 h3)
    refine zz_gsn 1 rfl ?_
    refine zz_ri rfl (Or.inl rfl) ?_
    exact ⟨rfl, congrArg (fun z => some (zI z)) (if_neg hv).symm⟩
theorem t_Mo_at {X : zz_X} {σ : zz_M} {m : Nat} {G : zz_J} {v i : Int} (hG : RG σ m G) (ok : g_ok G) : zz_T X 3 p_Mo_at [zP 12 0 0 m, zI v, zI i] σ (fun r σ' => σ = σ' ∧ r = some (zI (a_at G v i))) := by
  refine zz_mk k_Mo_at o_Mo_at rfl rfl (Nat.le_of_ble_eq_true rfl) ?_
  show zz_G X 3 p_Mo_at 0 [zP 12 0 0 m, zI v, zI i] [] σ _
  obtain ⟨hI, hT, hO, hF, hM, h10⟩ := id hG
  obtain ⟨⟨ho, hfx⟩, okt, oko, okm⟩ := id ok
  have hk6 := ho.1.2.2.1
  rcases Classical.em (vz G.I.ho G.I.k v) with hv | hv
  · obtain ⟨w, rfl⟩ : ∃ w : Nat, v = (w : Nat) := ⟨v.toNat, by omega⟩
    obtain ⟨z0, w1, w2⟩ := id hv
    obtain ⟨hone, ⟨q1, q2, q3, q4⟩, hV⟩ := ri_y hI z0
    obtain ⟨⟨r1, r2, r3⟩, r4, r5, r6, r7⟩ := id hV
    have hw1 : w ≤ G.I.k := by omega
    obtain ⟨hS, hq1, hq2⟩ := r4 w hw1
    have hl := h_ql ho hw1
    refine zz_gsn 2 rfl ?_
    refine zz_cv (n := 2) rfl rfl (t_Mo_isVersion) (Nat.le_of_ble_eq_true rfl) (Nat.le_of_ble_eq_true rfl) (Nat.le_of_ble_eq_true rfl) (fun r2 σ2 q2 => ?_)
    obtain ⟨rfl, n2, rfl, e2⟩ := q2
    replace e2 := rv_of hI ho e2
    replace e2 : n2 = 1 := e2.elim (fun z => z.1) (fun z => absurd hv z.2)
    refine zz_br rfl (fun h3 => absurd h3 (by omega)) (fun h3 => ?_)
    refine zz_gsn 1 rfl ?_
    refine zz_br rfl (fun h5 => ?_) (fun h5 => ?_)
    · refine zz_gsn 4 rfl ?_
      refine zz_ald rfl (⟨by omega, by omega⟩) ?_
      rw [show σ.2 (m + 12) (Int.toNat (w : Int)) = (((IH G.I).Q w).1 : Nat) from hq1]
      refine zz_br rfl (fun h13 => ?_) (fun h13 => ?_)
      · refine zz_gsn 1 rfl ?_
        refine zz_ri rfl (Or.inl rfl) ?_
        have eq : q_at ((IH G.I).Q w) i = -1 := if_neg (fun z => absurd z.2 (by omega))
        exact ⟨rfl, congrArg (fun z => some (zI z)) (eq.symm.trans (if_pos ⟨hv, by omega⟩).symm)⟩
      · obtain ⟨i, rfl⟩ : ∃ i' : Nat, i = (i' : Nat) := ⟨i.toNat, by omega⟩
        have hi13 : i < ((IH G.I).Q w).1 := by omega
        refine zz_gsn 3 rfl ?_
        refine zz_cv (n := 3) rfl rfl (t_Mo_asked (v := w) (k := i) (by omega) (by omega)) (Nat.le_of_ble_eq_true rfl) (Nat.le_of_ble_eq_true rfl) (Nat.le_of_ble_eq_true rfl) (fun r17 σ17 q17 => ?_)
        obtain ⟨rfl, rfl⟩ := q17
        refine zz_jp rfl ?_
        refine zz_ri rfl (Or.inl rfl) ?_
        have eq : q_at ((IH G.I).Q w) (i : Nat) = ((IH G.I).Q w).2 i := if_pos ⟨by omega, by omega⟩
        exact ⟨rfl, congrArg (fun z => some (zI z)) (((hq2 i hi13).trans eq.symm).trans (if_pos ⟨hv, by omega⟩).symm)⟩
    · refine zz_gsn 1 rfl ?_
      refine zz_ri rfl (Or.inl rfl) ?_
      exact ⟨rfl, congrArg (fun z => some (zI z)) (if_neg (fun z => absurd z.2 (by omega))).symm⟩
  · refine zz_gsn 2 rfl ?_
    refine zz_cv (n := 2) rfl rfl (t_Mo_isVersion) (Nat.le_of_ble_eq_true rfl) (Nat.le_of_ble_eq_true rfl) (Nat.le_of_ble_eq_true rfl) (fun r2 σ2 q2 => ?_)
    obtain ⟨rfl, n2, rfl, e2⟩ := q2
    replace e2 := rv_of hI ho e2
    replace e2 : n2 = 0 := e2.elim (fun z => absurd z.2 hv) (fun z => z.1)
    refine zz_br rfl (fun h3 => ?_) (fun h3 => absurd e2 h3)
    refine zz_gsn 1 rfl ?_
    refine zz_ri rfl (Or.inl rfl) ?_
    exact ⟨rfl, congrArg (fun z => some (zI z)) (if_neg (fun z => hv z.1)).symm⟩
theorem t_Mo_first {X : zz_X} {σ : zz_M} {m : Nat} {G : zz_J} {v : Int} (hG : RG σ m G) (ok : g_ok G) : zz_T X 4 p_Mo_first [zP 12 0 0 m, zI v] σ (fun r σ' => σ = σ' ∧ r = some (zI (a_first G v))) := by
  refine zz_mk k_Mo_first o_Mo_first rfl rfl (Nat.le_of_ble_eq_true rfl) ?_
  show zz_G X 4 p_Mo_first 0 [zP 12 0 0 m, zI v] [] σ _
  refine zz_gsn 3 rfl ?_
  refine zz_cv (n := 3) rfl rfl (t_Mo_at (v := v) (i := 0) hG ok) (Nat.le_of_ble_eq_true rfl) (Nat.le_of_ble_eq_true rfl) (Nat.le_of_ble_eq_true rfl) (fun r3 σ3 q3 => ?_)
  obtain ⟨rfl, rfl⟩ := q3
  refine zz_ri rfl (Or.inl rfl) ?_
  have e : a_at G v 0 = a_first G v := by
    unfold a_at a_first
    by_cases z : vz G.I.ho G.I.k v
    · rw [if_pos z, if_pos ⟨z, Int.le_refl 0⟩]
    · rw [if_neg z, if_neg (fun y => z y.1)]
  exact ⟨rfl, congrArg (fun z => some (zI z)) e⟩
theorem t_Mo_tail {X : zz_X} {σ : zz_M} {m : Nat} {G : zz_J} {v : Int} (hG : RG σ m G) (ok : g_ok G) : zz_T X 3 p_Mo_tail [zP 12 0 0 m, zI v] σ (fun r σ' => σ = σ' ∧ r = some (zI (a_tail G v))) := by
  refine zz_mk k_Mo_tail o_Mo_tail rfl rfl (Nat.le_of_ble_eq_true rfl) ?_
  show zz_G X 3 p_Mo_tail 0 [zP 12 0 0 m, zI v] [] σ _
  obtain ⟨hI, hT, hO, hF, hM, h10⟩ := id hG
  obtain ⟨⟨ho, hfx⟩, okt, oko, okm⟩ := id ok
  have hk6 := ho.1.2.2.1
  rcases Classical.em (vz G.I.ho G.I.k v) with hv | hv
  · obtain ⟨w, rfl⟩ : ∃ w : Nat, v = (w : Nat) := ⟨v.toNat, by omega⟩
    obtain ⟨z0, w1, w2⟩ := id hv
    obtain ⟨hone, ⟨q1, q2, q3, q4⟩, hV⟩ := ri_y hI z0
    obtain ⟨⟨r1, r2, r3⟩, r4, r5, r6, r7⟩ := id hV
    have hw1 : w ≤ G.I.k := by omega
    obtain ⟨hS, hq1, hq2⟩ := r4 w hw1
    have hl := h_ql ho hw1
    refine zz_gsn 2 rfl ?_
    refine zz_cv (n := 2) rfl rfl (t_Mo_isVersion) (Nat.le_of_ble_eq_true rfl) (Nat.le_of_ble_eq_true rfl) (Nat.le_of_ble_eq_true rfl) (fun r2 σ2 q2 => ?_)
    obtain ⟨rfl, n2, rfl, e2⟩ := q2
    replace e2 := rv_of hI ho e2
    replace e2 : n2 = 1 := e2.elim (fun z => z.1) (fun z => absurd hv z.2)
    refine zz_br rfl (fun h3 => ?_) (fun h3 => absurd (e2.symm.trans (by first | exact h3 | exact Decidable.not_not.mp h3)) (by decide))
    refine zz_gsn 3 rfl ?_
    refine zz_ald rfl (⟨by omega, by omega⟩) ?_
    rw [show σ.2 (m + 12) (Int.toNat (w : Int)) = (((IH G.I).Q w).1 : Nat) from hq1]
    refine zz_br rfl (fun h10 => ?_) (fun h10 => ?_)
    · refine zz_gsn 5 rfl ?_
      refine zz_ald rfl (⟨by omega, by omega⟩) ?_
      rw [show σ.2 (m + 12) (Int.toNat (w : Int)) = (((IH G.I).Q w).1 : Nat) from hq1]
      refine zz_gsn 2 rfl ?_
      rw [zw_p (by omega) (by omega)]
      refine zz_cv (n := 3) rfl rfl (t_Mo_asked (v := w) (k := ((IH G.I).Q w).1 - 1) (by omega) (by omega)) (Nat.le_of_ble_eq_true rfl) (Nat.le_of_ble_eq_true rfl) (Nat.le_of_ble_eq_true rfl) (fun r21 σ21 q21 => ?_)
      obtain ⟨rfl, rfl⟩ := q21
      refine zz_ri rfl (Or.inl rfl) ?_
      have en : ((((IH G.I).Q w).1 : Nat) : Int) - 1 = ((((IH G.I).Q w).1 - 1 : Nat) : Int) := by omega
      have eq : q_at ((IH G.I).Q w) ((((IH G.I).Q w).1 : Nat) - 1) = ((IH G.I).Q w).2 (((IH G.I).Q w).1 - 1) := by rw [en]; exact if_pos ⟨by omega, by omega⟩
      exact ⟨rfl, congrArg (fun z => some (zI z)) (((hq2 _ (by omega)).trans eq.symm).trans (if_pos hv).symm)⟩
    · refine zz_gsn 1 rfl ?_
      refine zz_jp rfl ?_
      refine zz_ri rfl (Or.inl rfl) ?_
      have eq : q_at ((IH G.I).Q w) ((((IH G.I).Q w).1 : Nat) - 1) = -1 := if_neg (fun z => absurd z.1 (by omega))
      exact ⟨rfl, congrArg (fun z => some (zI z)) (eq.symm.trans (if_pos hv).symm)⟩
  · refine zz_gsn 2 rfl ?_
    refine zz_cv (n := 2) rfl rfl (t_Mo_isVersion) (Nat.le_of_ble_eq_true rfl) (Nat.le_of_ble_eq_true rfl) (Nat.le_of_ble_eq_true rfl) (fun r2 σ2 q2 => ?_)
    obtain ⟨rfl, n2, rfl, e2⟩ := q2
    replace e2 := rv_of hI ho e2
    replace e2 : n2 = 0 := e2.elim (fun z => absurd z.2 hv) (fun z => z.1)
    refine zz_br rfl (fun h3 => absurd e2 h3) (fun h3 => ?_)
    refine zz_gsn 1 rfl ?_
    refine zz_ri rfl (Or.inl rfl) ?_
    exact ⟨rfl, congrArg (fun z => some (zI z)) (if_neg hv).symm⟩
theorem t_Mo_version {X : zz_X} {σ : zz_M} {m : Nat} {G : zz_J} {v x : Int} (hG : RG σ m G) (ok : g_ok G) : zz_T X 3 p_Mo_version [zP 12 0 0 m, zI v, zI x] σ (fun r σ' => σ = σ' ∧ r = some (zI (a_version G v x))) := by
  refine zz_mk k_Mo_version o_Mo_version rfl rfl (Nat.le_of_ble_eq_true rfl) ?_
  show zz_G X 3 p_Mo_version 0 [zP 12 0 0 m, zI v, zI x] [] σ _
  obtain ⟨hI, hT, hO, hF, hM, h10⟩ := id hG
  obtain ⟨⟨ho, hfx⟩, okt, oko, okm⟩ := id ok
  have hk6 := ho.1.2.2.1
  rcases Classical.em (vz G.I.ho G.I.k v ∧ 0 ≤ x ∧ x ≤ 2) with hc | hc
  · obtain ⟨hv, hw0, hw2⟩ := id hc
    obtain ⟨w, rfl⟩ : ∃ w : Nat, v = (w : Nat) := ⟨v.toNat, by omega⟩
    obtain ⟨z0, w1, w2⟩ := id hv
    obtain ⟨hone, ⟨q1, q2, q3, q4⟩, hV⟩ := ri_y hI z0
    obtain ⟨⟨r1, r2, r3⟩, r4, r5, r6, r7⟩ := id hV
    have hw1 : w ≤ G.I.k := by omega
    obtain ⟨hS, hq1, hq2⟩ := r4 w hw1
    refine zz_gsn 2 rfl ?_
    refine zz_cv (n := 2) rfl rfl (t_Mo_isVersion) (Nat.le_of_ble_eq_true rfl) (Nat.le_of_ble_eq_true rfl) (Nat.le_of_ble_eq_true rfl) (fun r2 σ2 q2 => ?_)
    obtain ⟨rfl, n2, rfl, e2⟩ := q2
    replace e2 := rv_of hI ho e2
    replace e2 : n2 = 1 := e2.elim (fun z => z.1) (fun z => absurd hv z.2)
    refine zz_br rfl (fun h3 => absurd h3 (by omega)) (fun h3 => ?_)
    refine zz_gsn 4 rfl ?_
    refine zz_cs (n := 3) rfl rfl (t_Mo_in) (Nat.le_of_ble_eq_true rfl) (Nat.le_of_ble_eq_true rfl) (Nat.le_of_ble_eq_true rfl) (fun r8 σ8 q8 => ?_)
    obtain ⟨rfl, n8, rfl, e8⟩ := q8
    refine zz_br rfl (fun h9 => ?_) (fun h9 => absurd h9 (by omega))
    refine zz_gsn 1 rfl ?_
    refine zz_br rfl (fun h13 => ?_) (fun h13 => ?_)
    · refine zz_gsn 1 rfl ?_
      refine zz_br rfl (fun h17 => ?_) (fun h17 => ?_)
      · refine zz_gsn 2 rfl ?_
        refine zz_br rfl (fun h25 => ?_) (fun h25 => ?_)
        · refine zz_gsn 3 rfl ?_
          refine zz_ald rfl (⟨by omega, by omega⟩) ?_
          refine zz_ri rfl (Or.inl rfl) ?_
          have ez : (((w : Nat) : Int) - 1).toNat = w - 1 := by omega
          obtain ⟨-, b2, b1, b3⟩ := r5 (w - 1) (by omega)
          rw [show w - 1 + 1 = w by omega] at b1 b2 b3
          exact ⟨rfl, congrArg (fun z => some (zI z)) (b3.trans (by rw [a_version_c hc (by omega) h17 h25, ez]))⟩
        · refine zz_gsn 3 rfl ?_
          refine zz_ald rfl (⟨by omega, by omega⟩) ?_
          refine zz_jp rfl ?_
          refine zz_ri rfl (Or.inl rfl) ?_
          have ez : (((w : Nat) : Int) - 1).toNat = w - 1 := by omega
          obtain ⟨-, b2, b1, b3⟩ := r5 (w - 1) (by omega)
          rw [show w - 1 + 1 = w by omega] at b1 b2 b3
          exact ⟨rfl, congrArg (fun z => some (zI z)) (b1.trans (by rw [a_version_b hc (by omega) h17 (by omega), ez]))⟩
      · refine zz_gsn 3 rfl ?_
        refine zz_ald rfl (⟨by omega, by omega⟩) ?_
        refine zz_jp rfl ?_
        refine zz_ri rfl (Or.inl rfl) ?_
        have ez : (((w : Nat) : Int) - 1).toNat = w - 1 := by omega
        obtain ⟨-, b2, b1, b3⟩ := r5 (w - 1) (by omega)
        rw [show w - 1 + 1 = w by omega] at b1 b2 b3
        exact ⟨rfl, congrArg (fun z => some (zI z)) (b2.trans (by rw [a_version_a hc (by omega) (by omega), ez]))⟩
    · refine zz_gsn 1 rfl ?_
      refine zz_ri rfl (Or.inl rfl) ?_
      exact ⟨rfl, congrArg (fun z => some (zI z)) (a_version_0 hc (by omega)).symm⟩
  · refine zz_gsn 2 rfl ?_
    refine zz_cv (n := 2) rfl rfl (t_Mo_isVersion) (Nat.le_of_ble_eq_true rfl) (Nat.le_of_ble_eq_true rfl) (Nat.le_of_ble_eq_true rfl) (fun r2 σ2 q2 => ?_)
    obtain ⟨rfl, n2, rfl, e2⟩ := q2
    replace e2 := rv_of hI ho e2
    refine zz_br rfl (fun h3 => ?_) (fun h3 => ?_)
    · refine zz_gsn 1 rfl ?_
      refine zz_ri rfl (Or.inl rfl) ?_
      exact ⟨rfl, congrArg (fun z => some (zI z)) (a_version_n hc).symm⟩
    · refine zz_gsn 4 rfl ?_
      refine zz_cs (n := 3) rfl rfl (t_Mo_in) (Nat.le_of_ble_eq_true rfl) (Nat.le_of_ble_eq_true rfl) (Nat.le_of_ble_eq_true rfl) (fun r8 σ8 q8 => ?_)
      obtain ⟨rfl, n8, rfl, e8⟩ := q8
      refine zz_br rfl (fun h9 => absurd ⟨e2.elim (fun z => z.2) (fun z => absurd z.1 h3), e8.elim (fun z => ⟨z.2.1, z.2.2⟩) (fun z => absurd z.1 h9)⟩ hc) (fun h9 => ?_)
      refine zz_gsn 1 rfl ?_
      refine zz_ri rfl (Or.inl rfl) ?_
      exact ⟨rfl, congrArg (fun z => some (zI z)) (a_version_n hc).symm⟩
