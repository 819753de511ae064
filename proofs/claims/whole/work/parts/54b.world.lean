/-! the class: versions, forks, where two meet -/
def a_version (G : zz_J) (v w : Int) : Int := if vz G.I.ho G.I.k v ∧ 0 ≤ w ∧ w ≤ 2 then (if v = 0 then -1 else if w = 0 then ((G.I.D (v - 1).toNat).2.1 : Nat) else if w = 1 then (G.I.D (v - 1).toNat).1 else (G.I.D (v - 1).toNat).2.2) else -2
theorem a_version_n {G : zz_J} {v w : Int} (h : ¬ (vz G.I.ho G.I.k v ∧ 0 ≤ w ∧ w ≤ 2)) : a_version G v w = -2 := if_neg h
theorem a_version_0 {G : zz_J} {v w : Int} (h : vz G.I.ho G.I.k v ∧ 0 ≤ w ∧ w ≤ 2) (h0 : v = 0) : a_version G v w = -1 := (if_pos h).trans (if_pos h0)
theorem a_version_a {G : zz_J} {v w : Int} (h : vz G.I.ho G.I.k v ∧ 0 ≤ w ∧ w ≤ 2) (h0 : v ≠ 0) (hw : w = 0) : a_version G v w = ((G.I.D (v - 1).toNat).2.1 : Nat) := ((if_pos h).trans (if_neg h0)).trans (if_pos hw)
theorem a_version_b {G : zz_J} {v w : Int} (h : vz G.I.ho G.I.k v ∧ 0 ≤ w ∧ w ≤ 2) (h0 : v ≠ 0) (hw : w ≠ 0) (h1 : w = 1) : a_version G v w = (G.I.D (v - 1).toNat).1 := (((if_pos h).trans (if_neg h0)).trans (if_neg hw)).trans (if_pos h1)
theorem a_version_c {G : zz_J} {v w : Int} (h : vz G.I.ho G.I.k v ∧ 0 ≤ w ∧ w ≤ 2) (h0 : v ≠ 0) (hw : w ≠ 0) (h1 : w ≠ 1) : a_version G v w = (G.I.D (v - 1).toNat).2.2 := (((if_pos h).trans (if_neg h0)).trans (if_neg hw)).trans (if_neg h1)
theorem t_TQ_version {X : zz_X} {σ : zz_M} {b : Nat} {B : Int} {G : zz_J} {v w : Int} (hG : CG σ b B G) (ok : g_ok G) : zz_T X 3 p_TQ_version [zP 11 0 0 b, zI v, zI w] σ (fun r σ' => σ = σ' ∧ r = some (zI (a_version G v w))) := by
  refine zz_mk k_TQ_version o_TQ_version rfl rfl (Nat.le_of_ble_eq_true rfl) ?_
  show zz_G X 3 p_TQ_version 0 [zP 11 0 0 b, zI v, zI w, zU, zU] [] σ _
  obtain ⟨hH, hBt, hBo, hft, him, hmk, htr⟩ := id hG
  obtain ⟨⟨ho, hfx⟩, okt, oko, okm⟩ := id ok
  obtain ⟨hD, hV⟩ := id hH
  obtain ⟨d1, d2, d3, d4, dR⟩ := id hD
  obtain ⟨d5, d6, d7⟩ := id dR
  rcases Classical.em (vz G.I.ho G.I.k v ∧ 0 ≤ w ∧ w ≤ 2) with hc | hc
  · obtain ⟨hv, hw0, hw2⟩ := id hc
    obtain ⟨z0, z1, z2⟩ := id hv
    have ez1 : zw (v - 1) = v - 1 := zw_id (by omega) (by omega)
    have ez : (zw (v - 1)).toNat = (v - 1).toNat := by rw [ez1]
    refine zz_gsn 6 rfl ?_
    refine zz_cv (n := 2) rfl rfl (t_Deeds_hasVersion) (Nat.le_of_ble_eq_true rfl) (Nat.le_of_ble_eq_true rfl) (Nat.le_of_ble_eq_true rfl) (fun r6 σ6 q6 => ?_)
    obtain ⟨rfl, n6, rfl, e6⟩ := q6
    have e6 := vz_of hD e6
    have e6 : n6 = 1 := e6.elim (fun z => z.1) (fun z => absurd hv z.2)
    refine zz_br rfl (fun h7 => absurd h7 (by omega)) (fun h7 => ?_)
    refine zz_gsn 1 rfl ?_
    refine zz_br rfl (fun h9 => absurd h9 (by omega)) (fun h9 => ?_)
    refine zz_gsn 2 rfl ?_
    refine zz_br rfl (fun h12 => ?_) (fun h12 => absurd h12 (by omega))
    refine zz_gsn 6 rfl ?_
    refine zz_cv (n := 2) rfl rfl (t_Deeds_hasDeed) (Nat.le_of_ble_eq_true rfl) (Nat.le_of_ble_eq_true rfl) (Nat.le_of_ble_eq_true rfl) (fun r21 σ21 q21 => ?_)
    obtain ⟨rfl, n21, rfl, e21⟩ := q21
    have e21 := vd_of dR e21
    rw [ez1] at e21
    refine zz_br rfl (fun h22 => ?_) (fun h22 => ?_)
    · refine zz_gsn 1 rfl ?_
      refine zz_br rfl (fun h26 => ?_) (fun h26 => ?_)
      · refine zz_gsn 2 rfl ?_
        refine zz_br rfl (fun h34 => ?_) (fun h34 => ?_)
        · refine zz_gsn 3 rfl ?_
          refine zz_ald rfl (by omega) ?_
          refine zz_ri rfl (Or.inl rfl) ?_
          obtain ⟨b1, b2, b3⟩ := d7 (v - 1).toNat (by omega)
          rw [← ez] at b1 b2 b3
          exact ⟨rfl, congrArg (fun z => some (zI z)) (b3.trans (by rw [ez]; exact (a_version_c hc (by omega) h26 h34).symm))⟩
        · refine zz_gsn 3 rfl ?_
          refine zz_ald rfl (by omega) ?_
          refine zz_jp rfl ?_
          refine zz_ri rfl (Or.inl rfl) ?_
          obtain ⟨b1, b2, b3⟩ := d7 (v - 1).toNat (by omega)
          rw [← ez] at b1 b2 b3
          exact ⟨rfl, congrArg (fun z => some (zI z)) (b1.trans (by rw [ez]; exact (a_version_b hc (by omega) h26 (by omega)).symm))⟩
      · refine zz_gsn 3 rfl ?_
        refine zz_ald rfl (by omega) ?_
        refine zz_ri rfl (Or.inl rfl) ?_
        obtain ⟨b1, b2, b3⟩ := d7 (v - 1).toNat (by omega)
        rw [← ez] at b1 b2 b3
        exact ⟨rfl, congrArg (fun z => some (zI z)) (b2.trans (by rw [ez]; exact (a_version_a hc (by omega) (by omega)).symm))⟩
    · refine zz_gsn 1 rfl ?_
      refine zz_ri rfl (Or.inl rfl) ?_
      exact ⟨rfl, congrArg (fun z => some (zI z)) (a_version_0 hc (by omega)).symm⟩
  · refine zz_gsn 6 rfl ?_
    refine zz_cv (n := 2) rfl rfl (t_Deeds_hasVersion) (Nat.le_of_ble_eq_true rfl) (Nat.le_of_ble_eq_true rfl) (Nat.le_of_ble_eq_true rfl) (fun r6 σ6 q6 => ?_)
    obtain ⟨rfl, n6, rfl, e6⟩ := q6
    have e6 := vz_of hD e6
    refine zz_br rfl (fun h7 => ?_) (fun h7 => ?_)
    · refine zz_gsn 1 rfl ?_
      refine zz_ri rfl (Or.inl rfl) ?_
      exact ⟨rfl, congrArg (fun z => some (zI z)) (a_version_n hc).symm⟩
    · refine zz_gsn 1 rfl ?_
      refine zz_br rfl (fun h9 => ?_) (fun h9 => ?_)
      · refine zz_gsn 1 rfl ?_
        refine zz_ri rfl (Or.inl rfl) ?_
        exact ⟨rfl, congrArg (fun z => some (zI z)) (a_version_n hc).symm⟩
      · refine zz_gsn 2 rfl ?_
        refine zz_br rfl (fun h12 => absurd ⟨e6.elim (fun z => z.2) (fun z => absurd z.1 h7), by omega, h12⟩ hc) (fun h12 => ?_)
        refine zz_gsn 1 rfl ?_
        refine zz_ri rfl (Or.inl rfl) ?_
        exact ⟨rfl, congrArg (fun z => some (zI z)) (a_version_n hc).symm⟩
def a_forks (G : zz_J) (v : Int) : Int := if vz G.I.ho G.I.k v then zz_sum (zd_is G.I.D v) G.I.k else -2
def a_meet (G : zz_J) (v w : Int) : Int := if vz G.I.ho G.I.k v ∧ vz G.I.ho G.I.k w then (zd_meet G.I.D 122 v.toNat w.toNat : Nat) else -2
def a_apart (G : zz_J) (v w : Int) : Int := if vz G.I.ho G.I.k v ∧ vz G.I.ho G.I.k w then (zd_dep G.I.D v.toNat v.toNat : Nat) + (zd_dep G.I.D w.toNat w.toNat : Nat) - 2 * (zd_dep G.I.D (zd_meet G.I.D 122 v.toNat w.toNat) (zd_meet G.I.D 122 v.toNat w.toNat) : Nat) else -2
theorem t_TQ_forks {X : zz_X} {σ : zz_M} {b : Nat} {B : Int} {G : zz_J} {v : Int} (hG : CG σ b B G) (ok : g_ok G) : zz_T X 3 p_TQ_forks [zP 11 0 0 b, zI v] σ (fun r σ' => σ = σ' ∧ r = some (zI (a_forks G v))) := by
  refine zz_mk k_TQ_forks o_TQ_forks rfl rfl (Nat.le_of_ble_eq_true rfl) ?_
  show zz_G X 3 p_TQ_forks 0 [zP 11 0 0 b, zI v] [] σ _
  obtain ⟨hH, hBt, hBo, hft, him, hmk, htr⟩ := id hG
  obtain ⟨⟨ho, hfx⟩, okt, oko, okm⟩ := id ok
  obtain ⟨hD, hV⟩ := id hH
  obtain ⟨d1, d2, d3, d4, dR⟩ := id hD
  obtain ⟨d5, d6, d7⟩ := id dR
  rcases Classical.em (vz G.I.ho G.I.k v) with hv | hv
  · refine zz_gsn 4 rfl ?_
    refine zz_cv (n := 2) rfl rfl (t_Deeds_hasVersion) (Nat.le_of_ble_eq_true rfl) (Nat.le_of_ble_eq_true rfl) (Nat.le_of_ble_eq_true rfl) (fun r4 σ4 q4 => ?_)
    obtain ⟨rfl, n4, rfl, e4⟩ := q4
    have e4 := vz_of hD e4
    have e4 : n4 = 1 := e4.elim (fun z => z.1) (fun z => absurd hv z.2)
    refine zz_br rfl (fun h5 => absurd h5 (by omega)) (fun h5 => ?_)
    refine zz_gsn 4 rfl ?_
    refine zz_cv (n := 2) rfl rfl (t_Deeds_madeOf (v := v) dR) (Nat.le_of_ble_eq_true rfl) (Nat.le_of_ble_eq_true rfl) (Nat.le_of_ble_eq_true rfl) (fun r10 σ10 q10 => ?_)
    obtain ⟨rfl, rfl⟩ := q10
    refine zz_jp rfl ?_
    refine zz_ri rfl (Or.inl rfl) ?_
    exact ⟨rfl, congrArg (fun z => some (zI z)) (if_pos hv).symm⟩
  · refine zz_gsn 4 rfl ?_
    refine zz_cv (n := 2) rfl rfl (t_Deeds_hasVersion) (Nat.le_of_ble_eq_true rfl) (Nat.le_of_ble_eq_true rfl) (Nat.le_of_ble_eq_true rfl) (fun r4 σ4 q4 => ?_)
    obtain ⟨rfl, n4, rfl, e4⟩ := q4
    have e4 := vz_of hD e4
    have e4 : n4 = 0 := e4.elim (fun z => absurd z.2 hv) (fun z => z.1)
    refine zz_br rfl (fun h5 => ?_) (fun h5 => absurd e4 h5)
    refine zz_gsn 1 rfl ?_
    refine zz_ri rfl (Or.inl rfl) ?_
    exact ⟨rfl, congrArg (fun z => some (zI z)) (if_neg hv).symm⟩
theorem t_TQ_meet {X : zz_X} {σ : zz_M} {b : Nat} {B : Int} {G : zz_J} {v w : Int} (hG : CG σ b B G) (ok : g_ok G) : zz_T X 4 p_TQ_meet [zP 11 0 0 b, zI v, zI w] σ (fun r σ' => σ = σ' ∧ r = some (zI (a_meet G v w))) := by
  refine zz_mk k_TQ_meet o_TQ_meet rfl rfl (Nat.le_of_ble_eq_true rfl) ?_
  show zz_G X 4 p_TQ_meet 0 [zP 11 0 0 b, zI v, zI w, zU] [] σ _
  obtain ⟨hH, hBt, hBo, hft, him, hmk, htr⟩ := id hG
  obtain ⟨⟨ho, hfx⟩, okt, oko, okm⟩ := id ok
  obtain ⟨hD, hV⟩ := id hH
  obtain ⟨d1, d2, d3, d4, dR⟩ := id hD
  obtain ⟨d5, d6, d7⟩ := id dR
  rcases zz_c3 (vz G.I.ho G.I.k v) (vz G.I.ho G.I.k w) with hv | ⟨hv, hv2⟩ | ⟨hv, hv2⟩
  · refine zz_gsn 6 rfl ?_
    refine zz_cv (n := 2) rfl rfl (t_Deeds_hasVersion) (Nat.le_of_ble_eq_true rfl) (Nat.le_of_ble_eq_true rfl) (Nat.le_of_ble_eq_true rfl) (fun r6 σ6 q6 => ?_)
    obtain ⟨rfl, n6, rfl, e6⟩ := q6
    have e6 := vz_of hD e6
    have e6 : n6 = 0 := e6.elim (fun z => absurd z.2 hv) (fun z => z.1)
    refine zz_br rfl (fun h7 => ?_) (fun h7 => absurd e6 h7)
    refine zz_gsn 1 rfl ?_
    refine zz_ri rfl (Or.inl rfl) ?_
    exact ⟨rfl, congrArg (fun z => some (zI z)) (if_neg (fun z => hv z.1)).symm⟩
  · obtain ⟨v, rfl⟩ : ∃ v' : Nat, v = (v' : Nat) := ⟨v.toNat, by omega⟩
    obtain ⟨w, rfl⟩ : ∃ w' : Nat, w = (w' : Nat) := ⟨w.toNat, by omega⟩
    have zok := ho.1.zd
    have hv3 : v ≤ G.I.k := by omega
    have hv4 : w ≤ G.I.k := by omega
    refine zz_gsn 6 rfl ?_
    refine zz_cv (n := 2) rfl rfl (t_Deeds_hasVersion) (Nat.le_of_ble_eq_true rfl) (Nat.le_of_ble_eq_true rfl) (Nat.le_of_ble_eq_true rfl) (fun r6 σ6 q6 => ?_)
    obtain ⟨rfl, n6, rfl, e6⟩ := q6
    have e6 := vz_of hD e6
    have e6 : n6 = 1 := e6.elim (fun z => z.1) (fun z => absurd hv z.2)
    refine zz_br rfl (fun h7 => absurd h7 (by omega)) (fun h7 => ?_)
    refine zz_gsn 2 rfl ?_
    refine zz_cv (n := 2) rfl rfl (t_Deeds_hasVersion) (Nat.le_of_ble_eq_true rfl) (Nat.le_of_ble_eq_true rfl) (Nat.le_of_ble_eq_true rfl) (fun r10 σ10 q10 => ?_)
    obtain ⟨rfl, n10, rfl, e10⟩ := q10
    have e10 := vz_of hD e10
    have e10 : n10 = 1 := e10.elim (fun z => z.1) (fun z => absurd hv2 z.2)
    refine zz_br rfl (fun h11 => ?_) (fun h11 => absurd h11 (by omega))
    refine zz_gsn 3 rfl ?_
    refine zz_cv (n := 3) rfl rfl (t_Deeds_meeting (v := v) (w := w) dR zok hv3 hv4) (Nat.le_of_ble_eq_true rfl) (Nat.le_of_ble_eq_true rfl) (Nat.le_of_ble_eq_true rfl) (fun r17 σ17 q17 => ?_)
    obtain ⟨rfl, rfl⟩ := q17
    refine zz_ri rfl (Or.inl rfl) ?_
    exact ⟨rfl, congrArg (fun z => some (zI z)) (if_pos ⟨hv, hv2⟩).symm⟩
  · refine zz_gsn 6 rfl ?_
    refine zz_cv (n := 2) rfl rfl (t_Deeds_hasVersion) (Nat.le_of_ble_eq_true rfl) (Nat.le_of_ble_eq_true rfl) (Nat.le_of_ble_eq_true rfl) (fun r6 σ6 q6 => ?_)
    obtain ⟨rfl, n6, rfl, e6⟩ := q6
    have e6 := vz_of hD e6
    have e6 : n6 = 1 := e6.elim (fun z => z.1) (fun z => absurd hv z.2)
    refine zz_br rfl (fun h7 => absurd h7 (by omega)) (fun h7 => ?_)
    refine zz_gsn 2 rfl ?_
    refine zz_cv (n := 2) rfl rfl (t_Deeds_hasVersion) (Nat.le_of_ble_eq_true rfl) (Nat.le_of_ble_eq_true rfl) (Nat.le_of_ble_eq_true rfl) (fun r10 σ10 q10 => ?_)
    obtain ⟨rfl, n10, rfl, e10⟩ := q10
    have e10 := vz_of hD e10
    have e10 : n10 = 0 := e10.elim (fun z => absurd z.2 hv2) (fun z => z.1)
    refine zz_br rfl (fun h11 => absurd e10 h11) (fun h11 => ?_)
    refine zz_gsn 1 rfl ?_
    refine zz_ri rfl (Or.inl rfl) ?_
    exact ⟨rfl, congrArg (fun z => some (zI z)) (if_neg (fun z => hv2 z.2)).symm⟩
theorem t_TQ_apart {X : zz_X} {σ : zz_M} {b : Nat} {B : Int} {G : zz_J} {v w : Int} (hG : CG σ b B G) (ok : g_ok G) : zz_T X 4 p_TQ_apart [zP 11 0 0 b, zI v, zI w] σ (fun r σ' => σ = σ' ∧ r = some (zI (a_apart G v w))) := by
  refine zz_mk k_TQ_apart o_TQ_apart rfl rfl (Nat.le_of_ble_eq_true rfl) ?_
  show zz_G X 4 p_TQ_apart 0 [zP 11 0 0 b, zI v, zI w, zU, zU] [] σ _
  obtain ⟨hH, hBt, hBo, hft, him, hmk, htr⟩ := id hG
  obtain ⟨⟨ho, hfx⟩, okt, oko, okm⟩ := id ok
  obtain ⟨hD, hV⟩ := id hH
  obtain ⟨d1, d2, d3, d4, dR⟩ := id hD
  obtain ⟨d5, d6, d7⟩ := id dR
  rcases zz_c3 (vz G.I.ho G.I.k v) (vz G.I.ho G.I.k w) with hv | ⟨hv, hv2⟩ | ⟨hv, hv2⟩
  · refine zz_gsn 6 rfl ?_
    refine zz_cv (n := 2) rfl rfl (t_Deeds_hasVersion) (Nat.le_of_ble_eq_true rfl) (Nat.le_of_ble_eq_true rfl) (Nat.le_of_ble_eq_true rfl) (fun r6 σ6 q6 => ?_)
    obtain ⟨rfl, n6, rfl, e6⟩ := q6
    have e6 := vz_of hD e6
    have e6 : n6 = 0 := e6.elim (fun z => absurd z.2 hv) (fun z => z.1)
    refine zz_br rfl (fun h7 => ?_) (fun h7 => absurd e6 h7)
    refine zz_gsn 1 rfl ?_
    refine zz_ri rfl (Or.inl rfl) ?_
    exact ⟨rfl, congrArg (fun z => some (zI z)) (if_neg (fun z => hv z.1)).symm⟩
  · obtain ⟨v, rfl⟩ : ∃ v' : Nat, v = (v' : Nat) := ⟨v.toNat, by omega⟩
    obtain ⟨w, rfl⟩ : ∃ w' : Nat, w = (w' : Nat) := ⟨w.toNat, by omega⟩
    have zok := ho.1.zd
    have hv3 : v ≤ G.I.k := by omega
    have hv4 : w ≤ G.I.k := by omega
    have hm := zd_meet_le zok 122 v w hv3 hv4
    have l1 := zd_dep_le zok v v hv3
    have l2 := zd_dep_le zok w w hv4
    have l3 := zd_dep_le zok (zd_meet G.I.D 122 v w) (zd_meet G.I.D 122 v w) (by omega)
    have hk6 := ho.1.2.2.1
    refine zz_gsn 6 rfl ?_
    refine zz_cv (n := 2) rfl rfl (t_Deeds_hasVersion) (Nat.le_of_ble_eq_true rfl) (Nat.le_of_ble_eq_true rfl) (Nat.le_of_ble_eq_true rfl) (fun r6 σ6 q6 => ?_)
    obtain ⟨rfl, n6, rfl, e6⟩ := q6
    have e6 := vz_of hD e6
    have e6 : n6 = 1 := e6.elim (fun z => z.1) (fun z => absurd hv z.2)
    refine zz_br rfl (fun h7 => absurd h7 (by omega)) (fun h7 => ?_)
    refine zz_gsn 2 rfl ?_
    refine zz_cv (n := 2) rfl rfl (t_Deeds_hasVersion) (Nat.le_of_ble_eq_true rfl) (Nat.le_of_ble_eq_true rfl) (Nat.le_of_ble_eq_true rfl) (fun r10 σ10 q10 => ?_)
    obtain ⟨rfl, n10, rfl, e10⟩ := q10
    have e10 := vz_of hD e10
    have e10 : n10 = 1 := e10.elim (fun z => z.1) (fun z => absurd hv2 z.2)
    refine zz_br rfl (fun h11 => ?_) (fun h11 => absurd h11 (by omega))
    refine zz_gsn 3 rfl ?_
    refine zz_cv (n := 3) rfl rfl (t_Deeds_meeting (v := v) (w := w) dR zok hv3 hv4) (Nat.le_of_ble_eq_true rfl) (Nat.le_of_ble_eq_true rfl) (Nat.le_of_ble_eq_true rfl) (fun r17 σ17 q17 => ?_)
    obtain ⟨rfl, rfl⟩ := q17
    refine zz_gsn 3 rfl ?_
    refine zz_cv (n := 2) rfl rfl (t_Deeds_depth (v := v) dR zok hv3) (Nat.le_of_ble_eq_true rfl) (Nat.le_of_ble_eq_true rfl) (Nat.le_of_ble_eq_true rfl) (fun r21 σ21 q21 => ?_)
    obtain ⟨rfl, rfl⟩ := q21
    refine zz_gsn 2 rfl ?_
    refine zz_cv (n := 2) rfl rfl (t_Deeds_depth (v := w) dR zok hv4) (Nat.le_of_ble_eq_true rfl) (Nat.le_of_ble_eq_true rfl) (Nat.le_of_ble_eq_true rfl) (fun r24 σ24 q24 => ?_)
    obtain ⟨rfl, rfl⟩ := q24
    refine zz_gsn 4 rfl ?_
    refine zz_cv (n := 2) rfl rfl (t_Deeds_depth (v := zd_meet G.I.D 122 v w) dR zok (by omega)) (Nat.le_of_ble_eq_true rfl) (Nat.le_of_ble_eq_true rfl) (Nat.le_of_ble_eq_true rfl) (fun r29 σ29 q29 => ?_)
    obtain ⟨rfl, rfl⟩ := q29
    refine zz_gsn 2 rfl ?_
    refine zz_ri rfl (Or.inl rfl) ?_
    refine ⟨rfl, congrArg (fun z => some (zI z)) (Eq.trans ?_ (if_pos ⟨hv, hv2⟩).symm)⟩
    rw [Int.toNat_natCast, Int.toNat_natCast]
    generalize zd_dep G.I.D v v = x1 at *
    generalize zd_dep G.I.D w w = x2 at *
    generalize zd_dep G.I.D (zd_meet G.I.D 122 v w) (zd_meet G.I.D 122 v w) = x3 at *
    rw [zw_id (x := (x1 : Int) + (x2 : Nat)) (by omega) (by omega), zw_id (x := 2 * (x3 : Int)) (by omega) (by omega), zw_id (by omega) (by omega)]
  · refine zz_gsn 6 rfl ?_
    refine zz_cv (n := 2) rfl rfl (t_Deeds_hasVersion) (Nat.le_of_ble_eq_true rfl) (Nat.le_of_ble_eq_true rfl) (Nat.le_of_ble_eq_true rfl) (fun r6 σ6 q6 => ?_)
    obtain ⟨rfl, n6, rfl, e6⟩ := q6
    have e6 := vz_of hD e6
    have e6 : n6 = 1 := e6.elim (fun z => z.1) (fun z => absurd hv z.2)
    refine zz_br rfl (fun h7 => absurd h7 (by omega)) (fun h7 => ?_)
    refine zz_gsn 2 rfl ?_
    refine zz_cv (n := 2) rfl rfl (t_Deeds_hasVersion) (Nat.le_of_ble_eq_true rfl) (Nat.le_of_ble_eq_true rfl) (Nat.le_of_ble_eq_true rfl) (fun r10 σ10 q10 => ?_)
    obtain ⟨rfl, n10, rfl, e10⟩ := q10
    have e10 := vz_of hD e10
    have e10 : n10 = 0 := e10.elim (fun z => absurd z.2 hv2) (fun z => z.1)
    refine zz_br rfl (fun h11 => absurd e10 h11) (fun h11 => ?_)
    refine zz_gsn 1 rfl ?_
    refine zz_ri rfl (Or.inl rfl) ?_
    exact ⟨rfl, congrArg (fun z => some (zI z)) (if_neg (fun z => hv2 z.2)).symm⟩
