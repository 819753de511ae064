/-! the class: worst, worstAt, spike -/
def g_sc (G : zz_J) (v : Int) (n : Nat) : zc_R := s_go G.I.law G.I.C n 0 (hw (gW G) v.toNat) 0 (fun _ => 0) s_r0
def a_worst (G : zz_J) (v n x : Int) : Int := if vz G.I.ho G.I.k v ∧ 1 ≤ n ∧ n ≤ 6 then (if x = 0 then (g_sc G v n.toNat).a else if x = 1 then (g_sc G v n.toNat).b else if x = 2 then (g_sc G v n.toNat).c else -2) else -2
def a_worstAt (G : zz_J) (v n i : Int) : Int := if (vz G.I.ho G.I.k v ∧ 1 ≤ n ∧ n ≤ 6) ∧ 0 ≤ i then (if i < n then (g_sc G v n.toNat).w i.toNat else -1) else -2
def a_spike (G : zz_J) (v x : Int) : Int := if vz G.I.ho G.I.k v ∧ 1 ≤ x then s_few (g_sc G v 6).l x 6 0 else -2
theorem t_TQ_worst {X : zz_X} {σ : zz_M} {b : Nat} {B : Int} {G : zz_J} {v n x_ : Int} (hG : CG σ b B G) (ok : g_ok G) : zz_T X 15 p_TQ_worst [zP 11 0 0 b, zI v, zI n, zI x_] σ (fun r σ' => r = some (zI (a_worst G v n x_)) ∧ CG σ' b B G ∧ zz_F (A_cl b) σ σ') := by
  refine zz_mk k_TQ_worst o_TQ_worst rfl rfl (Nat.le_of_ble_eq_true rfl) ?_
  show zz_G X 15 p_TQ_worst 0 [zP 11 0 0 b, zI v, zI n, zI x_, zU] [] σ _
  obtain ⟨hH, hBt, hBo, hft, him, hmk, htr⟩ := id hG
  obtain ⟨⟨ho, hfx⟩, okt, oko, okm⟩ := id ok
  obtain ⟨hD, hV⟩ := id hH
  obtain ⟨d1, d2, d3, d4, dR⟩ := id hD
  obtain ⟨d5, d6, d7⟩ := id dR
  rcases (show (vz G.I.ho G.I.k v ∧ 1 ≤ n ∧ n ≤ 6) ∨ (¬ vz G.I.ho G.I.k v ∧ ¬ (vz G.I.ho G.I.k v ∧ 1 ≤ n ∧ n ≤ 6)) ∨ (vz G.I.ho G.I.k v ∧ ¬ (vz G.I.ho G.I.k v ∧ 1 ≤ n ∧ n ≤ 6)) from by rcases Classical.em (vz G.I.ho G.I.k v) with h | h <;> rcases Classical.em (vz G.I.ho G.I.k v ∧ 1 ≤ n ∧ n ≤ 6) with h2 | h2 <;> first | exact Or.inl h2 | exact Or.inr (Or.inl ⟨h, h2⟩) | exact Or.inr (Or.inr ⟨h, h2⟩)) with hv | ⟨hvv, hv⟩ | ⟨hvv, hv⟩
  · obtain ⟨hv0, hn1, hn6⟩ := id hv
    obtain ⟨c, rfl⟩ : ∃ c : Nat, n = (c : Nat) := ⟨n.toNat, by omega⟩
    obtain ⟨w, rfl⟩ : ∃ w : Nat, v = (w : Nat) := ⟨v.toNat, by omega⟩
    obtain ⟨z0, w1, w2⟩ := id hv0
    have hw1 : w ≤ G.I.k := by omega
    obtain ⟨hS, -⟩ := hV.2.2.1 w hw1
    have hCC := (i_ho ho z0).2
    have hI0 := ((h_inv ho.1).1 w hw1).1
    refine zz_gsn 3 rfl ?_
    refine zz_cv (n := 2) rfl rfl (t_History_stateOf_y (v := w) hD hv0) (Nat.le_of_ble_eq_true rfl) (Nat.le_of_ble_eq_true rfl) (Nat.le_of_ble_eq_true rfl) (fun r3 σ3 q3 => ?_)
    obtain ⟨rfl, rfl⟩ := q3
    refine zz_gsn 2 rfl ?_
    refine zz_jp rfl ?_
    refine zz_gsn 2 rfl ?_
    refine zz_br rfl (fun h9 => absurd h9 (by omega)) (fun h9 => ?_)
    refine zz_gsn 2 rfl ?_
    refine zz_br rfl (fun h12 => ?_) (fun h12 => absurd h12 (by omega))
    refine zz_gsn 7 rfl ?_
    refine zz_cv (n := 4) rfl rfl (t_Scout_tryAll (s := b + 1027) (d := b + 11 + 1) (n := c) (B0 := w) (by omega) hS (by omega) (by omega) (by rw [d2]; exact hI0) (by omega) (by rw [d3]; exact ⟨hCC.1, hCC.2.1⟩)) (Nat.le_of_ble_eq_true rfl) (Nat.le_of_ble_eq_true rfl) (Nat.le_of_ble_eq_true rfl) (fun r22 σ22 q22 => ?_)
    obtain ⟨rfl, p22, g22⟩ := q22
    rw [d2, d3] at p22
    replace p22 : SN σ22 (b + 1027) c (g_sc G (w : Nat) c) := p22
    refine zz_gsn 1 rfl ?_
    rcases (show x_ = 0 ∨ x_ = 1 ∨ x_ = 2 ∨ (x_ < 0 ∨ 2 < x_) by omega) with hx | hx | hx | hx
    · refine zz_swI 0 25 rfl hx rfl ?_
      refine zz_gsn 3 rfl ?_
      refine zz_ri rfl (Or.inl rfl) ?_
      exact ⟨congrArg (fun z => some (zI z)) (Eq.trans ((p22.1.1).trans (if_pos hx).symm) (if_pos hv).symm), hG.s (g22.mono (fun a z => by unfold A_cs; omega)), g22.mono (fun a z => by unfold A_cl; omega)⟩
    · refine zz_swI 1 29 rfl hx rfl ?_
      refine zz_gsn 3 rfl ?_
      refine zz_ri rfl (Or.inl rfl) ?_
      exact ⟨congrArg (fun z => some (zI z)) (Eq.trans ((p22.1.2.1).trans ((if_neg (by omega)).trans (if_pos hx)).symm) (if_pos hv).symm), hG.s (g22.mono (fun a z => by unfold A_cs; omega)), g22.mono (fun a z => by unfold A_cl; omega)⟩
    · refine zz_swI 2 33 rfl hx rfl ?_
      refine zz_gsn 3 rfl ?_
      refine zz_ri rfl (Or.inl rfl) ?_
      exact ⟨congrArg (fun z => some (zI z)) (Eq.trans ((p22.1.2.2.1).trans ((if_neg (by omega)).trans ((if_neg (by omega)).trans (if_pos hx))).symm) (if_pos hv).symm), hG.s (g22.mono (fun a z => by unfold A_cs; omega)), g22.mono (fun a z => by unfold A_cl; omega)⟩
    · refine zz_swO 37 rfl (by first | exact hx | (simp only [List.length_cons, List.length_nil]; omega)) rfl ?_
      refine zz_gsn 1 rfl ?_
      refine zz_ri rfl (Or.inl rfl) ?_
      exact ⟨congrArg (fun z => some (zI z)) (Eq.trans ((if_neg (by omega)).trans ((if_neg (by omega)).trans (if_neg (by omega)))).symm (if_pos hv).symm), hG.s (g22.mono (fun a z => by unfold A_cs; omega)), g22.mono (fun a z => by unfold A_cl; omega)⟩
  · refine zz_gsn 3 rfl ?_
    refine zz_cv (n := 2) rfl rfl (t_History_stateOf_n hD hvv) (Nat.le_of_ble_eq_true rfl) (Nat.le_of_ble_eq_true rfl) (Nat.le_of_ble_eq_true rfl) (fun r3 σ3 q3 => ?_)
    obtain ⟨rfl, rfl⟩ := q3
    refine zz_gsn 2 rfl ?_
    refine zz_jp rfl ?_
    refine zz_gsn 1 rfl ?_
    refine zz_ri rfl (Or.inl rfl) ?_
    exact ⟨congrArg (fun z => some (zI z)) (if_neg hv).symm, hG, zz_F.rf⟩
  · obtain ⟨w, rfl⟩ : ∃ w : Nat, v = (w : Nat) := ⟨v.toNat, by omega⟩
    have hv0 := hvv
    refine zz_gsn 3 rfl ?_
    refine zz_cv (n := 2) rfl rfl (t_History_stateOf_y (v := w) hD hv0) (Nat.le_of_ble_eq_true rfl) (Nat.le_of_ble_eq_true rfl) (Nat.le_of_ble_eq_true rfl) (fun r3 σ3 q3 => ?_)
    obtain ⟨rfl, rfl⟩ := q3
    refine zz_gsn 2 rfl ?_
    refine zz_jp rfl ?_
    refine zz_gsn 2 rfl ?_
    refine zz_br rfl (fun h9 => ?_) (fun h9 => ?_)
    · refine zz_gsn 1 rfl ?_
      refine zz_ri rfl (Or.inl rfl) ?_
      exact ⟨congrArg (fun z => some (zI z)) (if_neg hv).symm, hG, zz_F.rf⟩
    · refine zz_gsn 2 rfl ?_
      refine zz_br rfl (fun h12 => absurd ⟨hvv, by omega, by omega⟩ hv) (fun h12 => ?_)
      refine zz_gsn 1 rfl ?_
      refine zz_ri rfl (Or.inl rfl) ?_
      exact ⟨congrArg (fun z => some (zI z)) (if_neg hv).symm, hG, zz_F.rf⟩
theorem t_TQ_worstAt {X : zz_X} {σ : zz_M} {b : Nat} {B : Int} {G : zz_J} {v n i : Int} (hG : CG σ b B G) (ok : g_ok G) : zz_T X 15 p_TQ_worstAt [zP 11 0 0 b, zI v, zI n, zI i] σ (fun r σ' => r = some (zI (a_worstAt G v n i)) ∧ CG σ' b B G ∧ zz_F (A_cl b) σ σ') := by
  refine zz_mk k_TQ_worstAt o_TQ_worstAt rfl rfl (Nat.le_of_ble_eq_true rfl) ?_
  show zz_G X 15 p_TQ_worstAt 0 [zP 11 0 0 b, zI v, zI n, zI i, zU] [] σ _
  obtain ⟨hH, hBt, hBo, hft, him, hmk, htr⟩ := id hG
  obtain ⟨⟨ho, hfx⟩, okt, oko, okm⟩ := id ok
  obtain ⟨hD, hV⟩ := id hH
  obtain ⟨d1, d2, d3, d4, dR⟩ := id hD
  obtain ⟨d5, d6, d7⟩ := id dR
  rcases (show ((vz G.I.ho G.I.k v ∧ 1 ≤ n ∧ n ≤ 6) ∧ 0 ≤ i) ∨ (¬ vz G.I.ho G.I.k v ∧ ¬ ((vz G.I.ho G.I.k v ∧ 1 ≤ n ∧ n ≤ 6) ∧ 0 ≤ i)) ∨ (vz G.I.ho G.I.k v ∧ ¬ ((vz G.I.ho G.I.k v ∧ 1 ≤ n ∧ n ≤ 6) ∧ 0 ≤ i)) from by rcases Classical.em (vz G.I.ho G.I.k v) with h | h <;> rcases Classical.em ((vz G.I.ho G.I.k v ∧ 1 ≤ n ∧ n ≤ 6) ∧ 0 ≤ i) with h2 | h2 <;> first | exact Or.inl h2 | exact Or.inr (Or.inl ⟨h, h2⟩) | exact Or.inr (Or.inr ⟨h, h2⟩)) with hv | ⟨hvv, hv⟩ | ⟨hvv, hv⟩
  · obtain ⟨hv, hi⟩ := hv
    obtain ⟨hv0, hn1, hn6⟩ := id hv
    obtain ⟨c, rfl⟩ : ∃ c : Nat, n = (c : Nat) := ⟨n.toNat, by omega⟩
    obtain ⟨w, rfl⟩ : ∃ w : Nat, v = (w : Nat) := ⟨v.toNat, by omega⟩
    obtain ⟨z0, w1, w2⟩ := id hv0
    have hw1 : w ≤ G.I.k := by omega
    obtain ⟨hS, -⟩ := hV.2.2.1 w hw1
    have hCC := (i_ho ho z0).2
    have hI0 := ((h_inv ho.1).1 w hw1).1
    refine zz_gsn 3 rfl ?_
    refine zz_cv (n := 2) rfl rfl (t_History_stateOf_y (v := w) hD hv0) (Nat.le_of_ble_eq_true rfl) (Nat.le_of_ble_eq_true rfl) (Nat.le_of_ble_eq_true rfl) (fun r3 σ3 q3 => ?_)
    obtain ⟨rfl, rfl⟩ := q3
    refine zz_gsn 2 rfl ?_
    refine zz_jp rfl ?_
    refine zz_gsn 2 rfl ?_
    refine zz_br rfl (fun h9 => absurd h9 (by omega)) (fun h9 => ?_)
    refine zz_gsn 2 rfl ?_
    refine zz_br rfl (fun h12 => absurd h12 (by omega)) (fun h12 => ?_)
    refine zz_gsn 1 rfl ?_
    refine zz_br rfl (fun h14 => ?_) (fun h14 => absurd h14 (by omega))
    refine zz_gsn 7 rfl ?_
    refine zz_cv (n := 4) rfl rfl (t_Scout_tryAll (s := b + 1027) (d := b + 11 + 1) (n := c) (B0 := w) (by omega) hS (by omega) (by omega) (by rw [d2]; exact hI0) (by omega) (by rw [d3]; exact ⟨hCC.1, hCC.2.1⟩)) (Nat.le_of_ble_eq_true rfl) (Nat.le_of_ble_eq_true rfl) (Nat.le_of_ble_eq_true rfl) (fun r24 σ24 q24 => ?_)
    obtain ⟨rfl, p24, g24⟩ := q24
    rw [d2, d3] at p24
    replace p24 : SN σ24 (b + 1027) c (g_sc G (w : Nat) c) := p24
    refine zz_gsn 2 rfl ?_
    refine zz_br rfl (fun h27 => ?_) (fun h27 => ?_)
    · refine zz_gsn 1 rfl ?_
      refine zz_ri rfl (Or.inl rfl) ?_
      exact ⟨congrArg (fun z => some (zI z)) (Eq.trans (if_neg (Int.not_lt.mpr h27)).symm (if_pos ⟨hv, hi⟩).symm), hG.s (g24.mono (fun a z => by unfold A_cs; omega)), g24.mono (fun a z => by unfold A_cl; omega)⟩
    · refine zz_gsn 3 rfl ?_
      refine zz_cv (n := 2) rfl rfl (t_Scout_worstKind) (Nat.le_of_ble_eq_true rfl) (Nat.le_of_ble_eq_true rfl) (Nat.le_of_ble_eq_true rfl) (fun r31 σ31 q31 => ?_)
      obtain ⟨rfl, rfl⟩ := q31
      refine zz_jp rfl ?_
      refine zz_ri rfl (Or.inl rfl) ?_
      have hb := s_go_b ⟨hCC.1, hCC.2.1⟩ c 0 w (hw (gW G) w) 0 (fun _ => 0) s_r0 hI0 (Int.le_refl 0) (Or.inr (Or.inr (by omega)))
      have hil : i < (c : Nat) := by omega
      have z3 : σ24.1 803 (b + 1027) = (c : Nat) := p24.1.2.2.2
      have zw0 : σ24.2 (b + 1027 + 2) i.toNat = (g_sc G (w : Nat) c).w i.toNat := p24.2.1 hb i.toNat (by omega)
      refine ⟨congrArg (fun z => some (zI z)) ?_, hG.s (g24.mono (fun a z => by unfold A_cs; omega)), g24.mono (fun a z => by unfold A_cl; omega)⟩
      rw [if_pos ⟨hi, by rw [z3]; exact hil, by omega⟩]
      exact zw0.trans ((if_pos hil).symm.trans (if_pos ⟨hv, hi⟩).symm)
  · refine zz_gsn 3 rfl ?_
    refine zz_cv (n := 2) rfl rfl (t_History_stateOf_n hD hvv) (Nat.le_of_ble_eq_true rfl) (Nat.le_of_ble_eq_true rfl) (Nat.le_of_ble_eq_true rfl) (fun r3 σ3 q3 => ?_)
    obtain ⟨rfl, rfl⟩ := q3
    refine zz_gsn 2 rfl ?_
    refine zz_jp rfl ?_
    refine zz_gsn 1 rfl ?_
    refine zz_ri rfl (Or.inl rfl) ?_
    exact ⟨congrArg (fun z => some (zI z)) (if_neg (fun z => hv z)).symm, hG, zz_F.rf⟩
  · obtain ⟨w, rfl⟩ : ∃ w : Nat, v = (w : Nat) := ⟨v.toNat, by omega⟩
    have hv0 := hvv
    refine zz_gsn 3 rfl ?_
    refine zz_cv (n := 2) rfl rfl (t_History_stateOf_y (v := w) hD hv0) (Nat.le_of_ble_eq_true rfl) (Nat.le_of_ble_eq_true rfl) (Nat.le_of_ble_eq_true rfl) (fun r3 σ3 q3 => ?_)
    obtain ⟨rfl, rfl⟩ := q3
    refine zz_gsn 2 rfl ?_
    refine zz_jp rfl ?_
    refine zz_gsn 2 rfl ?_
    refine zz_br rfl (fun h9 => ?_) (fun h9 => ?_)
    · refine zz_gsn 1 rfl ?_
      refine zz_ri rfl (Or.inl rfl) ?_
      exact ⟨congrArg (fun z => some (zI z)) (if_neg (fun z => hv z)).symm, hG, zz_F.rf⟩
    · refine zz_gsn 2 rfl ?_
      refine zz_br rfl (fun h12 => ?_) (fun h12 => ?_)
      · refine zz_gsn 1 rfl ?_
        refine zz_ri rfl (Or.inl rfl) ?_
        exact ⟨congrArg (fun z => some (zI z)) (if_neg (fun z => hv z)).symm, hG, zz_F.rf⟩
      · refine zz_gsn 1 rfl ?_
        refine zz_br rfl (fun h14 => absurd ⟨⟨hvv, by omega, by omega⟩, h14⟩ hv) (fun h14 => ?_)
        refine zz_gsn 1 rfl ?_
        refine zz_ri rfl (Or.inl rfl) ?_
        exact ⟨congrArg (fun z => some (zI z)) (if_neg (fun z => hv z)).symm, hG, zz_F.rf⟩
theorem t_TQ_spike {X : zz_X} {σ : zz_M} {b : Nat} {B : Int} {G : zz_J} {v x_ : Int} (hG : CG σ b B G) (ok : g_ok G) : zz_T X 15 p_TQ_spike [zP 11 0 0 b, zI v, zI x_] σ (fun r σ' => r = some (zI (a_spike G v x_)) ∧ CG σ' b B G ∧ zz_F (A_cl b) σ σ') := by
  refine zz_mk k_TQ_spike o_TQ_spike rfl rfl (Nat.le_of_ble_eq_true rfl) ?_
  show zz_G X 15 p_TQ_spike 0 [zP 11 0 0 b, zI v, zI x_, zU] [] σ _
  obtain ⟨hH, hBt, hBo, hft, him, hmk, htr⟩ := id hG
  obtain ⟨⟨ho, hfx⟩, okt, oko, okm⟩ := id ok
  obtain ⟨hD, hV⟩ := id hH
  obtain ⟨d1, d2, d3, d4, dR⟩ := id hD
  obtain ⟨d5, d6, d7⟩ := id dR
  rcases (show (vz G.I.ho G.I.k v ∧ 1 ≤ x_) ∨ (¬ vz G.I.ho G.I.k v ∧ ¬ (vz G.I.ho G.I.k v ∧ 1 ≤ x_)) ∨ (vz G.I.ho G.I.k v ∧ ¬ (vz G.I.ho G.I.k v ∧ 1 ≤ x_)) from by rcases Classical.em (vz G.I.ho G.I.k v) with h | h <;> rcases Classical.em (vz G.I.ho G.I.k v ∧ 1 ≤ x_) with h2 | h2 <;> first | exact Or.inl h2 | exact Or.inr (Or.inl ⟨h, h2⟩) | exact Or.inr (Or.inr ⟨h, h2⟩)) with hv | ⟨hvv, hv⟩ | ⟨hvv, hv⟩
  · obtain ⟨hv0, hx1⟩ := id hv
    obtain ⟨w, rfl⟩ : ∃ w : Nat, v = (w : Nat) := ⟨v.toNat, by omega⟩
    obtain ⟨z0, w1, w2⟩ := id hv0
    have hw1 : w ≤ G.I.k := by omega
    obtain ⟨hS, -⟩ := hV.2.2.1 w hw1
    have hCC := (i_ho ho z0).2
    have hI0 := ((h_inv ho.1).1 w hw1).1
    refine zz_gsn 3 rfl ?_
    refine zz_cv (n := 2) rfl rfl (t_History_stateOf_y (v := w) hD hv0) (Nat.le_of_ble_eq_true rfl) (Nat.le_of_ble_eq_true rfl) (Nat.le_of_ble_eq_true rfl) (fun r3 σ3 q3 => ?_)
    obtain ⟨rfl, rfl⟩ := q3
    refine zz_gsn 2 rfl ?_
    refine zz_jp rfl ?_
    refine zz_gsn 2 rfl ?_
    refine zz_br rfl (fun h9 => ?_) (fun h9 => absurd h9 (by omega))
    refine zz_gsn 7 rfl ?_
    refine zz_cv (n := 4) rfl rfl (t_Scout_tryAll (s := b + 1027) (d := b + 11 + 1) (n := 6) (B0 := w) (by omega) hS (by omega) (by omega) (by rw [d2]; exact hI0) (by omega) (by rw [d3]; exact ⟨hCC.1, hCC.2.1⟩)) (Nat.le_of_ble_eq_true rfl) (Nat.le_of_ble_eq_true rfl) (Nat.le_of_ble_eq_true rfl) (fun r19 σ19 q19 => ?_)
    obtain ⟨rfl, p19, g19⟩ := q19
    rw [d2, d3] at p19
    replace p19 : SN σ19 (b + 1027) 6 (g_sc G (w : Nat) 6) := p19
    refine zz_gsn 3 rfl ?_
    refine zz_cv (n := 2) rfl rfl (t_Scout_fewestFor) (Nat.le_of_ble_eq_true rfl) (Nat.le_of_ble_eq_true rfl) (Nat.le_of_ble_eq_true rfl) (fun r23 σ23 q23 => ?_)
    obtain ⟨rfl, rfl⟩ := q23
    refine zz_ri rfl (Or.inl rfl) ?_
    refine ⟨congrArg (fun z => some (zI z)) ?_, hG.s (g19.mono (fun a z => by unfold A_cs; omega)), g19.mono (fun a z => by unfold A_cl; omega)⟩
    exact (s_few_c 6 0 (fun i hi => p19.2.2 i (by omega))).trans (if_pos hv).symm
  · refine zz_gsn 3 rfl ?_
    refine zz_cv (n := 2) rfl rfl (t_History_stateOf_n hD hvv) (Nat.le_of_ble_eq_true rfl) (Nat.le_of_ble_eq_true rfl) (Nat.le_of_ble_eq_true rfl) (fun r3 σ3 q3 => ?_)
    obtain ⟨rfl, rfl⟩ := q3
    refine zz_gsn 2 rfl ?_
    refine zz_jp rfl ?_
    refine zz_gsn 1 rfl ?_
    refine zz_ri rfl (Or.inl rfl) ?_
    exact ⟨congrArg (fun z => some (zI z)) (if_neg (fun z => hv z)).symm, hG, zz_F.rf⟩
  · obtain ⟨w, rfl⟩ : ∃ w : Nat, v = (w : Nat) := ⟨v.toNat, by omega⟩
    have hv0 := hvv
    refine zz_gsn 3 rfl ?_
    refine zz_cv (n := 2) rfl rfl (t_History_stateOf_y (v := w) hD hv0) (Nat.le_of_ble_eq_true rfl) (Nat.le_of_ble_eq_true rfl) (Nat.le_of_ble_eq_true rfl) (fun r3 σ3 q3 => ?_)
    obtain ⟨rfl, rfl⟩ := q3
    refine zz_gsn 2 rfl ?_
    refine zz_jp rfl ?_
    refine zz_gsn 2 rfl ?_
    refine zz_br rfl (fun h9 => absurd ⟨hvv, by first | exact h9 | exact Int.not_lt.mp h9⟩ hv) (fun h9 => ?_)
    refine zz_gsn 1 rfl ?_
    refine zz_ri rfl (Or.inl rfl) ?_
    exact ⟨congrArg (fun z => some (zI z)) (if_neg (fun z => hv z)).symm, hG, zz_F.rf⟩
