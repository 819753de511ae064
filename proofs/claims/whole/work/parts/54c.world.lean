/-! the class: what a state has -/
def a_state (G : zz_J) (v w : Int) : Int := if vz G.I.ho G.I.k v ∧ 0 ≤ w ∧ w ≤ 4 then (if w = 0 then (hw (gW G) v.toNat).S 7 else if w = 1 then (hw (gW G) v.toNat).S 8 else if w = 2 then (if G.I.law = 1 then (hw (gW G) v.toNat).S 6 else w_len 0 (hw (gW G) v.toNat)) else if w = 3 then (hw (gW G) v.toNat).S 9 else (hw (gW G) v.toNat).S 10) else -2
theorem t_TQ_state {X : zz_X} {σ : zz_M} {b : Nat} {B : Int} {G : zz_J} {v x_ : Int} (hG : CG σ b B G) (ok : g_ok G) : zz_T X 4 p_TQ_state [zP 11 0 0 b, zI v, zI x_] σ (fun r σ' => σ = σ' ∧ r = some (zI (a_state G v x_))) := by
  refine zz_mk k_TQ_state o_TQ_state rfl rfl (Nat.le_of_ble_eq_true rfl) ?_
  show zz_G X 4 p_TQ_state 0 [zP 11 0 0 b, zI v, zI x_, zU] [] σ _
  obtain ⟨hH, hBt, hBo, hft, him, hmk, htr⟩ := id hG
  obtain ⟨⟨ho, hfx⟩, okt, oko, okm⟩ := id ok
  obtain ⟨hD, hV⟩ := id hH
  obtain ⟨d1, d2, d3, d4, dR⟩ := id hD
  obtain ⟨d5, d6, d7⟩ := id dR
  rcases Classical.em (vz G.I.ho G.I.k v) with hv | hv
  · obtain ⟨w, rfl⟩ : ∃ w : Nat, v = (w : Nat) := ⟨v.toNat, by omega⟩
    obtain ⟨-, w1, w2⟩ := id hv
    have hw1 : w ≤ G.I.k := by omega
    obtain ⟨hS, hq1, hq2⟩ := hV.2.2.1 w hw1
    refine zz_gsn 3 rfl ?_
    refine zz_cv (n := 2) rfl rfl (t_History_stateOf_y (v := w) hD hv) (Nat.le_of_ble_eq_true rfl) (Nat.le_of_ble_eq_true rfl) (Nat.le_of_ble_eq_true rfl) (fun r3 σ3 q3 => ?_)
    obtain ⟨rfl, rfl⟩ := q3
    refine zz_gsn 2 rfl ?_
    refine zz_jp rfl ?_
    refine zz_gsn 1 rfl ?_
    rcases (show x_ = 0 ∨ x_ = 1 ∨ x_ = 2 ∨ x_ = 3 ∨ x_ = 4 ∨ (x_ < 0 ∨ 4 < x_) by omega) with hx | hx | hx | hx | hx | hx
    · refine zz_swI 0 11 rfl hx rfl ?_
      refine zz_gsn 2 rfl ?_
      refine zz_ri rfl (Or.inl rfl) ?_
      refine ⟨rfl, congrArg (fun z => some (zI z)) (Eq.trans ?_ (if_pos ⟨hv, by omega, by omega⟩).symm)⟩
      rw [Int.toNat_natCast]
      subst hx
      exact hS.2.1 7 (by decide) (by decide)
    · refine zz_swI 1 14 rfl hx rfl ?_
      refine zz_gsn 2 rfl ?_
      refine zz_ri rfl (Or.inl rfl) ?_
      refine ⟨rfl, congrArg (fun z => some (zI z)) (Eq.trans ?_ (if_pos ⟨hv, by omega, by omega⟩).symm)⟩
      rw [Int.toNat_natCast]
      subst hx
      exact hS.2.1 8 (by decide) (by decide)
    · refine zz_swI 2 17 rfl hx rfl ?_
      refine zz_gsn 5 rfl ?_
      refine zz_br rfl (fun h22 => ?_) (fun h22 => ?_)
      · refine zz_gsn 3 rfl ?_
        refine zz_ri rfl (Or.inl rfl) ?_
        refine ⟨rfl, congrArg (fun z => some (zI z)) (Eq.trans ?_ (if_pos ⟨hv, by omega, by omega⟩).symm)⟩
        rw [Int.toNat_natCast]
        subst hx
        exact (hS.1 0 (by decide)).1.trans (if_neg (fun z => h22 (d2.trans z))).symm
      · refine zz_gsn 2 rfl ?_
        refine zz_jp rfl ?_
        refine zz_ri rfl (Or.inl rfl) ?_
        refine ⟨rfl, congrArg (fun z => some (zI z)) (Eq.trans ?_ (if_pos ⟨hv, by omega, by omega⟩).symm)⟩
        rw [Int.toNat_natCast]
        subst hx
        exact (hS.2.1 6 (by decide) (by decide)).trans (if_pos (d2.symm.trans (by omega))).symm
    · refine zz_swI 3 30 rfl hx rfl ?_
      refine zz_gsn 2 rfl ?_
      refine zz_ri rfl (Or.inl rfl) ?_
      refine ⟨rfl, congrArg (fun z => some (zI z)) (Eq.trans ?_ (if_pos ⟨hv, by omega, by omega⟩).symm)⟩
      rw [Int.toNat_natCast]
      subst hx
      exact hS.2.1 9 (by decide) (by decide)
    · refine zz_swI 4 33 rfl hx rfl ?_
      refine zz_gsn 2 rfl ?_
      refine zz_ri rfl (Or.inl rfl) ?_
      refine ⟨rfl, congrArg (fun z => some (zI z)) (Eq.trans ?_ (if_pos ⟨hv, by omega, by omega⟩).symm)⟩
      rw [Int.toNat_natCast]
      subst hx
      exact hS.2.1 10 (by decide) (by decide)
    · refine zz_swO 36 rfl (by first | exact hx | (simp only [List.length_cons, List.length_nil]; omega)) rfl ?_
      refine zz_gsn 1 rfl ?_
      refine zz_ri rfl (Or.inl rfl) ?_
      exact ⟨rfl, congrArg (fun z => some (zI z)) (if_neg (fun z => by omega)).symm⟩
  · refine zz_gsn 3 rfl ?_
    refine zz_cv (n := 2) rfl rfl (t_History_stateOf_n hD hv) (Nat.le_of_ble_eq_true rfl) (Nat.le_of_ble_eq_true rfl) (Nat.le_of_ble_eq_true rfl) (fun r3 σ3 q3 => ?_)
    obtain ⟨rfl, rfl⟩ := q3
    refine zz_gsn 2 rfl ?_
    refine zz_jp rfl ?_
    refine zz_gsn 1 rfl ?_
    refine zz_ri rfl (Or.inl rfl) ?_
    exact ⟨rfl, congrArg (fun z => some (zI z)) (if_neg (fun z => hv z.1)).symm⟩
