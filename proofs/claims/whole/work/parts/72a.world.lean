/-! the class: rows and cells -/
def a_row (G : zz_J) (v w : Int) : Int := if vz G.I.ho G.I.k v ∧ 0 ≤ w ∧ w ≤ 5 then (((hw (gW G) v.toNat).R w.toNat).length : Nat) else -2
def c_of (f : Nat → Int) (x : Int) : Int := if 0 ≤ x then f x.toNat else -1
def a_cell (G : zz_J) (v w i : Int) : Int := if (vz G.I.ho G.I.k v ∧ 0 ≤ w ∧ w ≤ 5) ∧ 0 ≤ i then c_of (gW G).num (zl_at ((hw (gW G) v.toNat).R w.toNat) i.toNat) else -2
def a_origin (G : zz_J) (v w i : Int) : Int := if (vz G.I.ho G.I.k v ∧ 0 ≤ w ∧ w ≤ 5) ∧ 0 ≤ i then c_of (gW G).mkr (zl_at ((hw (gW G) v.toNat).R w.toNat) i.toNat) else -2
theorem zl_at_b {l : List Nat} {i n : Nat} (h : ∀ c ∈ l, c < n) : zl_at l i = -1 ∨ ∃ c : Nat, c < n ∧ c ∈ l ∧ zl_at l i = (c : Nat) := by
  unfold zl_at
  cases e : l[i]? with
  | none => exact Or.inl rfl
  | some c => exact Or.inr ⟨c, h c (List.mem_of_getElem? e), List.mem_of_getElem? e, rfl⟩
theorem t_State_rowNumbered_y {X : zz_X} {σ : zz_M} {s : Nat} {w : Int} (hw0 : 0 ≤ w ∧ w ≤ 5) : zz_T X 1 p_State_rowNumbered [zP 9 0 0 s, zI w] σ (fun r σ' => σ = σ' ∧ r = some (zP 7 0 0 (s + 1 + w.toNat))) := by
  refine zz_mk k_State_rowNumbered o_State_rowNumbered rfl rfl (Nat.le_of_ble_eq_true rfl) ?_
  show zz_G X 1 p_State_rowNumbered 0 [zP 9 0 0 s, zI w] [] σ _
  refine zz_gsn 1 rfl ?_
  rcases (show w = 0 ∨ w = 1 ∨ w = 2 ∨ w = 3 ∨ w = 4 ∨ w = 5 by omega) with hx | hx | hx | hx | hx | hx
  · refine zz_swI 0 2 rfl hx rfl ?_
    refine zz_gsn 2 rfl ?_
    refine zz_ra rfl rfl ?_
    subst hx
    exact ⟨rfl, rfl⟩
  · refine zz_swI 1 5 rfl hx rfl ?_
    refine zz_gsn 2 rfl ?_
    refine zz_ra rfl rfl ?_
    subst hx
    exact ⟨rfl, rfl⟩
  · refine zz_swI 2 8 rfl hx rfl ?_
    refine zz_gsn 2 rfl ?_
    refine zz_ra rfl rfl ?_
    subst hx
    exact ⟨rfl, rfl⟩
  · refine zz_swI 3 11 rfl hx rfl ?_
    refine zz_gsn 2 rfl ?_
    refine zz_ra rfl rfl ?_
    subst hx
    exact ⟨rfl, rfl⟩
  · refine zz_swI 4 14 rfl hx rfl ?_
    refine zz_gsn 2 rfl ?_
    refine zz_ra rfl rfl ?_
    subst hx
    exact ⟨rfl, rfl⟩
  · refine zz_swI 5 17 rfl hx rfl ?_
    refine zz_gsn 2 rfl ?_
    refine zz_ra rfl rfl ?_
    subst hx
    exact ⟨rfl, rfl⟩
theorem t_State_rowNumbered {X : zz_X} {σ : zz_M} {s : Nat} {w : Int} (hw0 : ¬ (0 ≤ w ∧ w ≤ 5)) : zz_T X 1 p_State_rowNumbered [zP 9 0 0 s, zI w] σ (fun r σ' => σ = σ' ∧ r = some zN) := by
  refine zz_mk k_State_rowNumbered o_State_rowNumbered rfl rfl (Nat.le_of_ble_eq_true rfl) ?_
  show zz_G X 1 p_State_rowNumbered 0 [zP 9 0 0 s, zI w] [] σ _
  refine zz_gsn 1 rfl ?_
  refine zz_swO 20 rfl (by simp only [List.length_cons, List.length_nil]; omega) rfl ?_
  refine zz_gsn 1 rfl ?_
  refine zz_ra rfl rfl ?_
  exact ⟨rfl, rfl⟩
theorem t_History_rowOf_y {X : zz_X} {σ : zz_M} {h k : Nat} {ho law C told : Int} {D : zz_D} {v : Nat} {w : Int} (hD : DF σ (h + 1) ho law C told k D) (hv : vz ho k (v : Nat)) (hw0 : 0 ≤ w ∧ w ≤ 5) : zz_T X 4 p_History_rowOf [zP 3 0 0 h, zI (v : Nat), zI w] σ (fun r σ' => σ = σ' ∧ r = some (zP 7 0 0 (h + 22 + 9 * v + 1 + w.toNat))) := by
  refine zz_mk k_History_rowOf o_History_rowOf rfl rfl (Nat.le_of_ble_eq_true rfl) ?_
  show zz_G X 4 p_History_rowOf 0 [zP 3 0 0 h, zI (v : Nat), zI w, zU] [] σ _
  refine zz_gsn 2 rfl ?_
  refine zz_cv (n := 2) rfl rfl (t_History_stateOf_y (v := v) hD hv) (Nat.le_of_ble_eq_true rfl) (Nat.le_of_ble_eq_true rfl) (Nat.le_of_ble_eq_true rfl) (fun r2 σ2 q2 => ?_)
  obtain ⟨rfl, rfl⟩ := q2
  refine zz_gsn 2 rfl ?_
  refine zz_jp rfl ?_
  refine zz_gsn 2 rfl ?_
  refine zz_cv (n := 2) rfl rfl (t_State_rowNumbered_y (w := w) hw0) (Nat.le_of_ble_eq_true rfl) (Nat.le_of_ble_eq_true rfl) (Nat.le_of_ble_eq_true rfl) (fun r10 σ10 q10 => ?_)
  obtain ⟨rfl, rfl⟩ := q10
  refine zz_ra rfl rfl ?_
  exact ⟨rfl, rfl⟩
theorem t_History_rowOf {X : zz_X} {σ : zz_M} {h k : Nat} {ho law C told : Int} {D : zz_D} {v w : Int} (hD : DF σ (h + 1) ho law C told k D) (hvw : ¬ (vz ho k v ∧ 0 ≤ w ∧ w ≤ 5)) : zz_T X 4 p_History_rowOf [zP 3 0 0 h, zI v, zI w] σ (fun r σ' => σ = σ' ∧ r = some zN) := by
  refine zz_mk k_History_rowOf o_History_rowOf rfl rfl (Nat.le_of_ble_eq_true rfl) ?_
  show zz_G X 4 p_History_rowOf 0 [zP 3 0 0 h, zI v, zI w, zU] [] σ _
  rcases Classical.em (vz ho k v) with hv | hv
  · obtain ⟨v, rfl⟩ : ∃ v' : Nat, v = (v' : Nat) := ⟨v.toNat, by omega⟩
    refine zz_gsn 2 rfl ?_
    refine zz_cv (n := 2) rfl rfl (t_History_stateOf_y (v := v) hD hv) (Nat.le_of_ble_eq_true rfl) (Nat.le_of_ble_eq_true rfl) (Nat.le_of_ble_eq_true rfl) (fun r2 σ2 q2 => ?_)
    obtain ⟨rfl, rfl⟩ := q2
    refine zz_gsn 2 rfl ?_
    refine zz_jp rfl ?_
    refine zz_gsn 2 rfl ?_
    refine zz_cv (n := 2) rfl rfl (t_State_rowNumbered (w := w) (fun z => hvw ⟨hv, z⟩)) (Nat.le_of_ble_eq_true rfl) (Nat.le_of_ble_eq_true rfl) (Nat.le_of_ble_eq_true rfl) (fun r10 σ10 q10 => ?_)
    obtain ⟨rfl, rfl⟩ := q10
    refine zz_ra rfl rfl ?_
    exact ⟨rfl, rfl⟩
  · refine zz_gsn 2 rfl ?_
    refine zz_cv (n := 2) rfl rfl (t_History_stateOf_n hD hv) (Nat.le_of_ble_eq_true rfl) (Nat.le_of_ble_eq_true rfl) (Nat.le_of_ble_eq_true rfl) (fun r2 σ2 q2 => ?_)
    obtain ⟨rfl, rfl⟩ := q2
    refine zz_gsn 2 rfl ?_
    refine zz_jp rfl ?_
    refine zz_gsn 1 rfl ?_
    refine zz_jp rfl ?_
    refine zz_ra rfl rfl ?_
    exact ⟨rfl, rfl⟩
theorem t_TQ_row {X : zz_X} {σ : zz_M} {b : Nat} {B : Int} {G : zz_J} {v w : Int} (hG : CG σ b B G) (ok : g_ok G) : zz_T X 5 p_TQ_row [zP 11 0 0 b, zI v, zI w] σ (fun r σ' => σ = σ' ∧ r = some (zI (a_row G v w))) := by
  refine zz_mk k_TQ_row o_TQ_row rfl rfl (Nat.le_of_ble_eq_true rfl) ?_
  show zz_G X 5 p_TQ_row 0 [zP 11 0 0 b, zI v, zI w, zU] [] σ _
  obtain ⟨hH, hBt, hBo, hft, him, hmk, htr⟩ := id hG
  obtain ⟨⟨ho, hfx⟩, okt, oko, okm⟩ := id ok
  obtain ⟨hD, hV⟩ := id hH
  obtain ⟨d1, d2, d3, d4, dR⟩ := id hD
  obtain ⟨d5, d6, d7⟩ := id dR
  rcases Classical.em (vz G.I.ho G.I.k v ∧ 0 ≤ w ∧ w ≤ 5) with hc | hc
  · obtain ⟨hv, hw0⟩ := id hc
    obtain ⟨v, rfl⟩ : ∃ v' : Nat, v = (v' : Nat) := ⟨v.toNat, by omega⟩
    obtain ⟨-, w1, w2⟩ := id hv
    have hv1 : v ≤ G.I.k := by omega
    obtain ⟨w, rfl⟩ : ∃ w' : Nat, w = (w' : Nat) := ⟨w.toNat, by omega⟩
    have hw6 : w < 6 := by omega
    obtain ⟨hS, -⟩ := hV.2.2.1 v hv1
    obtain ⟨hlen, hch⟩ := hS.1 w hw6
    have hcl := hS.2.2.2.2 w hw6
    have hn9 : (hw (IH G.I) v).n ≤ 1890 := (hS.2.2.2.1 (by decide)).2.1
    refine zz_gsn 4 rfl ?_
    refine zz_cv (n := 3) rfl rfl (t_History_rowOf_y (v := v) (w := (w : Nat)) hD hv hw0) (Nat.le_of_ble_eq_true rfl) (Nat.le_of_ble_eq_true rfl) (Nat.le_of_ble_eq_true rfl) (fun r4 σ4 q4 => ?_)
    obtain ⟨rfl, rfl⟩ := q4
    refine zz_gsn 2 rfl ?_
    refine zz_jp rfl ?_
    refine zz_gsn 2 rfl ?_
    refine zz_ri rfl (Or.inl rfl) ?_
    exact ⟨rfl, congrArg (fun z => some (zI z)) ((hlen).trans (if_pos hc).symm)⟩
  · refine zz_gsn 4 rfl ?_
    refine zz_cv (n := 3) rfl rfl (t_History_rowOf hD hc) (Nat.le_of_ble_eq_true rfl) (Nat.le_of_ble_eq_true rfl) (Nat.le_of_ble_eq_true rfl) (fun r4 σ4 q4 => ?_)
    obtain ⟨rfl, rfl⟩ := q4
    refine zz_gsn 2 rfl ?_
    refine zz_jp rfl ?_
    refine zz_gsn 1 rfl ?_
    refine zz_jp rfl ?_
    refine zz_ri rfl (Or.inl rfl) ?_
    exact ⟨rfl, congrArg (fun z => some (zI z)) (if_neg hc).symm⟩
theorem t_TQ_cell {X : zz_X} {σ : zz_M} {b : Nat} {B : Int} {G : zz_J} {v w i : Int} (hG : CG σ b B G) (ok : g_ok G) : zz_T X 5 p_TQ_cell [zP 11 0 0 b, zI v, zI w, zI i] σ (fun r σ' => σ = σ' ∧ r = some (zI (a_cell G v w i))) := by
  refine zz_mk k_TQ_cell o_TQ_cell rfl rfl (Nat.le_of_ble_eq_true rfl) ?_
  show zz_G X 5 p_TQ_cell 0 [zP 11 0 0 b, zI v, zI w, zI i, zU] [] σ _
  obtain ⟨hH, hBt, hBo, hft, him, hmk, htr⟩ := id hG
  obtain ⟨⟨ho, hfx⟩, okt, oko, okm⟩ := id ok
  obtain ⟨hD, hV⟩ := id hH
  obtain ⟨d1, d2, d3, d4, dR⟩ := id hD
  obtain ⟨d5, d6, d7⟩ := id dR
  rcases Classical.em (vz G.I.ho G.I.k v ∧ 0 ≤ w ∧ w ≤ 5) with hc | hc
  · obtain ⟨hv, hw0⟩ := id hc
    obtain ⟨v, rfl⟩ : ∃ v' : Nat, v = (v' : Nat) := ⟨v.toNat, by omega⟩
    obtain ⟨-, w1, w2⟩ := id hv
    have hv1 : v ≤ G.I.k := by omega
    obtain ⟨w, rfl⟩ : ∃ w' : Nat, w = (w' : Nat) := ⟨w.toNat, by omega⟩
    have hw6 : w < 6 := by omega
    obtain ⟨hS, -⟩ := hV.2.2.1 v hv1
    obtain ⟨hlen, hch⟩ := hS.1 w hw6
    have hcl := hS.2.2.2.2 w hw6
    have hn9 : (hw (IH G.I) v).n ≤ 1890 := (hS.2.2.2.1 (by decide)).2.1
    have hll : ((hw (IH G.I) v).R w).length < 100000 := by
      have z := (IV_bd ((h_inv ho.1).1 v hv1).1).1 w hw6
      have z2 : ((hw (IH G.I) v).R w).length ≤ 2 * v + 1 := z
      omega
    refine zz_gsn 4 rfl ?_
    refine zz_cv (n := 3) rfl rfl (t_History_rowOf_y (v := v) (w := (w : Nat)) hD hv hw0) (Nat.le_of_ble_eq_true rfl) (Nat.le_of_ble_eq_true rfl) (Nat.le_of_ble_eq_true rfl) (fun r4 σ4 q4 => ?_)
    obtain ⟨rfl, rfl⟩ := q4
    refine zz_gsn 2 rfl ?_
    refine zz_jp rfl ?_
    refine zz_gsn 1 rfl ?_
    refine zz_br rfl (fun h9 => ?_) (fun h9 => ?_)
    · refine zz_gsn 8 rfl ?_
      refine zz_cv (n := 3) rfl rfl (t_Cells_cellIn (l := (hw (IH G.I) v).R w) (i := i) (hch (by decide)) hlen hll (fun c hc => Nat.lt_of_lt_of_le (hcl c hc) hn9)) (Nat.le_of_ble_eq_true rfl) (Nat.le_of_ble_eq_true rfl) (Nat.le_of_ble_eq_true rfl) (fun r20 σ20 q20 => ?_)
      obtain ⟨rfl, rfl⟩ := q20
      rw [if_pos (by omega)]
      refine zz_cv (n := 2) rfl rfl (t_Cells_numberOf) (Nat.le_of_ble_eq_true rfl) (Nat.le_of_ble_eq_true rfl) (Nat.le_of_ble_eq_true rfl) (fun r21 σ21 q21 => ?_)
      obtain ⟨rfl, n21, rfl, e21⟩ := q21
      refine zz_ri rfl (Or.inl rfl) ?_
      have e : n21 = c_of (gW G).num (zl_at ((hw (IH G.I) v).R w) i.toNat) := by
        unfold c_of
        rcases zl_at_b (i := i.toNat) hcl with z | ⟨c, c1, c2, z⟩
        · rw [z] at e21 ⊢
          rw [if_neg (by decide)]
          exact e21.elim (fun y => absurd y.1 (by decide)) (fun y => y.2)
        · rw [z] at e21 ⊢
          rw [if_pos (by omega), Int.toNat_natCast]
          rcases e21 with ⟨y1, y2, y3⟩ | ⟨y1, y2⟩
          · rw [y3, Int.toNat_natCast]
            exact ((hS.2.2.2.1 (by decide)).2.2 c c1).1
          · exact absurd ⟨by omega, by omega⟩ y1
      exact ⟨rfl, congrArg (fun z => some (zI z)) (e.trans (if_pos ⟨hc, by omega⟩).symm)⟩
    · refine zz_gsn 1 rfl ?_
      refine zz_ri rfl (Or.inl rfl) ?_
      exact ⟨rfl, congrArg (fun z => some (zI z)) (if_neg (fun z => absurd z.2 (by omega))).symm⟩
  · refine zz_gsn 4 rfl ?_
    refine zz_cv (n := 3) rfl rfl (t_History_rowOf hD hc) (Nat.le_of_ble_eq_true rfl) (Nat.le_of_ble_eq_true rfl) (Nat.le_of_ble_eq_true rfl) (fun r4 σ4 q4 => ?_)
    obtain ⟨rfl, rfl⟩ := q4
    refine zz_gsn 2 rfl ?_
    refine zz_jp rfl ?_
    refine zz_gsn 1 rfl ?_
    refine zz_ri rfl (Or.inl rfl) ?_
    exact ⟨rfl, congrArg (fun z => some (zI z)) (if_neg (fun z => hc z.1)).symm⟩
theorem t_TQ_origin {X : zz_X} {σ : zz_M} {b : Nat} {B : Int} {G : zz_J} {v w i : Int} (hG : CG σ b B G) (ok : g_ok G) : zz_T X 5 p_TQ_origin [zP 11 0 0 b, zI v, zI w, zI i] σ (fun r σ' => σ = σ' ∧ r = some (zI (a_origin G v w i))) := by
  refine zz_mk k_TQ_origin o_TQ_origin rfl rfl (Nat.le_of_ble_eq_true rfl) ?_
  show zz_G X 5 p_TQ_origin 0 [zP 11 0 0 b, zI v, zI w, zI i, zU] [] σ _
  obtain ⟨hH, hBt, hBo, hft, him, hmk, htr⟩ := id hG
  obtain ⟨⟨ho, hfx⟩, okt, oko, okm⟩ := id ok
  obtain ⟨hD, hV⟩ := id hH
  obtain ⟨d1, d2, d3, d4, dR⟩ := id hD
  obtain ⟨d5, d6, d7⟩ := id dR
  rcases Classical.em (vz G.I.ho G.I.k v ∧ 0 ≤ w ∧ w ≤ 5) with hc | hc
  · obtain ⟨hv, hw0⟩ := id hc
    obtain ⟨v, rfl⟩ : ∃ v' : Nat, v = (v' : Nat) := ⟨v.toNat, by omega⟩
    obtain ⟨-, w1, w2⟩ := id hv
    have hv1 : v ≤ G.I.k := by omega
    obtain ⟨w, rfl⟩ : ∃ w' : Nat, w = (w' : Nat) := ⟨w.toNat, by omega⟩
    have hw6 : w < 6 := by omega
    obtain ⟨hS, -⟩ := hV.2.2.1 v hv1
    obtain ⟨hlen, hch⟩ := hS.1 w hw6
    have hcl := hS.2.2.2.2 w hw6
    have hn9 : (hw (IH G.I) v).n ≤ 1890 := (hS.2.2.2.1 (by decide)).2.1
    have hll : ((hw (IH G.I) v).R w).length < 100000 := by
      have z := (IV_bd ((h_inv ho.1).1 v hv1).1).1 w hw6
      have z2 : ((hw (IH G.I) v).R w).length ≤ 2 * v + 1 := z
      omega
    refine zz_gsn 4 rfl ?_
    refine zz_cv (n := 3) rfl rfl (t_History_rowOf_y (v := v) (w := (w : Nat)) hD hv hw0) (Nat.le_of_ble_eq_true rfl) (Nat.le_of_ble_eq_true rfl) (Nat.le_of_ble_eq_true rfl) (fun r4 σ4 q4 => ?_)
    obtain ⟨rfl, rfl⟩ := q4
    refine zz_gsn 2 rfl ?_
    refine zz_jp rfl ?_
    refine zz_gsn 1 rfl ?_
    refine zz_br rfl (fun h9 => ?_) (fun h9 => ?_)
    · refine zz_gsn 8 rfl ?_
      refine zz_cv (n := 3) rfl rfl (t_Cells_cellIn (l := (hw (IH G.I) v).R w) (i := i) (hch (by decide)) hlen hll (fun c hc => Nat.lt_of_lt_of_le (hcl c hc) hn9)) (Nat.le_of_ble_eq_true rfl) (Nat.le_of_ble_eq_true rfl) (Nat.le_of_ble_eq_true rfl) (fun r20 σ20 q20 => ?_)
      obtain ⟨rfl, rfl⟩ := q20
      rw [if_pos (by omega)]
      refine zz_cv (n := 2) rfl rfl (t_Cells_makerOf) (Nat.le_of_ble_eq_true rfl) (Nat.le_of_ble_eq_true rfl) (Nat.le_of_ble_eq_true rfl) (fun r21 σ21 q21 => ?_)
      obtain ⟨rfl, n21, rfl, e21⟩ := q21
      refine zz_ri rfl (Or.inl rfl) ?_
      have e : n21 = c_of (gW G).mkr (zl_at ((hw (IH G.I) v).R w) i.toNat) := by
        unfold c_of
        rcases zl_at_b (i := i.toNat) hcl with z | ⟨c, c1, c2, z⟩
        · rw [z] at e21 ⊢
          rw [if_neg (by decide)]
          exact e21.elim (fun y => absurd y.1 (by decide)) (fun y => y.2)
        · rw [z] at e21 ⊢
          rw [if_pos (by omega), Int.toNat_natCast]
          rcases e21 with ⟨y1, y2, y3⟩ | ⟨y1, y2⟩
          · rw [y3, Int.toNat_natCast]
            exact ((hS.2.2.2.1 (by decide)).2.2 c c1).2
          · exact absurd ⟨by omega, by omega⟩ y1
      exact ⟨rfl, congrArg (fun z => some (zI z)) (e.trans (if_pos ⟨hc, by omega⟩).symm)⟩
    · refine zz_gsn 1 rfl ?_
      refine zz_ri rfl (Or.inl rfl) ?_
      exact ⟨rfl, congrArg (fun z => some (zI z)) (if_neg (fun z => absurd z.2 (by omega))).symm⟩
  · refine zz_gsn 4 rfl ?_
    refine zz_cv (n := 3) rfl rfl (t_History_rowOf hD hc) (Nat.le_of_ble_eq_true rfl) (Nat.le_of_ble_eq_true rfl) (Nat.le_of_ble_eq_true rfl) (fun r4 σ4 q4 => ?_)
    obtain ⟨rfl, rfl⟩ := q4
    refine zz_gsn 2 rfl ?_
    refine zz_jp rfl ?_
    refine zz_gsn 1 rfl ?_
    refine zz_ri rfl (Or.inl rfl) ?_
    exact ⟨rfl, congrArg (fun z => some (zI z)) (if_neg (fun z => hc z.1)).symm⟩
