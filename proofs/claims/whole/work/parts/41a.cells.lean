/-! a cell by its place in a row -/
/-- the i-th of a list of cells; NONE: there is none -/
def zl_at (l : List Nat) (i : Nat) : Int := match l[i]? with
  | some x => (x : Int)
  | none => -1
theorem zl_at_s {l : List Nat} {i x : Nat} {t : List Nat} (h : l.drop i = x :: t) : l[i]? = some x ∧ l.drop (i + 1) = t := by
  constructor
  · have z : (l.drop i)[0]? = some x := by rw [h]; rfl
    rw [List.getElem?_drop] at z
    exact z
  · rw [← List.drop_drop, h]
    rfl
theorem lp_cellIn {X : zz_X} {p c r i : Nat} {l : List Nat} {σ : zz_M} {Post : Option zz_V → zz_M → Prop} (hi : i < l.length) (hb : l.length < 100000) (hlt : ∀ x ∈ l, x < p) (kk : Post (some (zI (zl_at l i))) σ) :
    ∀ (f k : Nat) (cell : Int), k + f = i → zz_ch (σ.2 (c + 2)) cell (l.drop k) → zz_G X 2 p_Cells_cellIn 13 [zP 1 p 0 c, zP 7 0 0 r, zI (i : Nat), zI cell, zI (k : Nat)] [] σ Post := by
  intro f
  induction f with
  | zero =>
    intro k cell hk hch
    have e : k = i := by omega
    subst e
    have ec : cell = zl_at l k := by
      cases h : l.drop k with
      | nil =>
        have z := List.drop_eq_nil_iff.mp h
        omega
      | cons x t =>
        rw [h] at hch
        unfold zl_at
        rw [(zl_at_s h).1]
        exact hch.1
    rw [ec]
    refine zz_gsn 2 rfl ?_
    refine zz_br rfl (fun h15 => ?_) (fun h15 => absurd h15 (by omega))
    refine zz_gsn 1 rfl ?_
    refine zz_ri rfl (Or.inl rfl) ?_
    exact kk
  | succ f ih =>
    intro k cell hk hch
    have ei : zw ((k : Int) + 1) = ((k + 1 : Nat) : Int) := by rw [zw_id (by omega) (by omega)]; omega
    cases h : l.drop k with
    | nil =>
      have z := List.drop_eq_nil_iff.mp h
      omega
    | cons x t =>
      rw [h] at hch
      obtain ⟨c1, c2⟩ := hch
      obtain ⟨g1, g2⟩ := zl_at_s h
      have hx : x < p := hlt x (List.mem_of_getElem? g1)
      refine zz_gsn 2 rfl ?_
      refine zz_br rfl (fun h15 => absurd h15 (by omega)) (fun h15 => ?_)
      refine zz_gsn 2 rfl ?_
      refine zz_cv (n := 2) rfl rfl (t_Cells_behind) (Nat.le_of_ble_eq_true rfl) (Nat.le_of_ble_eq_true rfl) (Nat.le_of_ble_eq_true rfl) (fun r18 σ18 q18 => ?_)
      obtain ⟨rfl, n18, rfl, e18⟩ := q18
      have en : n18 = σ.2 (c + 2) x := by
        rcases e18 with ⟨-, -, e18⟩ | ⟨e18, -⟩
        · rw [e18, c1, Int.toNat_natCast]
        · exact absurd ⟨by omega, by omega⟩ e18
      refine zz_gsn 2 rfl ?_
      refine zz_jp rfl ?_
      rw [ei]
      exact ih (k + 1) n18 (by omega) (by rw [en, g2]; exact c2)
theorem t_Cells_cellIn {X : zz_X} {σ : zz_M} {p c r : Nat} {i : Int} {l : List Nat} (hch : zz_ch (σ.2 (c + 2)) (σ.1 700 r) l) (hlen : σ.1 701 r = (l.length : Nat)) (hb : l.length < 100000) (hlt : ∀ x ∈ l, x < p) : zz_T X 2 p_Cells_cellIn [zP 1 p 0 c, zP 7 0 0 r, zI i] σ (fun r σ' => σ = σ' ∧ r = some (zI (if 0 ≤ i then zl_at l i.toNat else -1))) := by
  refine zz_mk k_Cells_cellIn o_Cells_cellIn rfl rfl (Nat.le_of_ble_eq_true rfl) ?_
  show zz_G X 2 p_Cells_cellIn 0 [zP 1 p 0 c, zP 7 0 0 r, zI i, zU, zU] [] σ _
  refine zz_gsn 1 rfl ?_
  refine zz_br rfl (fun h1 => ?_) (fun h1 => ?_)
  · refine zz_gsn 1 rfl ?_
    refine zz_ri rfl (Or.inl rfl) ?_
    rw [if_neg (by omega)]
    exact ⟨rfl, rfl⟩
  · refine zz_gsn 3 rfl ?_
    refine zz_br rfl (fun h5 => ?_) (fun h5 => ?_)
    · refine zz_gsn 5 rfl ?_
      rw [if_pos (by omega)]
      refine zz_lse (ls' := [zP 1 p 0 c, zP 7 0 0 r, zI (i.toNat : Nat), zI (σ.1 700 r), zI (0 : Nat)]) (by rw [Int.toNat_of_nonneg (by omega)]; rfl) ?_
      exact lp_cellIn (by omega) hb hlt ⟨rfl, rfl⟩ i.toNat 0 _ (Nat.zero_add _) hch
    · refine zz_gsn 1 rfl ?_
      refine zz_ri rfl (Or.inl rfl) ?_
      have e : zl_at l i.toNat = -1 := by
        unfold zl_at
        rw [List.getElem?_eq_none (by omega)]
      rw [if_pos (by omega), e]
      exact ⟨rfl, rfl⟩
