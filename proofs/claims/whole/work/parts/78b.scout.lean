/-! the class: fewest deeds -/
/-- the first level of l from i on whose most is v or more, from 1 -/
def s_few (f : Nat → Int) (v : Int) : Nat → Nat → Int
  | 0, _ => -1
  | r + 1, i => if v ≤ f i then ((i + 1 : Nat) : Int) else s_few f v r (i + 1)
theorem lp_few {X : zz_X} {s : Nat} {v : Int} {σ : zz_M} {Post : Option zz_V → zz_M → Prop} (kk : Post (some (zI (s_few (fun i => σ.2 (s + 3) i) v 6 0))) σ) :
    ∀ (r i : Nat), i + r = 6 → s_few (fun i => σ.2 (s + 3) i) v r i = s_few (fun i => σ.2 (s + 3) i) v 6 0 → zz_G X 1 p_Scout_fewestFor 2 [zP 8 0 0 s, zI v, zI (i : Nat)] [] σ Post := by
  intro r
  induction r with
  | zero =>
    intro i hi hr
    have e : s_few (fun i => σ.2 (s + 3) i) v 0 i = -1 := rfl
    rw [← hr, e] at kk
    clear hr
    refine zz_gsn 2 rfl ?_
    refine zz_br rfl (fun h4 => ?_) (fun h4 => absurd h4 (by omega))
    refine zz_gsn 1 rfl ?_
    refine zz_ri rfl (Or.inl rfl) ?_
    exact kk
  | succ r ih =>
    intro i hi hr
    have hy : v ≤ σ.2 (s + 3) i → s_few (fun i => σ.2 (s + 3) i) v (r + 1) i = ((i + 1 : Nat) : Int) := fun z => if_pos z
    have hn : ¬ v ≤ σ.2 (s + 3) i → s_few (fun i => σ.2 (s + 3) i) v (r + 1) i = s_few (fun i => σ.2 (s + 3) i) v r (i + 1) := fun z => if_neg z
    have i6 : ¬ (i : Int) ≥ 6 := by clear hr hy hn; omega
    have ob : 0 ≤ (i : Int) ∧ (i : Int) < 6 := by clear hr hy hn; omega
    have q4 : zw ((i : Int) + 1) = ((i + 1 : Nat) : Int) := zw_s (by clear hr hy hn; omega)
    have q5 : i + 1 + r = 6 := by clear hr hy hn q4; omega
    refine zz_gsn 2 rfl ?_
    refine zz_br rfl (fun h4 => absurd h4 i6) (fun h4 => ?_)
    refine zz_gsn 3 rfl ?_
    refine zz_ald rfl (ob) ?_
    refine zz_gsn 1 rfl ?_
    refine zz_br rfl (fun h10 => ?_) (fun h10 => ?_)
    · refine zz_gsn 1 rfl ?_
      refine zz_jp rfl ?_
      rw [q4]
      exact ih (i + 1) q5 ((hn (Int.not_le.mpr h10)).symm.trans hr)
    · refine zz_gsn 3 rfl ?_
      refine zz_ri rfl (Or.inl rfl) ?_
      rw [q4, ← hy (by first | exact h10 | exact Int.not_lt.mp h10), hr]
      exact kk
theorem t_Scout_fewestFor {X : zz_X} {σ : zz_M} {s : Nat} {v : Int}  : zz_T X 1 p_Scout_fewestFor [zP 8 0 0 s, zI v] σ (fun r σ' => σ = σ' ∧ r = some (zI (s_few (fun i => σ.2 (s + 3) i) v 6 0))) := by
  refine zz_mk k_Scout_fewestFor o_Scout_fewestFor rfl rfl (Nat.le_of_ble_eq_true rfl) ?_
  show zz_G X 1 p_Scout_fewestFor 0 [zP 8 0 0 s, zI v, zU] [] σ _
  refine zz_gsn 2 rfl ?_
  exact lp_few ⟨rfl, rfl⟩ 6 0 rfl rfl
