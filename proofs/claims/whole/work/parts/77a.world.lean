/-! the class: letters -/
/-- the deed that a letter is -/
def l_kd (law c : Int) : Int := if c = 112 then 0 else if c = 116 then 1 else if law = 2 ∧ c = 102 then 2 else if law = 2 ∧ c = 108 then 3 else -1
theorem l_kd_b (law c : Int) : l_kd law c = -1 ∨ l_kd law c = 0 ∨ l_kd law c = 1 ∨ (law = 2 ∧ (l_kd law c = 2 ∨ l_kd law c = 3)) := by
  unfold l_kd
  split
  · exact Or.inr (Or.inl rfl)
  · split
    · exact Or.inr (Or.inr (Or.inl rfl))
    · split
      · next h => exact Or.inr (Or.inr (Or.inr ⟨h.1, Or.inl rfl⟩))
      · split
        · next h => exact Or.inr (Or.inr (Or.inr ⟨h.1, Or.inr rfl⟩))
        · exact Or.inl rfl
theorem l_kd_o {law c : Int} (h1 : c ≠ 112) (h2 : c ≠ 116) (h3 : ¬ (law = 2 ∧ c = 102)) (h4 : ¬ (law = 2 ∧ c = 108)) : l_kd law c = -1 := by
  unfold l_kd
  rw [if_neg h1, if_neg h2, if_neg h3, if_neg h4]
theorem zz_a255n : ∀ n : Fin 128, zz_and (-((n.val : Nat) : Int) - 1) 255 = 255 - ((n.val : Nat) : Int) := by decide +kernel
theorem l_kd_and {law c : Int} (h : -128 ≤ c ∧ c ≤ 127) : l_kd law (zz_and c 255) = l_kd law c := by
  by_cases h0 : 0 ≤ c
  · rw [zz_a2 ⟨h0, h.2⟩]
  · have z := zz_a255n ⟨(-c - 1).toNat, by omega⟩
    have e : (((-c - 1).toNat : Nat) : Int) = -c - 1 := Int.toNat_of_nonneg (by omega)
    have z : zz_and (-(((-c - 1).toNat : Nat) : Int) - 1) 255 = 255 - (((-c - 1).toNat : Nat) : Int) := z
    rw [e, show -(-c - 1) - 1 = c by omega] at z
    rw [z, l_kd_o (by omega) (by omega) (by omega) (by omega), l_kd_o (by omega) (by omega) (by omega) (by omega)]
/-- letters done, one behind the other -/
def r_wk (law C x : Int) : List Int → zz_W → Int → Int
  | [], _, acc => acc
  | c :: l, W, acc => if l_kd law c = -1 ∨ ((l_kd law c = 1 ∨ l_kd law c = 3) ∧ W.S 11 = 0) then -1 else r_wk law C x l (w_deed law C (-1) (l_kd law c) x W) (acc + w_steps law C (-1) (l_kd law c) x W)
theorem r_wk_x (law C x y : Int) : ∀ (l : List Int) (W W' : zz_W) (acc : Int), w_eq W W' → r_wk law C x l W acc = r_wk law C y l W' acc
  | [], _, _, _, _ => rfl
  | c :: l, W, W', acc, h => by
    show (if l_kd law c = -1 ∨ ((l_kd law c = 1 ∨ l_kd law c = 3) ∧ W.S 11 = 0) then -1 else _) = if l_kd law c = -1 ∨ ((l_kd law c = 1 ∨ l_kd law c = 3) ∧ W'.S 11 = 0) then -1 else _
    rw [show W'.S 11 = W.S 11 by rw [h.2.2]]
    by_cases z : l_kd law c = -1 ∨ ((l_kd law c = 1 ∨ l_kd law c = 3) ∧ W.S 11 = 0)
    · rw [if_pos z, if_pos z]
    · rw [if_neg z, if_neg z]
      have b := l_kd_b law c
      obtain ⟨q1, q2, -⟩ := q_deed (law := law) (C := C) (mk := -1) (mk' := -1) (kind := l_kd law c) (x := x) (x' := y) (by omega) h
      rw [q2]
      exact r_wk_x law C x y l _ _ _ q1
theorem zz_drc {T L : List Int} {i : Nat} {c : Int} (h : T.drop i = c :: L) : i < T.length ∧ T.getD i 0 = c ∧ T.drop (i + 1) = L := by
  have hl : i < T.length := by
    have z := congrArg List.length h
    rw [List.length_drop, List.length_cons] at z
    omega
  rw [List.drop_eq_getElem_cons hl] at h
  injection h with h1 h2
  exact ⟨hl, by rw [List.getD_eq_getElem?_getD, List.getElem?_eq_getElem hl]; exact h1, h2⟩
theorem zlb_at {T : List Int} {i : Nat} {c : Int} (hi : i < T.length) (hc : T.getD i 0 = c) : zl_b T (i : Nat) = zz_and c 255 := by
  unfold zl_b
  rw [if_pos ⟨Int.natCast_nonneg i, Int.ofNat_lt.mpr hi⟩, Int.toNat_natCast, hc]
theorem zz_drn {T : List Int} {i : Nat} (h : T.drop i = []) : T.length ≤ i := by
  have z := congrArg List.length h
  rw [List.length_drop, List.length_nil] at z
  omega
theorem t_Trial_kindOfLetter {X : zz_X} {σ : zz_M} {c law : Int}  : zz_T X 1 p_Trial_kindOfLetter [zI c, zI law] σ (fun r σ' => σ = σ' ∧ r = some (zI (l_kd law c))) := by
  refine zz_mk k_Trial_kindOfLetter o_Trial_kindOfLetter rfl rfl (Nat.le_of_ble_eq_true rfl) ?_
  show zz_G X 1 p_Trial_kindOfLetter 0 [zI c, zI law] [] σ _
  refine zz_gsn 1 rfl ?_
  rcases (show c = 112 ∨ c = 116 ∨ c = 102 ∨ c = 108 ∨ (c ≠ 112 ∧ c ≠ 116 ∧ c ≠ 102 ∧ c ≠ 108) by omega) with hx | hx | hx | hx | hx
  · refine zz_lu 43 2 rfl (by subst hx; rfl) rfl ?_
    refine zz_gsn 1 rfl ?_
    refine zz_ri rfl (Or.inl rfl) ?_
    subst hx
    exact ⟨rfl, rfl⟩
  · refine zz_lu 45 4 rfl (by subst hx; rfl) rfl ?_
    refine zz_gsn 1 rfl ?_
    refine zz_ri rfl (Or.inl rfl) ?_
    subst hx
    exact ⟨rfl, rfl⟩
  · refine zz_lu 47 6 rfl (by subst hx; rfl) rfl ?_
    refine zz_gsn 2 rfl ?_
    refine zz_br rfl (fun h8 => ?_) (fun h8 => ?_)
    · refine zz_gsn 1 rfl ?_
      refine zz_ri rfl (Or.inl rfl) ?_
      subst hx
      exact ⟨rfl, congrArg (fun z => some (zI z)) (l_kd_o (by decide) (by decide) (fun z => h8 z.1) (fun z => h8 z.1)).symm⟩
    · refine zz_gsn 1 rfl ?_
      refine zz_jp rfl ?_
      refine zz_ri rfl (Or.inl rfl) ?_
      subst hx
      have e : law = 2 := by first | exact h8 | exact Decidable.not_not.mp h8
      subst e
      exact ⟨rfl, rfl⟩
  · refine zz_lu 58 13 rfl (by subst hx; rfl) rfl ?_
    refine zz_gsn 2 rfl ?_
    refine zz_br rfl (fun h15 => ?_) (fun h15 => ?_)
    · refine zz_gsn 1 rfl ?_
      refine zz_ri rfl (Or.inl rfl) ?_
      subst hx
      exact ⟨rfl, congrArg (fun z => some (zI z)) (l_kd_o (by decide) (by decide) (fun z => h15 z.1) (fun z => h15 z.1)).symm⟩
    · refine zz_gsn 1 rfl ?_
      refine zz_jp rfl ?_
      refine zz_ri rfl (Or.inl rfl) ?_
      subst hx
      have e : law = 2 := by first | exact h15 | exact Decidable.not_not.mp h15
      subst e
      exact ⟨rfl, rfl⟩
  · refine zz_lu 69 20 rfl (by show (if (102 : Int) = c then (47 : Int) else if (108 : Int) = c then 58 else if (112 : Int) = c then 43 else if (116 : Int) = c then 45 else 69) = 69; rw [if_neg (fun z => hx.2.2.1 z.symm), if_neg (fun z => hx.2.2.2 z.symm), if_neg (fun z => hx.1 z.symm), if_neg (fun z => hx.2.1 z.symm)]) rfl ?_
    refine zz_gsn 1 rfl ?_
    refine zz_ri rfl (Or.inl rfl) ?_
    exact ⟨rfl, congrArg (fun z => some (zI z)) (l_kd_o hx.1 hx.2.1 (fun z => hx.2.2.1 z.2) (fun z => hx.2.2.2 z.2)).symm⟩
