/-! the reference: blanks, letters, digits -/
def zr_rk (t : Int) : Int := if t = 4 then 0 else if t = 0 then 4 else t
/-- the reference's reading at m -/
def RRd (σ : zz_M) (m : Nat) (k : zr_T) : Prop := σ.1 1228 m = (k.n : Nat) ∧ σ.1 1229 m = (k.s : Nat) ∧ σ.1 1230 m = zr_rk k.t ∧ (k.t = 2 → σ.1 1231 m = k.v) ∧ σ.1 1232 m = k.f ∧ σ.1 1233 m = k.p
def RTp (σ : zz_M) (m : Nat) (T : List Int) : Prop := σ.1 1227 m = (T.length : Nat) ∧ ∀ i, i < T.length → σ.2 (m + 13) i = T.getD i 0
def Ft (m : Nat) (σ σ' : zz_M) : Prop := (∀ f a, ¬ (a = m ∧ 1228 ≤ f ∧ f ≤ 1233) → σ'.1 f a = σ.1 f a) ∧ σ'.2 = σ.2
theorem Ft.rf {m : Nat} {σ : zz_M} : Ft m σ σ := ⟨fun _ _ _ => rfl, rfl⟩
theorem Ft.tr {m : Nat} {σ σ1 σ2 : zz_M} (h : Ft m σ σ1) (h2 : Ft m σ1 σ2) : Ft m σ σ2 := ⟨fun f a q => (h2.1 f a q).trans (h.1 f a q), h2.2.trans h.2⟩
theorem Ft.sf {m f : Nat} {σ : zz_M} {x : Int} (hf : 1228 ≤ f ∧ f ≤ 1233) : Ft m σ (zz_sf σ f m x) := ⟨fun f' a q => by rw [sf_1, if_neg (fun z => q ⟨z.2, by omega⟩)], rfl⟩
theorem RTp.f {m : Nat} {σ σ' : zz_M} {T : List Int} (h : RTp σ m T) (hF : Ft m σ σ') : RTp σ' m T := ⟨(hF.1 _ _ (by omega)).trans h.1, fun i hi => by rw [hF.2]; exact h.2 i hi⟩
abbrev zb_ok (T : List Int) : Prop := T.length ≤ 600 ∧ ∀ x ∈ T, -128 ≤ x ∧ x ≤ 127
theorem zz_ab : ∀ n : Fin 256, 0 ≤ zz_and (((n.val : Nat) : Int) - 128) 255 ∧ (zz_and (((n.val : Nat) : Int) - 128) 255 ≤ 127 → zz_and (((n.val : Nat) : Int) - 128) 255 = ((n.val : Nat) : Int) - 128) ∧ (0 ≤ ((n.val : Nat) : Int) - 128 → zz_and (((n.val : Nat) : Int) - 128) 255 = ((n.val : Nat) : Int) - 128) := by decide +kernel
theorem zz_ab2 {x : Int} (h : -128 ≤ x ∧ x ≤ 127) : 0 ≤ zz_and x 255 ∧ (zz_and x 255 ≤ 127 → zz_and x 255 = x) ∧ (0 ≤ x → zz_and x 255 = x) := by
  have z := zz_ab ⟨(x + 128).toNat, by omega⟩
  have e : (((x + 128).toNat : Nat) : Int) - 128 = x := by omega
  dsimp only at z
  rw [e] at z
  exact z
theorem zl_b_o {T : List Int} {i : Nat} (h : ¬ i < T.length) : zl_b T (i : Nat) = -1 := if_neg (fun z => h (by omega))
theorem getD_m {T : List Int} {i : Nat} (h : i < T.length) : T.getD i 0 ∈ T := by
  rw [List.getD_eq_getElem?_getD, List.getElem?_eq_getElem h]
  exact List.getElem_mem h
theorem zl_b_p {T : List Int} {i : Nat} (ok : zb_ok T) (h : i < T.length) : 0 ≤ zl_b T (i : Nat) := by
  rw [zl_b_s h]
  exact (zz_ab2 (ok.2 _ (getD_m h))).1
theorem zl_b_l {T : List Int} {i : Nat} {P : Int → Bool} (hP : P (-1) = false) (h : P (zl_b T (i : Nat)) = true) : i < T.length := by
  rcases Nat.lt_or_ge i T.length with z | z
  · exact z
  · rw [zl_b_o (Nat.not_lt.mpr z), hP] at h
    cases h
theorem t_Mo_see {X : zz_X} {σ : zz_M} {m i : Nat} {T : List Int} (hT : RTp σ m T) (ok : zb_ok T) : zz_T X 1 p_Mo_see [zP 12 0 0 m, zI (i : Nat)] σ (fun r σ' => σ = σ' ∧ r = some (zI (zl_b T (i : Nat)))) := by
  refine zz_mk k_Mo_see o_Mo_see rfl rfl (Nat.le_of_ble_eq_true rfl) ?_
  show zz_G X 1 p_Mo_see 0 [zP 12 0 0 m, zI (i : Nat)] [] σ _
  have ht1 := hT.1
  have hl := ok.1
  refine zz_gsn 3 rfl ?_
  rw [ht1]
  refine zz_br rfl (fun h3 => ?_) (fun h3 => ?_)
  · refine zz_gsn 1 rfl ?_
    refine zz_ri rfl (Or.inl rfl) ?_
    exact ⟨rfl, congrArg (fun z => some (zI z)) (zl_b_o (by omega)).symm⟩
  · refine zz_gsn 3 rfl ?_
    refine zz_ald rfl (⟨by omega, by omega⟩) ?_
    rw [show σ.2 (m + 13) ((i : Nat) : Int).toNat = T.getD i 0 from hT.2 i (by omega)]
    refine zz_gsn 2 rfl ?_
    refine zz_jp rfl ?_
    refine zz_ri rfl (Or.inl rfl) ?_
    exact ⟨rfl, congrArg (fun z => some (zI z)) (zl_b_s (by omega)).symm⟩
theorem lp_abl {X : zz_X} {m E : Nat} {T : List Int} {u1 : zz_V} {σ0 : zz_M} {Post : Option zz_V → zz_M → Prop} (ok : zb_ok T) (kk : ∀ σ' : zz_M, σ'.1 1228 m = (E : Nat) → (∀ f, f ≠ 1228 → σ'.1 f m = σ0.1 f m) → RTp σ' m T → Ft m σ0 σ' → zz_G X 2 p_Mo_advance 19 [zP 12 0 0 m, u1] [] σ' Post) :
    ∀ (r i : Nat) (σ : zz_M), i + r = T.length → σ.1 1228 m = (i : Nat) → (∀ f, f ≠ 1228 → σ.1 f m = σ0.1 f m) → RTp σ m T → Ft m σ0 σ → zr_e zr_bl T i = E → zz_G X 2 p_Mo_advance 0 [zP 12 0 0 m, u1] [] σ Post := by
  intro r
  induction r with
  | zero =>
    intro i σ hi h8 hf hR hF hE
    have hni : ¬ i < T.length := by omega
    have e : zr_e zr_bl T i = i := zr_e_n (fun z => absurd z hni)
    rw [e] at hE
    subst hE
    have eb := zl_b_o hni
    refine zz_gsn 3 rfl ?_
    rw [h8]
    refine zz_cv (n := 2) rfl rfl (t_Mo_see (i := i) hR ok) (Nat.le_of_ble_eq_true rfl) (Nat.le_of_ble_eq_true rfl) (Nat.le_of_ble_eq_true rfl) (fun r3 σ3 q3 => ?_)
    obtain ⟨rfl, rfl⟩ := q3
    rw [eb]
    refine zz_gsn 1 rfl ?_
    refine zz_br rfl (fun h5 => absurd h5 (by decide)) (fun h5 => ?_)
    refine zz_gsn 3 rfl ?_
    rw [h8]
    refine zz_cv (n := 2) rfl rfl (t_Mo_see (i := i) hR ok) (Nat.le_of_ble_eq_true rfl) (Nat.le_of_ble_eq_true rfl) (Nat.le_of_ble_eq_true rfl) (fun r9 σ9 q9 => ?_)
    obtain ⟨rfl, rfl⟩ := q9
    rw [eb]
    refine zz_gsn 1 rfl ?_
    refine zz_br rfl (fun h11 => ?_) (fun h11 => absurd (by first | exact h11 | exact Decidable.not_not.mp h11) (by decide))
    exact kk σ h8 hf hR hF
  | succ r ih =>
    intro i σ hi h8 hf hR hF hE
    have hil : i < T.length := by omega
    have i9 : i + 1 + r = T.length := by omega
    have zs : zw ((i : Int) + 1) = ((i + 1 : Nat) : Int) := zw_s (Nat.lt_of_lt_of_le hil (Nat.le_trans ok.1 (by decide)))
    have hn : zr_bl (zl_b T (i : Nat)) = false → i = E := fun z => (zr_e_n (fun _ => z)).symm.trans hE
    have hy : zr_bl (zl_b T (i : Nat)) = true → zr_e zr_bl T (i + 1) = E := fun z => (zr_e_y hil z).symm.trans hE
    clear hE
    refine zz_gsn 3 rfl ?_
    rw [h8]
    refine zz_cv (n := 2) rfl rfl (t_Mo_see (i := i) hR ok) (Nat.le_of_ble_eq_true rfl) (Nat.le_of_ble_eq_true rfl) (Nat.le_of_ble_eq_true rfl) (fun r3 σ3 q3 => ?_)
    obtain ⟨rfl, rfl⟩ := q3
    refine zz_gsn 1 rfl ?_
    refine zz_br rfl (fun h5 => ?_) (fun h5 => ?_)
    · refine zz_gsn 6 rfl ?_
      refine zz_jp rfl ?_
      have z : zr_bl (zl_b T (i : Nat)) = true := decide_eq_true (Or.inl (by first | exact h5 | exact Decidable.not_not.mp h5))
      rw [h8, zs]
      have F1 : Ft m σ (zz_sf σ 1228 m ((i + 1 : Nat) : Int)) := Ft.sf ⟨by decide, by decide⟩
      exact ih (i + 1) _ i9 (sf_h _ _ _ _) (fun f hf2 => (sf_f _ _ hf2).trans (hf f hf2)) (hR.f F1) (hF.tr F1) (hy z)
    · refine zz_gsn 3 rfl ?_
      rw [h8]
      refine zz_cv (n := 2) rfl rfl (t_Mo_see (i := i) hR ok) (Nat.le_of_ble_eq_true rfl) (Nat.le_of_ble_eq_true rfl) (Nat.le_of_ble_eq_true rfl) (fun r9 σ9 q9 => ?_)
      obtain ⟨rfl, rfl⟩ := q9
      refine zz_gsn 1 rfl ?_
      refine zz_br rfl (fun h11 => ?_) (fun h11 => ?_)
      · have z : zr_bl (zl_b T (i : Nat)) = false := decide_eq_false (fun z => z.elim h5 h11)
        have e := hn z
        subst e
        exact kk σ h8 hf hR hF
      · refine zz_gsn 6 rfl ?_
        refine zz_jp rfl ?_
        have z : zr_bl (zl_b T (i : Nat)) = true := decide_eq_true (Or.inr (by first | exact h11 | exact Decidable.not_not.mp h11))
        rw [h8, zs]
        have F1 : Ft m σ (zz_sf σ 1228 m ((i + 1 : Nat) : Int)) := Ft.sf ⟨by decide, by decide⟩
        exact ih (i + 1) _ i9 (sf_h _ _ _ _) (fun f hf2 => (sf_f _ _ hf2).trans (hf f hf2)) (hR.f F1) (hF.tr F1) (hy z)
theorem lp_ale {X : zz_X} {m E : Nat} {T : List Int} {u1 : Int} {σ0 : zz_M} {Post : Option zz_V → zz_M → Prop} (ok : zb_ok T) (kk : ∀ σ' : zz_M, σ'.1 1228 m = (E : Nat) → (∀ f, f ≠ 1228 → σ'.1 f m = σ0.1 f m) → RTp σ' m T → Ft m σ0 σ' → zz_G X 2 p_Mo_advance 57 [zP 12 0 0 m, zI u1] [] σ' Post) :
    ∀ (r i : Nat) (σ : zz_M), i + r = T.length → σ.1 1228 m = (i : Nat) → (∀ f, f ≠ 1228 → σ.1 f m = σ0.1 f m) → RTp σ m T → Ft m σ0 σ → zr_e zr_le T i = E → zz_G X 2 p_Mo_advance 41 [zP 12 0 0 m, zI u1] [] σ Post := by
  intro r
  induction r with
  | zero =>
    intro i σ hi h8 hf hR hF hE
    have hni : ¬ i < T.length := by omega
    have e : zr_e zr_le T i = i := zr_e_n (fun z => absurd z hni)
    rw [e] at hE
    subst hE
    have eb := zl_b_o hni
    refine zz_gsn 3 rfl ?_
    rw [h8]
    refine zz_cv (n := 2) rfl rfl (t_Mo_see (i := i) hR ok) (Nat.le_of_ble_eq_true rfl) (Nat.le_of_ble_eq_true rfl) (Nat.le_of_ble_eq_true rfl) (fun r44 σ44 q44 => ?_)
    obtain ⟨rfl, rfl⟩ := q44
    rw [eb]
    refine zz_gsn 3 rfl ?_
    refine zz_cs (n := 3) rfl rfl (t_Mo_in) (Nat.le_of_ble_eq_true rfl) (Nat.le_of_ble_eq_true rfl) (Nat.le_of_ble_eq_true rfl) (fun r48 σ48 q48 => ?_)
    obtain ⟨rfl, n48, rfl, e48⟩ := q48
    refine zz_br rfl (fun h49 => ?_) (fun h49 => absurd (e48.elim (fun z => absurd z.2.1 (by decide)) (fun z => z.1)) h49)
    exact kk σ h8 hf hR hF
  | succ r ih =>
    intro i σ hi h8 hf hR hF hE
    have hil : i < T.length := by omega
    have i9 : i + 1 + r = T.length := by omega
    have zs : zw ((i : Int) + 1) = ((i + 1 : Nat) : Int) := zw_s (Nat.lt_of_lt_of_le hil (Nat.le_trans ok.1 (by decide)))
    have hn : zr_le (zl_b T (i : Nat)) = false → i = E := fun z => (zr_e_n (fun _ => z)).symm.trans hE
    have hy : zr_le (zl_b T (i : Nat)) = true → zr_e zr_le T (i + 1) = E := fun z => (zr_e_y hil z).symm.trans hE
    clear hE
    refine zz_gsn 3 rfl ?_
    rw [h8]
    refine zz_cv (n := 2) rfl rfl (t_Mo_see (i := i) hR ok) (Nat.le_of_ble_eq_true rfl) (Nat.le_of_ble_eq_true rfl) (Nat.le_of_ble_eq_true rfl) (fun r44 σ44 q44 => ?_)
    obtain ⟨rfl, rfl⟩ := q44
    refine zz_gsn 3 rfl ?_
    refine zz_cs (n := 3) rfl rfl (t_Mo_in) (Nat.le_of_ble_eq_true rfl) (Nat.le_of_ble_eq_true rfl) (Nat.le_of_ble_eq_true rfl) (fun r48 σ48 q48 => ?_)
    obtain ⟨rfl, n48, rfl, e48⟩ := q48
    refine zz_br rfl (fun h49 => ?_) (fun h49 => ?_)
    · have z : zr_le (zl_b T (i : Nat)) = false := decide_eq_false (e48.elim (fun z => absurd (z.1.symm.trans h49) (by decide)) (fun z => z.2))
      have e := hn z
      subst e
      exact kk σ h8 hf hR hF
    · refine zz_gsn 6 rfl ?_
      refine zz_jp rfl ?_
      have z : zr_le (zl_b T (i : Nat)) = true := decide_eq_true (e48.elim (fun z => z.2) (fun z => absurd z.1 h49))
      rw [h8, zs]
      have F1 : Ft m σ (zz_sf σ 1228 m ((i + 1 : Nat) : Int)) := Ft.sf ⟨by decide, by decide⟩
      exact ih (i + 1) _ i9 (sf_h _ _ _ _) (fun f hf2 => (sf_f _ _ hf2).trans (hf f hf2)) (hR.f F1) (hF.tr F1) (hy z)
theorem zr_capr {v b : Int} (hv : 0 ≤ v ∧ v ≤ 99999) (hb : zr_dg b = true) : min ((99999 : Nat) : Int) (zw (zw (zw (10 * v) + b) - 48)) = min 99999 (10 * v + b - 48) ∧ 0 ≤ min 99999 (10 * v + b - 48) ∧ min 99999 (10 * v + b - 48) ≤ 99999 := by
  have z : 48 ≤ b ∧ b ≤ 57 := of_decide_eq_true hb
  rw [zw_id (x := 10 * v) (by omega) (by omega), zw_id (x := 10 * v + b) (by omega) (by omega), zw_id (by omega) (by omega)]
  omega
theorem lp_adg {X : zz_X} {m E : Nat} {V u1 : Int} {T : List Int} {σ0 : zz_M} {Post : Option zz_V → zz_M → Prop} (ok : zb_ok T) (kk : ∀ σ' : zz_M, σ'.1 1228 m = (E : Nat) → σ'.1 1231 m = V → (∀ f, f ≠ 1228 → f ≠ 1231 → σ'.1 f m = σ0.1 f m) → RTp σ' m T → Ft m σ0 σ' → zz_G X 2 p_Mo_advance 101 [zP 12 0 0 m, zI u1] [] σ' Post) :
    ∀ (r i : Nat) (v : Int) (σ : zz_M), i + r = T.length → σ.1 1228 m = (i : Nat) → σ.1 1231 m = v → 0 ≤ v ∧ v ≤ 99999 → (∀ f, f ≠ 1228 → f ≠ 1231 → σ.1 f m = σ0.1 f m) → RTp σ m T → Ft m σ0 σ → zr_e zr_dg T i = E → zr_v T i v = V → zz_G X 2 p_Mo_advance 70 [zP 12 0 0 m, zI u1] [] σ Post := by
  intro r
  induction r with
  | zero =>
    intro i v σ hi h8 h7 hv hf hR hF hE hV
    have hni : ¬ i < T.length := by omega
    have e : zr_e zr_dg T i = i := zr_e_n (fun z => absurd z hni)
    have e2 : zr_v T i v = v := zr_v_n (fun z => absurd z hni)
    rw [e] at hE
    rw [e2] at hV
    subst hE
    subst hV
    have eb := zl_b_o hni
    refine zz_gsn 3 rfl ?_
    rw [h8]
    refine zz_cv (n := 2) rfl rfl (t_Mo_see (i := i) hR ok) (Nat.le_of_ble_eq_true rfl) (Nat.le_of_ble_eq_true rfl) (Nat.le_of_ble_eq_true rfl) (fun r73 σ73 q73 => ?_)
    obtain ⟨rfl, rfl⟩ := q73
    rw [eb]
    refine zz_gsn 3 rfl ?_
    refine zz_cs (n := 3) rfl rfl (t_Mo_in) (Nat.le_of_ble_eq_true rfl) (Nat.le_of_ble_eq_true rfl) (Nat.le_of_ble_eq_true rfl) (fun r77 σ77 q77 => ?_)
    obtain ⟨rfl, n77, rfl, e77⟩ := q77
    refine zz_br rfl (fun h78 => ?_) (fun h78 => absurd (e77.elim (fun z => absurd z.2.1 (by decide)) (fun z => z.1)) h78)
    exact kk σ h8 h7 hf hR hF
  | succ r ih =>
    intro i v σ hi h8 h7 hv hf hR hF hE hV
    have hil : i < T.length := by omega
    have i9 : i + 1 + r = T.length := by omega
    have zs : zw ((i : Int) + 1) = ((i + 1 : Nat) : Int) := zw_s (Nat.lt_of_lt_of_le hil (Nat.le_trans ok.1 (by decide)))
    have hn : zr_dg (zl_b T (i : Nat)) = false → i = E ∧ v = V := fun z => ⟨(zr_e_n (fun _ => z)).symm.trans hE, (zr_v_n (fun _ => z)).symm.trans hV⟩
    have hy : zr_dg (zl_b T (i : Nat)) = true → zr_e zr_dg T (i + 1) = E ∧ zr_v T (i + 1) (min 99999 (10 * v + zl_b T (i : Nat) - 48)) = V := fun z => ⟨(zr_e_y hil z).symm.trans hE, (zr_v_y hil z).symm.trans hV⟩
    clear hE hV
    refine zz_gsn 3 rfl ?_
    rw [h8]
    refine zz_cv (n := 2) rfl rfl (t_Mo_see (i := i) hR ok) (Nat.le_of_ble_eq_true rfl) (Nat.le_of_ble_eq_true rfl) (Nat.le_of_ble_eq_true rfl) (fun r73 σ73 q73 => ?_)
    obtain ⟨rfl, rfl⟩ := q73
    refine zz_gsn 3 rfl ?_
    refine zz_cs (n := 3) rfl rfl (t_Mo_in) (Nat.le_of_ble_eq_true rfl) (Nat.le_of_ble_eq_true rfl) (Nat.le_of_ble_eq_true rfl) (fun r77 σ77 q77 => ?_)
    obtain ⟨rfl, n77, rfl, e77⟩ := q77
    refine zz_br rfl (fun h78 => ?_) (fun h78 => ?_)
    · have z : zr_dg (zl_b T (i : Nat)) = false := decide_eq_false (e77.elim (fun z => absurd (z.1.symm.trans h78) (by decide)) (fun z => z.2))
      obtain ⟨e, e2⟩ := hn z
      subst e
      subst e2
      exact kk σ h8 h7 hf hR hF
    · refine zz_gsn 5 rfl ?_
      rw [h7]
      refine zz_gsn 4 rfl ?_
      rw [h8]
      refine zz_cv (n := 2) rfl rfl (t_Mo_see (i := i) hR ok) (Nat.le_of_ble_eq_true rfl) (Nat.le_of_ble_eq_true rfl) (Nat.le_of_ble_eq_true rfl) (fun r88 σ88 q88 => ?_)
      obtain ⟨rfl, rfl⟩ := q88
      refine zz_gsn 3 rfl ?_
      refine zz_mth rfl (Nat.le_of_ble_eq_true rfl) (Nat.le_of_ble_eq_true rfl) ?_
      refine zz_gsn 7 rfl ?_
      refine zz_jp rfl ?_
      have z : zr_dg (zl_b T (i : Nat)) = true := decide_eq_true (e77.elim (fun z => z.2) (fun z => absurd z.1 h78))
      obtain ⟨c1, c2, c3⟩ := zr_capr hv z
      obtain ⟨y1, y2⟩ := hy z
      obtain ⟨w, hw⟩ : ∃ w, w = min 99999 (10 * v + zl_b T (i : Nat) - 48) := ⟨_, rfl⟩
      rw [c1, ← hw]
      rw [← hw] at c2 c3 y2
      obtain ⟨σ1, h1⟩ : ∃ s, s = zz_sf σ 1231 m w := ⟨_, rfl⟩
      refine zz_sge (σ' := zz_sf σ1 1228 m ((i + 1 : Nat) : Int)) (by rw [h1, sf_f _ _ (show (1228 : Nat) ≠ 1231 by decide), h8, zs]) ?_
      have F1 : Ft m σ (zz_sf σ1 1228 m ((i + 1 : Nat) : Int)) := (show Ft m σ σ1 from by rw [h1]; exact Ft.sf ⟨by decide, by decide⟩).tr (Ft.sf ⟨by decide, by decide⟩)
      exact ih (i + 1) w _ i9 (sf_h _ _ _ _) ((sf_f _ _ (by decide)).trans (by rw [h1, sf_h])) ⟨c2, c3⟩ (fun f hf2 hf3 => (sf_f _ _ hf2).trans (by rw [h1, sf_f _ _ hf3]; exact hf f hf2 hf3)) (hR.f F1) (hF.tr F1) y1 y2
