/-! a house and its deeds -/
/-- a HOUSE and its DEEDS: housed, LAW, C, how many were told, how many, each -/
abbrev zz_I : Type := Int × Int × Int × Nat × Nat × zz_D
abbrev zz_I.ho (I : zz_I) : Int := I.1
abbrev zz_I.law (I : zz_I) : Int := I.2.1
abbrev zz_I.C (I : zz_I) : Int := I.2.2.1
abbrev zz_I.told (I : zz_I) : Nat := I.2.2.2.1
abbrev zz_I.k (I : zz_I) : Nat := I.2.2.2.2.1
abbrev zz_I.D (I : zz_I) : zz_D := I.2.2.2.2.2
def IH (I : zz_I) : zz_H := hh I.law I.C I.D I.k
def i_ok (I : zz_I) : Prop := h_ok I.law I.C I.k I.D ∧ ((I.ho = 0 ∧ I.law = 0 ∧ I.C = 0 ∧ I.told = 0 ∧ I.k = 0) ∨ (I.ho = 1 ∧ 2 ≤ I.C ∧ I.C ≤ 4 ∧ I.told ≤ I.k ∧ I.told ≤ 40))
def i_fx (I : zz_I) : Prop := ∀ j, j < I.k → (I.D j).2.2 = h_x (I.D j) (hh I.law I.C I.D j)
def i_fix (I : zz_I) : zz_I := (I.ho, I.law, I.C, I.told, I.k, fun j => ((I.D j).1, (I.D j).2.1, h_x (I.D j) (hh I.law I.C I.D j)))
def i_act (I : zz_I) (kind : Int) (base : Nat) (x : Int) : zz_I := (I.ho, I.law, I.C, I.told, I.k + 1, zu I.D I.k (kind, base, h_x (kind, base, x) (IH I)))
def i_cut (I : zz_I) (j : Nat) : zz_I := (I.ho, I.law, I.C, I.told, j, I.D)
theorem hh_c {law C : Int} {D D' : zz_D} : ∀ {j : Nat}, (∀ i, i < j → D i = D' i) → hh law C D j = hh law C D' j
  | 0, _ => rfl
  | j + 1, h => by
    show h_one law C j (D j) (hh law C D j) = h_one law C j (D' j) (hh law C D' j)
    rw [hh_c (j := j) (fun i hi => h i (by omega)), h j (by omega)]
theorem zq_chg_n {kind x y : Int} {q : zq_T} (h : kind = 0 ∨ kind = 2 → x = y) : zq_chg kind x q = zq_chg kind y q := by
  unfold zq_chg
  by_cases h0 : kind = 0
  · rw [if_pos h0, if_pos h0, h (Or.inl h0)]
  · rw [if_neg h0, if_neg h0]
    by_cases h2 : kind = 2
    · rw [if_pos h2, if_pos h2, h (Or.inr h2)]
    · rw [if_neg h2, if_neg h2]
theorem zq_num_n {kind x y : Int} {q : zq_T} (h : kind = 0 ∨ kind = 2 → x = y) : zq_num kind x q = zq_num kind y q := by
  unfold zq_num
  by_cases h0 : kind = 0 ∨ kind = 2
  · rw [if_pos h0, if_pos h0, h h0]
  · rw [if_neg h0, if_neg h0]
theorem h_x_p {e : Int × Nat × Int} {H : zz_H} (h : e.1 = 0 ∨ e.1 = 2) : h_x e H = e.2.2 := if_pos h
theorem h_x_n {k : Int} {b : Nat} {x y : Int} {H : zz_H} (h : k = 0 ∨ k = 2 → x = y) : h_x (k, b, x) H = h_x (k, b, y) H := zq_num_n h
theorem h_one_n {law C : Int} {j : Nat} {k : Int} {b : Nat} {x y : Int} {H : zz_H} (h : k = 0 ∨ k = 2 → x = y) : h_one law C j (k, b, x) H = h_one law C j (k, b, y) H := by
  have e1 := h_x_n (b := b) (H := H) h
  have e2 := zq_chg_n (q := H.Q b) h
  have e3 : h_w law C j (k, b, x) H = h_w law C j (k, b, y) H := by
    show w_deed law C (j : Nat) k (h_x (k, b, x) H) (hw H b) = w_deed law C (j : Nat) k (h_x (k, b, y) H) (hw H b)
    rw [e1]
  show ((h_w law C j (k, b, x) H).n, (h_w law C j (k, b, x) H).num, (h_w law C j (k, b, x) H).mkr, zu H.V (j + 1) ((h_w law C j (k, b, x) H).R, (h_w law C j (k, b, x) H).S), zu H.Q (j + 1) (zq_chg k x (H.Q b)), zu H.sp j (w_steps law C (j : Nat) k (h_x (k, b, x) H) (hw H b)), zu H.lt j (w_over law C (j : Nat) k (h_x (k, b, x) H) (hw H b)), zu H.bf j H.n) = _
  rw [e3, e2, e1]
  rfl
theorem h_one_x (law C : Int) (j : Nat) (e : Int × Nat × Int) (H : zz_H) : h_one law C j (e.1, e.2.1, h_x e H) H = h_one law C j e H := h_one_n (fun z => h_x_p z)
theorem hh_fix {law C : Int} {D : zz_D} : ∀ j : Nat, hh law C (fun j => ((D j).1, (D j).2.1, h_x (D j) (hh law C D j))) j = hh law C D j
  | 0 => rfl
  | j + 1 => by
    show h_one law C j ((D j).1, (D j).2.1, h_x (D j) (hh law C D j)) (hh law C (fun j => ((D j).1, (D j).2.1, h_x (D j) (hh law C D j))) j) = h_one law C j (D j) (hh law C D j)
    rw [hh_fix j]
    exact h_one_x law C j (D j) _
theorem h_st_n {law : Int} {j : Nat} {k : Int} {b : Nat} {x y : Int} {H : zz_H} (h : k = 0 ∨ k = 2 → x = y) (hs : h_st law j (k, b, x) H) : h_st law j (k, b, y) H := ⟨hs.1, hs.2.1, hs.2.2.1, hs.2.2.2.1, fun z => by have := hs.2.2.2.2 z; rw [h z] at this; exact this⟩
theorem h_x_x (e : Int × Nat × Int) (H : zz_H) : h_x (e.1, e.2.1, h_x e H) H = h_x e H := zq_num_n (fun z => h_x_p z)
theorem i_fix_ok {I : zz_I} (h : i_ok I) : i_ok (i_fix I) := ⟨⟨h.1.1, h.1.2.1, h.1.2.2.1, fun j hj => by
  show h_st I.law j ((I.D j).1, (I.D j).2.1, h_x (I.D j) (hh I.law I.C I.D j)) (hh I.law I.C (fun j => ((I.D j).1, (I.D j).2.1, h_x (I.D j) (hh I.law I.C I.D j))) j)
  rw [hh_fix]
  exact h_st_n (x := (I.D j).2.2) (fun z => (h_x_p z).symm) (h.1.2.2.2 j hj)⟩, h.2⟩
theorem i_fix_fx (I : zz_I) : i_fx (i_fix I) := fun j _ => by
  show h_x (I.D j) (hh I.law I.C I.D j) = h_x ((I.D j).1, (I.D j).2.1, h_x (I.D j) (hh I.law I.C I.D j)) (hh I.law I.C (fun j => ((I.D j).1, (I.D j).2.1, h_x (I.D j) (hh I.law I.C I.D j))) j)
  rw [hh_fix, h_x_x]
theorem IH_fix (I : zz_I) : IH (i_fix I) = IH I := hh_fix _
theorem hh_act (I : zz_I) (kind : Int) (base : Nat) (x : Int) {j : Nat} (hj : j ≤ I.k) : hh I.law I.C (i_act I kind base x).D j = hh I.law I.C I.D j := hh_c (fun i hi => zu_n _ _ (by omega))
theorem IH_act (I : zz_I) (kind : Int) (base : Nat) (x : Int) : IH (i_act I kind base x) = h_one I.law I.C I.k (kind, base, x) (IH I) := by
  show h_one I.law I.C I.k (zu I.D I.k (kind, base, h_x (kind, base, x) (IH I)) I.k) (hh I.law I.C (zu I.D I.k (kind, base, h_x (kind, base, x) (IH I))) I.k) = _
  rw [zu_s, hh_c (D' := I.D) (fun i hi => zu_n _ _ (by omega))]
  exact h_one_x I.law I.C I.k (kind, base, x) (IH I)
theorem i_act_ok {I : zz_I} {kind : Int} {base : Nat} {x : Int} (h : i_ok I) (hf : i_fx I) (h1 : I.ho = 1) (hk : I.k < 60) (hs : h_st I.law I.k (kind, base, x) (IH I)) : i_ok (i_act I kind base x) ∧ i_fx (i_act I kind base x) := by
  have hk1 : 2 ≤ I.C ∧ I.C ≤ 4 ∧ I.told ≤ I.k ∧ I.told ≤ 40 := by
    rcases h.2 with z | z
    · omega
    · exact z.2
  refine ⟨⟨⟨h.1.1, fun _ => ⟨hk1.1, hk1.2.1⟩, hk, fun j hj => ?_⟩, Or.inr ⟨h1, hk1.1, hk1.2.1, ?_, hk1.2.2.2⟩⟩, fun j hj => ?_⟩
  · have hj2 : j < I.k + 1 := hj
    show h_st I.law j (zu I.D I.k (kind, base, h_x (kind, base, x) (IH I)) j) (hh I.law I.C (i_act I kind base x).D j)
    rw [hh_act _ _ _ _ (by omega)]
    by_cases e : j = I.k
    · subst e
      rw [zu_s]
      exact h_st_n (x := x) (fun z => (h_x_p (e := (kind, base, x)) z).symm) hs
    · rw [zu_n _ _ e]
      exact h.1.2.2.2 j (by omega)
  · show I.told ≤ I.k + 1
    omega
  · have hj2 : j < I.k + 1 := hj
    show (zu I.D I.k (kind, base, h_x (kind, base, x) (IH I)) j).2.2 = h_x (zu I.D I.k (kind, base, h_x (kind, base, x) (IH I)) j) (hh I.law I.C (i_act I kind base x).D j)
    rw [hh_act _ _ _ _ (by omega)]
    by_cases e : j = I.k
    · subst e
      rw [zu_s]
      exact (h_x_x (kind, base, x) (IH I)).symm
    · rw [zu_n _ _ e]
      exact hf j (by omega)
theorem i_cut_ok {I : zz_I} {j : Nat} (h : i_ok I) (hf : i_fx I) (hj : j ≤ I.k) (ht : I.told ≤ j) : i_ok (i_cut I j) ∧ i_fx (i_cut I j) := by
  refine ⟨⟨h.1.le hj, ?_⟩, fun i hi => hf i (Nat.lt_of_lt_of_le hi hj)⟩
  rcases h.2 with ⟨a, b, c, d, e⟩ | ⟨a, b, c, d, e⟩
  · exact Or.inl ⟨a, b, c, d, by show j = 0; omega⟩
  · exact Or.inr ⟨a, b, c, ht, e⟩
/-- what stays of it when deeds go -/
theorem hh_le {law C : Int} {D : zz_D} {j : Nat} : ∀ {k : Nat}, j ≤ k → h_ok law C k D → (∀ v, v ≤ j → (hh law C D k).V v = (hh law C D j).V v ∧ (hh law C D k).Q v = (hh law C D j).Q v) ∧ (∀ i, i < j → (hh law C D k).sp i = (hh law C D j).sp i ∧ (hh law C D k).lt i = (hh law C D j).lt i ∧ (hh law C D k).bf i = (hh law C D j).bf i) ∧ (hh law C D j).n ≤ (hh law C D k).n ∧ (∀ c, c < (hh law C D j).n → (hh law C D k).num c = (hh law C D j).num c ∧ (hh law C D k).mkr c = (hh law C D j).mkr c) ∧ (j < k → (hh law C D k).bf j = (hh law C D j).n) := by
  intro k
  induction k with
  | zero =>
    intro hj _
    have e : j = 0 := by omega
    subst e
    exact ⟨fun _ _ => ⟨rfl, rfl⟩, fun _ _ => ⟨rfl, rfl, rfl⟩, Nat.le_refl _, fun _ _ => ⟨rfl, rfl⟩, fun z => absurd z (Nat.lt_irrefl 0)⟩
  | succ k ih =>
    intro hj ho
    by_cases e : j = k + 1
    · subst e
      exact ⟨fun _ _ => ⟨rfl, rfl⟩, fun _ _ => ⟨rfl, rfl, rfl⟩, Nat.le_refl _, fun _ _ => ⟨rfl, rfl⟩, fun z => absurd z (Nat.lt_irrefl _)⟩
    · obtain ⟨a1, a2, a3, a4, a5⟩ := ih (by omega) (ho.le (Nat.le_succ k))
      obtain ⟨x1, x2⟩ := x_deed law C (k : Nat) (D k).1 (h_x (D k) (hh law C D k)) (hw (hh law C D k) (D k).2.1) (ho.2.2.2 k (Nat.lt_succ_self k)).2.1
      have en : (hh law C D k).n ≤ (hh law C D (k + 1)).n := x1
      have ex : ∀ c, c < (hh law C D k).n → (hh law C D (k + 1)).num c = (hh law C D k).num c ∧ (hh law C D (k + 1)).mkr c = (hh law C D k).mkr c := x2
      have eV : ∀ v, v ≠ k + 1 → (hh law C D (k + 1)).V v = (hh law C D k).V v ∧ (hh law C D (k + 1)).Q v = (hh law C D k).Q v := fun v hv => ⟨zu_n _ _ hv, zu_n _ _ hv⟩
      have es : ∀ i, i ≠ k → (hh law C D (k + 1)).sp i = (hh law C D k).sp i ∧ (hh law C D (k + 1)).lt i = (hh law C D k).lt i ∧ (hh law C D (k + 1)).bf i = (hh law C D k).bf i := fun i hi => ⟨zu_n _ _ hi, zu_n _ _ hi, zu_n _ _ hi⟩
      have eb : (hh law C D (k + 1)).bf k = (hh law C D k).n := zu_s _ _ _
      refine ⟨fun v hv => ?_, fun i hi => ?_, Nat.le_trans a3 en, fun c hc => ?_, fun _ => ?_⟩
      · obtain ⟨b1, b2⟩ := eV v (by omega)
        rw [b1, b2]
        exact a1 v hv
      · obtain ⟨b1, b2, b3⟩ := es i (by omega)
        rw [b1, b2, b3]
        exact a2 i hi
      · obtain ⟨b1, b2⟩ := ex c (by omega)
        rw [b1, b2]
        exact a4 c hc
      · by_cases z : j = k
        · subst z
          exact eb
        · rw [(es j z).2.2]
          exact a5 (by omega)
theorem hh_v0 (law C : Int) (D : zz_D) : ∀ k, (hh law C D k).V 0 = h0.V 0 ∧ (hh law C D k).Q 0 = h0.Q 0
  | 0 => ⟨rfl, rfl⟩
  | k + 1 => by
    have e : ∀ v, v ≠ k + 1 → (hh law C D (k + 1)).V v = (hh law C D k).V v ∧ (hh law C D (k + 1)).Q v = (hh law C D k).Q v := fun v hv => ⟨zu_n _ _ hv, zu_n _ _ hv⟩
    obtain ⟨e1, e2⟩ := e 0 (by omega)
    exact ⟨e1.trans (hh_v0 law C D k).1, e2.trans (hh_v0 law C D k).2⟩
