/-! what the deeds make -/
/-- what DEEDS make: cells (how many, numbers, makers), rows and more of each VERSION, QUEUES, STEPS, overdue, cells ahead -/
abbrev zz_H : Type := Nat × (Nat → Int) × (Nat → Int) × (Nat → (Nat → List Nat) × (Nat → Int)) × (Nat → zq_T) × (Nat → Int) × (Nat → Int) × (Nat → Nat)
abbrev zz_H.n (H : zz_H) : Nat := H.1
abbrev zz_H.num (H : zz_H) : Nat → Int := H.2.1
abbrev zz_H.mkr (H : zz_H) : Nat → Int := H.2.2.1
abbrev zz_H.V (H : zz_H) : Nat → (Nat → List Nat) × (Nat → Int) := H.2.2.2.1
abbrev zz_H.Q (H : zz_H) : Nat → zq_T := H.2.2.2.2.1
abbrev zz_H.sp (H : zz_H) : Nat → Int := H.2.2.2.2.2.1
abbrev zz_H.lt (H : zz_H) : Nat → Int := H.2.2.2.2.2.2.1
abbrev zz_H.bf (H : zz_H) : Nat → Nat := H.2.2.2.2.2.2.2
def hw (H : zz_H) (v : Nat) : zz_W := (H.n, H.num, H.mkr, (H.V v).1, (H.V v).2)
def h0 : zz_H := (0, fun _ => 0, fun _ => 0, fun _ => (fun _ => [], fun _ => 0), fun _ => (0, fun _ => 0), fun _ => 0, fun _ => 0, fun _ => 0)
/-- the number put or taken -/
def h_x (e : Int × Nat × Int) (H : zz_H) : Int := zq_num e.1 e.2.2 (H.Q e.2.1)
def h_w (law C : Int) (j : Nat) (e : Int × Nat × Int) (H : zz_H) : zz_W := w_deed law C (j : Nat) e.1 (h_x e H) (hw H e.2.1)
def h_one (law C : Int) (j : Nat) (e : Int × Nat × Int) (H : zz_H) : zz_H := ((h_w law C j e H).n, (h_w law C j e H).num, (h_w law C j e H).mkr, zu H.V (j + 1) ((h_w law C j e H).R, (h_w law C j e H).S), zu H.Q (j + 1) (zq_chg e.1 e.2.2 (H.Q e.2.1)), zu H.sp j (w_steps law C (j : Nat) e.1 (h_x e H) (hw H e.2.1)), zu H.lt j (w_over law C (j : Nat) e.1 (h_x e H) (hw H e.2.1)), zu H.bf j H.n)
def hh (law C : Int) (D : zz_D) : Nat → zz_H
  | 0 => h0
  | j + 1 => h_one law C j (D j) (hh law C D j)
/-- a deed that can be done -/
def h_st (law : Int) (j : Nat) (e : Int × Nat × Int) (H : zz_H) : Prop := e.2.1 ≤ j ∧ (0 ≤ e.1 ∧ e.1 ≤ 3) ∧ (law ≠ 2 → e.1 ≤ 1) ∧ (e.1 = 1 ∨ e.1 = 3 → 0 < (H.Q e.2.1).1) ∧ (e.1 = 0 ∨ e.1 = 2 → 0 ≤ e.2.2 ∧ e.2.2 ≤ 99)
def h_ok (law C : Int) (k : Nat) (D : zz_D) : Prop := (0 ≤ law ∧ law ≤ 2) ∧ (0 < k → 2 ≤ C ∧ C ≤ 4) ∧ k ≤ 60 ∧ ∀ j, j < k → h_st law j (D j) (hh law C D j)
theorem h_ok.le {law C : Int} {k k' : Nat} {D : zz_D} (h : h_ok law C k D) (hk : k' ≤ k) : h_ok law C k' D := ⟨h.1, fun z => h.2.1 (by omega), by have := h.2.2.1; omega, fun j hj => h.2.2.2 j (by omega)⟩
theorem h_ok.zd {law C : Int} {k : Nat} {D : zz_D} (h : h_ok law C k D) : zd_ok k D := fun j hj => (h.2.2.2 j hj).1
/-- what stays true of it -/
def h_in (law : Int) (j : Nat) (H : zz_H) : Prop :=
  (∀ v, v ≤ j → IV law v (hw H v) ∧ (hw H v).S 11 = ((H.Q v).1 : Nat) ∧ ∀ i, i < (H.Q v).1 → 0 ≤ (H.Q v).2 i ∧ (H.Q v).2 i ≤ 99)
  ∧ (∀ v, v ≤ j → w_ok H.n (-1) (hw H v))
  ∧ (law ≠ 1 → 2 * H.n ≤ j * (j + 3)) ∧ (law = 1 → H.n ≤ 5 * j)
  ∧ (∀ i, i < j → H.bf i ≤ H.n ∧ (i + 1 < j → H.bf i ≤ H.bf (i + 1)) ∧ 0 < H.sp i ∧ (H.lt i = 0 ∨ H.lt i = 1))
  ∧ (∀ c, c < H.n → ∃ i, i < j ∧ H.mkr c = (i : Nat) ∧ H.bf i ≤ c ∧ ∀ i', i < i' → i' < j → c < H.bf i')
theorem h_in_0 {law : Int} (hl : 0 ≤ law ∧ law ≤ 2) : h_in law 0 h0 := by
  refine ⟨fun v hv => ⟨⟨?_, Int.le_refl _, ?_⟩, rfl, fun i hi => absurd hi (Nat.not_lt_zero i)⟩, fun v hv => ⟨fun k c hc => absurd hc List.not_mem_nil, fun c hc => absurd hc (Nat.not_lt_zero c), fun c _ hc => absurd hc (Nat.not_lt_zero c)⟩, fun _ => Nat.le_refl _, fun _ => Nat.le_refl _, fun i hi => absurd hi (Nat.not_lt_zero i), fun c hc => absurd hc (Nat.not_lt_zero c)⟩
  · have h3 : law = 0 ∨ law = 1 ∨ law = 2 := by omega
    rcases h3 with e | e | e
    · exact Or.inl ⟨e, fun _ _ _ => rfl, fun _ _ _ => rfl, rfl⟩
    · exact Or.inr (Or.inl ⟨e, rfl, rfl, rfl, Or.inl ⟨⟨rfl, rfl, rfl, rfl, rfl, rfl, rfl⟩, Int.le_refl _⟩⟩)
    · exact Or.inr (Or.inr ⟨e, fun _ _ _ => rfl, fun _ _ _ => rfl, rfl, Int.le_refl _, Int.natCast_nonneg v, Int.le_refl _, Int.natCast_nonneg v⟩)
  · exact Int.natCast_nonneg v
theorem IV.up {law : Int} {B B' : Nat} {W : zz_W} (h : IV law B W) (hB : B ≤ B') : IV law B' W := by
  obtain ⟨h1, h2, h3⟩ := h
  refine ⟨?_, h2, by omega⟩
  rcases h1 with h | h | ⟨e, z1, z2, z3, z4, z5, z6, z7⟩
  · exact Or.inl h
  · exact Or.inr (Or.inl h)
  · exact Or.inr (Or.inr ⟨e, z1, z2, z3, z4, by omega, z6, by omega⟩)
theorem IV.pl {law : Int} {B : Nat} {W W' : zz_W} (h : IV law B W) (hR : W'.R = W.R) (hS : W'.S = W.S) : IV law B W' := by
  obtain ⟨n, nu, mk, R, S⟩ := W
  obtain ⟨n', nu', mk', R', S'⟩ := W'
  obtain rfl : R' = R := hR
  obtain rfl : S' = S := hS
  exact h
theorem zq_ck {kind x : Int} {q : zq_T} (hk : 0 ≤ kind ∧ kind ≤ 3) (hq : ∀ i, i < q.1 → 0 ≤ q.2 i ∧ q.2 i ≤ 99) (hx : kind = 0 ∨ kind = 2 → 0 ≤ x ∧ x ≤ 99) (hp : kind = 1 ∨ kind = 3 → 0 < q.1) :
    (∀ i, i < (zq_chg kind x q).1 → 0 ≤ (zq_chg kind x q).2 i ∧ (zq_chg kind x q).2 i ≤ 99) ∧ (((zq_chg kind x q).1 : Nat) : Int) = (q.1 : Int) + (if kind = 0 ∨ kind = 2 then 1 else -1) ∧ 0 ≤ zq_num kind x q ∧ zq_num kind x q ≤ 99 := by
  have ins : ∀ pl, pl ≤ q.1 → 0 ≤ x ∧ x ≤ 99 → ∀ i, i < (zq_ins pl x q).1 → 0 ≤ (zq_ins pl x q).2 i ∧ (zq_ins pl x q).2 i ≤ 99 := fun pl hpl hx i hi => by
    have hi2 : i < q.1 + 1 := hi
    show 0 ≤ (if i < pl then q.2 i else if i = pl then x else q.2 (i - 1)) ∧ (if i < pl then q.2 i else if i = pl then x else q.2 (i - 1)) ≤ 99
    by_cases h1 : i < pl
    · rw [if_pos h1]; exact hq i (by omega)
    · rw [if_neg h1]
      by_cases h2 : i = pl
      · rw [if_pos h2]; exact hx
      · rw [if_neg h2]; exact hq (i - 1) (by omega)
  have rem : ∀ pl, ∀ i, i < (zq_rem pl q).1 → 0 ≤ (zq_rem pl q).2 i ∧ (zq_rem pl q).2 i ≤ 99 := fun pl i hi => by
    have hi2 : i < q.1 - 1 := hi
    show 0 ≤ (if i < pl then q.2 i else q.2 (i + 1)) ∧ (if i < pl then q.2 i else q.2 (i + 1)) ≤ 99
    by_cases h1 : i < pl
    · rw [if_pos h1]; exact hq i (by omega)
    · rw [if_neg h1]; exact hq (i + 1) (by omega)
  have h4 : kind = 0 ∨ kind = 1 ∨ kind = 2 ∨ kind = 3 := by omega
  rcases h4 with e | e | e | e <;> subst e
  · have z := hx (Or.inl rfl)
    exact ⟨ins q.1 (Nat.le_refl _) z, rfl, z⟩
  · have z := hp (Or.inl rfl)
    exact ⟨rem 0, by show ((q.1 - 1 : Nat) : Int) = (q.1 : Int) + -1; omega, hq 0 z⟩
  · have z := hx (Or.inr rfl)
    exact ⟨ins 0 (Nat.zero_le _) z, rfl, z⟩
  · have z := hp (Or.inr rfl)
    exact ⟨rem (q.1 - 1), by show ((q.1 - 1 : Nat) : Int) = (q.1 : Int) + -1; omega, hq (q.1 - 1) (by omega)⟩
theorem w_steps_p {law C mk kind x : Int} {B : Nat} {W : zz_W} (h : IV law B W) (hk : 0 ≤ kind ∧ kind ≤ 3) : 0 < w_steps law C mk kind x W := by
  have hb := (IV_bd h).2.1
  obtain ⟨-, -, -, c9, c10, -⟩ := w_chg_B law mk kind x W hk
  obtain ⟨W1, hW1⟩ : ∃ W1, W1 = w_chg law mk kind x W := ⟨_, rfl⟩
  by_cases h0 : law = 0
  · rw [(w_deed_0 h0).2.1]
    have : 0 ≤ w_allS (w_chg law mk kind x W) := by
      unfold w_allS
      split
      · exact Int.natCast_nonneg _
      · exact Int.le_refl _
    omega
  · by_cases h1 : law = 1
    · rw [(w_deed_1 h1).2.1]
      have a := w_trnS_b (w_b (w_chg law mk kind x W))
      have b := w_trnS_b (w_trn mk (w_b (w_chg law mk kind x W)))
      unfold w_oneS
      omega
    · rw [(w_deed_2 h0 h1).2.1]
      rw [← hW1] at c9 c10 ⊢
      have hsh : 0 ≤ w_sh kind := by
        unfold w_sh
        split <;> decide
      have b9 := hb 9 (by decide) (by decide)
      have b10 := hb 10 (by decide) (by decide)
      have : 0 ≤ w_payS (w_sh kind) W1 := by
        unfold w_payS
        omega
      omega
theorem w_over_b (law C mk kind x : Int) (W : zz_W) : w_over law C mk kind x W = 0 ∨ w_over law C mk kind x W = 1 := by
  by_cases h0 : law = 0
  · rw [(w_deed_0 h0).2.2.2]
    exact Or.inl rfl
  · by_cases h1 : law = 1
    · rw [(w_deed_1 h1).2.2.2]
      unfold w_oneO
      split
      · exact Or.inr rfl
      · exact Or.inl rfl
    · rw [(w_deed_2 h0 h1).2.2.2]
      unfold w_evnO
      split
      · exact Or.inr rfl
      · exact Or.inl rfl
theorem w_ok.mk {m m' : Nat} {mk mk' : Int} {W : zz_W} (h : w_ok m mk W) (hm : W.n ≤ m') : w_ok m' mk' W := ⟨h.1, h.2.1, fun c a b => absurd b (by omega)⟩
theorem h_in_s {law C : Int} {j : Nat} {e : Int × Nat × Int} {H : zz_H} (hC : 2 ≤ C ∧ C ≤ 4) (h : h_in law j H) (hs : h_st law j e H) : h_in law (j + 1) (h_one law C j e H) := by
  obtain ⟨h1, h2, h3, h4, h5, h6⟩ := h
  obtain ⟨s1, s2, s3, s4, s5⟩ := hs
  obtain ⟨i1, i2, i3⟩ := h1 e.2.1 s1
  obtain ⟨c1, c2, c3⟩ := zq_ck (x := e.2.2) s2 i3 s5 s4
  have i0 : IV law j (hw H e.2.1) := i1.up s1
  obtain ⟨d1, d2, d3, d4, d5⟩ := IV_deed (C := C) (mk := (j : Nat)) (kind := e.1) (x := h_x e H) i0 hC s2 s3 (fun z => by rw [i2]; have := s4 z; omega)
  have o1 : w_ok H.n (j : Nat) (hw H e.2.1) := (h2 e.2.1 s1).mk (Nat.le_refl _)
  have o2 : w_ok H.n (j : Nat) (h_w law C j e H) := o_deed s2 o1 (fun _ => c3)
  have x1 : w_ext (hw H e.2.1) (h_w law C j e H) := x_deed law C (j : Nat) e.1 (h_x e H) (hw H e.2.1) s2
  have st := w_steps_p (C := C) (mk := (j : Nat)) (x := h_x e H) i0 s2
  have ov := w_over_b law C (j : Nat) e.1 (h_x e H) (hw H e.2.1)
  obtain ⟨W', hW'⟩ : ∃ W', W' = h_w law C j e H := ⟨_, rfl⟩
  have hd : w_deed law C (j : Nat) e.1 (h_x e H) (hw H e.2.1) = W' := hW'.symm
  rw [hd] at d1 d2 d3 d4 d5
  rw [← hW'] at o2 x1
  have en : (h_one law C j e H).n = W'.n := by rw [hW']; rfl
  have hn0 : (hw H e.2.1).n = H.n := rfl
  have xn : H.n ≤ W'.n := x1.1
  have V1 : ∀ v, v ≠ j + 1 → (h_one law C j e H).V v = H.V v ∧ (h_one law C j e H).Q v = H.Q v := fun v hv => ⟨zu_n _ _ hv, zu_n _ _ hv⟩
  have V2 : hw (h_one law C j e H) (j + 1) = W' := by
    have e1 : (h_one law C j e H).V (j + 1) = (W'.R, W'.S) := by rw [hW']; exact zu_s _ _ _
    show ((h_one law C j e H).n, (h_one law C j e H).num, (h_one law C j e H).mkr, ((h_one law C j e H).V (j + 1)).1, ((h_one law C j e H).V (j + 1)).2) = W'
    rw [e1, hW']
    rfl
  have V3 : (h_one law C j e H).Q (j + 1) = zq_chg e.1 e.2.2 (H.Q e.2.1) := zu_s _ _ _
  refine ⟨fun v hv => ?_, fun v hv => ?_, fun z => ?_, fun z => ?_, fun i hi => ?_, fun c hc => ?_⟩
  · by_cases ev : v = j + 1
    · subst ev
      rw [V2, V3]
      refine ⟨d1, ?_, c1⟩
      rw [d2, c2, i2]
    · obtain ⟨a1, a2, a3⟩ := h1 v (by omega)
      obtain ⟨b1, b2⟩ := V1 v ev
      rw [b2]
      have eR : (hw (h_one law C j e H) v).R = (hw H v).R := by show ((h_one law C j e H).V v).1 = (H.V v).1; rw [b1]
      have eS : (hw (h_one law C j e H) v).S = (hw H v).S := by show ((h_one law C j e H).V v).2 = (H.V v).2; rw [b1]
      exact ⟨a1.pl eR eS, by rw [eS]; exact a2, a3⟩
  · by_cases ev : v = j + 1
    · subst ev
      rw [V2, en]
      exact o2.mk (Nat.le_refl _)
    · have a := h2 v (by omega)
      obtain ⟨b1, b2⟩ := V1 v ev
      refine ⟨fun k c hc => ?_, fun c hc => ?_, fun c a b => absurd b (Nat.not_lt.mpr a)⟩
      · have hc2 : c ∈ ((h_one law C j e H).V v).1 k := hc
        rw [b1] at hc2
        show c < (h_one law C j e H).n
        rw [en]
        exact Nat.lt_of_lt_of_le (a.1 k c hc2) xn
      · have hc2 : c < (h_one law C j e H).n := hc
        rw [en] at hc2
        show 0 ≤ (h_one law C j e H).num c ∧ (h_one law C j e H).num c ≤ 99
        have e9 : (h_one law C j e H).num = W'.num := by rw [hW']; rfl
        rw [e9]
        exact o2.2.1 c hc2
  · rw [en]
    have y1 := h3 z
    have y2 := d4 z
    have y3 : W'.S 11 ≤ ((j + 1 : Nat) : Int) := d1.2.2
    have y4 : (j + 1) * (j + 1 + 3) = j * (j + 3) + 2 * j + 4 := by
      simp only [Nat.add_mul, Nat.mul_add]; omega
    rw [y4]
    omega
  · rw [en]
    have y1 := h4 z
    have y2 := d5 z
    omega
  · have hbf : ∀ i', i' < j → (h_one law C j e H).bf i' = H.bf i' := fun i' hi' => zu_n _ _ (by omega)
    have hbj : (h_one law C j e H).bf j = H.n := zu_s _ _ _
    by_cases ei : i = j
    · subst ei
      rw [hbj, en]
      refine ⟨xn, fun z => absurd z (by omega), ?_, ?_⟩
      · rw [show (h_one law C i e H).sp i = w_steps law C (i : Nat) e.1 (h_x e H) (hw H e.2.1) from zu_s _ _ _]
        exact st
      · rw [show (h_one law C i e H).lt i = w_over law C (i : Nat) e.1 (h_x e H) (hw H e.2.1) from zu_s _ _ _]
        exact ov
    · obtain ⟨a1, a2, a3, a4⟩ := h5 i (by omega)
      rw [hbf i (by omega), en]
      refine ⟨Nat.le_trans a1 xn, fun z => ?_, ?_, ?_⟩
      · by_cases e2 : i + 1 = j
        · rw [e2, hbj]; exact a1
        · rw [hbf (i + 1) (by omega)]; exact a2 (by omega)
      · rw [show (h_one law C j e H).sp i = H.sp i from zu_n _ _ ei]
        exact a3
      · rw [show (h_one law C j e H).lt i = H.lt i from zu_n _ _ ei]
        exact a4
  · have hbf : ∀ i', i' < j → (h_one law C j e H).bf i' = H.bf i' := fun i' hi' => zu_n _ _ (by omega)
    have hbj : (h_one law C j e H).bf j = H.n := zu_s _ _ _
    have em : (h_one law C j e H).mkr = W'.mkr := by rw [hW']; rfl
    rw [en] at hc
    rw [em]
    by_cases hcn : c < H.n
    · obtain ⟨i, g1, g2, g3, g4⟩ := h6 c hcn
      refine ⟨i, by omega, ?_, ?_, fun i' z1 z2 => ?_⟩
      · rw [(x1.2 c hcn).2]; exact g2
      · rw [hbf i g1]; exact g3
      · by_cases e2 : i' = j
        · rw [e2, hbj]; exact hcn
        · rw [hbf i' (by omega)]; exact g4 i' z1 (by omega)
    · refine ⟨j, by omega, o2.2.2 c (by omega) hc, ?_, fun i' z1 z2 => absurd z2 (by omega)⟩
      rw [hbj]; omega
theorem h_inv {law C : Int} {D : zz_D} : ∀ {k : Nat}, h_ok law C k D → h_in law k (hh law C D k)
  | 0, h => h_in_0 h.1
  | k + 1, h => h_in_s (h.2.1 (Nat.succ_pos k)) (h_inv (h.le (Nat.le_succ k))) (h.2.2.2 k (Nat.lt_succ_self k))
