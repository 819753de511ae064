/-! a VERSION: what holds of it after any deed -/
theorem m_chg {law mk kind x : Int} {W : zz_W} (hl : law ≠ 1) (hk : 0 ≤ kind ∧ kind ≤ 3) (h11 : W.S 11 = (w_l 0 W : Int) + (w_l 1 W : Nat)) (hpos : kind = 1 ∨ kind = 3 → 0 < W.S 11) : (∀ j, j ≠ 11 → (w_chg law mk kind x W).S j = W.S j) ∧ (∀ k, 2 ≤ k → (w_chg law mk kind x W).R k = W.R k) ∧ (w_chg law mk kind x W).S 11 = (w_l 0 (w_chg law mk kind x W) : Int) + (w_l 1 (w_chg law mk kind x W) : Nat) ∧ (w_chg law mk kind x W).n ≤ W.n + 1 ∧ w_gap (w_chg law mk kind x W) ≤ w_gap W + 1 ∧ w_l 1 (w_chg law mk kind x W) ≤ w_l 1 W + 1 := by
  have h : kind = 0 ∨ kind = 1 ∨ kind = 2 ∨ kind = 3 := by omega
  unfold w_gap
  rcases h with h | h | h | h <;> subst h
  · rw [w_chg0]
    have e0 : w_l 0 (w_push mk 1 x (w_S 11 (W.S 11 + 1) W)) = w_l 0 W := rfl
    have e1 : w_l 1 (w_push mk 1 x (w_S 11 (W.S 11 + 1) W)) = w_l 1 W + 1 := rfl
    refine ⟨fun j hj => zu_n _ _ hj, fun k hk => zu_n _ _ (by omega), ?_, Nat.le_refl _, by omega, by omega⟩
    show W.S 11 + 1 = _
    omega
  · rw [w_chg1n mk x W hl]
    have hp := hpos (Or.inl rfl)
    by_cases e : W.R 0 = []
    · rw [if_pos e]
      have z := w_nil' e
      have e0 : w_l 0 (w_pop 1 (w_S 11 (W.S 11 - 1) W)) = w_l 0 W := rfl
      have e1 : w_l 1 (w_pop 1 (w_S 11 (W.S 11 - 1) W)) = w_l 1 W - 1 := w_tl (W := w_S 11 (W.S 11 - 1) W)
      refine ⟨fun j hj => zu_n _ _ hj, fun k hk => zu_n _ _ (by omega), ?_, Nat.le_succ _, by omega, by omega⟩
      show W.S 11 - 1 = _
      omega
    · rw [if_neg e]
      have z : 0 < w_l 0 W := Nat.pos_of_ne_zero (fun y => e (w_nil y))
      have e0 : w_l 0 (w_pop 0 (w_S 11 (W.S 11 - 1) W)) = w_l 0 W - 1 := w_tl (W := w_S 11 (W.S 11 - 1) W)
      have e1 : w_l 1 (w_pop 0 (w_S 11 (W.S 11 - 1) W)) = w_l 1 W := rfl
      refine ⟨fun j hj => zu_n _ _ hj, fun k hk => zu_n _ _ (by omega), ?_, Nat.le_succ _, by omega, by omega⟩
      show W.S 11 - 1 = _
      omega
  · rw [w_chg2]
    have e0 : w_l 0 (w_push mk 0 x (w_S 11 (W.S 11 + 1) W)) = w_l 0 W + 1 := rfl
    have e1 : w_l 1 (w_push mk 0 x (w_S 11 (W.S 11 + 1) W)) = w_l 1 W := rfl
    refine ⟨fun j hj => zu_n _ _ hj, fun k hk => zu_n _ _ (by omega), ?_, Nat.le_refl _, by omega, by omega⟩
    show W.S 11 + 1 = _
    omega
  · rw [w_chg3]
    have hp := hpos (Or.inr rfl)
    by_cases e : W.R 1 = []
    · rw [if_pos e]
      have z := w_nil' e
      have e0 : w_l 0 (w_pop 0 (w_S 11 (W.S 11 - 1) W)) = w_l 0 W - 1 := w_tl (W := w_S 11 (W.S 11 - 1) W)
      have e1 : w_l 1 (w_pop 0 (w_S 11 (W.S 11 - 1) W)) = w_l 1 W := rfl
      refine ⟨fun j hj => zu_n _ _ hj, fun k hk => zu_n _ _ (by omega), ?_, Nat.le_succ _, by omega, by omega⟩
      show W.S 11 - 1 = _
      omega
    · rw [if_neg e]
      have z : 0 < w_l 1 W := Nat.pos_of_ne_zero (fun y => e (w_nil y))
      have e0 : w_l 0 (w_pop 1 (w_S 11 (W.S 11 - 1) W)) = w_l 0 W := rfl
      have e1 : w_l 1 (w_pop 1 (w_S 11 (W.S 11 - 1) W)) = w_l 1 W - 1 := w_tl (W := w_S 11 (W.S 11 - 1) W)
      refine ⟨fun j hj => zu_n _ _ hj, fun k hk => zu_n _ _ (by omega), ?_, Nat.le_succ _, by omega, by omega⟩
      show W.S 11 - 1 = _
      omega
theorem w_trn_S11 (mk : Int) (W : zz_W) : (w_trn mk W).S 11 = W.S 11 := by
  unfold w_trn
  split
  · split
    · rw [w_move_S]
      rfl
    · rw [w_move_S]
      show (w_move mk 2 3 W).S 11 = _
      rw [w_move_S]
  · split
    · split
      · show (w_move mk 3 5 W).S 11 = _
        rw [w_move_S]
      · rfl
    · rfl
theorem w_one_S11 (mk : Int) (W : zz_W) : (w_one mk W).S 11 = W.S 11 := by
  have h1 : (w_b W).S 11 = W.S 11 := by
    unfold w_b
    split <;> rfl
  have h2 : ∀ V : zz_W, (w_fin V).S 11 = V.S 11 := fun V => by
    unfold w_fin
    split <;> rfl
  show (w_fin (w_trn mk (w_trn mk (w_b W)))).S 11 = _
  rw [h2, w_trn_S11, w_trn_S11, h1]
/-- what holds of a VERSION by a LAW, B deeds having been done at most -/
def IV (law : Int) (B : Nat) (W : zz_W) : Prop := ((law = 0 ∧ ZM W) ∨ (law = 1 ∧ HM W) ∨ (law = 2 ∧ EM B W)) ∧ 0 ≤ W.S 11 ∧ W.S 11 ≤ B
def w_phi (law : Int) (W : zz_W) : Nat := if law = 0 then w_l 1 W else if law = 1 then 0 else 3 * w_gap W
theorem w_phi_0 {law : Int} {W : zz_W} (h : law = 0) : w_phi law W = w_l 1 W := if_pos h
theorem w_phi_1 {law : Int} {W : zz_W} (h : law = 1) : w_phi law W = 0 := (if_neg (by omega)).trans (if_pos h)
theorem w_phi_2 {law : Int} {W : zz_W} (h : law = 2) : w_phi law W = 3 * w_gap W := (if_neg (by omega)).trans (if_neg (by omega))
theorem w_sg {kind : Int} : (if kind = 0 ∨ kind = 2 then (1 : Int) else -1) = 1 ∧ (kind = 0 ∨ kind = 2) ∨ (if kind = 0 ∨ kind = 2 then (1 : Int) else -1) = -1 ∧ ¬ (kind = 0 ∨ kind = 2) := by
  by_cases h : kind = 0 ∨ kind = 2
  · exact Or.inl ⟨if_pos h, h⟩
  · exact Or.inr ⟨if_neg h, h⟩
theorem IV_deed {law C mk kind x : Int} {B : Nat} {W : zz_W} (h : IV law B W) (hC : 2 ≤ C ∧ C ≤ 4) (hk : 0 ≤ kind ∧ kind ≤ 3) (hkl : law ≠ 2 → kind ≤ 1) (hpos : kind = 1 ∨ kind = 3 → 0 < W.S 11) :
    IV law (B + 1) (w_deed law C mk kind x W) ∧ (w_deed law C mk kind x W).S 11 = W.S 11 + (if kind = 0 ∨ kind = 2 then 1 else -1) ∧ (w_deed law C mk kind x W).n + w_phi law (w_deed law C mk kind x W) ≤ W.n + w_phi law W + 7 ∧ (law ≠ 1 → ((w_deed law C mk kind x W).n : Int) ≤ W.n + 1 + (w_deed law C mk kind x W).S 11) ∧ (law = 1 → (w_deed law C mk kind x W).n ≤ W.n + 5) := by
  obtain ⟨h, hp, hb⟩ := h
  have hsg := w_sg (kind := kind)
  obtain ⟨-, -, -, -, -, hc11, -⟩ := w_chg_B law mk kind x W hk
  rcases h with ⟨hl, h⟩ | ⟨hl, h⟩ | ⟨hl, h⟩
  · obtain ⟨z1, z2, z3⟩ := h
    obtain ⟨c1, c2, c3, c4, c5, c6⟩ := m_chg (law := law) (mk := mk) (x := x) (by omega) hk z3 hpos
    obtain ⟨d1, d2, d3, d4⟩ := w_deed_0 (C := C) (mk := mk) (kind := kind) (x := x) (W := W) hl
    rw [d1]
    obtain ⟨W1, hW1⟩ : ∃ W1, W1 = w_chg law mk kind x W := ⟨_, rfl⟩
    rw [← hW1] at c1 c2 c3 c4 c5 c6 hc11 ⊢
    have zm : ZM W1 := ⟨fun j a b => by rw [c1 j (by omega)]; exact z1 j a b, fun k a b => by rw [c2 k a]; exact z2 k a b, c3⟩
    obtain ⟨a1, a2, a3, a4⟩ := ZM_all (mk := mk) zm
    rw [w_phi_0 hl, w_phi_0 hl]
    exact ⟨⟨Or.inl ⟨hl, a1⟩, by omega, by omega⟩, by omega, by omega, fun _ => by omega, fun z => by omega⟩
  · obtain ⟨d1, d2, d3, d4⟩ := w_deed_1 (C := C) (mk := mk) (kind := kind) (x := x) (W := W) hl
    have s11 : (w_deed law C mk kind x W).S 11 = W.S 11 + (if kind = 0 ∨ kind = 2 then 1 else -1) := by rw [d1, w_one_S11, hc11]
    have hk2 : kind = 0 ∨ kind = 1 := by omega
    rw [w_phi_1 hl, w_phi_1 hl]
    rcases hk2 with e | e
    · subst e
      subst hl
      obtain ⟨a1, a2⟩ := HM_put (mk := mk) (C := C) (x := x) h
      exact ⟨⟨Or.inr (Or.inl ⟨rfl, a1⟩), by omega, by omega⟩, s11, by omega, fun z => absurd rfl z, fun _ => a2⟩
    · subst e
      subst hl
      have hp1 := hpos (Or.inl rfl)
      obtain ⟨a0, a1, a2⟩ := HM_take (mk := mk) (C := C) (x := x) h hp1
      exact ⟨⟨Or.inr (Or.inl ⟨rfl, a1⟩), by omega, by omega⟩, s11, by omega, fun z => absurd rfl z, fun _ => by omega⟩
  · obtain ⟨z1, z2, z3, z4, z5, z6, z7⟩ := h
    obtain ⟨c1, c2, c3, c4, c5, c6⟩ := m_chg (law := law) (mk := mk) (x := x) (by omega) hk z3 hpos
    obtain ⟨d1, d2, d3, d4⟩ := w_deed_2 (C := C) (mk := mk) (kind := kind) (x := x) (W := W) (show law ≠ 0 by omega) (by omega)
    rw [d1]
    obtain ⟨W1, hW1⟩ : ∃ W1, W1 = w_chg law mk kind x W := ⟨_, rfl⟩
    rw [← hW1] at c1 c2 c3 c4 c5 c6 hc11 ⊢
    have zm : EM (B + 1) W1 := ⟨fun j a b => by rw [c1 j (by omega)]; exact z1 j a b, fun k a b => by rw [c2 k a]; exact z2 k a b, c3, by rw [c1 9 (by decide)]; exact z4, by rw [c1 9 (by decide)]; omega, by rw [c1 10 (by decide)]; exact z6, by rw [c1 10 (by decide)]; omega⟩
    have hsh : 0 ≤ w_sh kind := by
      unfold w_sh
      split <;> decide
    have zp := EM_pay (sh := w_sh kind) hsh zm
    have hb1 : (w_pay (w_sh kind) W1).S 11 ≤ ((B + 1 : Nat) : Int) := by
      show W1.S 11 ≤ _
      omega
    obtain ⟨a1, a2, a3, a4⟩ := EM_evn (mk := mk) hC zp hb1
    have b1 : (w_pay (w_sh kind) W1).S 11 = W1.S 11 := rfl
    have b2 : (w_pay (w_sh kind) W1).n = W1.n := rfl
    have b3 : w_gap (w_pay (w_sh kind) W1) = w_gap W1 := rfl
    rw [w_phi_2 hl, w_phi_2 hl]
    exact ⟨⟨Or.inr (Or.inr ⟨hl, a1⟩), by omega, by omega⟩, by omega, by omega, fun _ => by omega, fun z => by omega⟩
theorem IV_bd {law : Int} {B : Nat} {W : zz_W} (h : IV law B W) : (∀ k, k < 6 → w_l k W ≤ 2 * B + 1) ∧ (∀ j, 6 ≤ j → j < 11 → 0 ≤ W.S j ∧ W.S j ≤ 2 * (B : Int) + 1) ∧ (0 < W.S 11 → 0 < w_l 0 W ∨ 0 < w_l 1 W) := by
  obtain ⟨h, hp, hb⟩ := h
  have c6 : ∀ {P : Nat → Prop}, P 0 → P 1 → P 2 → P 3 → P 4 → P 5 → ∀ k, k < 6 → P k := fun p0 p1 p2 p3 p4 p5 k hk => by
    match k, hk with
    | 0, _ => exact p0
    | 1, _ => exact p1
    | 2, _ => exact p2
    | 3, _ => exact p3
    | 4, _ => exact p4
    | 5, _ => exact p5
  have c5 : ∀ {P : Nat → Prop}, P 6 → P 7 → P 8 → P 9 → P 10 → ∀ k, 6 ≤ k → k < 11 → P k := fun p0 p1 p2 p3 p4 k h1 h2 => by
    match k, h1, h2 with
    | 6, _, _ => exact p0
    | 7, _, _ => exact p1
    | 8, _, _ => exact p2
    | 9, _, _ => exact p3
    | 10, _, _ => exact p4
  have hz : w_len 1 W = (w_l 1 W : Nat) := rfl
  rcases h with ⟨hl, h⟩ | ⟨hl, h⟩ | ⟨hl, h⟩
  · obtain ⟨z1, z2, z3⟩ := h
    refine ⟨c6 (by omega) (by omega) ?_ ?_ ?_ ?_, fun j a b => by rw [z1 j a b]; omega, fun _ => by omega⟩ <;> rw [w_nil' (z2 _ (by decide) (by decide))] <;> omega
  · obtain ⟨h9, h10, h11, h⟩ := h
    rcases h with ⟨h, hb⟩ | ⟨N, t, h⟩ | ⟨N, t, h⟩
    · obtain ⟨i7, i2, i3, i4, i5, i8, i0⟩ := h
      exact ⟨c6 (by omega) (by omega) (by omega) (by omega) (by omega) (by omega), c5 (by omega) (by omega) (by omega) (by omega) (by omega), fun _ => by omega⟩
    · obtain ⟨a7, a3, a5, a2, a4, a0, a8, a6⟩ := h
      exact ⟨c6 (by omega) (by omega) (by omega) (by omega) (by omega) (by omega), c5 (by omega) (by omega) (by omega) (by omega) (by omega), fun _ => by omega⟩
    · obtain ⟨a7, a2, a4, a5, a3, a0, a8, ag, a6⟩ := h
      exact ⟨c6 (by omega) (by omega) (by omega) (by omega) (by omega) (by omega), c5 (by omega) (by omega) (by omega) (by omega) (by omega), fun _ => by omega⟩
  · obtain ⟨z1, z2, z3, z4, z5, z6, z7⟩ := h
    refine ⟨c6 (by omega) (by omega) ?_ ?_ ?_ ?_, c5 (by rw [z1 6 (by decide) (by decide)]; omega) (by rw [z1 7 (by decide) (by decide)]; omega) (by rw [z1 8 (by decide) (by decide)]; omega) (by omega) (by omega), fun _ => by omega⟩ <;> rw [w_nil' (z2 _ (by decide) (by decide))] <;> omega
