/-! the turning is never late -/
def OM (W : zz_W) (s N t : Nat) : Prop := TM W s N t ∨ JM W s N t ∨ RM W
theorem t_OM {mk : Int} {W : zz_W} {s N t : Nat} (h : OM W s N t) : w_kp W (w_trn mk W) ∧ (w_trn mk W).n ≤ W.n + 2 ∧ OM (w_trn mk W) (s + 1) N t := by
  rcases h with h | h | h
  · obtain ⟨a, b, c | c⟩ := t_TM (mk := mk) h
    · exact ⟨a, b, Or.inl c.2⟩
    · exact ⟨a, b, Or.inr (Or.inl c.2)⟩
  · obtain ⟨a, b, c | c⟩ := t_JM (mk := mk) h
    · exact ⟨a, b, Or.inr (Or.inl c.2)⟩
    · exact ⟨a, b, Or.inr (Or.inr c.2)⟩
  · have e : w_trn mk W = W := t_idle (by rw [h.1]; decide) (by rw [h.1]; decide)
    rw [e]
    exact ⟨w_kp.rf, Nat.le_add_right _ _, Or.inr (Or.inr h)⟩
def HM (W : zz_W) : Prop := W.S 9 = 0 ∧ W.S 10 = 0 ∧ W.S 11 = W.S 6 + w_len 1 W ∧ ((IM W ∧ w_len 1 W ≤ W.S 6) ∨ (∃ N t, TM W (2 * (t + w_l 1 W + 1)) N t) ∨ (∃ N t, JM W (2 * (t + w_l 1 W + 1)) N t))
theorem f_OM {mk : Int} {W : zz_W} {s N t : Nat} (h : OM W s N t) (h9 : W.S 9 = 0) (h10 : W.S 10 = 0) (h11 : W.S 11 = W.S 6 + w_len 1 W) (hl : w_len 1 W ≤ W.S 6) (hs : s + 2 = 2 * (t + w_l 1 W + 1)) : HM (w_fin (w_trn mk (w_trn mk W))) ∧ (w_fin (w_trn mk (w_trn mk W))).n ≤ W.n + 4 := by
  obtain ⟨k1, n1, o1⟩ := t_OM (mk := mk) h
  obtain ⟨k2, n2, o2⟩ := t_OM (mk := mk) o1
  have kk := k1.tr k2
  obtain ⟨W2, hW2⟩ : ∃ W2, W2 = w_trn mk (w_trn mk W) := ⟨_, rfl⟩
  rw [← hW2] at o2 kk n2 ⊢
  obtain ⟨c0, c1, c6, c9, c10, c11⟩ := kk
  have l1 : w_len 1 W2 = w_len 1 W := by show (((W2.R 1).length : Nat) : Int) = _; rw [c1]
  have l1' : w_l 1 W2 = w_l 1 W := by show (W2.R 1).length = _; rw [c1]
  refine ⟨?_, by rw [w_fin_n]; omega⟩
  rcases o2 with o | o | o
  · have e : w_fin W2 = W2 := if_neg (by rw [o.1]; decide)
    rw [e]
    refine ⟨c9.trans h9, c10.trans h10, by rw [c11, h11, c6, l1], Or.inr (Or.inl ⟨N, t, ?_⟩)⟩
    rw [l1', ← hs]
    exact o
  · have e : w_fin W2 = W2 := if_neg (by rw [o.1]; decide)
    rw [e]
    refine ⟨c9.trans h9, c10.trans h10, by rw [c11, h11, c6, l1], Or.inr (Or.inr ⟨N, t, ?_⟩)⟩
    rw [l1', ← hs]
    exact o
  · have e : w_fin W2 = w_clr (w_R 0 (W2.R 5) W2) := if_pos o.1
    rw [e]
    have a1 : w_len 1 (w_clr (w_R 0 (W2.R 5) W2)) = w_len 1 W2 := rfl
    refine ⟨c9.trans h9, c10.trans h10, ?_, Or.inl ⟨⟨rfl, rfl, rfl, rfl, rfl, rfl, o.2.2.2⟩, ?_⟩⟩
    · rw [a1, l1]
      show W2.S 11 = W2.S 6 + _
      rw [c11, h11, c6]
    · rw [a1, l1]
      show _ ≤ W2.S 6
      rw [c6]
      exact hl
theorem HM_one {mk : Int} {W : zz_W} (h9 : W.S 9 = 0) (h10 : W.S 10 = 0) (h11 : W.S 11 = W.S 6 + w_len 1 W) (h : (IM W ∧ w_len 1 W ≤ W.S 6 + 1) ∨ (∃ s N t, OM W s N t ∧ w_len 1 W ≤ W.S 6 ∧ s + 2 = 2 * (t + w_l 1 W + 1))) : HM (w_one mk W) ∧ (w_one mk W).n ≤ W.n + 4 := by
  rcases h with ⟨h, hb⟩ | ⟨s, N, t, h, hl, hs⟩
  · by_cases hb2 : W.S 6 < w_len 1 W
    · have e : w_b W = w_beg W := if_pos hb2
      obtain ⟨i7, i2, i3, i4, i5, i8, i0⟩ := h
      have hlen : w_len 1 W = (w_l 1 W : Nat) := rfl
      have hT : TM (w_beg W) 0 (w_l 0 W) 0 := by
        refine ⟨rfl, rfl, rfl, Nat.add_zero _, ?_, Nat.add_zero _, rfl, ?_⟩
        · show w_l 1 W = w_l 0 W + 1
          omega
        · show W.S 6 + w_len 1 W = 2 * (w_l 0 W : Int) + 1 - (0 : Nat)
          omega
      show HM (w_fin (w_trn mk (w_trn mk (w_b W)))) ∧ (w_fin (w_trn mk (w_trn mk (w_b W)))).n ≤ W.n + 4
      rw [e]
      refine f_OM (W := w_beg W) (Or.inl hT) h9 h10 ?_ ?_ rfl
      · show W.S 11 = W.S 6 + w_len 1 W + 0
        omega
      · show (0 : Int) ≤ W.S 6 + w_len 1 W
        omega
    · have e : w_b W = W := if_neg hb2
      show HM (w_fin (w_trn mk (w_trn mk (w_b W)))) ∧ (w_fin (w_trn mk (w_trn mk (w_b W)))).n ≤ W.n + 4
      have e2 : w_trn mk W = W := t_idle (by rw [h.1]; decide) (by rw [h.1]; decide)
      have e3 : w_fin W = W := if_neg (by rw [h.1]; decide)
      rw [e, e2, e2, e3]
      exact ⟨⟨h9, h10, h11, Or.inl ⟨h, by omega⟩⟩, Nat.le_add_right _ _⟩
  · have e : w_b W = W := if_neg (by omega)
    show HM (w_fin (w_trn mk (w_trn mk (w_b W)))) ∧ (w_fin (w_trn mk (w_trn mk (w_b W)))).n ≤ W.n + 4
    rw [e]
    exact f_OM h h9 h10 h11 hl hs
theorem HM_put {mk C x : Int} {W : zz_W} (h : HM W) : HM (w_deed 1 C mk 0 x W) ∧ (w_deed 1 C mk 0 x W).n ≤ W.n + 5 := by
  obtain ⟨h9, h10, h11, h⟩ := h
  obtain ⟨W1, hW1⟩ : ∃ W1, W1 = w_chg 1 mk 0 x W := ⟨_, rfl⟩
  have hd : w_deed 1 C mk 0 x W = w_one mk W1 := by rw [hW1]; rfl
  have hl : w_l 1 W1 = w_l 1 W + 1 := by rw [hW1]; rfl
  have hl' : w_len 1 W1 = w_len 1 W + 1 := by show (w_l 1 W1 : Int) = (w_l 1 W : Int) + 1; omega
  have hn : W1.n = W.n + 1 := by rw [hW1]; rfl
  have hz : w_len 1 W = (w_l 1 W : Nat) := rfl
  rw [hd]
  have k6 : W1.S 6 = W.S 6 := by rw [hW1]; rfl
  have kk := HM_one (mk := mk) (W := W1) (by rw [hW1]; exact h9) (by rw [hW1]; exact h10) (by rw [hl', k6]; rw [hW1]; show W.S 11 + 1 = _; omega) (by
    rcases h with ⟨h, hb⟩ | ⟨N, t, h⟩ | ⟨N, t, h⟩
    · exact Or.inl ⟨by rw [hW1]; exact h, by rw [hl', k6]; omega⟩
    · refine Or.inr ⟨_, N, t, Or.inl (by rw [hW1]; exact h), ?_, by rw [hl]; omega⟩
      obtain ⟨a7, a3, a5, a2, a4, a0, a8, a6⟩ := h
      rw [hl', k6]
      omega
    · refine Or.inr ⟨_, N, t, Or.inr (Or.inl (by rw [hW1]; exact h)), ?_, by rw [hl]; omega⟩
      obtain ⟨a7, a2, a4, a5, a3, a0, a8, ag, a6⟩ := h
      rw [hl', k6]
      omega)
  exact ⟨kk.1, by omega⟩
theorem w_tl {k : Nat} {W : zz_W} : w_l k (w_pop k W) = w_l k W - 1 := by
  show ((zu W.R k (W.R k).tail) k).length = _
  rw [zu_s, List.length_tail]
theorem HM_take {mk C x : Int} {W : zz_W} (h : HM W) (hpos : 0 < W.S 11) : 0 < w_l 0 W ∧ HM (w_deed 1 C mk 1 x W) ∧ (w_deed 1 C mk 1 x W).n ≤ W.n + 4 := by
  obtain ⟨h9, h10, h11, h⟩ := h
  have hz : w_len 1 W = (w_l 1 W : Nat) := rfl
  have h0 : 0 < w_l 0 W := by
    rcases h with ⟨h, hb⟩ | ⟨N, t, h⟩ | ⟨N, t, h⟩
    · obtain ⟨i7, i2, i3, i4, i5, i8, i0⟩ := h
      omega
    · obtain ⟨a7, a3, a5, a2, a4, a0, a8, a6⟩ := h
      omega
    · obtain ⟨a7, a2, a4, a5, a3, a0, a8, ag, a6⟩ := h
      omega
  have hne : W.R 0 ≠ [] := fun z => by have := w_nil' z; omega
  obtain ⟨W0, hW0⟩ : ∃ W0, W0 = w_S 11 (W.S 11 - 1) W := ⟨_, rfl⟩
  obtain ⟨W1, hW1⟩ : ∃ W1, W1 = w_chg 1 mk 1 x W := ⟨_, rfl⟩
  have hd : w_deed 1 C mk 1 x W = w_one mk W1 := by rw [hW1]; rfl
  have hc : W1 = w_pop 0 (w_dis W0) := by
    rw [hW1, w_chg1 mk x W rfl, ← hW0, if_neg (by rw [w_dis_R W0 (by decide), hW0]; exact hne)]
  refine ⟨h0, ?_⟩
  rw [hd]
  have ds := w_dis_S W0
  have s6 : W1.S 6 = W.S 6 - 1 := by rw [hc]; show (w_dis W0).S 6 = _; rw [ds.1, hW0]; rfl
  have s9 : W1.S 9 = 0 := by rw [hc]; show (w_dis W0).S 9 = _; rw [ds.2.2.1, hW0]; exact h9
  have s10 : W1.S 10 = 0 := by rw [hc]; show (w_dis W0).S 10 = _; rw [ds.2.2.2.1, hW0]; exact h10
  have s11 : W1.S 11 = W.S 11 - 1 := by rw [hc]; show (w_dis W0).S 11 = _; rw [ds.2.2.2.2, hW0]; rfl
  have l1 : w_l 1 W1 = w_l 1 W := by rw [hc]; show ((w_dis W0).R 1).length = _; rw [w_dis_R W0 (by decide), hW0]; rfl
  have l0 : w_l 0 W1 = w_l 0 W - 1 := by
    rw [hc, w_tl]
    show ((w_dis W0).R 0).length - 1 = _
    rw [w_dis_R W0 (by decide), hW0]
    rfl
  have lk : ∀ k, k ≠ 0 → k ≠ 5 → w_l k W1 = w_l k W := fun k k0 k5 => by
    rw [hc]
    show ((zu (w_dis W0).R 0 _) k).length = _
    rw [zu_n _ _ k0, w_dis_R W0 k5, hW0]
    rfl
  have l2 := lk 2 (by decide) (by decide)
  have l3 := lk 3 (by decide) (by decide)
  have l4 := lk 4 (by decide) (by decide)
  have hn : W1.n = W.n := by rw [hc]; show (w_dis W0).n = _; rw [w_dis_n, hW0]; rfl
  have hl' : w_len 1 W1 = w_len 1 W := by show (w_l 1 W1 : Int) = (w_l 1 W : Int); omega
  have kk := HM_one (mk := mk) (W := W1) s9 s10 (by omega) (by
    rcases h with ⟨h, hb⟩ | ⟨N, t, h⟩ | ⟨N, t, h⟩
    · obtain ⟨i7, i2, i3, i4, i5, i8, i0⟩ := h
      have e : w_dis W0 = w_S 6 (W0.S 6 - 1) W0 := by
        unfold w_dis
        have z : W0.S 7 = 0 := by rw [hW0]; exact i7
        rw [if_neg (fun y => by rw [z] at y; exact absurd y.1 (by decide)), if_neg (fun y => by rw [z] at y; exact y.elim (by decide) (by decide))]
      have z5 : w_l 5 W1 = w_l 5 W := by rw [hc, e, hW0]; rfl
      have z7 : W1.S 7 = W.S 7 := by rw [hc, e, hW0]; rfl
      have z8 : W1.S 8 = W.S 8 := by rw [hc, e, hW0]; rfl
      exact Or.inl ⟨⟨by omega, by omega, by omega, by omega, by omega, by omega, by omega⟩, by omega⟩
    · obtain ⟨a7, a3, a5, a2, a4, a0, a8, a6⟩ := h
      have e : w_dis W0 = w_S 8 (W0.S 8 - 1) (w_S 6 (W0.S 6 - 1) W0) := by
        unfold w_dis
        have z : W0.S 7 = 1 := by rw [hW0]; exact a7
        rw [if_neg (fun y => by rw [z] at y; exact absurd y.1 (by decide)), if_pos (Or.inl z)]
      have z5 : w_l 5 W1 = w_l 5 W := by rw [hc, e, hW0]; rfl
      have z7 : W1.S 7 = W.S 7 := by rw [hc, e, hW0]; rfl
      have z8 : W1.S 8 = W.S 8 - 1 := by rw [hc, e, hW0]; rfl
      exact Or.inr ⟨2 * (t + w_l 1 W + 1), N, t + 1, Or.inl ⟨by omega, by omega, by omega, by omega, by omega, by omega, by omega, by omega⟩, by omega, by omega⟩
    · obtain ⟨a7, a2, a4, a5, a3, a0, a8, ag, a6⟩ := h
      by_cases g : W.S 8 = 0
      · have e : w_dis W0 = w_S 7 3 (w_pop 5 (w_S 6 (W0.S 6 - 1) W0)) := by
          have z : W0.S 7 = 2 := by rw [hW0]; exact a7
          have z2 : W0.S 8 = 0 := by rw [hW0]; exact g
          exact if_pos ⟨z, z2⟩
        have z5 : w_l 5 W1 = w_l 5 W - 1 := by
          rw [hc, e]
          show ((zu W0.R 5 (W0.R 5).tail) 5).length = _
          rw [zu_s, List.length_tail, hW0]
          rfl
        have z7 : W1.S 7 = 3 := by rw [hc, e, hW0]; rfl
        exact Or.inr ⟨2 * (t + w_l 1 W + 1), N, t + 1, Or.inr (Or.inr ⟨z7, by omega, by omega, by omega⟩), by omega, by omega⟩
      · have e : w_dis W0 = w_S 8 (W0.S 8 - 1) (w_S 6 (W0.S 6 - 1) W0) := by
          unfold w_dis
          have z : W0.S 7 = 2 := by rw [hW0]; exact a7
          have z2 : W0.S 8 ≠ 0 := by rw [hW0]; exact g
          rw [if_neg (fun y => z2 y.2), if_pos (Or.inr z)]
        have z5 : w_l 5 W1 = w_l 5 W := by rw [hc, e, hW0]; rfl
        have z7 : W1.S 7 = W.S 7 := by rw [hc, e, hW0]; rfl
        have z8 : W1.S 8 = W.S 8 - 1 := by rw [hc, e, hW0]; rfl
        exact Or.inr ⟨2 * (t + w_l 1 W + 1), N, t + 1, Or.inr (Or.inl ⟨by omega, by omega, by omega, by omega, by omega, by omega, by omega, by omega, by omega⟩), by omega, by omega⟩)
  exact ⟨kk.1, by omega⟩
