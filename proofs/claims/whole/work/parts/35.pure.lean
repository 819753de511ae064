/-! the turning, step by step -/
abbrev w_l (k : Nat) (W : zz_W) : Nat := (W.R k).length
theorem m_mv {mk : Int} {i j : Nat} {W : zz_W} (hij : i ≠ j) (h : 0 < w_l i W) : w_l i (w_move mk i j W) + 1 = w_l i W ∧ w_l j (w_move mk i j W) = w_l j W + 1 ∧ (∀ k, k ≠ i → k ≠ j → (w_move mk i j W).R k = W.R k) ∧ (w_move mk i j W).n = W.n + 1 := by
  have hne : W.R i ≠ [] := fun z => by
    have z2 : w_l i W = 0 := by show (W.R i).length = 0; rw [z]; rfl
    omega
  cases e : W.R i with
  | nil => exact absurd e hne
  | cons c l =>
    obtain ⟨a, b, d⟩ := w_move_R (mk := mk) hij e
    refine ⟨?_, ?_, d, ?_⟩
    · show ((w_move mk i j W).R i).length + 1 = (W.R i).length
      rw [a, e, List.length_cons]
    · show ((w_move mk i j W).R j).length = (W.R j).length + 1
      rw [b, List.length_cons]
    · rw [w_move_n, if_neg hne]
theorem w_nil {k : Nat} {W : zz_W} (h : w_l k W = 0) : W.R k = [] := List.length_eq_zero_iff.mp h
theorem w_nil' {k : Nat} {W : zz_W} (h : W.R k = []) : w_l k W = 0 := by
  show (W.R k).length = 0
  rw [h]
  rfl
def TM (W : zz_W) (s N t : Nat) : Prop := W.S 7 = 1 ∧ w_l 3 W = s ∧ w_l 5 W = s ∧ w_l 2 W + s = N ∧ w_l 4 W = w_l 2 W + 1 ∧ w_l 0 W + t = N ∧ W.S 8 = (s : Int) - t ∧ W.S 6 = 2 * (N : Int) + 1 - t
def JM (W : zz_W) (s N t : Nat) : Prop := W.S 7 = 2 ∧ w_l 2 W = 0 ∧ w_l 4 W = 0 ∧ w_l 5 W = s ∧ w_l 3 W + s = 2 * N + 1 ∧ w_l 0 W + t = N ∧ W.S 8 = (w_l 3 W : Int) - t ∧ 0 ≤ W.S 8 ∧ W.S 6 = 2 * (N : Int) + 1 - t
def RM (W : zz_W) : Prop := W.S 7 = 3 ∧ w_l 2 W = 0 ∧ w_l 4 W = 0 ∧ (w_l 5 W : Int) = W.S 6
def IM (W : zz_W) : Prop := W.S 7 = 0 ∧ w_l 2 W = 0 ∧ w_l 3 W = 0 ∧ w_l 4 W = 0 ∧ w_l 5 W = 0 ∧ W.S 8 = 0 ∧ (w_l 0 W : Int) = W.S 6
/-- what a step of turning keeps -/
def w_kp (W W' : zz_W) : Prop := W'.R 0 = W.R 0 ∧ W'.R 1 = W.R 1 ∧ W'.S 6 = W.S 6 ∧ W'.S 9 = W.S 9 ∧ W'.S 10 = W.S 10 ∧ W'.S 11 = W.S 11
theorem w_kp.rf {W : zz_W} : w_kp W W := ⟨rfl, rfl, rfl, rfl, rfl, rfl⟩
theorem w_kp.tr {W W1 W2 : zz_W} (h : w_kp W W1) (h2 : w_kp W1 W2) : w_kp W W2 := ⟨h2.1.trans h.1, h2.2.1.trans h.2.1, h2.2.2.1.trans h.2.2.1, h2.2.2.2.1.trans h.2.2.2.1, h2.2.2.2.2.1.trans h.2.2.2.2.1, h2.2.2.2.2.2.trans h.2.2.2.2.2⟩
theorem k_S7 {v : Int} {W : zz_W} : w_kp W (w_S 7 v W) := ⟨rfl, rfl, rfl, rfl, rfl, rfl⟩
theorem k_S8 {v : Int} {W : zz_W} : w_kp W (w_S 8 v W) := ⟨rfl, rfl, rfl, rfl, rfl, rfl⟩
theorem k_mv {mk : Int} {i j : Nat} {W : zz_W} (hi : 2 ≤ i) (hj : 2 ≤ j) : w_kp W (w_move mk i j W) := by
  have hs := w_move_S mk i j W
  refine ⟨?_, ?_, by rw [hs], by rw [hs], by rw [hs], by rw [hs]⟩ <;>
  · unfold w_move
    split
    · rfl
    · show (zu (zu W.R j _) i _) _ = _
      rw [zu_n _ _ (by omega), zu_n _ _ (by omega)]
theorem t_idle {mk : Int} {W : zz_W} (h : W.S 7 ≠ 1) (h2 : W.S 7 ≠ 2) : w_trn mk W = W := by
  unfold w_trn
  rw [if_neg h, if_neg h2]
theorem t_TM {mk : Int} {W : zz_W} {s N t : Nat} (h : TM W s N t) : w_kp W (w_trn mk W) ∧ (w_trn mk W).n ≤ W.n + 2 ∧ ((s < N ∧ TM (w_trn mk W) (s + 1) N t) ∨ (s = N ∧ JM (w_trn mk W) (s + 1) N t)) := by
  obtain ⟨h7, h3, h5, h2, h4, h0, h8, h6⟩ := h
  unfold w_trn
  rw [if_pos h7]
  by_cases e : W.R 2 = []
  · rw [if_pos e]
    have e2 := w_nil' e
    obtain ⟨a1, a2, a3, a4⟩ := m_mv (mk := mk) (i := 4) (j := 5) (W := w_S 7 2 W) (by decide) (by show 0 < w_l 4 W; omega)
    have hs := w_move_S mk 4 5 (w_S 7 2 W)
    refine ⟨k_S7.tr (k_mv (by decide) (by decide)), by rw [a4]; exact Nat.le_succ _, Or.inr ⟨by omega, ?_⟩⟩
    have b0 : w_l 0 (w_move mk 4 5 (w_S 7 2 W)) = w_l 0 W := by show ((w_move mk 4 5 (w_S 7 2 W)).R 0).length = _; rw [a3 0 (by decide) (by decide)]; rfl
    have b2 : w_l 2 (w_move mk 4 5 (w_S 7 2 W)) = w_l 2 W := by show ((w_move mk 4 5 (w_S 7 2 W)).R 2).length = _; rw [a3 2 (by decide) (by decide)]; rfl
    have b3 : w_l 3 (w_move mk 4 5 (w_S 7 2 W)) = w_l 3 W := by show ((w_move mk 4 5 (w_S 7 2 W)).R 3).length = _; rw [a3 3 (by decide) (by decide)]; rfl
    have b4 : w_l 4 (w_S 7 2 W) = w_l 4 W := rfl
    have b5 : w_l 5 (w_S 7 2 W) = w_l 5 W := rfl
    have c7 : (w_move mk 4 5 (w_S 7 2 W)).S 7 = 2 := by rw [hs]; rfl
    have c8 : (w_move mk 4 5 (w_S 7 2 W)).S 8 = W.S 8 := by rw [hs]; rfl
    have c6 : (w_move mk 4 5 (w_S 7 2 W)).S 6 = W.S 6 := by rw [hs]; rfl
    exact ⟨c7, by omega, by omega, by omega, by omega, by omega, by omega, by omega, by omega⟩
  · rw [if_neg e]
    have e2 : 0 < w_l 2 W := by
      rcases Nat.eq_zero_or_pos (w_l 2 W) with z | z
      · exact absurd (w_nil z) e
      · exact z
    obtain ⟨a1, a2, a3, a4⟩ := m_mv (mk := mk) (i := 2) (j := 3) (W := W) (by decide) e2
    obtain ⟨W1, hW1⟩ : ∃ W1, W1 = w_move mk 2 3 W := ⟨_, rfl⟩
    have hs := w_move_S mk 2 3 W
    have kp1 : w_kp W W1 := by rw [hW1]; exact k_mv (by decide) (by decide)
    rw [← hW1] at a1 a2 a3 a4 hs ⊢
    have l4 : w_l 4 W1 = w_l 4 W := by show (W1.R 4).length = _; rw [a3 4 (by decide) (by decide)]
    have l5 : w_l 5 W1 = w_l 5 W := by show (W1.R 5).length = _; rw [a3 5 (by decide) (by decide)]
    have l0 : w_l 0 W1 = w_l 0 W := by show (W1.R 0).length = _; rw [kp1.1]
    obtain ⟨W2, hW2⟩ : ∃ W2, W2 = w_S 8 (W.S 8 + 1) W1 := ⟨_, rfl⟩
    rw [← hW2]
    have r2 : W2.R = W1.R := by rw [hW2]; rfl
    have m2 : ∀ k, w_l k W2 = w_l k W1 := fun k => by show (W2.R k).length = _; rw [r2]
    have kp2 : w_kp W1 W2 := by rw [hW2]; exact k_S8
    have s8 : W2.S 8 = W.S 8 + 1 := by rw [hW2]; rfl
    have s7 : W2.S 7 = W.S 7 := by rw [hW2]; show W1.S 7 = _; rw [hs]
    have n2 : W2.n = W1.n := by rw [hW2]; rfl
    obtain ⟨d1, d2, d3, d4⟩ := m_mv (mk := mk) (i := 4) (j := 5) (W := W2) (by decide) (by rw [m2 4]; omega)
    have ht := w_move_S mk 4 5 W2
    have kp3 : w_kp W2 (w_move mk 4 5 W2) := k_mv (by decide) (by decide)
    obtain ⟨W3, hW3⟩ : ∃ W3, W3 = w_move mk 4 5 W2 := ⟨_, rfl⟩
    rw [← hW3] at d1 d2 d3 d4 ht kp3 ⊢
    have l2 : w_l 2 W3 = w_l 2 W2 := by show (W3.R 2).length = _; rw [d3 2 (by decide) (by decide)]
    have l3 : w_l 3 W3 = w_l 3 W2 := by show (W3.R 3).length = _; rw [d3 3 (by decide) (by decide)]
    have l0' : w_l 0 W3 = w_l 0 W2 := by show (W3.R 0).length = _; rw [kp3.1]
    rw [m2] at d1 d2 l2 l3 l0'
    have kp := (kp1.tr kp2).tr kp3
    refine ⟨kp, by omega, Or.inl ⟨by omega, by rw [ht, s7]; exact h7, by omega, by omega, by omega, by omega, by omega, ?_, ?_⟩⟩
    · rw [ht, s8]
      omega
    · rw [kp.2.2.1]
      exact h6
theorem t_JM {mk : Int} {W : zz_W} {s N t : Nat} (h : JM W s N t) : w_kp W (w_trn mk W) ∧ (w_trn mk W).n ≤ W.n + 2 ∧ ((0 < W.S 8 ∧ JM (w_trn mk W) (s + 1) N t) ∨ (W.S 8 = 0 ∧ RM (w_trn mk W))) := by
  obtain ⟨h7, h2, h4, h5, h3, h0, h8, hg, h6⟩ := h
  unfold w_trn
  rw [if_neg (by omega), if_pos h7]
  by_cases e : 0 < W.S 8
  · rw [if_pos e]
    obtain ⟨a1, a2, a3, a4⟩ := m_mv (mk := mk) (i := 3) (j := 5) (W := W) (by decide) (by omega)
    have hs := w_move_S mk 3 5 W
    have kp1 : w_kp W (w_move mk 3 5 W) := k_mv (by decide) (by decide)
    obtain ⟨W1, hW1⟩ : ∃ W1, W1 = w_move mk 3 5 W := ⟨_, rfl⟩
    rw [← hW1] at a1 a2 a3 a4 hs kp1 ⊢
    have l4 : w_l 4 W1 = w_l 4 W := by show (W1.R 4).length = _; rw [a3 4 (by decide) (by decide)]
    have l2 : w_l 2 W1 = w_l 2 W := by show (W1.R 2).length = _; rw [a3 2 (by decide) (by decide)]
    have l0 : w_l 0 W1 = w_l 0 W := by show (W1.R 0).length = _; rw [kp1.1]
    refine ⟨kp1.tr k_S8, ?_, Or.inl ⟨e, ?_, ?_, ?_, ?_, ?_, ?_, ?_, ?_, ?_⟩⟩
    · show W1.n ≤ _
      omega
    · show W1.S 7 = 2
      rw [hs]
      exact h7
    · show w_l 2 W1 = 0
      omega
    · show w_l 4 W1 = 0
      omega
    · show w_l 5 W1 = s + 1
      omega
    · show w_l 3 W1 + (s + 1) = _
      omega
    · show w_l 0 W1 + t = N
      omega
    · show W.S 8 - 1 = (w_l 3 W1 : Int) - t
      omega
    · show 0 ≤ W.S 8 - 1
      omega
    · show W1.S 6 = _
      rw [hs]
      exact h6
  · rw [if_neg e]
    refine ⟨k_S7, Nat.le_add_right _ _, Or.inr ⟨by omega, rfl, h2, h4, ?_⟩⟩
    show (w_l 5 W : Int) = W.S 6
    omega
