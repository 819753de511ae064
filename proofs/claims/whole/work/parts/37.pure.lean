/-! LAW 0 and LAW 2: what stays -/
theorem m_mvs {mk : Int} {i j : Nat} (hij : i ≠ j) : ∀ (r : Nat) (W : zz_W), r ≤ w_l i W → w_l i (w_mvs mk i j r W) + r = w_l i W ∧ w_l j (w_mvs mk i j r W) = w_l j W + r ∧ (∀ k, k ≠ i → k ≠ j → (w_mvs mk i j r W).R k = W.R k) ∧ (w_mvs mk i j r W).n = W.n + r ∧ (w_mvs mk i j r W).S = W.S
  | 0, W, _ => ⟨rfl, rfl, fun _ _ _ => rfl, rfl, rfl⟩
  | r + 1, W, h => by
    obtain ⟨a1, a2, a3, a4⟩ := m_mv (mk := mk) (W := W) hij (by omega)
    obtain ⟨b1, b2, b3, b4, b5⟩ := m_mvs (mk := mk) hij r (w_move mk i j W) (by omega)
    refine ⟨?_, ?_, fun k h1 h2 => (b3 k h1 h2).trans (a3 k h1 h2), ?_, b5.trans (w_move_S mk i j W)⟩
    · show w_l i (w_mvs mk i j r (w_move mk i j W)) + (r + 1) = _
      omega
    · show w_l j (w_mvs mk i j r (w_move mk i j W)) = _
      omega
    · show (w_mvs mk i j r (w_move mk i j W)).n = _
      omega
/-- LAW 0 -/
def ZM (W : zz_W) : Prop := (∀ j, 6 ≤ j → j < 11 → W.S j = 0) ∧ (∀ k, 2 ≤ k → k < 6 → W.R k = []) ∧ W.S 11 = (w_l 0 W : Int) + (w_l 1 W : Nat)
theorem ZM_all {mk : Int} {W : zz_W} (h : ZM W) : ZM (w_all mk W) ∧ (w_all mk W).S 11 = W.S 11 ∧ (w_all mk W).n + w_l 1 (w_all mk W) ≤ W.n + w_l 1 W ∧ ((w_all mk W).n : Int) ≤ W.n + W.S 11 := by
  obtain ⟨h1, h2, h3⟩ := h
  unfold w_all
  by_cases e : W.R 0 = []
  · rw [if_pos e]
    obtain ⟨a1, a2, a3, a4, a5⟩ := m_mvs (mk := mk) (i := 1) (j := 0) (by decide) (W.R 1).length W (Nat.le_refl _)
    have a6 : (W.R 1).length = w_l 1 W := rfl
    refine ⟨⟨fun j x y => by rw [a5]; exact h1 j x y, fun k x y => by rw [a3 k (by omega) (by omega)]; exact h2 k x y, ?_⟩, by rw [a5], by omega, by omega⟩
    rw [a5]
    omega
  · rw [if_neg e]
    exact ⟨⟨h1, h2, h3⟩, rfl, Nat.le_refl _, by omega⟩
/-- LAW 2 -/
def EM (B : Nat) (W : zz_W) : Prop := (∀ j, 6 ≤ j → j < 9 → W.S j = 0) ∧ (∀ k, 2 ≤ k → k < 6 → W.R k = []) ∧ W.S 11 = (w_l 0 W : Int) + (w_l 1 W : Nat) ∧ 0 ≤ W.S 9 ∧ W.S 9 ≤ B ∧ 0 ≤ W.S 10 ∧ W.S 10 ≤ B
theorem m_spl {mk : Int} {i j : Nat} {W : zz_W} (hij : (i = 0 ∧ j = 1) ∨ (i = 1 ∧ j = 0)) : w_l i (w_spl mk i j W) = (w_l i W + w_l j W) / 2 ∧ w_l j (w_spl mk i j W) = (w_l i W + w_l j W) - (w_l i W + w_l j W) / 2 ∧ (∀ k, 2 ≤ k → (w_spl mk i j W).R k = W.R k) ∧ (w_spl mk i j W).n = W.n + (w_l i W + w_l j W) ∧ (∀ k, k ≠ 9 → k ≠ 10 → (w_spl mk i j W).S k = W.S k) ∧ (w_spl mk i j W).S 9 = (w_l 0 (w_spl mk i j W) : Int) ∧ (w_spl mk i j W).S 10 = (w_l 1 (w_spl mk i j W) : Int) := by
  have hL : (w_laid i j W).length = w_l i W + w_l j W := w_laid_len i j W
  have hne : i ≠ j := by omega
  obtain ⟨W0, hW0⟩ : ∃ W0, W0 = w_R j [] (w_R i [] W) := ⟨_, rfl⟩
  obtain ⟨s1, s2, s3, s4⟩ := w_pus_R (mk := mk) (k := i) ((w_laid i j W).take ((w_laid i j W).length / 2)) W0
  obtain ⟨W1, hW1⟩ : ∃ W1, W1 = w_pus mk i ((w_laid i j W).take ((w_laid i j W).length / 2)) W0 := ⟨_, rfl⟩
  rw [← hW1] at s1 s2 s3 s4
  obtain ⟨t1, t2, t3, t4⟩ := w_pus_R (mk := mk) (k := j) ((w_laid i j W).drop ((w_laid i j W).length / 2)).reverse W1
  obtain ⟨W2, hW2⟩ : ∃ W2, W2 = w_pus mk j ((w_laid i j W).drop ((w_laid i j W).length / 2)).reverse W1 := ⟨_, rfl⟩
  rw [← hW2] at t1 t2 t3 t4
  have e : w_spl mk i j W = w_S 10 (w_len 1 W2) (w_S 9 (w_len 0 W2) W2) := by rw [hW2, hW1, hW0]; rfl
  have r0 : W0.R i = [] := by
    rw [hW0]
    show (zu (zu W.R i []) j []) i = []
    rw [zu_n _ _ hne, zu_s]
  have r1 : W0.R j = [] := by
    rw [hW0]
    show (zu (zu W.R i []) j []) j = []
    rw [zu_s]
  have d1 : (W2.R i).length = (w_l i W + w_l j W) / 2 := by
    rw [t2 i hne, s1, r0, List.length_take, hL, Nat.min_eq_left (Nat.div_le_self _ _)]
    rfl
  have d2 : (W2.R j).length = (w_l i W + w_l j W) - (w_l i W + w_l j W) / 2 := by
    rw [t1, s2 j (Ne.symm hne), r1, List.length_reverse, List.length_drop, hL]
    rfl
  have d3 : W2.n = W.n + (w_l i W + w_l j W) := by
    rw [t3, s3, List.length_reverse, List.length_drop, List.length_take, hL, Nat.min_eq_left (Nat.div_le_self _ _), hW0]
    show W.n + _ + _ = _
    have := Nat.div_le_self (w_l i W + w_l j W) 2
    omega
  rw [e]
  refine ⟨d1, d2, fun k hk => ?_, d3, fun k h9 h10 => ?_, rfl, rfl⟩
  · show W2.R k = _
    rw [t2 k (by omega), s2 k (by omega), hW0]
    show (zu (zu W.R i []) j []) k = _
    rw [zu_n _ _ (by omega), zu_n _ _ (by omega)]
  · show (zu (zu W2.S 9 _) 10 _) k = _
    rw [zu_n _ _ h10, zu_n _ _ h9, t4, s4, hW0]
    rfl
theorem EM_pay {B : Nat} {sh : Int} {W : zz_W} (hsh : 0 ≤ sh) (h : EM B W) : EM B (w_pay sh W) := by
  obtain ⟨h1, h2, h3, h4, h5, h6, h7⟩ := h
  refine ⟨fun j x y => ?_, h2, ?_, ?_, ?_, ?_, ?_⟩
  · show (zu (zu W.S 9 _) 10 _) j = 0
    rw [zu_n _ _ (by omega), zu_n _ _ (by omega)]
    exact h1 j x y
  · exact h3
  · show 0 ≤ W.S 9 - min (W.S 9) sh
    omega
  · show W.S 9 - min (W.S 9) sh ≤ B
    omega
  · show 0 ≤ W.S 10 - min (W.S 10) sh
    omega
  · show W.S 10 - min (W.S 10) sh ≤ B
    omega
def w_gap (W : zz_W) : Nat := (w_l 0 W - w_l 1 W) + (w_l 1 W - w_l 0 W)
theorem EM_spl {mk : Int} {B : Nat} {i j : Nat} {W : zz_W} (hij : (i = 0 ∧ j = 1) ∨ (i = 1 ∧ j = 0)) (h : EM B W) (hB : W.S 11 ≤ B) (hg : 2 * w_l j W + 1 < w_l i W) : EM B (w_spl mk i j W) ∧ (w_spl mk i j W).S 11 = W.S 11 ∧ (w_spl mk i j W).n + 3 * w_gap (w_spl mk i j W) ≤ W.n + 3 * w_gap W + 3 ∧ ((w_spl mk i j W).n : Int) ≤ W.n + W.S 11 := by
  obtain ⟨h1, h2, h3, h4, h5, h6, h7⟩ := h
  obtain ⟨a1, a2, a3, a4, a5, a6, a7⟩ := m_spl (mk := mk) (W := W) hij
  have s11 : (w_spl mk i j W).S 11 = W.S 11 := a5 11 (by decide) (by decide)
  obtain ⟨W2, hW2⟩ : ∃ W2, W2 = w_spl mk i j W := ⟨_, rfl⟩
  rw [← hW2] at a1 a2 a3 a4 a5 a6 a7 s11 ⊢
  unfold w_gap
  rcases hij with ⟨e1, e2⟩ | ⟨e1, e2⟩ <;> subst e1 <;> subst e2 <;>
  · refine ⟨⟨fun j x y => by rw [a5 j (by omega) (by omega)]; exact h1 j x y, fun k x y => by rw [a3 k x]; exact h2 k x y, by omega, by omega, by omega, by omega, by omega⟩, s11, by omega, by omega⟩
theorem EM_evn {mk C : Int} {B : Nat} {W : zz_W} (hC : 2 ≤ C ∧ C ≤ 4) (h : EM B W) (hB : W.S 11 ≤ B) : EM B (w_evn mk C W) ∧ (w_evn mk C W).S 11 = W.S 11 ∧ (w_evn mk C W).n + 3 * w_gap (w_evn mk C W) ≤ W.n + 3 * w_gap W + 3 ∧ ((w_evn mk C W).n : Int) ≤ W.n + W.S 11 := by
  have p0 : w_len 0 W = (w_l 0 W : Nat) := rfl
  have p1 : w_len 1 W = (w_l 1 W : Nat) := rfl
  have hC3 : C = 2 ∨ C = 3 ∨ C = 4 := by omega
  unfold w_evn
  by_cases c1 : C * w_len 1 W + 1 < w_len 0 W
  · rw [if_pos c1]
    exact EM_spl (Or.inl ⟨rfl, rfl⟩) h hB (by rcases hC3 with e | e | e <;> rw [e] at c1 <;> omega)
  · rw [if_neg c1]
    by_cases c2 : C * w_len 0 W + 1 < w_len 1 W
    · rw [if_pos c2]
      exact EM_spl (Or.inr ⟨rfl, rfl⟩) h hB (by rcases hC3 with e | e | e <;> rw [e] at c2 <;> omega)
    · rw [if_neg c2]
      refine ⟨h, rfl, by omega, ?_⟩
      have := h.2.2.1
      omega
