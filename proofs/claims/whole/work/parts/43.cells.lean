/-! the marks of a state -/
theorem SP.fm {σ σ' : zz_M} {p m s : Nat} {W : zz_W} (h : SP σ p m s W) (hd : m + 6 < s ∨ s + 6 < m) (hF : zz_F (fun a => a = m + 1 + 4) σ σ') : SP σ' p m s W := by
  obtain ⟨h1, h2, h3, h4, h5⟩ := h
  have f1 : ∀ a, a ≠ m + 1 + 4 → ∀ f, σ'.1 f a = σ.1 f a := fun a ha => (hF a ha).1
  have f2 : ∀ a, a ≠ m + 1 + 4 → σ'.2 a = σ.2 a := fun a ha => funext (hF a ha).2
  refine ⟨fun k hk => ?_, fun j a1 a2 => ?_, ?_, fun hp => ?_, h5⟩
  · rw [f1 _ (by omega), f1 _ (by omega), f2 _ (by omega)]
    exact h1 k hk
  · rw [f1 _ (by omega)]
    exact h2 j a1 a2
  · rw [f1 _ (by omega)]
    exact h3
  · rw [f1 _ (by omega), f2 _ (by omega), f2 _ (by omega)]
    exact h4 hp
def zm_N (mkr : Nat → Int) (mk : Int) (n : Nat) (A : Nat → Bool) : Int := zz_sum (zm_f (zm_P mkr mk) A) n
theorem zm_N_b {mkr : Nat → Int} {mk : Int} {n : Nat} {A : Nat → Bool} : 0 ≤ zm_N mkr mk n A ∧ zm_N mkr mk n A ≤ (n : Int) := zm_bd
def zm_st (A : Nat → Bool) (W : zz_W) : Nat → (Nat → Bool)
  | 0 => A
  | k + 1 => zm_add (zm_st A W k) (W.R k)
theorem zm_st_t {A : Nat → Bool} {W : zz_W} {y : Nat} : ∀ k, zm_st A W k y = true ↔ A y = true ∨ ∃ i, i < k ∧ y ∈ W.R i
  | 0 => ⟨fun h => Or.inl h, fun h => h.elim id (fun ⟨i, h1, _⟩ => absurd h1 (Nat.not_lt_zero i))⟩
  | k + 1 => by
    show zm_add (zm_st A W k) (W.R k) y = true ↔ _
    rw [zm_add_t, zm_st_t k]
    constructor
    · rintro ((h | ⟨i, h1, h2⟩) | h)
      · exact Or.inl h
      · exact Or.inr ⟨i, by omega, h2⟩
      · exact Or.inr ⟨k, by omega, h⟩
    · rintro (h | ⟨i, h1, h2⟩)
      · exact Or.inl (Or.inl h)
      · by_cases e : i = k
        · subst e
          exact Or.inr h2
        · exact Or.inl (Or.inr ⟨i, by omega, h2⟩)
theorem t_Cells_markState {X : zz_X} {σ : zz_M} {p m s : Nat} {mk : Int} {W : zz_W} {A : Nat → Bool} (hSP : SP σ p m s W) (hp : 0 < p) (hpb : p < 100000) (hd : m + 6 < s ∨ s + 6 < m) (hl : ∀ k, k < 6 → (W.R k).length < 100000) (hM : MKR σ (m + 1) p A) : zz_T X 2 p_Cells_markState [zP 1 p 0 (m + 1), zP 9 0 0 s, zI mk] σ (fun r σ' => r = some (zI (zm_N W.mkr mk W.n (zm_st A W 6) - zm_N W.mkr mk W.n A)) ∧ MKR σ' (m + 1) p (zm_st A W 6) ∧ zz_F (fun a => a = m + 1 + 4) σ σ') := by
  refine zz_mk k_Cells_markState o_Cells_markState rfl rfl (Nat.le_of_ble_eq_true rfl) ?_
  show zz_G X 2 p_Cells_markState 0 [zP 1 p 0 (m + 1), zP 9 0 0 s, zI mk] [] σ _
  have b0 := zm_N_b (mkr := W.mkr) (mk := mk) (n := W.n) (A := A)
  have hn := (hSP.2.2.2.1 hp).2.1
  refine zz_gsn 4 rfl ?_
  refine zz_cv (n := 3) rfl rfl (t_Cells_markRow (n := W.n) (mkr := W.mkr) (A := zm_st A W 0) (l := W.R 0) (by omega) (hSP.2.2.2.1 hp).2.1 (hl 0 (by decide)) hpb (fun i hi => ((hSP.2.2.2.1 hp).2.2 i hi).2) (hSP.1 0 (by decide)).1 (hSP.2.2.2.2 0 (by decide)) ((hSP.1 0 (by decide)).2 hp) hM) (Nat.le_of_ble_eq_true rfl) (Nat.le_of_ble_eq_true rfl) (Nat.le_of_ble_eq_true rfl) (fun r4 σ4 q4 => ?_)
  obtain ⟨rfl, m4, g4⟩ := q4
  have s4 := hSP.fm hd g4
  have b4 := zm_N_b (mkr := W.mkr) (mk := mk) (n := W.n) (A := zm_st A W 1)
  refine zz_gsn 4 rfl ?_
  refine zz_cv (n := 3) rfl rfl (t_Cells_markRow (n := W.n) (mkr := W.mkr) (A := zm_st A W 1) (l := W.R 1) (by omega) (s4.2.2.2.1 hp).2.1 (hl 1 (by decide)) hpb (fun i hi => ((s4.2.2.2.1 hp).2.2 i hi).2) (s4.1 1 (by decide)).1 (s4.2.2.2.2 1 (by decide)) ((s4.1 1 (by decide)).2 hp) m4) (Nat.le_of_ble_eq_true rfl) (Nat.le_of_ble_eq_true rfl) (Nat.le_of_ble_eq_true rfl) (fun r9 σ9 q9 => ?_)
  obtain ⟨rfl, m9, g9⟩ := q9
  have s9 := s4.fm hd g9
  have b9 := zm_N_b (mkr := W.mkr) (mk := mk) (n := W.n) (A := zm_st A W 2)
  refine zz_gsn 5 rfl ?_
  refine zz_cv (n := 3) rfl rfl (t_Cells_markRow (n := W.n) (mkr := W.mkr) (A := zm_st A W 2) (l := W.R 2) (by omega) (s9.2.2.2.1 hp).2.1 (hl 2 (by decide)) hpb (fun i hi => ((s9.2.2.2.1 hp).2.2 i hi).2) (s9.1 2 (by decide)).1 (s9.2.2.2.2 2 (by decide)) ((s9.1 2 (by decide)).2 hp) m9) (Nat.le_of_ble_eq_true rfl) (Nat.le_of_ble_eq_true rfl) (Nat.le_of_ble_eq_true rfl) (fun r15 σ15 q15 => ?_)
  obtain ⟨rfl, m15, g15⟩ := q15
  have s15 := s9.fm hd g15
  have b15 := zm_N_b (mkr := W.mkr) (mk := mk) (n := W.n) (A := zm_st A W 3)
  refine zz_gsn 5 rfl ?_
  refine zz_cv (n := 3) rfl rfl (t_Cells_markRow (n := W.n) (mkr := W.mkr) (A := zm_st A W 3) (l := W.R 3) (by omega) (s15.2.2.2.1 hp).2.1 (hl 3 (by decide)) hpb (fun i hi => ((s15.2.2.2.1 hp).2.2 i hi).2) (s15.1 3 (by decide)).1 (s15.2.2.2.2 3 (by decide)) ((s15.1 3 (by decide)).2 hp) m15) (Nat.le_of_ble_eq_true rfl) (Nat.le_of_ble_eq_true rfl) (Nat.le_of_ble_eq_true rfl) (fun r21 σ21 q21 => ?_)
  obtain ⟨rfl, m21, g21⟩ := q21
  have s21 := s15.fm hd g21
  have b21 := zm_N_b (mkr := W.mkr) (mk := mk) (n := W.n) (A := zm_st A W 4)
  refine zz_gsn 5 rfl ?_
  refine zz_cv (n := 3) rfl rfl (t_Cells_markRow (n := W.n) (mkr := W.mkr) (A := zm_st A W 4) (l := W.R 4) (by omega) (s21.2.2.2.1 hp).2.1 (hl 4 (by decide)) hpb (fun i hi => ((s21.2.2.2.1 hp).2.2 i hi).2) (s21.1 4 (by decide)).1 (s21.2.2.2.2 4 (by decide)) ((s21.1 4 (by decide)).2 hp) m21) (Nat.le_of_ble_eq_true rfl) (Nat.le_of_ble_eq_true rfl) (Nat.le_of_ble_eq_true rfl) (fun r27 σ27 q27 => ?_)
  obtain ⟨rfl, m27, g27⟩ := q27
  have s27 := s21.fm hd g27
  have b27 := zm_N_b (mkr := W.mkr) (mk := mk) (n := W.n) (A := zm_st A W 5)
  refine zz_gsn 5 rfl ?_
  refine zz_cv (n := 3) rfl rfl (t_Cells_markRow (n := W.n) (mkr := W.mkr) (A := zm_st A W 5) (l := W.R 5) (by omega) (s27.2.2.2.1 hp).2.1 (hl 5 (by decide)) hpb (fun i hi => ((s27.2.2.2.1 hp).2.2 i hi).2) (s27.1 5 (by decide)).1 (s27.2.2.2.2 5 (by decide)) ((s27.1 5 (by decide)).2 hp) m27) (Nat.le_of_ble_eq_true rfl) (Nat.le_of_ble_eq_true rfl) (Nat.le_of_ble_eq_true rfl) (fun r33 σ33 q33 => ?_)
  obtain ⟨rfl, m33, g33⟩ := q33
  have s33 := s27.fm hd g33
  have b33 := zm_N_b (mkr := W.mkr) (mk := mk) (n := W.n) (A := zm_st A W 6)
  refine zz_gsn 1 rfl ?_
  refine zz_ri rfl (Or.inl rfl) ?_
  refine ⟨?_, m33, ((((g4.tr g9).tr g15).tr g21).tr g27).tr g33⟩
  show some (zI (zw (zw (zw (zw (zw ((zm_N W.mkr mk W.n (zm_st A W 1) - zm_N W.mkr mk W.n A) + (zm_N W.mkr mk W.n (zm_st A W 2) - zm_N W.mkr mk W.n (zm_st A W 1))) + (zm_N W.mkr mk W.n (zm_st A W 3) - zm_N W.mkr mk W.n (zm_st A W 2))) + (zm_N W.mkr mk W.n (zm_st A W 4) - zm_N W.mkr mk W.n (zm_st A W 3))) + (zm_N W.mkr mk W.n (zm_st A W 5) - zm_N W.mkr mk W.n (zm_st A W 4))) + (zm_N W.mkr mk W.n (zm_st A W 6) - zm_N W.mkr mk W.n (zm_st A W 5))))) = some (zI (zm_N W.mkr mk W.n (zm_st A W 6) - zm_N W.mkr mk W.n A))
  generalize zm_N W.mkr mk W.n A = x0 at *
  generalize zm_N W.mkr mk W.n (zm_st A W 1) = x1 at *
  generalize zm_N W.mkr mk W.n (zm_st A W 2) = x2 at *
  generalize zm_N W.mkr mk W.n (zm_st A W 3) = x3 at *
  generalize zm_N W.mkr mk W.n (zm_st A W 4) = x4 at *
  generalize zm_N W.mkr mk W.n (zm_st A W 5) = x5 at *
  generalize zm_N W.mkr mk W.n (zm_st A W 6) = x6 at *
  rw [zw_id (x := (x1 - x0) + (x2 - x1)) (by omega) (by omega)]
  rw [zw_id (x := (x1 - x0) + (x2 - x1) + (x3 - x2)) (by omega) (by omega)]
  rw [zw_id (x := (x1 - x0) + (x2 - x1) + (x3 - x2) + (x4 - x3)) (by omega) (by omega)]
  rw [zw_id (x := (x1 - x0) + (x2 - x1) + (x3 - x2) + (x4 - x3) + (x5 - x4)) (by omega) (by omega)]
  rw [zw_id (x := (x1 - x0) + (x2 - x1) + (x3 - x2) + (x4 - x3) + (x5 - x4) + (x6 - x5)) (by omega) (by omega)]
  rw [show (x1 - x0) + (x2 - x1) + (x3 - x2) + (x4 - x3) + (x5 - x4) + (x6 - x5) = x6 - x0 by omega]
