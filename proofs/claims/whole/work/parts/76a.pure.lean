/-! deeds done anew by another law -/
/-- deeds done anew by a LAW, a balance, behind the cells that are there -/
def hg (H0 : zz_H) (law C : Int) (D : zz_D) : Nat → zz_H
  | 0 => (H0.n, H0.num, H0.mkr, h0.V, h0.Q, h0.sp, h0.lt, h0.bf)
  | j + 1 => h_one law C j (D j) (hg H0 law C D j)
theorem hg_Q (H0 : zz_H) (law C law' C' : Int) (D : zz_D) : ∀ j, (hg H0 law C D j).Q = (hh law' C' D j).Q
  | 0 => rfl
  | j + 1 => by
    show zu (hg H0 law C D j).Q (j + 1) (zq_chg (D j).1 (D j).2.2 ((hg H0 law C D j).Q (D j).2.1)) = zu (hh law' C' D j).Q (j + 1) (zq_chg (D j).1 (D j).2.2 ((hh law' C' D j).Q (D j).2.1))
    rw [hg_Q H0 law C law' C' D j]
def hg_in (law : Int) (n0 j : Nat) (H : zz_H) : Prop := (∀ v, v ≤ j → IV law v (hw H v) ∧ (hw H v).S 11 = ((H.Q v).1 : Nat)) ∧ n0 ≤ H.n ∧ H.n ≤ n0 + 67 * j
/-- deeds that can be done by a LAW -/
def hg_st (law : Int) (k : Nat) (D : zz_D) (Q : Nat → Nat → zq_T) : Prop := ∀ j, j < k → (D j).2.1 ≤ j ∧ (0 ≤ (D j).1 ∧ (D j).1 ≤ 3) ∧ (law ≠ 2 → (D j).1 ≤ 1) ∧ ((D j).1 = 1 ∨ (D j).1 = 3 → 0 < (Q j (D j).2.1).1) ∧ ((D j).1 = 0 ∨ (D j).1 = 2 → 0 ≤ (D j).2.2 ∧ (D j).2.2 ≤ 99)
theorem zq_ck' {kind x : Int} {q : zq_T} (hk : 0 ≤ kind ∧ kind ≤ 3) (hp : kind = 1 ∨ kind = 3 → 0 < q.1) : (((zq_chg kind x q).1 : Nat) : Int) = (q.1 : Int) + (if kind = 0 ∨ kind = 2 then 1 else -1) := by
  have h4 : kind = 0 ∨ kind = 1 ∨ kind = 2 ∨ kind = 3 := by omega
  rcases h4 with e | e | e | e <;> subst e
  · rfl
  · have z := hp (Or.inl rfl)
    show ((q.1 - 1 : Nat) : Int) = (q.1 : Int) + -1
    omega
  · rfl
  · have z := hp (Or.inr rfl)
    show ((q.1 - 1 : Nat) : Int) = (q.1 : Int) + -1
    omega
theorem hg_inv {H0 : zz_H} {law C : Int} {k : Nat} {D : zz_D} (hl : 0 ≤ law ∧ law ≤ 2) (hC : 2 ≤ C ∧ C ≤ 4) (hk : k ≤ 60) (hs : hg_st law k D (fun j v => (hg H0 law C D j).Q v)) : ∀ j, j ≤ k → hg_in law H0.n j (hg H0 law C D j)
  | 0, _ => by
    have z := h_in_0 (law := law) hl
    refine ⟨fun v hv => ?_, Nat.le_refl _, Nat.le_refl _⟩
    obtain ⟨a, b, -⟩ := z.1 v hv
    exact ⟨a.pl rfl rfl, b⟩
  | j + 1, hj => by
    obtain ⟨h1, h2, h3⟩ := hg_inv hl hC hk hs j (by omega)
    obtain ⟨s1, s2, s3, s4, s5⟩ := hs j (by omega)
    obtain ⟨i1, i2⟩ := h1 (D j).2.1 s1
    have i0 := i1.up s1
    have c2 := (zq_ck' (x := (D j).2.2) (q := (hg H0 law C D j).Q (D j).2.1) s2 s4)
    obtain ⟨d1, d2, d3, d4, d5⟩ := IV_deed (C := C) (mk := (j : Nat)) (kind := (D j).1) (x := h_x (D j) (hg H0 law C D j)) i0 hC s2 s3 (fun z => by rw [i2]; have := s4 z; exact Int.ofNat_lt.mpr this)
    have xe := (x_deed law C (j : Nat) (D j).1 (h_x (D j) (hg H0 law C D j)) (hw (hg H0 law C D j) (D j).2.1) s2).1
    obtain ⟨W', hW'⟩ : ∃ W', W' = w_deed law C (j : Nat) (D j).1 (h_x (D j) (hg H0 law C D j)) (hw (hg H0 law C D j) (D j).2.1) := ⟨_, rfl⟩
    rw [← hW'] at d1 d2 d3 d4 d5 xe
    have hn0 : (hw (hg H0 law C D j) (D j).2.1).n = (hg H0 law C D j).n := rfl
    rw [hn0] at xe d4 d5
    have en : (hg H0 law C D (j + 1)).n = W'.n := by rw [hW']; rfl
    refine ⟨fun v hv => ?_, ?_, ?_⟩
    · by_cases ev : v = j + 1
      · subst ev
        have e1 : hw (hg H0 law C D (j + 1)) (j + 1) = W' := by rw [hW']; exact hw_s law C j (D j) (hg H0 law C D j)
        have e2 : (hg H0 law C D (j + 1)).Q (j + 1) = zq_chg (D j).1 (D j).2.2 ((hg H0 law C D j).Q (D j).2.1) := zu_s _ _ _
        rw [e1, e2]
        refine ⟨d1, ?_⟩
        rw [d2, i2, c2]
      · obtain ⟨a1, a2⟩ := h1 v (by omega)
        have e1 : hw (hg H0 law C D (j + 1)) v = ((h_w law C j (D j) (hg H0 law C D j)).n, (h_w law C j (D j) (hg H0 law C D j)).num, (h_w law C j (D j) (hg H0 law C D j)).mkr, (hw (hg H0 law C D j) v).R, (hw (hg H0 law C D j) v).S) := hw_o law C j (D j) (hg H0 law C D j) ev
        have e2 : ∀ w, w ≠ j + 1 → (hg H0 law C D (j + 1)).Q w = (hg H0 law C D j).Q w := fun w hw => zu_n _ _ hw
        rw [e1, e2 v ev]
        exact ⟨a1.pl rfl rfl, a2⟩
    · rw [en]
      exact Nat.le_trans h2 xe
    · rw [en]
      have y3 : W'.S 11 ≤ ((j + 1 : Nat) : Int) := d1.2.2
      clear hW' d1 d2 d3 i0 i1 i2 hn0 en
      by_cases z : law = 1
      · have := d5 z
        omega
      · have := d4 z
        omega
def mx (f : Nat → Int) : Nat → Int
  | 0 => 0
  | j + 1 => max (mx f j) (f j)
/-- steps of the j-th deed then -/
def g_sp (H0 : zz_H) (law C : Int) (D : zz_D) (j : Nat) : Int := w_steps law C (j : Nat) (D j).1 (h_x (D j) (hg H0 law C D j)) (hw (hg H0 law C D j) (D j).2.1)
theorem SP.up {σ : zz_M} {m s : Nat} {W W' : zz_W} (h : SP σ 0 m s W) (hR : W'.R = W.R) (hS : W'.S = W.S) (hn : W.n ≤ W'.n) : SP σ 0 m s W' := by
  obtain ⟨h1, h2, h3, h4, h5⟩ := h
  refine ⟨fun k hk => ⟨?_, fun z => absurd z (Nat.lt_irrefl 0)⟩, fun j a b => by rw [hS]; exact h2 j a b, by rw [hS]; exact h3, fun z => absurd z (Nat.lt_irrefl 0), fun k hk c hc => ?_⟩
  · have := (h1 k hk).1
    show _ = (((W'.R k).length : Nat) : Int)
    rw [hR]
    exact this
  · rw [hR] at hc
    exact Nat.lt_of_lt_of_le (h5 k hk c hc) hn
