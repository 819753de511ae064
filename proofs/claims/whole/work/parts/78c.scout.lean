/-! the class: rows tried -/
/-- what a scout notes: the most of one, the most together, rows tried, the worst row, the most at a level -/
abbrev zc_R : Type := Int × Int × Int × (Nat → Int) × (Nat → Int)
abbrev zc_R.a (R : zc_R) : Int := R.1
abbrev zc_R.b (R : zc_R) : Int := R.2.1
abbrev zc_R.c (R : zc_R) : Int := R.2.2.1
abbrev zc_R.w (R : zc_R) : Nat → Int := R.2.2.2.1
abbrev zc_R.l (R : zc_R) : Nat → Int := R.2.2.2.2
def s_row (T : Int) (tr : Nat → Int) (R : zc_R) : zc_R := if R.b < T then (R.a, T, R.c + 1, tr, R.l) else (R.a, R.b, R.c + 1, R.w, R.l)
def s_deed (j : Nat) (S : Int) (R : zc_R) : zc_R := (max R.a S, R.b, R.c, R.w, zu R.l j (max (R.l j) S))
def s_go (law C : Int) : Nat → Nat → zz_W → Int → (Nat → Int) → zc_R → zc_R
  | 0, _, _, T, tr, R => s_row T tr R
  | r + 1, j, W, T, tr, R =>
    if 0 < W.S 11 then s_go law C r (j + 1) (w_deed law C (-1) 1 0 W) (T + w_steps law C (-1) 1 0 W) (zu tr j 1) (s_deed j (w_steps law C (-1) 1 0 W) (s_go law C r (j + 1) (w_deed law C (-1) 0 0 W) (T + w_steps law C (-1) 0 0 W) (zu tr j 0) (s_deed j (w_steps law C (-1) 0 0 W) R)))
    else s_go law C r (j + 1) (w_deed law C (-1) 0 0 W) (T + w_steps law C (-1) 0 0 W) (zu tr j 0) (s_deed j (w_steps law C (-1) 0 0 W) R)
/-- one deed, and all rows behind it -/
def s_one (law C : Int) (r j : Nat) (kd : Int) (W : zz_W) (T : Int) (tr : Nat → Int) (R : zc_R) : zc_R := s_go law C r (j + 1) (w_deed law C (-1) kd 0 W) (T + w_steps law C (-1) kd 0 W) (zu tr j kd) (s_deed j (w_steps law C (-1) kd 0 W) R)
theorem s_go_y {law C T : Int} {r j : Nat} {W : zz_W} {tr : Nat → Int} {R : zc_R} (h : 0 < W.S 11) : s_go law C (r + 1) j W T tr R = s_one law C r j 1 W T tr (s_one law C r j 0 W T tr R) := if_pos h
theorem s_go_n {law C T : Int} {r j : Nat} {W : zz_W} {tr : Nat → Int} {R : zc_R} (h : ¬ 0 < W.S 11) : s_go law C (r + 1) j W T tr R = s_one law C r j 0 W T tr R := if_neg h
theorem s_row_c (T : Int) (tr : Nat → Int) (R : zc_R) : (s_row T tr R).c = R.c + 1 ∧ (s_row T tr R).l = R.l := by
  unfold s_row
  split <;> exact ⟨rfl, rfl⟩
theorem s_go_c (law C : Int) : ∀ (r j : Nat) (W : zz_W) (T : Int) (tr : Nat → Int) (R : zc_R), R.c ≤ (s_go law C r j W T tr R).c ∧ (s_go law C r j W T tr R).c ≤ R.c + ((2 ^ r : Nat) : Int)
  | 0, j, W, T, tr, R => by
    show R.c ≤ (s_row T tr R).c ∧ (s_row T tr R).c ≤ R.c + 1
    rw [(s_row_c T tr R).1]
    omega
  | r + 1, j, W, T, tr, R => by
    have e : (2 ^ (r + 1) : Nat) = 2 ^ r * 2 := Nat.pow_succ _ _
    have h0 := s_go_c law C r (j + 1) (w_deed law C (-1) 0 0 W) (T + w_steps law C (-1) 0 0 W) (zu tr j 0) (s_deed j (w_steps law C (-1) 0 0 W) R)
    have e0 : (s_deed j (w_steps law C (-1) 0 0 W) R).c = R.c := rfl
    rw [e0] at h0
    obtain ⟨R1, hR1⟩ : ∃ R1, R1 = s_go law C r (j + 1) (w_deed law C (-1) 0 0 W) (T + w_steps law C (-1) 0 0 W) (zu tr j 0) (s_deed j (w_steps law C (-1) 0 0 W) R) := ⟨_, rfl⟩
    rw [← hR1] at h0
    by_cases h : 0 < W.S 11
    · rw [s_go_y h]
      unfold s_one
      rw [← hR1]
      have h1 := s_go_c law C r (j + 1) (w_deed law C (-1) 1 0 W) (T + w_steps law C (-1) 1 0 W) (zu tr j 1) (s_deed j (w_steps law C (-1) 1 0 W) R1)
      have e1 : (s_deed j (w_steps law C (-1) 1 0 W) R1).c = R1.c := rfl
      rw [e1] at h1
      obtain ⟨R2, hR2⟩ : ∃ R2, R2 = s_go law C r (j + 1) (w_deed law C (-1) 1 0 W) (T + w_steps law C (-1) 1 0 W) (zu tr j 1) (s_deed j (w_steps law C (-1) 1 0 W) R1) := ⟨_, rfl⟩
      rw [← hR2] at h1 ⊢
      clear hR1 hR2 e0 e1
      rw [e]
      omega
    · rw [s_go_n h]
      unfold s_one
      rw [← hR1]
      clear hR1 e0
      rw [e]
      omega
/-- levels ahead of the one at which it begins stay -/
theorem s_go_l (law C : Int) : ∀ (r j : Nat) (W : zz_W) (T : Int) (tr : Nat → Int) (R : zc_R) (i : Nat), i < j → (s_go law C r j W T tr R).l i = R.l i
  | 0, j, W, T, tr, R, i, _ => by
    show (s_row T tr R).l i = R.l i
    rw [(s_row_c T tr R).2]
  | r + 1, j, W, T, tr, R, i, hi => by
    have e : ∀ (kd : Int) (R : zc_R), (s_one law C r j kd W T tr R).l i = R.l i := fun kd R => (s_go_l law C r (j + 1) _ _ _ _ i (by omega)).trans (zu_n _ _ (by omega))
    by_cases h : 0 < W.S 11
    · rw [s_go_y h, e, e]
    · rw [s_go_n h, e]
/-- the most at a level does not depend on what follows -/
theorem s_go_p (law C : Int) : ∀ (r r' j : Nat) (W : zz_W) (T T' : Int) (tr tr' : Nat → Int) (R R' : zc_R) (i : Nat), r ≤ r' → i < j + r → (∀ i, i < j + r → R.l i = R'.l i) → (s_go law C r j W T tr R).l i = (s_go law C r' j W T' tr' R').l i
  | 0, r', j, W, T, T', tr, tr', R, R', i, _, hi, he => by
    rw [s_go_l law C r' j W T' tr' R' i (by omega), s_go_l law C 0 j W T tr R i (by omega)]
    exact he i hi
  | r + 1, 0, j, W, T, T', tr, tr', R, R', i, hr, hi, he => absurd hr (by omega)
  | r + 1, r' + 1, j, W, T, T', tr, tr', R, R', i, hr, hi, he => by
    have e : ∀ (kd : Int) (R R' : zc_R), (∀ i, i < j + (r + 1) → R.l i = R'.l i) → ∀ i, i < j + (r + 1) → (s_one law C r j kd W T tr R).l i = (s_one law C r' j kd W T' tr' R').l i := fun kd R R' hR i hi => s_go_p law C r r' (j + 1) _ _ _ _ _ _ _ i (by omega) (by omega) (fun x hx => by
      show zu R.l j (max (R.l j) _) x = zu R'.l j (max (R'.l j) _) x
      by_cases ex : x = j
      · subst ex
        rw [zu_s, zu_s, hR x (by omega)]
      · rw [zu_n _ _ ex, zu_n _ _ ex, hR x (by omega)])
    by_cases h : 0 < W.S 11
    · rw [s_go_y h, s_go_y h]
      exact e 1 _ _ (fun x hx => e 0 R R' he x hx) i hi
    · rw [s_go_n h, s_go_n h]
      exact e 0 R R' he i hi
theorem s_row_b {T : Int} {tr : Nat → Int} {R : zc_R} (h : 0 < R.b ∨ 0 < T) : 0 < (s_row T tr R).b := by
  unfold s_row
  split
  · show 0 < T
    omega
  · show 0 < R.b
    omega
theorem s_go_b {law C : Int} (hC : 2 ≤ C ∧ C ≤ 4) : ∀ (r j B : Nat) (W : zz_W) (T : Int) (tr : Nat → Int) (R : zc_R), IV law B W → 0 ≤ T → (0 < R.b ∨ 0 < T ∨ 0 < r) → 0 < (s_go law C r j W T tr R).b
  | 0, j, B, W, T, tr, R, _, _, h => s_row_b (by omega)
  | r + 1, j, B, W, T, tr, R, hI, hT, _ => by
    have e : ∀ (kd : Int) (R : zc_R), (kd = 0 ∨ (kd = 1 ∧ 0 < W.S 11)) → 0 < (s_one law C r j kd W T tr R).b := fun kd R hk => by
      have hI2 := (IV_deed (C := C) (mk := -1) (kind := kd) (x := 0) hI hC (by omega) (fun _ => by omega) (fun z => by omega)).1
      have hp := w_steps_p (C := C) (mk := -1) (kind := kd) (x := 0) hI (by omega)
      exact s_go_b hC r (j + 1) (B + 1) _ _ _ _ hI2 (by omega) (Or.inr (Or.inl (by omega)))
    by_cases h : 0 < W.S 11
    · rw [s_go_y h]
      exact e 1 _ (Or.inr ⟨rfl, h⟩)
    · rw [s_go_n h]
      exact e 0 _ (Or.inl rfl)
/-- the class's scout at s, n levels long -/
def SN (σ : zz_M) (s n : Nat) (R : zc_R) : Prop := (σ.1 800 s = R.a ∧ σ.1 801 s = R.b ∧ σ.1 802 s = R.c ∧ σ.1 803 s = (n : Nat)) ∧ (0 < R.b → ∀ i, i < n → σ.2 (s + 2) i = R.w i) ∧ ∀ i, i < 6 → σ.2 (s + 3) i = R.l i
theorem lp_note {X : zz_X} {s n : Nat} {T : Int} {σ0 : zz_M} {Post : Option zz_V → zz_M → Prop} (hn : n ≤ 6) (h3 : σ0.1 803 s = (n : Nat)) (kk : ∀ σ', (∀ i, i < n → σ'.2 (s + 2) i = σ0.2 (s + 1) i) → zz_F (fun a => a = s + 2) σ0 σ' → Post none σ') :
    ∀ (r k : Nat) (σ : zz_M), k + r = n → (∀ i, i < k → σ.2 (s + 2) i = σ0.2 (s + 1) i) → zz_F (fun a => a = s + 2) σ0 σ → zz_G X 1 p_Scout_noteRow 15 [zP 8 0 0 s, zI T, zI (k : Nat)] [] σ Post := by
  intro r
  induction r with
  | zero =>
    intro k σ hk hw hF
    obtain rfl : k = n := hk
    have e3 : σ.1 803 s = (k : Nat) := ((hF s (by omega)).1 803).trans h3
    refine zz_gsn 3 rfl ?_
    refine zz_br rfl (fun h18 => ?_) (fun h18 => absurd h18 (by rw [e3]; omega))
    refine zz_rv rfl rfl ?_
    exact kk σ hw hF
  | succ r ih =>
    intro k σ hk hw hF
    have e3 : σ.1 803 s = (n : Nat) := ((hF s (by omega)).1 803).trans h3
    have hkn : k < n := by omega
    refine zz_gsn 3 rfl ?_
    refine zz_br rfl (fun h18 => absurd h18 (by rw [e3]; omega)) (fun h18 => ?_)
    refine zz_gsn 6 rfl ?_
    refine zz_ald rfl (⟨by omega, by omega⟩) ?_
    refine zz_ast rfl (⟨by omega, by omega⟩) ?_
    refine zz_gsn 1 rfl ?_
    refine zz_jp rfl ?_
    rw [zw_s (by omega)]
    refine ih (k + 1) _ (by omega) (fun i hi => ?_) (hF.tr (zz_F.sa rfl))
    by_cases ei : i = k
    · subst ei
      exact (sa_h _ _ _ _).trans ((hF (s + 1) (by omega)).2 _)
    · exact (sa_i _ _ (fun z => ei z)).trans (hw i (by omega))
theorem t_Scout_noteRow {X : zz_X} {σ : zz_M} {s n : Nat} {T : Int} {tr : Nat → Int} {R : zc_R} (hn : n ≤ 6) (hS : SN σ s n R) (hc : 0 ≤ R.c ∧ R.c ≤ 1000) (ht : ∀ i, i < n → σ.2 (s + 1) i = tr i) : zz_T X 1 p_Scout_noteRow [zP 8 0 0 s, zI T] σ (fun r σ' => r = none ∧ SN σ' s n (s_row T tr R) ∧ zz_F (fun a => a = s ∨ a = s + 2) σ σ') := by
  refine zz_mk k_Scout_noteRow o_Scout_noteRow rfl rfl (Nat.le_of_ble_eq_true rfl) ?_
  show zz_G X 1 p_Scout_noteRow 0 [zP 8 0 0 s, zI T, zU] [] σ _
  obtain ⟨⟨a0, a1, a2, a3⟩, aw, al⟩ := id hS
  refine zz_gsn 6 rfl ?_
  obtain ⟨σ6, h6⟩ : ∃ x, x = zz_sf σ 802 s (R.c + 1) := ⟨_, rfl⟩
  refine zz_sge (σ' := σ6) (by rw [h6, a2, zw_id (by omega) (by omega)]) ?_
  have b0 : σ6.1 800 s = R.a := by rw [h6, sf_f _ _ (by decide)]; exact a0
  have b1 : σ6.1 801 s = R.b := by rw [h6, sf_f _ _ (by decide)]; exact a1
  have b2 : σ6.1 802 s = R.c + 1 := by rw [h6, sf_h]
  have b3 : σ6.1 803 s = (n : Nat) := by rw [h6, sf_f _ _ (by decide)]; exact a3
  have m6 : σ6.2 = σ.2 := by rw [h6]; rfl
  have F6 : zz_F (fun a => a = s ∨ a = s + 2) σ σ6 := by rw [h6]; exact zz_F.sf (Or.inl rfl)
  refine zz_gsn 3 rfl ?_
  refine zz_br rfl (fun h9 => ?_) (fun h9 => ?_)
  · refine zz_rv rfl rfl ?_
    have e : ¬ R.b < T := by rw [← b1]; exact Int.not_lt.mpr h9
    refine ⟨rfl, ?_, F6⟩
    unfold s_row
    rw [if_neg e]
    exact ⟨⟨b0, b1, b2, b3⟩, fun z i hi => (congrFun (congrFun m6 _) _).trans (aw z i hi), fun i hi => (congrFun (congrFun m6 _) _).trans (al i hi)⟩
  · refine zz_gsn 5 rfl ?_
    have e : R.b < T := by rw [← b1]; first | exact h9 | exact Int.not_le.mp h9
    refine lp_note (n := n) (σ0 := zz_sf σ6 801 s T) hn ((sf_f _ _ (by decide)).trans b3) (fun σ' w F => ?_) n 0 (zz_sf σ6 801 s T) (Nat.zero_add n) (fun i hi => absurd hi (Nat.not_lt_zero i)) zz_F.rf
    refine ⟨rfl, ?_, F6.tr ((zz_F.sf (Or.inl rfl)).tr (F.mono (fun a z => Or.inr z)))⟩
    unfold s_row
    rw [if_pos e]
    refine ⟨⟨((F s (by omega)).1 800).trans ((sf_f _ _ (by decide)).trans b0), ((F s (by omega)).1 801).trans (sf_h _ _ _ _), ((F s (by omega)).1 802).trans ((sf_f _ _ (by decide)).trans b2), ((F s (by omega)).1 803).trans ((sf_f _ _ (by decide)).trans b3)⟩, fun _ i hi => ?_, fun i hi => ?_⟩
    · exact (w i hi).trans ((congrFun (congrFun m6 _) _).trans (ht i hi))
    · exact ((F (s + 3) (by omega)).2 i).trans ((congrFun (congrFun m6 _) _).trans (al i hi))
