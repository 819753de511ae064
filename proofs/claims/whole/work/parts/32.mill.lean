/-! a state becomes another one -/
/-- a state's copy, its first n rows being copied -/
def CP (n s t : Nat) (σ0 σ : zz_M) : Prop := (∀ k, k < n → σ.1 700 (s + 1 + k) = σ0.1 700 (t + 1 + k) ∧ σ.1 701 (s + 1 + k) = σ0.1 701 (t + 1 + k)) ∧ (∀ f a, ¬ ((f = 700 ∨ f = 701) ∧ s < a ∧ a < s + 1 + n) → σ.1 f a = σ0.1 f a) ∧ σ.2 = σ0.2
def zz_dj (s t : Nat) : Prop := s + 7 ≤ t ∨ t + 7 ≤ s
theorem CP.z {s t : Nat} {σ : zz_M} : CP 0 s t σ σ := ⟨fun k hk => absurd hk (Nat.not_lt_zero k), fun _ _ _ => rfl, rfl⟩
theorem CP.s {n s t : Nat} {σ0 σ σ' : zz_M} (h : CP n s t σ0 σ) (hn : n < 6) (hd : zz_dj s t) (e : σ' = zz_sf (zz_sf σ 700 (s + 1 + n) (σ.1 700 (t + 1 + n))) 701 (s + 1 + n) (σ.1 701 (t + 1 + n))) : CP (n + 1) s t σ0 σ' := by
  subst e
  obtain ⟨h1, h2, h3⟩ := h
  have a0 : σ.1 700 (t + 1 + n) = σ0.1 700 (t + 1 + n) := h2 _ _ (by unfold zz_dj at hd; omega)
  have a1 : σ.1 701 (t + 1 + n) = σ0.1 701 (t + 1 + n) := h2 _ _ (by unfold zz_dj at hd; omega)
  refine ⟨fun k hk => ?_, fun f a q => ?_, h3⟩
  · by_cases e : k = n
    · subst e
      rw [sf_f _ _ (by omega), sf_h, sf_h]
      exact ⟨a0, a1⟩
    · rw [sf_a _ _ (by omega), sf_a _ _ (by omega), sf_a _ _ (by omega), sf_a _ _ (by omega)]
      exact h1 k (by omega)
  · rw [sf_1, if_neg (by omega), sf_1, if_neg (by omega)]
    exact h2 f a (by omega)
def zz_cps (s t : Nat) (σ : zz_M) : zz_M := zz_sf (zz_sf (zz_sf (zz_sf (zz_sf (zz_sf σ 906 s (σ.1 906 t)) 907 s (σ.1 907 t)) 908 s (σ.1 908 t)) 909 s (σ.1 909 t)) 910 s (σ.1 910 t)) 911 s (σ.1 911 t)
theorem zz_cps_f (s t : Nat) (σ : zz_M) {f a : Nat} (h : ¬ (a = s ∧ 906 ≤ f ∧ f ≤ 911)) : (zz_cps s t σ).1 f a = σ.1 f a := by
  unfold zz_cps
  rw [sf_1, if_neg (by omega), sf_1, if_neg (by omega), sf_1, if_neg (by omega), sf_1, if_neg (by omega), sf_1, if_neg (by omega), sf_1, if_neg (by omega)]
theorem zz_cps_h (s t : Nat) (σ : zz_M) {f : Nat} (h : 906 ≤ f ∧ f ≤ 911) : (zz_cps s t σ).1 f s = σ.1 f t := by
  have hf : f = 906 ∨ f = 907 ∨ f = 908 ∨ f = 909 ∨ f = 910 ∨ f = 911 := by omega
  unfold zz_cps
  rcases hf with e | e | e | e | e | e <;> subst e
  · rw [sf_f _ _ (by decide), sf_f _ _ (by decide), sf_f _ _ (by decide), sf_f _ _ (by decide), sf_f _ _ (by decide), sf_h]
  · rw [sf_f _ _ (by decide), sf_f _ _ (by decide), sf_f _ _ (by decide), sf_f _ _ (by decide), sf_h]
  · rw [sf_f _ _ (by decide), sf_f _ _ (by decide), sf_f _ _ (by decide), sf_h]
  · rw [sf_f _ _ (by decide), sf_f _ _ (by decide), sf_h]
  · rw [sf_f _ _ (by decide), sf_h]
  · rw [sf_h]
theorem CP.sp {s t p m : Nat} {σ0 σ : zz_M} {W : zz_W} (h : CP 6 s t σ0 σ) (hd : zz_dj s t) (hm : 0 < p → m + 6 < s ∨ s + 6 < m) (hS : SP σ0 p m t W) : SP (zz_cps s t σ) p m s W := by
  obtain ⟨h1, h2, h3⟩ := h
  obtain ⟨s1, s2, s3, s4, s5⟩ := hS
  have e2 : (zz_cps s t σ).2 = σ0.2 := h3
  unfold zz_dj at hd
  refine ⟨fun k hk => ?_, fun j a1 a2 => ?_, ?_, fun hp => ?_, s5⟩
  · rw [zz_cps_f _ _ _ (by omega), zz_cps_f _ _ _ (by omega), (h1 k hk).1, (h1 k hk).2, e2]
    exact s1 k hk
  · rw [zz_cps_h _ _ _ (by omega), h2 _ _ (by omega)]
    exact s2 j a1 a2
  · rw [zz_cps_h _ _ _ (by omega), h2 _ _ (by omega)]
    exact s3
  · rw [zz_cps_f _ _ _ (by omega), h2 _ _ (by omega), e2]
    exact s4 hp
/-- what a state has of its own -/
def zz_c1s (s f a : Nat) : Prop := (s < a ∧ a < s + 7 ∧ (f = 700 ∨ f = 701)) ∨ (a = s ∧ 906 ≤ f ∧ f ≤ 911)
def Ms (s : Nat) (σ σ' : zz_M) : Prop := (∀ f a, ¬ zz_c1s s f a → σ'.1 f a = σ.1 f a) ∧ σ'.2 = σ.2
theorem CP.ms {s t : Nat} {σ0 σ : zz_M} (h : CP 6 s t σ0 σ) : Ms s σ0 (zz_cps s t σ) := ⟨fun f a q => by
  unfold zz_c1s at q
  rw [zz_cps_f _ _ _ (by omega)]
  exact h.2.1 f a (by omega), h.2.2⟩
theorem SP.z {σ : zz_M} {p m m' s : Nat} {W : zz_W} (h : SP σ p m s W) : SP σ 0 m' s W := ⟨fun k hk => ⟨(h.1 k hk).1, fun z => absurd z (Nat.lt_irrefl 0)⟩, h.2.1, h.2.2.1, fun z => absurd z (Nat.lt_irrefl 0), h.2.2.2.2⟩
theorem t_State_become {X : zz_X} {σ : zz_M} {s t : Nat} (hd : zz_dj s t) : zz_T X 2 p_State_become [zP 9 0 0 s, zP 9 0 0 t] σ (fun r σ' => r = none ∧ (∀ p m W, (0 < p → m + 6 < s ∨ s + 6 < m) → SP σ p m t W → SP σ' p m s W) ∧ Ms s σ σ') := by
  refine zz_mk k_State_become o_State_become rfl rfl (Nat.le_of_ble_eq_true rfl) ?_
  show zz_G X 2 p_State_become 0 [zP 9 0 0 s, zP 9 0 0 t] [] σ _
  refine zz_gsn 4 rfl ?_
  refine zz_cv (n := 2) rfl rfl (t_Row_become) (Nat.le_of_ble_eq_true rfl) (Nat.le_of_ble_eq_true rfl) (Nat.le_of_ble_eq_true rfl) (fun r4 σ4 q4 => ?_)
  obtain ⟨rfl, q4⟩ := q4
  have c4 : CP 1 s t σ σ4 := CP.z.s (by decide) hd q4
  clear q4
  refine zz_gsn 4 rfl ?_
  refine zz_cv (n := 2) rfl rfl (t_Row_become) (Nat.le_of_ble_eq_true rfl) (Nat.le_of_ble_eq_true rfl) (Nat.le_of_ble_eq_true rfl) (fun r9 σ9 q9 => ?_)
  obtain ⟨rfl, q9⟩ := q9
  have c9 : CP 2 s t σ σ9 := c4.s (by decide) hd q9
  clear q9
  refine zz_gsn 4 rfl ?_
  refine zz_cv (n := 2) rfl rfl (t_Row_become) (Nat.le_of_ble_eq_true rfl) (Nat.le_of_ble_eq_true rfl) (Nat.le_of_ble_eq_true rfl) (fun r14 σ14 q14 => ?_)
  obtain ⟨rfl, q14⟩ := q14
  have c14 : CP 3 s t σ σ14 := c9.s (by decide) hd q14
  clear q14
  refine zz_gsn 4 rfl ?_
  refine zz_cv (n := 2) rfl rfl (t_Row_become) (Nat.le_of_ble_eq_true rfl) (Nat.le_of_ble_eq_true rfl) (Nat.le_of_ble_eq_true rfl) (fun r19 σ19 q19 => ?_)
  obtain ⟨rfl, q19⟩ := q19
  have c19 : CP 4 s t σ σ19 := c14.s (by decide) hd q19
  clear q19
  refine zz_gsn 4 rfl ?_
  refine zz_cv (n := 2) rfl rfl (t_Row_become) (Nat.le_of_ble_eq_true rfl) (Nat.le_of_ble_eq_true rfl) (Nat.le_of_ble_eq_true rfl) (fun r24 σ24 q24 => ?_)
  obtain ⟨rfl, q24⟩ := q24
  have c24 : CP 5 s t σ σ24 := c19.s (by decide) hd q24
  clear q24
  refine zz_gsn 4 rfl ?_
  refine zz_cv (n := 2) rfl rfl (t_Row_become) (Nat.le_of_ble_eq_true rfl) (Nat.le_of_ble_eq_true rfl) (Nat.le_of_ble_eq_true rfl) (fun r29 σ29 q29 => ?_)
  obtain ⟨rfl, q29⟩ := q29
  have c29 : CP 6 s t σ σ29 := c24.s (by decide) hd q29
  clear q29
  refine zz_gsn 24 rfl ?_
  refine zz_rv rfl rfl ?_
  show none = none ∧ (∀ p m W, (0 < p → m + 6 < s ∨ s + 6 < m) → SP σ p m t W → SP (zz_cps s t σ29) p m s W) ∧ Ms s σ (zz_cps s t σ29)
  exact ⟨rfl, fun p m W hm hS => c29.sp hd hm hS, c29.ms⟩
theorem t_Mill_obey {X : zz_X} {σ : zz_M} {p q m : Nat} {l c : Int}  : zz_T X 1 p_Mill_obey [zP 4 p q m, zI l, zI c] σ (fun r σ' => r = none ∧ σ' = zz_sf (zz_sf σ 404 m l) 405 m c) := by
  refine zz_mk k_Mill_obey o_Mill_obey rfl rfl (Nat.le_of_ble_eq_true rfl) ?_
  show zz_G X 1 p_Mill_obey 0 [zP 4 p q m, zI l, zI c] [] σ _
  refine zz_gsn 6 rfl ?_
  refine zz_rv rfl rfl ?_
  exact ⟨rfl, rfl⟩
