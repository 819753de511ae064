/-! rows of numbers: taken out -/
theorem lp_nrem {X : zz_X} {p a n pl : Nat} {u : Int} {f : Nat → Int} {σ0 : zz_M} {Post : Option zz_V → zz_M → Prop} (hn : n + 1 ≤ p) (hpl : pl ≤ n) (hb : p < 100000) (k : ∀ σ', QR σ' a (zq_rem pl (n + 1, f)) → zz_F (zz_A2 a) σ0 σ' → Post (some (zI u)) σ') :
    ∀ (r i : Nat) (σ : zz_M), i + r = n → pl ≤ i → σ.1 500 a = (n : Nat) → (∀ j, i ≤ j → j ≤ n → σ.2 (a + 1) j = f j) → (∀ j, j < i → σ.2 (a + 1) j = if j < pl then f j else f (j + 1)) → zz_F (zz_A2 a) σ0 σ → zz_G X 2 p_Numbers_remove 20 [zP 5 p 0 a, zI (pl : Nat), zI u, zI (i : Nat)] [] σ Post := by
  intro r
  induction r with
  | zero =>
    intro i σ hi hin h1 h3 h4 hF
    refine zz_gsn 3 rfl ?_
    refine zz_br rfl (fun h23 => ?_) (fun h23 => absurd h23 (by omega))
    refine zz_gsn 1 rfl ?_
    refine zz_ri rfl (Or.inl rfl) ?_
    exact k _ ⟨h1, fun j hj => h4 j (by have hj2 : j < n + 1 - 1 := hj; omega)⟩ hF
  | succ r ih =>
    intro i σ hi hin h1 h3 h4 hF
    have eb : zw ((i : Int) + 1) = ((i + 1 : Nat) : Int) := by rw [zw_id (by omega) (by omega)]; omega
    refine zz_gsn 3 rfl ?_
    refine zz_br rfl (fun h23 => absurd h23 (by omega)) (fun h23 => ?_)
    refine zz_gsn 8 rfl ?_
    refine zz_ald rfl (by rw [eb]; omega) ?_
    refine zz_ast rfl (by omega) ?_
    refine zz_gsn 1 rfl ?_
    refine zz_jp rfl ?_
    rw [eb]
    refine ih (i + 1) _ (by omega) (by omega) h1 (fun j hj hj2 => ?_) (fun j hj => ?_) (hF.tr (zz_F.sa (Or.inr rfl)))
    · rw [Int.toNat_natCast, sa_i _ _ (by omega)]
      exact h3 j (by omega) hj2
    · rw [Int.toNat_natCast]
      by_cases e : j = i
      · subst e
        rw [sa_h, Int.toNat_natCast, if_neg (by omega)]
        exact h3 _ (by omega) (by omega)
      · rw [sa_i _ _ e]
        exact h4 j (by omega)
theorem t_Numbers_remove {X : zz_X} {σ : zz_M} {p a pl : Nat} {q : zq_T} (hq : QR σ a q) (hp : q.1 ≤ p) (hpl : pl < q.1) (hb : p < 100000) : zz_T X 2 p_Numbers_remove [zP 5 p 0 a, zI (pl : Nat)] σ (fun r σ' => r = some (zI (q.2 pl)) ∧ QR σ' a (zq_rem pl q) ∧ zz_F (zz_A2 a) σ σ') := by
  refine zz_mk k_Numbers_remove o_Numbers_remove rfl rfl (Nat.le_of_ble_eq_true rfl) ?_
  show zz_G X 2 p_Numbers_remove 0 [zP 5 p 0 a, zI (pl : Nat), zU, zU] [] σ _
  have hq1 := hq.1
  refine zz_gsn 2 rfl ?_
  refine zz_cv (n := 2) rfl rfl (t_Numbers_numberAt) (Nat.le_of_ble_eq_true rfl) (Nat.le_of_ble_eq_true rfl) (Nat.le_of_ble_eq_true rfl) (fun r2 σ2 q2 => ?_)
  obtain ⟨rfl, n2, rfl, e2⟩ := q2
  have en : n2 = q.2 pl := by
    rcases e2 with ⟨-, -, -, e2⟩ | ⟨e2, -⟩
    · rw [e2, Int.toNat_natCast]
      exact hq.2 pl hpl
    · exact absurd ⟨by omega, by omega, by omega⟩ e2
  subst en
  refine zz_gsn 2 rfl ?_
  refine zz_br rfl (fun h5 => absurd h5 (by omega)) (fun h5 => ?_)
  refine zz_gsn 3 rfl ?_
  refine zz_br rfl (fun h9 => ?_) (fun h9 => absurd h9 (by omega))
  refine zz_gsn 8 rfl ?_
  have em : zw (σ.1 500 a - 1) = ((q.1 - 1 : Nat) : Int) := by rw [hq1, zw_id (by omega) (by omega)]; omega
  rw [em]
  have eq : zq_rem pl q = zq_rem pl (q.1 - 1 + 1, q.2) := by rw [show q.1 - 1 + 1 = q.1 by omega]
  rw [eq]
  exact lp_nrem (f := q.2) (σ0 := σ) (n := q.1 - 1) (by omega) (by omega) hb (fun σ' x1 x2 => ⟨rfl, x1, x2⟩) (q.1 - 1 - pl) pl _ (by omega) (Nat.le_refl _) (sf_h _ _ _ _) (fun j _ hj => hq.2 j (by omega)) (fun j hj => by rw [if_pos hj]; exact hq.2 j (by omega)) (zz_F.sf (Or.inl rfl))
