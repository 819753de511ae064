/-! rows of numbers: put in -/
theorem lp_nins {X : zz_X} {p a n pl : Nat} {x : Int} {f : Nat → Int} {σ0 : zz_M} {Post : Option zz_V → zz_M → Prop} (hn : n < p) (hpl : pl ≤ n) (hb : p < 100000) (k : ∀ σ', QR σ' a (zq_ins pl x (n, f)) → zz_F (zz_A2 a) σ0 σ' → Post none σ') :
    ∀ (r i : Nat) (σ : zz_M), i = pl + r → i ≤ n → σ.1 500 a = (n : Nat) → (∀ j, j < i → σ.2 (a + 1) j = f j) → (∀ j, i < j → j ≤ n → σ.2 (a + 1) j = f (j - 1)) → zz_F (zz_A2 a) σ0 σ → zz_G X 1 p_Numbers_insert 16 [zP 5 p 0 a, zI (pl : Nat), zI x, zI (i : Nat)] [] σ Post := by
  intro r
  induction r with
  | zero =>
    intro i σ hi hin h1 h3 h4 hF
    refine zz_gsn 2 rfl ?_
    refine zz_br rfl (fun h18 => ?_) (fun h18 => absurd h18 (by omega))
    refine zz_gsn 4 rfl ?_
    refine zz_ast rfl (by omega) ?_
    refine zz_gsn 6 rfl ?_
    refine zz_rv rfl rfl ?_
    refine k _ ⟨?_, fun j hj => ?_⟩ ((hF.tr (zz_F.sa (Or.inr rfl))).tr (zz_F.sf (Or.inl rfl)))
    · rw [sf_h]
      show zw (σ.1 500 a + 1) = ((n + 1 : Nat) : Int)
      rw [h1, zw_id (by omega) (by omega)]
      omega
    · have hj2 : j < n + 1 := hj
      rw [Int.toNat_natCast]
      show (zz_sa σ (a + 1) pl x).2 (a + 1) j = if j < pl then f j else if j = pl then x else f (j - 1)
      by_cases e : j = pl
      · subst e
        rw [sa_h, if_neg (Nat.lt_irrefl j), if_pos rfl]
      · rw [sa_i _ _ e]
        by_cases e2 : j < pl
        · rw [if_pos e2]
          exact h3 j (by omega)
        · rw [if_neg e2, if_neg e]
          exact h4 j (by omega) (by omega)
  | succ r ih =>
    intro i σ hi hin h1 h3 h4 hF
    have eb : zw ((i : Int) - 1) = ((i - 1 : Nat) : Int) := by rw [zw_id (by omega) (by omega)]; omega
    have eb2 : zw ((i : Int) + -1) = ((i - 1 : Nat) : Int) := by rw [zw_id (by omega) (by omega)]; omega
    refine zz_gsn 2 rfl ?_
    refine zz_br rfl (fun h18 => absurd h18 (by omega)) (fun h18 => ?_)
    refine zz_gsn 8 rfl ?_
    refine zz_ald rfl (by rw [eb]; omega) ?_
    refine zz_ast rfl (by omega) ?_
    refine zz_gsn 1 rfl ?_
    refine zz_jp rfl ?_
    rw [eb2, eb]
    refine ih (i - 1) _ (by omega) (by omega) h1 (fun j hj => ?_) (fun j hj hj2 => ?_) (hF.tr (zz_F.sa (Or.inr rfl)))
    · rw [Int.toNat_natCast, sa_i _ _ (by omega)]
      exact h3 j (by omega)
    · rw [Int.toNat_natCast]
      by_cases e : j = i
      · subst e
        rw [sa_h, Int.toNat_natCast]
        exact h3 _ (by omega)
      · rw [sa_i _ _ e]
        exact h4 j (by omega) hj2
theorem t_Numbers_insert {X : zz_X} {σ : zz_M} {p a pl : Nat} {x : Int} {q : zq_T} (hq : QR σ a q) (hp : q.1 < p) (hpl : pl ≤ q.1) (hb : p < 100000) : zz_T X 1 p_Numbers_insert [zP 5 p 0 a, zI (pl : Nat), zI x] σ (fun r σ' => r = none ∧ QR σ' a (zq_ins pl x q) ∧ zz_F (zz_A2 a) σ σ') := by
  refine zz_mk k_Numbers_insert o_Numbers_insert rfl rfl (Nat.le_of_ble_eq_true rfl) ?_
  show zz_G X 1 p_Numbers_insert 0 [zP 5 p 0 a, zI (pl : Nat), zI x, zU] [] σ _
  have hq1 := hq.1
  refine zz_gsn 5 rfl ?_
  refine zz_br rfl (fun h5 => absurd h5 (by omega)) (fun h5 => ?_)
  refine zz_gsn 1 rfl ?_
  refine zz_br rfl (fun h7 => absurd h7 (by omega)) (fun h7 => ?_)
  refine zz_gsn 3 rfl ?_
  refine zz_br rfl (fun h11 => ?_) (fun h11 => absurd h11 (by omega))
  refine zz_gsn 3 rfl ?_
  rw [hq1]
  exact lp_nins (f := q.2) (σ0 := σ) (n := q.1) hp hpl hb (fun σ' x1 x2 => ⟨rfl, x1, x2⟩) (q.1 - pl) q.1 _ (by omega) (Nat.le_refl _) hq.1 hq.2 (fun j hj hj2 => absurd hj (by omega)) zz_F.rf
