/-! the reference: numbers put in, taken out -/
/-- the row of numbers of a graft of the reference -/
def NQ (σ : zz_M) (m : Nat) (q : zq_T) : Prop := σ.1 1253 m = (q.1 : Nat) ∧ ∀ i, i < q.1 → σ.2 (m + 23) i = q.2 i
def Fn (m : Nat) (σ σ' : zz_M) : Prop := (∀ f a, ¬ (f = 1253 ∧ a = m) → σ'.1 f a = σ.1 f a) ∧ ∀ a, a ≠ m + 23 → σ'.2 a = σ.2 a
theorem Fn.rf {m : Nat} {σ : zz_M} : Fn m σ σ := ⟨fun _ _ _ => rfl, fun _ _ => rfl⟩
theorem Fn.tr {m : Nat} {σ σ1 σ2 : zz_M} (h : Fn m σ σ1) (h2 : Fn m σ1 σ2) : Fn m σ σ2 := ⟨fun f a q => (h2.1 f a q).trans (h.1 f a q), fun a q => (h2.2 a q).trans (h.2 a q)⟩
theorem Fn.sf {m : Nat} {σ : zz_M} {x : Int} : Fn m σ (zz_sf σ 1253 m x) := ⟨fun f a q => by rw [sf_1, if_neg q], fun _ _ => rfl⟩
theorem Fn.sa {m i : Nat} {σ : zz_M} {x : Int} : Fn m σ (zz_sa σ (m + 23) i x) := ⟨fun _ _ _ => rfl, fun a q => funext (fun j => sa_a _ _ q)⟩
theorem Fn.x {m n : Nat} {σ σ' : zz_M} (h : Fn m σ σ') : Fx m n σ σ' := ⟨fun f q _ => h.1 f m (by unfold pf at q; omega), fun a i q => by rw [h.2 a (by unfold pa at q; omega)], fun a ha => ⟨fun f => h.1 f a (by unfold A_rf at ha; omega), fun i => by rw [h.2 a (by unfold A_rf at ha; omega)]⟩⟩
theorem lp_rpin {X : zz_X} {m n pl : Nat} {x : Int} {f : Nat → Int} {σ0 : zz_M} {Post : Option zz_V → zz_M → Prop} (hn : n < 800) (hpl : pl ≤ n) (k : ∀ σ' : zz_M, NQ σ' m (zq_ins pl x (n, f)) → Fn m σ0 σ' → Post none σ') :
    ∀ (r i : Nat) (σ : zz_M), i = pl + r → i ≤ n → σ.1 1253 m = (n : Nat) → (∀ j, j < i → σ.2 (m + 23) j = f j) → (∀ j, i < j → j ≤ n → σ.2 (m + 23) j = f (j - 1)) → Fn m σ0 σ → zz_G X 1 p_Mo_putsIn 3 [zP 12 0 0 m, zI (pl : Nat), zI x, zI (i : Nat)] [] σ Post := by
  intro r
  induction r with
  | zero =>
    intro i σ hi hin h1 h3 h4 hF
    refine zz_gsn 2 rfl ?_
    refine zz_br rfl (fun h5 => ?_) (fun h5 => absurd h5 (by omega))
    refine zz_gsn 4 rfl ?_
    refine zz_ast rfl (⟨by omega, by omega⟩) ?_
    refine zz_gsn 6 rfl ?_
    refine zz_rv rfl rfl ?_
    refine k _ ⟨?_, fun j hj => ?_⟩ ((hF.tr Fn.sa).tr Fn.sf)
    · rw [sf_h]
      show zw (σ.1 1253 m + 1) = ((n + 1 : Nat) : Int)
      rw [h1, zw_id (by omega) (by omega)]
      omega
    · have hj2 : j < n + 1 := hj
      rw [Int.toNat_natCast]
      show (zz_sa σ (m + 23) pl x).2 (m + 23) j = if j < pl then f j else if j = pl then x else f (j - 1)
      by_cases e : j = pl
      · subst e
        rw [sa_h, if_neg (Nat.lt_irrefl j), if_pos rfl]
      · rw [sa_i _ _ e]
        by_cases e2 : j < pl
        · rw [if_pos e2]
          exact h3 j (by omega)
        · rw [if_neg e2, if_neg e]
          exact h4 j (by omega) (by omega)
  | succ r ih =>
    intro i σ hi hin h1 h3 h4 hF
    have eb : zw ((i : Int) - 1) = ((i - 1 : Nat) : Int) := by rw [zw_id (by omega) (by omega)]; omega
    have eb2 : zw ((i : Int) + -1) = ((i - 1 : Nat) : Int) := by rw [zw_id (by omega) (by omega)]; omega
    refine zz_gsn 2 rfl ?_
    refine zz_br rfl (fun h5 => absurd h5 (by omega)) (fun h5 => ?_)
    refine zz_gsn 8 rfl ?_
    rw [eb]
    refine zz_ald rfl (⟨by omega, by omega⟩) ?_
    refine zz_ast rfl (⟨by omega, by omega⟩) ?_
    refine zz_gsn 1 rfl ?_
    refine zz_jp rfl ?_
    rw [eb2]
    refine ih (i - 1) _ (by omega) (by omega) h1 (fun j hj => ?_) (fun j hj hj2 => ?_) (hF.tr Fn.sa)
    · rw [Int.toNat_natCast, sa_i _ _ (by omega)]
      exact h3 j (by omega)
    · rw [Int.toNat_natCast]
      by_cases e : j = i
      · subst e
        rw [sa_h, Int.toNat_natCast]
        exact h3 _ (by omega)
      · rw [sa_i _ _ e]
        exact h4 j (by omega) hj2
theorem t_Mo_putsIn {X : zz_X} {σ : zz_M} {m pl : Nat} {x : Int} {q : zq_T} (hq : NQ σ m q) (hp : q.1 < 800) (hpl : pl ≤ q.1) : zz_T X 1 p_Mo_putsIn [zP 12 0 0 m, zI (pl : Nat), zI x] σ (fun r σ' => r = none ∧ NQ σ' m (zq_ins pl x q) ∧ Fn m σ σ') := by
  refine zz_mk k_Mo_putsIn o_Mo_putsIn rfl rfl (Nat.le_of_ble_eq_true rfl) ?_
  show zz_G X 1 p_Mo_putsIn 0 [zP 12 0 0 m, zI (pl : Nat), zI x, zU] [] σ _
  have hq1 := hq.1
  refine zz_gsn 3 rfl ?_
  rw [hq1]
  exact lp_rpin (f := q.2) (σ0 := σ) (n := q.1) hp hpl (fun σ' x1 x2 => ⟨rfl, x1, x2⟩) (q.1 - pl) q.1 _ (by omega) (Nat.le_refl _) hq.1 hq.2 (fun j hj hj2 => absurd hj (by omega)) Fn.rf
theorem lp_rtak {X : zz_X} {m n pl : Nat} {f : Nat → Int} {σ0 : zz_M} {Post : Option zz_V → zz_M → Prop} (hn : n + 1 ≤ 800) (hpl : pl ≤ n) (k : ∀ σ' : zz_M, NQ σ' m (zq_rem pl (n + 1, f)) → Fn m σ0 σ' → Post none σ') :
    ∀ (r i : Nat) (σ : zz_M), i + r = n → pl ≤ i → σ.1 1253 m = (n : Nat) → (∀ j, i ≤ j → j ≤ n → σ.2 (m + 23) j = f j) → (∀ j, j < i → σ.2 (m + 23) j = if j < pl then f j else f (j + 1)) → Fn m σ0 σ → zz_G X 1 p_Mo_takesOut 8 [zP 12 0 0 m, zI (pl : Nat), zI (i : Nat)] [] σ Post := by
  intro r
  induction r with
  | zero =>
    intro i σ hi hin h1 h3 h4 hF
    refine zz_gsn 3 rfl ?_
    refine zz_br rfl (fun h11 => ?_) (fun h11 => absurd h11 (by omega))
    refine zz_rv rfl rfl ?_
    exact k _ ⟨h1, fun j hj => h4 j (by have hj2 : j < n + 1 - 1 := hj; omega)⟩ hF
  | succ r ih =>
    intro i σ hi hin h1 h3 h4 hF
    have eb : zw ((i : Int) + 1) = ((i + 1 : Nat) : Int) := by rw [zw_id (by omega) (by omega)]; omega
    refine zz_gsn 3 rfl ?_
    refine zz_br rfl (fun h11 => absurd h11 (by omega)) (fun h11 => ?_)
    refine zz_gsn 8 rfl ?_
    rw [eb]
    refine zz_ald rfl (⟨by omega, by omega⟩) ?_
    refine zz_ast rfl (⟨by omega, by omega⟩) ?_
    refine zz_gsn 1 rfl ?_
    refine zz_jp rfl ?_
    rw [eb]
    refine ih (i + 1) _ (by omega) (by omega) h1 (fun j hj hj2 => ?_) (fun j hj => ?_) (hF.tr Fn.sa)
    · rw [Int.toNat_natCast, sa_i _ _ (by omega)]
      exact h3 j (by omega) hj2
    · rw [Int.toNat_natCast]
      by_cases e : j = i
      · subst e
        rw [sa_h, Int.toNat_natCast, if_neg (by omega)]
        exact h3 _ (by omega) (by omega)
      · rw [sa_i _ _ e]
        exact h4 j (by omega)
theorem t_Mo_takesOut {X : zz_X} {σ : zz_M} {m pl : Nat} {q : zq_T} (hq : NQ σ m q) (hp : q.1 ≤ 800) (hpl : pl < q.1) : zz_T X 1 p_Mo_takesOut [zP 12 0 0 m, zI (pl : Nat)] σ (fun r σ' => r = none ∧ NQ σ' m (zq_rem pl q) ∧ Fn m σ σ') := by
  refine zz_mk k_Mo_takesOut o_Mo_takesOut rfl rfl (Nat.le_of_ble_eq_true rfl) ?_
  show zz_G X 1 p_Mo_takesOut 0 [zP 12 0 0 m, zI (pl : Nat), zU] [] σ _
  have hq1 := hq.1
  obtain ⟨⟨n, f⟩, rfl⟩ : ∃ q' : zq_T, q = (q'.1 + 1, q'.2) := ⟨(q.1 - 1, q.2), by
    show (q.1, q.2) = (q.1 - 1 + 1, q.2)
    rw [Nat.sub_add_cancel (by omega)]⟩
  have em : zw (σ.1 1253 m - 1) = (n : Nat) := by rw [hq1]; exact zw_p (n := n + 1) (Nat.succ_pos _) (by have : n + 1 ≤ 800 := hp; omega)
  refine zz_gsn 5 rfl ?_
  rw [em]
  refine zz_gsn 3 rfl ?_
  exact lp_rtak (f := f) (σ0 := σ) (n := n) hp (Nat.le_of_lt_succ hpl) (fun σ' x1 x2 => ⟨rfl, x1, x2⟩) (n - pl) pl _ (by have : pl < n + 1 := hpl; omega) (Nat.le_refl _) (sf_h _ _ _ _) (fun j hj hj2 => hq.2 j (Nat.lt_succ_of_le hj2)) (fun j hj => by rw [if_pos hj]; exact hq.2 j (Nat.lt_trans hj hpl)) Fn.sf
