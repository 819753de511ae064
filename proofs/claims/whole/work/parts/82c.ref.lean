/-! the reference: a deed of a graft -/
def Fz (m n : Nat) (σ σ' : zz_M) : Prop := Fx m n σ σ' ∧ σ'.1 1251 m = σ.1 1251 m ∧ ∀ i, σ'.2 (m + 22) i = σ.2 (m + 22) i
theorem Fz.rf {m n : Nat} {σ : zz_M} : Fz m n σ σ := ⟨Fx.rf, rfl, fun _ => rfl⟩
theorem Fz.tr {m n : Nat} {σ σ1 σ2 : zz_M} (h : Fz m n σ σ1) (h2 : Fz m n σ1 σ2) : Fz m n σ σ2 := ⟨h.1.tr h2.1, h2.2.1.trans h.2.1, fun i => (h2.2.2 i).trans (h.2.2 i)⟩
theorem Fn.z {m n : Nat} {σ σ' : zz_M} (h : Fn m σ σ') : Fz m n σ σ' := ⟨h.x, h.1 _ _ (by omega), fun i => by rw [h.2 (m + 22) (by omega)]⟩
theorem Rg.z {m t n n0 : Nat} {σ σ' : zz_M} (h : Rg m t n σ σ') (hn : n0 ≤ n) (ht : 61 ≤ t) : Fz m n0 σ σ' := ⟨h.x hn ht, h.1 _ _ (by unfold rg1; omega), fun i => h.2 _ _ (by unfold rg2 rc2; omega)⟩
theorem cp_z {m t n0 : Nat} {σ σ' : zz_M} (h2 : σ'.1 = σ.1) (h3 : ∀ a i, ¬ (a = m + 3 ∧ 12 * t ≤ i ∧ i < 12 * t + 12) → σ'.2 a i = σ.2 a i) (ht : 61 ≤ t) : Fz m n0 σ σ' := ⟨cp_x h2 h3 ht, by rw [h2], fun i => h3 _ _ (by omega)⟩
theorem Fz.c {m n : Nat} {σ : zz_M} {x : Int} : Fz m n σ (zz_sf σ 1254 m x) := ⟨⟨fun f q _ => sf_f _ _ (by unfold pf at q; omega), fun _ _ _ => rfl, zz_F.sf ⟨Nat.le_refl _, Nat.le_add_right _ _⟩⟩, sf_f _ _ (by decide), fun _ => rfl⟩
theorem NQ.rg {m t n : Nat} {σ σ' : zz_M} {q : zq_T} (hq : NQ σ m q) (h : Rg m t n σ σ') : NQ σ' m q := ⟨(h.1 _ _ (by unfold rg1; omega)).trans hq.1, fun i hi => (h.2 _ _ (by unfold rg2 rc2; omega)).trans (hq.2 i hi)⟩
theorem NQ.cp {m t : Nat} {σ σ' : zz_M} {q : zq_T} (hq : NQ σ m q) (h2 : σ'.1 = σ.1) (h3 : ∀ a i, ¬ (a = m + 3 ∧ 12 * t ≤ i ∧ i < 12 * t + 12) → σ'.2 a i = σ.2 a i) : NQ σ' m q := ⟨by rw [h2]; exact hq.1, fun i hi => (h3 _ _ (by omega)).trans (hq.2 i hi)⟩
theorem MP.fn {m s : Nat} {σ σ' : zz_M} {W : zz_W} (h : MP σ m s W) (hF : Fn m σ σ') : MP σ' m s W := h.ff (hF.1 _ _ (by omega)) (fun a y1 y2 => hF.2 a (by omega))
theorem lp_rgn {X : zz_X} {m on : Nat} {q0 : zq_T} {was : Int} {u4 u5 u6 : zz_V} {σ0 : zz_M} {Post : Option zz_V → zz_M → Prop} (hon : on < 61) (hq : q0.1 ≤ 60) (hA : ∀ i, i < q0.1 → σ0.2 (m + 11) (64 * on + i) = q0.2 i) (kk : ∀ (σ' : zz_M) (y : Int), NQ σ' m q0 → Fn m σ0 σ' → zz_G X 6 p_Mo_grafts 29 [zP 12 0 0 m, zI (on : Nat), zI was, zI y, u4, u5, u6] [] σ' Post) :
    ∀ (r i : Nat) (σ : zz_M), i + r = q0.1 → σ.1 1253 m = (q0.1 : Nat) → (∀ j, j < i → σ.2 (m + 23) j = q0.2 j) → Fn m σ0 σ → zz_G X 6 p_Mo_grafts 15 [zP 12 0 0 m, zI (on : Nat), zI was, zI (i : Nat), u4, u5, u6] [] σ Post := by
  intro r
  induction r with
  | zero =>
    intro i σ hi h1 h2 hF
    refine zz_gsn 3 rfl ?_
    refine zz_br rfl (fun h18 => ?_) (fun h18 => absurd h18 (by omega))
    exact kk σ _ ⟨h1, fun j hj => h2 j (by omega)⟩ hF
  | succ r ih =>
    intro i σ hi h1 h2 hF
    have ha : σ.2 (m + 11) (64 * on + i) = q0.2 i := by rw [hF.2 (m + 11) (by omega)]; exact hA i (by omega)
    have zs : zw ((i : Int) + 1) = ((i + 1 : Nat) : Int) := zw_s (by omega)
    refine zz_gsn 3 rfl ?_
    refine zz_br rfl (fun h18 => absurd h18 (by omega)) (fun h18 => ?_)
    refine zz_gsn 6 rfl ?_
    refine zz_cv (n := 3) rfl rfl (t_Mo_asked (v := on) (k := i) (by omega) (by omega)) (Nat.le_of_ble_eq_true rfl) (Nat.le_of_ble_eq_true rfl) (Nat.le_of_ble_eq_true rfl) (fun r25 σ25 q25 => ?_)
    obtain ⟨rfl, rfl⟩ := q25
    rw [ha]
    refine zz_ast rfl (⟨by omega, by omega⟩) ?_
    refine zz_gsn 1 rfl ?_
    refine zz_jp rfl ?_
    rw [zs]
    refine ih (i + 1) _ (by omega) h1 (fun j hj => ?_) (hF.tr Fn.sa)
    rw [Int.toNat_natCast]
    by_cases e : j = i
    · rw [e]
      exact sa_h _ _ _ _
    · rw [sa_i _ _ e]
      exact h2 j (by omega)
theorem lp_rgs {X : zz_X} {m on i B0 n0 : Nat} {law C was acc K x : Int} {W : zz_W} {q : zq_T} {σ : zz_M} {Post : Option zz_V → zz_M → Prop} (hP : MP σ m 122 W) (hQ : NQ σ m q) (hC : 2 ≤ C ∧ C ≤ 4) (hB : B0 + i ≤ 700) (hl5 : σ.1 1205 m = law) (hl6 : σ.1 1206 m = C) (hI : r_bd law B0 n0 i W) (hi : i ≤ 100) (hk : 0 ≤ K ∧ K ≤ 3) (hkl : law ≠ 2 → K ≤ 1) (hpos : K = 1 ∨ K = 3 → 0 < q.1) (h11 : W.S 11 = (q.1 : Nat)) (hq : q.1 < 800) (hac : zw (acc + w_steps law C (-1) K x W) = acc + w_steps law C (-1) K x W)
    (kk : ∀ σ' : zz_M, MP σ' m 122 (w_deed law C (-1) K x W) → NQ σ' m (zq_chg K x q) → Fz m n0 σ σ' → σ'.1 1254 m = σ.1 1254 m → zz_G X 6 p_Mo_grafts 120 [zP 12 0 0 m, zI (on : Nat), zI was, zI (acc + w_steps law C (-1) K x W), zI (i : Nat), zI K, zI x] [] σ' Post) : zz_G X 6 p_Mo_grafts 78 [zP 12 0 0 m, zI (on : Nat), zI was, zI acc, zI (i : Nat), zI K, zI x] [] σ Post := by
  have hn20 : W.n + (B0 + i) + 10 ≤ 20000 := by have := hI.2.2; omega
  have hp1 : K = 1 ∨ K = 3 → 0 < W.S 11 := fun z => by rw [h11]; exact Int.ofNat_lt.mpr (hpos z)
  refine zz_gsn 6 rfl ?_
  refine zz_cv (n := 5) rfl rfl (t_Mo_deeds (s := 122) (t := 123) (mk := -1) (kind := K) (x := x) hP (by decide) (by decide) (by decide) hl5 hl6 hI.1 hB hC hk hkl hp1 hn20) (Nat.le_of_ble_eq_true rfl) (Nat.le_of_ble_eq_true rfl) (Nat.le_of_ble_eq_true rfl) (fun r84 σ84 q84 => ?_)
  obtain ⟨rfl, p84, g84, -, -⟩ := q84
  refine zz_gsn 1 rfl ?_
  rw [hac]
  clear hac
  refine zz_gsn 4 rfl ?_
  refine zz_cv (n := 3) rfl rfl (t_Mo_copies (s := 123) (t := 122) (by decide) (by decide) (by decide)) (Nat.le_of_ble_eq_true rfl) (Nat.le_of_ble_eq_true rfl) (Nat.le_of_ble_eq_true rfl) (fun r90 σ90 q90 => ?_)
  obtain ⟨rfl, u90, v90, w90⟩ := q90
  obtain ⟨P90, -⟩ := p84.copy u90 v90 w90
  have F90 : Fz m n0 σ σ90 := (g84.z hI.2.1 (by decide)).tr (cp_z v90 w90 (by decide))
  have Q90 : NQ σ90 m q := (hQ.rg g84).cp v90 w90
  have c90 : σ90.1 1254 m = σ.1 1254 m := by rw [v90]; exact g84.1 _ _ (by unfold rg1; omega)
  have n90 := Q90.1
  have hks : K = 0 ∨ K = 1 ∨ K = 2 ∨ K = 3 := by omega
  rcases hks with hK | hK | hK | hK
  · refine zz_gsn 1 rfl ?_
    refine zz_br rfl (fun h92 => absurd hK h92) (fun h92 => ?_)
    refine zz_gsn 4 rfl ?_
    rw [n90]
    refine zz_cv (n := 3) rfl rfl (t_Mo_putsIn (pl := q.1) Q90 hq (Nat.le_refl _)) (Nat.le_of_ble_eq_true rfl) (Nat.le_of_ble_eq_true rfl) (Nat.le_of_ble_eq_true rfl) (fun r97 σ97 q97 => ?_)
    obtain ⟨rfl, p97, f97⟩ := q97
    refine zz_gsn 2 rfl ?_
    refine zz_br rfl (fun h100 => ?_) (fun h100 => absurd (by first | exact h100 | exact Decidable.not_not.mp h100) (show K ≠ 2 by omega))
    refine zz_gsn 2 rfl ?_
    refine zz_br rfl (fun h107 => ?_) (fun h107 => absurd (by first | exact h107 | exact Decidable.not_not.mp h107) (show K ≠ 1 by omega))
    refine zz_gsn 2 rfl ?_
    refine zz_br rfl (fun h113 => ?_) (fun h113 => absurd (by first | exact h113 | exact Decidable.not_not.mp h113) (show K ≠ 3 by omega))
    have ek : K = 0 := hK
    have eq : zq_chg K x q = zq_ins q.1 x q := by
      rw [ek]
      exact if_pos rfl
    rw [← eq] at p97
    exact kk _ (P90.fn f97) p97 (F90.tr f97.z) ((f97.1 1254 m (by omega)).trans c90)
  · refine zz_gsn 1 rfl ?_
    refine zz_br rfl (fun h92 => ?_) (fun h92 => absurd (by first | exact h92 | exact Decidable.not_not.mp h92) (show K ≠ 0 by omega))
    refine zz_gsn 2 rfl ?_
    refine zz_br rfl (fun h100 => ?_) (fun h100 => absurd (by first | exact h100 | exact Decidable.not_not.mp h100) (show K ≠ 2 by omega))
    refine zz_gsn 2 rfl ?_
    refine zz_br rfl (fun h107 => absurd hK h107) (fun h107 => ?_)
    refine zz_gsn 2 rfl ?_
    refine zz_cv (n := 2) rfl rfl (t_Mo_takesOut (pl := 0) Q90 (Nat.le_of_lt hq) (hpos (Or.inl hK))) (Nat.le_of_ble_eq_true rfl) (Nat.le_of_ble_eq_true rfl) (Nat.le_of_ble_eq_true rfl) (fun r110 σ110 q110 => ?_)
    obtain ⟨rfl, p110, f110⟩ := q110
    refine zz_gsn 2 rfl ?_
    refine zz_br rfl (fun h113 => ?_) (fun h113 => absurd (by first | exact h113 | exact Decidable.not_not.mp h113) (show K ≠ 3 by omega))
    have ek : K = 1 := hK
    have eq : zq_chg K x q = zq_rem 0 q := by
      rw [ek]
      exact (if_neg (by decide)).trans ((if_neg (by decide)).trans (if_pos rfl))
    rw [← eq] at p110
    exact kk _ (P90.fn f110) p110 (F90.tr f110.z) ((f110.1 1254 m (by omega)).trans c90)
  · refine zz_gsn 1 rfl ?_
    refine zz_br rfl (fun h92 => ?_) (fun h92 => absurd (by first | exact h92 | exact Decidable.not_not.mp h92) (show K ≠ 0 by omega))
    refine zz_gsn 2 rfl ?_
    refine zz_br rfl (fun h100 => absurd hK h100) (fun h100 => ?_)
    refine zz_gsn 3 rfl ?_
    refine zz_cv (n := 3) rfl rfl (t_Mo_putsIn (pl := 0) Q90 hq (Nat.zero_le _)) (Nat.le_of_ble_eq_true rfl) (Nat.le_of_ble_eq_true rfl) (Nat.le_of_ble_eq_true rfl) (fun r104 σ104 q104 => ?_)
    obtain ⟨rfl, p104, f104⟩ := q104
    refine zz_gsn 2 rfl ?_
    refine zz_br rfl (fun h107 => ?_) (fun h107 => absurd (by first | exact h107 | exact Decidable.not_not.mp h107) (show K ≠ 1 by omega))
    refine zz_gsn 2 rfl ?_
    refine zz_br rfl (fun h113 => ?_) (fun h113 => absurd (by first | exact h113 | exact Decidable.not_not.mp h113) (show K ≠ 3 by omega))
    have ek : K = 2 := hK
    have eq : zq_chg K x q = zq_ins 0 x q := by
      rw [ek]
      exact (if_neg (by decide)).trans (if_pos rfl)
    rw [← eq] at p104
    exact kk _ (P90.fn f104) p104 (F90.tr f104.z) ((f104.1 1254 m (by omega)).trans c90)
  · refine zz_gsn 1 rfl ?_
    refine zz_br rfl (fun h92 => ?_) (fun h92 => absurd (by first | exact h92 | exact Decidable.not_not.mp h92) (show K ≠ 0 by omega))
    refine zz_gsn 2 rfl ?_
    refine zz_br rfl (fun h100 => ?_) (fun h100 => absurd (by first | exact h100 | exact Decidable.not_not.mp h100) (show K ≠ 2 by omega))
    refine zz_gsn 2 rfl ?_
    refine zz_br rfl (fun h107 => ?_) (fun h107 => absurd (by first | exact h107 | exact Decidable.not_not.mp h107) (show K ≠ 1 by omega))
    refine zz_gsn 2 rfl ?_
    refine zz_br rfl (fun h113 => absurd hK h113) (fun h113 => ?_)
    refine zz_gsn 5 rfl ?_
    rw [n90, zw_p (hpos (Or.inr hK)) (by omega)]
    refine zz_cv (n := 2) rfl rfl (t_Mo_takesOut (pl := q.1 - 1) Q90 (Nat.le_of_lt hq) (by have := hpos (Or.inr hK); omega)) (Nat.le_of_ble_eq_true rfl) (Nat.le_of_ble_eq_true rfl) (Nat.le_of_ble_eq_true rfl) (fun r119 σ119 q119 => ?_)
    obtain ⟨rfl, p119, f119⟩ := q119
    have ek : K = 3 := hK
    have eq : zq_chg K x q = zq_rem (q.1 - 1) q := by
      rw [ek]
      exact (if_neg (by decide)).trans ((if_neg (by decide)).trans (if_neg (by decide)))
    rw [← eq] at p119
    exact kk _ (P90.fn f119) p119 (F90.tr f119.z) ((f119.1 1254 m (by omega)).trans c90)
