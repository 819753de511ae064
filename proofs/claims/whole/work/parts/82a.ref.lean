/-! the reference: the way of a graft -/
/-- what the search of a way may change -/
def Fy2 (m : Nat) (σ σ' : zz_M) : Prop := (∀ f a, ¬ (f = 1251 ∧ a = m) → σ'.1 f a = σ.1 f a) ∧ ∀ a, a ≠ m + 22 → σ'.2 a = σ.2 a
theorem Fy2.rf {m : Nat} {σ : zz_M} : Fy2 m σ σ := ⟨fun _ _ _ => rfl, fun _ _ => rfl⟩
theorem Fy2.tr {m : Nat} {σ σ1 σ2 : zz_M} (h : Fy2 m σ σ1) (h2 : Fy2 m σ1 σ2) : Fy2 m σ σ2 := ⟨fun f a q => (h2.1 f a q).trans (h.1 f a q), fun a q => (h2.2 a q).trans (h.2 a q)⟩
theorem Fy2.sf {m : Nat} {σ : zz_M} {x : Int} : Fy2 m σ (zz_sf σ 1251 m x) := ⟨fun f a q => by rw [sf_1, if_neg q], fun _ _ => rfl⟩
theorem Fy2.sa {m i : Nat} {σ : zz_M} {x : Int} : Fy2 m σ (zz_sa σ (m + 22) i x) := ⟨fun _ _ _ => rfl, fun a q => funext (fun j => sa_a _ _ q)⟩
theorem Fy2.x {m n : Nat} {σ σ' : zz_M} (h : Fy2 m σ σ') : Fx m n σ σ' := ⟨fun f q _ => h.1 f m (by unfold pf at q; omega), fun a i q => by rw [h.2 a (by unfold pa at q; omega)], fun a ha => ⟨fun f => h.1 f a (by unfold A_rf at ha; omega), fun i => by rw [h.2 a (by unfold A_rf at ha; omega)]⟩⟩
/-- the first step up at which it is u or less -/
def zd_T (D : zz_D) (u v : Nat) : Nat → Nat → Nat
  | 0, t => t
  | r + 1, t => if u < zd_up D t v then zd_T D u v r (t + 1) else t
theorem zd_T_b {D : zz_D} {k u v : Nat} (h : zd_ok k D) (hv : v ≤ k) : ∀ r t, t + r = dpp D v → (∀ s, s < t → u < zd_up D s v) → (∀ s, s < zd_T D u v r t → u < zd_up D s v) ∧ zd_up D (zd_T D u v r t) v ≤ u ∧ t ≤ zd_T D u v r t
  | 0, t, ht, hs => by
    obtain rfl : t = dpp D v := ht
    exact ⟨hs, by show zd_up D (dpp D v) v ≤ u; rw [zd_up_z h hv]; exact Nat.zero_le _, Nat.le_refl _⟩
  | r + 1, t, ht, hs => by
    by_cases z : u < zd_up D t v
    · have e : zd_T D u v (r + 1) t = zd_T D u v r (t + 1) := if_pos z
      rw [e]
      obtain ⟨a, b, c⟩ := zd_T_b h hv r (t + 1) (by omega) (fun s y => by
        by_cases y2 : s = t
        · rw [y2]
          exact z
        · exact hs s (by omega))
      exact ⟨a, b, by omega⟩
    · have e : zd_T D u v (r + 1) t = t := if_neg z
      rw [e]
      exact ⟨hs, by omega, Nat.le_refl _⟩
theorem lp_lay1 {X : zz_X} {m k u v n : Nat} {D : zz_D} {x : zz_V} {σ0 : zz_M} {Post : Option zz_V → zz_M → Prop} (hok : zd_ok k D) (hv : v ≤ k) (hk : k ≤ 60) (hB : ∀ u, 0 < u → u ≤ k → σ0.2 (m + 5) u = ((zd_B D (u - 1) : Nat) : Int)) (h1 : ∀ s, s < n → u < zd_up D s v) (h2 : zd_up D n v ≤ u) (hn : n ≤ dpp D v) (kk : ∀ (σ' : zz_M) (y : Int), σ'.1 1251 m = (n : Nat) → Fy2 m σ0 σ' → zz_G X 1 p_Mo_laysWay 20 [zP 12 0 0 m, zI (u : Nat), zI (v : Nat), zI y, x] [] σ' Post) :
    ∀ (r t : Nat) (σ : zz_M), t + r = n → σ.1 1251 m = (t : Nat) → Fy2 m σ0 σ → zz_G X 1 p_Mo_laysWay 5 [zP 12 0 0 m, zI (u : Nat), zI (v : Nat), zI (zd_up D t v : Nat), x] [] σ Post := by
  intro r
  have hdl : dpp D v ≤ v := zd_dep_le hok v v hv
  induction r with
  | zero =>
    intro t σ ht hc hF
    obtain rfl : t = n := ht
    refine zz_gsn 2 rfl ?_
    refine zz_br rfl (fun h7 => ?_) (fun h7 => absurd h7 (by omega))
    exact kk σ _ hc hF
  | succ r ih =>
    intro t σ ht hc hF
    have htn : t < n := by omega
    obtain ⟨q, hq⟩ : ∃ q : Nat, q = zd_up D t v := ⟨_, rfl⟩
    have qu : u < q := by rw [hq]; exact h1 t htn
    have q1 : q ≤ v := by rw [hq]; exact (zd_up_d hok hv t (by omega)).1
    have qs : zd_up D (t + 1) v = zd_B D (q - 1) := by rw [zd_up_s, hq]
    have qb : ∀ x, (zz_sf σ 1251 m x).2 (m + 5) q = ((zd_up D (t + 1) v : Nat) : Int) := fun x => by
      rw [sf_2, hF.2 (m + 5) (by omega), hB q (by omega) (by omega), qs]
    have t60 : t < 60 := by omega
    have zs : zw ((t : Int) + 1) = ((t + 1 : Nat) : Int) := zw_s (by omega)
    rw [← hq]
    refine zz_gsn 2 rfl ?_
    refine zz_br rfl (fun h7 => absurd h7 (by omega)) (fun h7 => ?_)
    refine zz_gsn 5 rfl ?_
    rw [hc, zs]
    refine zz_gsn 4 rfl ?_
    refine zz_ald rfl (⟨by omega, by omega⟩) ?_
    refine zz_gsn 1 rfl ?_
    refine zz_jp rfl ?_
    rw [show ∀ x, (zz_sf σ 1251 m x).2 (m + 5) ((q : Nat) : Int).toNat = ((zd_up D (t + 1) v : Nat) : Int) from qb]
    exact ih (t + 1) _ (by omega) (sf_h _ _ _ _) (hF.tr Fy2.sf)
theorem lp_lay2 {X : zz_X} {m k u v n : Nat} {D : zz_D} {σ0 : zz_M} {Post : Option zz_V → zz_M → Prop} (hok : zd_ok k D) (hv : v ≤ k) (hk : k ≤ 60) (hB : ∀ u, 0 < u → u ≤ k → σ0.2 (m + 5) u = ((zd_B D (u - 1) : Nat) : Int)) (h1 : ∀ s, s < n → u < zd_up D s v) (h2 : zd_up D n v ≤ u) (hn : n ≤ dpp D v) (kk : ∀ (σ' : zz_M) (y : Int), (∀ s, s < n → σ'.2 (m + 22) (n - 1 - s) = ((zd_up D s v : Nat) : Int)) → Fy2 m σ0 σ' → σ'.1 1251 m = σ0.1 1251 m → zz_G X 1 p_Mo_laysWay 40 [zP 12 0 0 m, zI (u : Nat), zI (v : Nat), zI y, zI (zd_up D n v : Nat)] [] σ' Post) :
    ∀ (r t : Nat) (σ : zz_M), t + r = n → (∀ s, s < t → σ.2 (m + 22) (n - 1 - s) = ((zd_up D s v : Nat) : Int)) → Fy2 m σ0 σ → σ.1 1251 m = σ0.1 1251 m → zz_G X 1 p_Mo_laysWay 25 [zP 12 0 0 m, zI (u : Nat), zI (v : Nat), zI ((n - t : Nat) : Int), zI (zd_up D t v : Nat)] [] σ Post := by
  intro r
  have hdl : dpp D v ≤ v := zd_dep_le hok v v hv
  induction r with
  | zero =>
    intro t σ ht hw hF hc
    obtain rfl : t = n := ht
    refine zz_gsn 2 rfl ?_
    refine zz_br rfl (fun h27 => ?_) (fun h27 => absurd h27 (by omega))
    exact kk σ _ hw hF hc
  | succ r ih =>
    intro t σ ht hw hF hc
    have htn : t < n := by omega
    obtain ⟨q, hq⟩ : ∃ q : Nat, q = zd_up D t v := ⟨_, rfl⟩
    have qu : u < q := by rw [hq]; exact h1 t htn
    have q1 : q ≤ v := by rw [hq]; exact (zd_up_d hok hv t (by omega)).1
    have qs : zd_up D (t + 1) v = zd_B D (q - 1) := by rw [zd_up_s, hq]
    have qb : ∀ i x, (zz_sa σ (m + 22) i x).2 (m + 5) q = ((zd_up D (t + 1) v : Nat) : Int) := fun i x => by
      rw [sa_a _ _ (by omega), hF.2 (m + 5) (by omega), hB q (by omega) (by omega), qs]
    have zs : zw (((n - t : Nat) : Int) + -1) = ((n - 1 - t : Nat) : Int) := by rw [zw_id (by omega) (by omega)]; omega
    have en : n - (t + 1) = n - 1 - t := by omega
    have ih2 := ih (t + 1)
    rw [en] at ih2
    have w61 : n - 1 - t < 61 := by omega
    rw [← hq]
    refine zz_gsn 2 rfl ?_
    refine zz_br rfl (fun h27 => absurd h27 (by omega)) (fun h27 => ?_)
    refine zz_gsn 1 rfl ?_
    rw [zs]
    clear zs
    refine zz_gsn 4 rfl ?_
    refine zz_ast rfl (⟨by omega, by omega⟩) ?_
    refine zz_gsn 3 rfl ?_
    refine zz_ald rfl (⟨by omega, by omega⟩) ?_
    refine zz_gsn 1 rfl ?_
    refine zz_jp rfl ?_
    rw [show ∀ i x, (zz_sa σ (m + 22) i x).2 (m + 5) ((q : Nat) : Int).toNat = ((zd_up D (t + 1) v : Nat) : Int) from qb]
    refine ih2 _ (by omega) (fun s hs => ?_) (hF.tr Fy2.sa) hc
    rw [Int.toNat_natCast]
    by_cases e : s = t
    · rw [e, ← hq]
      exact sa_h _ _ _ _
    · rw [sa_i _ _ (by omega)]
      exact hw s (by omega)
theorem t_Mo_laysWay {X : zz_X} {σ : zz_M} {m k u v : Nat} {D : zz_D} (hok : zd_ok k D) (hv : v ≤ k) (hk : k ≤ 60) (hB : ∀ u, 0 < u → u ≤ k → σ.2 (m + 5) u = ((zd_B D (u - 1) : Nat) : Int)) : zz_T X 1 p_Mo_laysWay [zP 12 0 0 m, zI (u : Nat), zI (v : Nat)] σ (fun r σ' => ∃ c : Int, r = some (zI c) ∧ Fy2 m σ σ' ∧ ((c = 1 ∧ ∃ n : Nat, zd_wn D u v = (n : Nat) ∧ σ'.1 1251 m = (n : Nat) ∧ ∀ i, i < n → σ'.2 (m + 22) i = ((zd_w D v n i + 1 : Nat) : Int)) ∨ (c = 0 ∧ zd_wn D u v = -1))) := by
  refine zz_mk k_Mo_laysWay o_Mo_laysWay rfl rfl (Nat.le_of_ble_eq_true rfl) ?_
  show zz_G X 1 p_Mo_laysWay 0 [zP 12 0 0 m, zI (u : Nat), zI (v : Nat), zU, zU] [] σ _
  obtain ⟨n, hn⟩ : ∃ n, n = zd_T D u v (dpp D v) 0 := ⟨_, rfl⟩
  obtain ⟨t1, t2, -⟩ := zd_T_b (u := u) hok hv (dpp D v) 0 (Nat.zero_add _) (fun s hs => absurd hs (Nat.not_lt_zero s))
  rw [← hn] at t1 t2
  clear hn
  obtain ⟨t3, t4⟩ := zd_wn_t hok hv t1 t2
  have hdl : dpp D v ≤ v := zd_dep_le hok v v hv
  refine zz_gsn 5 rfl ?_
  refine lp_lay1 (n := n) (σ0 := σ) hok hv hk hB t1 t2 t3 (fun σ1 y c1 F1 => ?_) n 0 _ (Nat.zero_add n) (sf_h _ _ _ _) Fy2.sf
  refine zz_gsn 3 rfl ?_
  rw [c1]
  refine zz_gsn 2 rfl ?_
  have e0 : zd_up D 0 v = v := rfl
  refine lp_lay2 (n := n) (σ0 := σ1) hok hv hk (fun u' y1 y2 => by rw [F1.2 (m + 5) (by omega)]; exact hB u' y1 y2) t1 t2 t3 (fun σ2 y2 w2 F2 c2 => ?_) n 0 σ1 (Nat.zero_add n) (fun s hs => absurd hs (Nat.not_lt_zero s)) Fy2.rf rfl
  refine zz_gsn 2 rfl ?_
  refine zz_br rfl (fun h42 => ?_) (fun h42 => ?_)
  · refine zz_gsn 1 rfl ?_
    refine zz_ri rfl (Or.inr ⟨rfl, by first | exact Or.inl rfl | exact Or.inr rfl | omega⟩) ?_
    refine ⟨0, rfl, F1.tr F2, Or.inr ⟨rfl, ?_⟩⟩
    rcases t4 with ⟨z, -⟩ | ⟨-, z⟩
    · exact absurd (congrArg (fun z : Nat => (z : Int)) z) h42
    · exact z
  · refine zz_gsn 1 rfl ?_
    refine zz_jp rfl ?_
    refine zz_ri rfl (Or.inr ⟨rfl, by first | exact Or.inl rfl | exact Or.inr rfl | omega⟩) ?_
    refine ⟨1, rfl, F1.tr F2, Or.inl ⟨rfl, ?_⟩⟩
    have e : zd_up D n v = u := Int.ofNat_inj.mp (by first | exact h42 | exact Decidable.not_not.mp h42)
    rcases t4 with ⟨-, z⟩ | ⟨z, -⟩
    · refine ⟨n, z, c2.trans c1, fun i hi => ?_⟩
      have y := w2 (n - 1 - i) (by omega)
      rw [show n - 1 - (n - 1 - i) = i from by omega] at y
      rw [y]
      have z2 := zd_up_p hok hv (t := n - 1 - i) (by omega)
      unfold zd_w
      omega
    · exact absurd e z
theorem t_Mo_areThree {X : zz_X} {σ : zz_M} {m : Nat} {u v w : Int} {I : zz_I} (hI : RI σ m I) (ho : i_ok I) : zz_T X 3 p_Mo_areThree [zP 12 0 0 m, zI u, zI v, zI w] σ (fun r σ' => σ = σ' ∧ ∃ n : Int, r = some (zI n) ∧ ((n = 1 ∧ vz I.ho I.k u ∧ vz I.ho I.k v ∧ vz I.ho I.k w) ∨ (n = 0 ∧ ¬ (vz I.ho I.k u ∧ vz I.ho I.k v ∧ vz I.ho I.k w)))) := by
  refine zz_mk k_Mo_areThree o_Mo_areThree rfl rfl (Nat.le_of_ble_eq_true rfl) ?_
  show zz_G X 3 p_Mo_areThree 0 [zP 12 0 0 m, zI u, zI v, zI w] [] σ _
  refine zz_gsn 2 rfl ?_
  refine zz_cv (n := 2) rfl rfl (t_Mo_isVersion) (Nat.le_of_ble_eq_true rfl) (Nat.le_of_ble_eq_true rfl) (Nat.le_of_ble_eq_true rfl) (fun r2 σ2 q2 => ?_)
  obtain ⟨rfl, n2, rfl, e2⟩ := q2
  replace e2 := rv_of hI ho e2
  refine zz_br rfl (fun h3 => ?_) (fun h3 => ?_)
  · refine zz_gsn 1 rfl ?_
    refine zz_ri rfl (Or.inr ⟨rfl, by first | exact Or.inl rfl | exact Or.inr rfl | omega⟩) ?_
    exact ⟨rfl, _, rfl, Or.inr ⟨rfl, fun z => e2.elim (fun y => absurd (y.1.symm.trans h3) (by decide)) (fun y => y.2 z.1)⟩⟩
  · refine zz_gsn 2 rfl ?_
    refine zz_cv (n := 2) rfl rfl (t_Mo_isVersion) (Nat.le_of_ble_eq_true rfl) (Nat.le_of_ble_eq_true rfl) (Nat.le_of_ble_eq_true rfl) (fun r6 σ6 q6 => ?_)
    obtain ⟨rfl, n6, rfl, e6⟩ := q6
    replace e6 := rv_of hI ho e6
    refine zz_br rfl (fun h7 => ?_) (fun h7 => ?_)
    · refine zz_gsn 1 rfl ?_
      refine zz_ri rfl (Or.inr ⟨rfl, by first | exact Or.inl rfl | exact Or.inr rfl | omega⟩) ?_
      exact ⟨rfl, _, rfl, Or.inr ⟨rfl, fun z => e6.elim (fun y => absurd (y.1.symm.trans h7) (by decide)) (fun y => y.2 z.2.1)⟩⟩
    · refine zz_gsn 2 rfl ?_
      refine zz_cv (n := 2) rfl rfl (t_Mo_isVersion) (Nat.le_of_ble_eq_true rfl) (Nat.le_of_ble_eq_true rfl) (Nat.le_of_ble_eq_true rfl) (fun r10 σ10 q10 => ?_)
      obtain ⟨rfl, n10, rfl, e10⟩ := q10
      replace e10 := rv_of hI ho e10
      refine zz_br rfl (fun h11 => ?_) (fun h11 => ?_)
      · refine zz_gsn 1 rfl ?_
        refine zz_ri rfl (Or.inr ⟨rfl, by first | exact Or.inl rfl | exact Or.inr rfl | omega⟩) ?_
        exact ⟨rfl, _, rfl, Or.inr ⟨rfl, fun z => e10.elim (fun y => absurd (y.1.symm.trans h11) (by decide)) (fun y => y.2 z.2.2)⟩⟩
      · refine zz_gsn 1 rfl ?_
        refine zz_jp rfl ?_
        refine zz_ri rfl (Or.inr ⟨rfl, by first | exact Or.inl rfl | exact Or.inr rfl | omega⟩) ?_
        exact ⟨rfl, _, rfl, Or.inl ⟨rfl, e2.elim (fun z => z.2) (fun z => absurd z.1 h3), e6.elim (fun z => z.2) (fun z => absurd z.1 h7), e10.elim (fun z => z.2) (fun z => absurd z.1 h11)⟩⟩
