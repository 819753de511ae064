/-! the reference: a deed makes the next version -/
theorem MP.oth {σ σ' : zz_M} {m v t : Nat} {W W' : zz_W} (h : MP σ m v W) (hR : Rg m t W.n σ σ') (hP : MP σ' m t W') (hn : W.n ≤ W'.n) (hvt : v ≠ t) : MP σ' m v (W'.n, W'.num, W'.mkr, W.R, W.S) := by
  obtain ⟨h1, h2, h3, h4⟩ := h
  refine ⟨fun k hk => ?_, fun j a b => ?_, hP.2.2.1, fun k hk c hc => Nat.lt_of_lt_of_le (h4 k hk c hc) hn⟩
  · rw [hR.2 (m + 3) _ (by unfold rg2 rc2; omega)]
    refine zz_ch_cong (fun c hc => ?_) (h1 k hk)
    have := h4 k hk c hc
    exact hR.2 (m + 2) c (by unfold rg2 rc2; omega)
  · rw [hR.2 (m + 3) _ (by unfold rg2 rc2; omega)]
    exact h2 j a b
theorem MP.ff {σ σ' : zz_M} {m s : Nat} {W : zz_W} (h : MP σ m s W) (e3 : σ'.1 1203 m = σ.1 1203 m) (e : ∀ a, m + 1 ≤ a → a ≤ m + 3 → σ'.2 a = σ.2 a) : MP σ' m s W := by
  obtain ⟨h1, h2, h3, h4⟩ := h
  refine ⟨fun k hk => ?_, fun j a b => ?_, ⟨e3.trans h3.1, fun i hi => ?_⟩, h4⟩
  · rw [e _ (by omega) (by omega), e _ (by omega) (by omega)]; exact h1 k hk
  · rw [e _ (by omega) (by omega)]; exact h2 j a b
  · rw [e _ (by omega) (by omega)]; exact h3.2 i hi
/-- the reference's VERSIONS up to the j-th -/
def RV (σ : zz_M) (m : Nat) (law C : Int) (j : Nat) (H : zz_H) (D : zz_D) : Prop :=
  (σ.1 1205 m = law ∧ σ.1 1206 m = C ∧ σ.1 1215 m = ((j + 1 : Nat) : Int))
  ∧ (∀ v, v ≤ j → MP σ m v (hw H v) ∧ QM σ m v (H.Q v))
  ∧ (∀ i, i < j → (σ.2 (m + 8) (i + 1) = H.sp i ∧ σ.2 (m + 9) (i + 1) = H.lt i ∧ σ.2 (m + 10) (i + 1) = (H.bf i : Nat)) ∧ (σ.2 (m + 5) (i + 1) = ((D i).2.1 : Nat) ∧ σ.2 (m + 6) (i + 1) = (D i).1 ∧ σ.2 (m + 7) (i + 1) = (D i).2.2))
  ∧ (σ.2 (m + 5) 0 = -1 ∧ σ.2 (m + 10) 0 = 0)
/-- what a deed may change -/
def Fm (m : Nat) (σ σ' : zz_M) : Prop := (∀ f a, ¬ (a = m ∧ (f = 1203 ∨ f = 1207 ∨ f = 1208 ∨ f = 1209 ∨ f = 1215)) → σ'.1 f a = σ.1 f a) ∧ ∀ a, ¬ (m + 1 ≤ a ∧ a ≤ m + 12) → σ'.2 a = σ.2 a
theorem Fm.rf {m : Nat} {σ : zz_M} : Fm m σ σ := ⟨fun _ _ _ => rfl, fun _ _ => rfl⟩
theorem Fm.tr {m : Nat} {σ σ1 σ2 : zz_M} (h : Fm m σ σ1) (h2 : Fm m σ1 σ2) : Fm m σ σ2 := ⟨fun f a q => (h2.1 f a q).trans (h.1 f a q), fun a q => (h2.2 a q).trans (h.2 a q)⟩
theorem w_nx {law C mk kind x y : Int} {W : zz_W} (h : kind = 1 ∨ kind = 3) : w_deed law C mk kind x W = w_deed law C mk kind y W ∧ w_steps law C mk kind x W = w_steps law C mk kind y W ∧ w_over law C mk kind x W = w_over law C mk kind y W := by
  have e : w_chg law mk kind x W = w_chg law mk kind y W := by
    rcases h with h | h <;> subst h
    · by_cases hl : law = 1
      · rw [w_chg1 mk x W hl, w_chg1 mk y W hl]
      · rw [w_chg1n mk x W hl, w_chg1n mk y W hl]
    · rw [w_chg3, w_chg3]
  unfold w_deed w_steps w_over
  rw [e]
  exact ⟨rfl, rfl, rfl⟩
theorem w_hx {law C mk : Int} {e : Int × Nat × Int} {H : zz_H} {W : zz_W} (hk : 0 ≤ e.1 ∧ e.1 ≤ 3) : w_deed law C mk e.1 e.2.2 W = w_deed law C mk e.1 (h_x e H) W ∧ w_steps law C mk e.1 e.2.2 W = w_steps law C mk e.1 (h_x e H) W ∧ w_over law C mk e.1 e.2.2 W = w_over law C mk e.1 (h_x e H) W := by
  by_cases h : e.1 = 0 ∨ e.1 = 2
  · rw [h_x_p h]
    exact ⟨rfl, rfl, rfl⟩
  · exact w_nx (by omega)
/-- all of it together, behind the last store -/
theorem RV.step {σ σ8 σ37 σ46 σZ : zz_M} {m j v : Nat} {law C kind x u : Int} {H : zz_H} {D : zz_D} (hR : RV σ m law C j H D) (hs : h_st law j (kind, v, x) H) (hj : j < 60) (hql : ∀ w, w ≤ j → (H.Q w).1 ≤ 60) (h8 : σ8 = zz_sa σ (m + 10) (j + 1) (H.n : Nat))
    (q37 : QM σ37 m (j + 1) (zq_chg kind x (H.Q v))) (d37 : σ37.1 = σ8.1) (e37 : ∀ a i, ¬ (a = m + 11 ∧ 64 * (j + 1) ≤ i ∧ i < 64 * (j + 1) + 64) → ¬ (a = m + 12 ∧ i = j + 1) → σ37.2 a i = σ8.2 a i)
    (p46 : MP σ46 m (j + 1) (h_w law C j (kind, v, x) H)) (g46 : Rg m (j + 1) H.n σ37 σ46)
    (hZ : σZ = zz_sf (zz_sa (zz_sa (zz_sa (zz_sa (zz_sa σ46 (m + 8) (j + 1) (w_steps law C (j : Nat) kind (h_x (kind, v, x) H) (hw H v))) (m + 9) (j + 1) (w_over law C (j : Nat) kind (h_x (kind, v, x) H) (hw H v))) (m + 5) (j + 1) (v : Nat)) (m + 6) (j + 1) kind) (m + 7) (j + 1) u) 1215 m ((j + 1 + 1 : Nat) : Int)) (hu : u = h_x (kind, v, x) H) :
    RV σZ m law C (j + 1) (h_one law C j (kind, v, x) H) (zu D j (kind, v, u)) ∧ Fm m σ σZ := by
  obtain ⟨⟨r1, r2, r3⟩, r4, r5, r6, r7⟩ := hR
  have z2 : ∀ a i, ¬ ((m + 5 ≤ a ∧ a ≤ m + 9) ∧ i = j + 1) → σZ.2 a i = σ46.2 a i := fun a i q => by
    rw [hZ, sf_2, sa_2, if_neg (by omega), sa_2, if_neg (by omega), sa_2, if_neg (by omega), sa_2, if_neg (by omega), sa_2, if_neg (by omega)]
  have z1 : ∀ f a, ¬ (a = m ∧ f = 1215) → σZ.1 f a = σ46.1 f a := fun f a q => by
    rw [hZ, sf_1, if_neg (fun z => q ⟨z.2, z.1⟩)]
    rfl
  have o1 : ∀ f a, ¬ (a = m ∧ (f = 1203 ∨ f = 1207 ∨ f = 1208 ∨ f = 1209 ∨ f = 1215)) → σZ.1 f a = σ.1 f a := fun f a q => by
    rw [z1 f a (by omega), g46.1 f a (by unfold rg1; omega), d37, h8]
    rfl
  have o2 : ∀ a i, ¬ (m + 1 ≤ a ∧ a ≤ m + 4) → ¬ ((m + 5 ≤ a ∧ a ≤ m + 10) ∧ i = j + 1) → ¬ (a = m + 11 ∧ 64 * (j + 1) ≤ i ∧ i < 64 * (j + 1) + 64) → ¬ (a = m + 12 ∧ i = j + 1) → σZ.2 a i = σ.2 a i := fun a i n1 n2 n3 n4 => by
    rw [z2 a i (by omega), g46.2 a i (by unfold rg2 rc2; omega), e37 a i n3 n4, h8, sa_2, if_neg (by omega)]
  have e10 : σZ.2 (m + 10) (j + 1) = (H.n : Nat) := by
    rw [z2 _ _ (by omega), g46.2 _ _ (by unfold rg2 rc2; omega), e37 _ _ (by omega) (by omega), h8, sa_h]
  have xe : w_ext (hw H v) (h_w law C j (kind, v, x) H) := x_deed law C (j : Nat) kind (h_x (kind, v, x) H) (hw H v) hs.2.1
  have pZ : MP σZ m (j + 1) (h_w law C j (kind, v, x) H) := p46.ff (z1 _ _ (by omega)) (fun a y1 y2 => funext (fun i => z2 a i (by omega)))
  have xn : H.n ≤ (h_w law C j (kind, v, x) H).n := xe.1
  have hVo : ∀ w, w ≠ j + 1 → (h_one law C j (kind, v, x) H).Q w = H.Q w := fun w hw => zu_n _ _ hw
  have hso : ∀ i, i ≠ j → (h_one law C j (kind, v, x) H).sp i = H.sp i ∧ (h_one law C j (kind, v, x) H).lt i = H.lt i ∧ (h_one law C j (kind, v, x) H).bf i = H.bf i := fun i hi => ⟨zu_n _ _ hi, zu_n _ _ hi, zu_n _ _ hi⟩
  refine ⟨⟨⟨?_, ?_, ?_⟩, fun w hw0 => ?_, fun i hi => ?_, ?_, ?_⟩, ?_⟩
  · rw [o1 _ _ (by omega)]; exact r1
  · rw [o1 _ _ (by omega)]; exact r2
  · rw [hZ]; exact sf_h _ _ _ _
  · by_cases ew : w = j + 1
    · subst ew
      rw [hw_s, show (h_one law C j (kind, v, x) H).Q (j + 1) = zq_chg kind x (H.Q v) from zu_s _ _ _]
      refine ⟨pZ, ?_, fun i hi => ?_⟩
      · rw [z2 _ _ (by omega), g46.2 _ _ (by unfold rg2 rc2; omega)]
        exact q37.1
      · rw [z2 _ _ (by omega), g46.2 _ _ (by unfold rg2 rc2; omega)]
        exact q37.2 i hi
    · obtain ⟨a1, a2⟩ := r4 w (by omega)
      rw [hw_o law C j _ H ew, hVo w ew]
      have hwn : (hw H w).n = H.n := rfl
      have a37 : MP σ37 m w (hw H w) := a1.ff (by rw [d37, h8]; rfl) (fun a y1 y2 => funext (fun i => by rw [e37 a i (by omega) (by omega), h8, sa_a _ _ (by omega)]))
      have a46 := MP.oth (W' := h_w law C j (kind, v, x) H) a37 (by rw [hwn]; exact g46) p46 xn ew
      refine ⟨a46.ff (z1 _ _ (by omega)) (fun a y1 y2 => funext (fun i => z2 a i (by omega))), ?_, fun i hi => ?_⟩
      · rw [o2 _ _ (by omega) (by omega) (by omega) (by omega)]
        exact a2.1
      · have h64 := hql w (by omega)
        rw [o2 _ _ (by omega) (by omega) (by omega) (by omega)]
        exact a2.2 i hi
  · by_cases ei : i = j
    · subst ei
      rw [zu_s, e10]
      refine ⟨⟨?_, ?_, congrArg (fun z : Nat => (z : Int)) (zu_s _ _ _).symm⟩, ?_, ?_, ?_⟩
      · rw [hZ, sf_2, sa_a _ _ (by omega), sa_a _ _ (by omega), sa_a _ _ (by omega), sa_a _ _ (by omega), sa_h]
        exact (zu_s _ _ _).symm
      · rw [hZ, sf_2, sa_a _ _ (by omega), sa_a _ _ (by omega), sa_a _ _ (by omega), sa_h]
        exact (zu_s _ _ _).symm
      · rw [hZ, sf_2, sa_a _ _ (by omega), sa_a _ _ (by omega), sa_h]
      · rw [hZ, sf_2, sa_a _ _ (by omega), sa_h]
      · rw [hZ, sf_2, sa_h]
    · obtain ⟨b1, b2, b3⟩ := hso i ei
      obtain ⟨⟨c1, c2, c3⟩, c4, c5, c6⟩ := r5 i (by omega)
      rw [zu_n _ _ ei, b1, b2, b3, o2 _ _ (by omega) (by omega) (by omega) (by omega), o2 _ _ (by omega) (by omega) (by omega) (by omega), o2 _ _ (by omega) (by omega) (by omega) (by omega), o2 _ _ (by omega) (by omega) (by omega) (by omega), o2 _ _ (by omega) (by omega) (by omega) (by omega), o2 _ _ (by omega) (by omega) (by omega) (by omega)]
      exact ⟨⟨c1, c2, c3⟩, c4, c5, c6⟩
  · rw [o2 _ _ (by omega) (by omega) (by omega) (by omega)]; exact r6
  · rw [o2 _ _ (by omega) (by omega) (by omega) (by omega)]; exact r7
  · exact ⟨o1, fun a q => funext (fun i => o2 a i (by omega) (by omega) (by omega) (by omega))⟩
theorem t_Mo_makes {X : zz_X} {σ : zz_M} {m j v : Nat} {law C kind x : Int} {H : zz_H} {D : zz_D} (hR : RV σ m law C j H D) (hj : j < 60) (hI : h_in law j H) (hC : 2 ≤ C ∧ C ≤ 4) (hs : h_st law j (kind, v, x) H) : zz_T X 6 p_Mo_makes [zP 12 0 0 m, zI (v : Nat), zI kind, zI x] σ (fun r σ' => r = some (zI (h_x (kind, v, x) H)) ∧ RV σ' m law C (j + 1) (h_one law C j (kind, v, x) H) (zu D j (kind, v, h_x (kind, v, x) H)) ∧ Fm m σ σ') := by
  refine zz_mk k_Mo_makes o_Mo_makes rfl rfl (Nat.le_of_ble_eq_true rfl) ?_
  show zz_G X 6 p_Mo_makes 0 [zP 12 0 0 m, zI (v : Nat), zI kind, zI x, zU, zU] [] σ _
  obtain ⟨s1, s2, s3, s4, s5⟩ := id hs
  have s1 : v ≤ j := s1
  have s2 : 0 ≤ kind ∧ kind ≤ 3 := s2
  obtain ⟨⟨r1, r2, r3⟩, r4, r5, r6, r7⟩ := id hR
  obtain ⟨rP, rQ⟩ := r4 v s1
  have hql : ∀ w, w ≤ j → (H.Q w).1 ≤ 60 := fun w hw0 => by
    obtain ⟨a1, a2, -⟩ := hI.1 w hw0
    have z := a1.2.2
    rw [a2] at z
    exact Nat.le_trans (Int.ofNat_le.mp z) (by omega)
  have hqv := hql v s1
  obtain ⟨i1, i2, -⟩ := hI.1 v s1
  have i0 : IV law j (hw H v) := i1.up s1
  have ip : ∀ q, 0 < (H.Q v).1 → q = (hw H v).S 11 → 0 < q := fun q hq e => by rw [e, i2]; exact Int.ofNat_lt.mpr hq
  have hn18 : H.n ≤ 1890 := h_nb hI (by omega)
  clear i1 i2
  have rn : σ.1 1203 m = (H.n : Nat) := rP.2.2.1.1
  rcases (show kind = 0 ∨ kind = 1 ∨ kind = 2 ∨ kind = 3 by omega) with ek | ek | ek | ek
  · subst ek
    have hx : h_x (0, v, x) H = x := rfl
    refine zz_gsn 2 rfl ?_
    rw [r3]
    refine zz_gsn 6 rfl ?_
    rw [rn]
    refine zz_ast rfl (⟨by omega, by omega⟩) ?_
    obtain ⟨σ8, h8⟩ : ∃ s, s = zz_sa σ (m + 10) (j + 1) (H.n : Nat) := ⟨_, rfl⟩
    refine zz_sge (σ' := σ8) h8 ?_
    have Q8 : QM σ8 m v (H.Q v) := by
      rw [h8]
      exact ⟨(sa_a _ _ (by omega)).trans rQ.1, fun i hi => (sa_a _ _ (by omega)).trans (rQ.2 i hi)⟩
    have P8 : MP σ8 m v (hw H v) := rP.ff (by rw [h8]; rfl) (fun a y1 y2 => by rw [h8]; exact funext (fun i => sa_a _ _ (by omega)))
    refine zz_gsn 2 rfl ?_
    refine zz_br rfl (fun h11 => ?_) (fun h11 => absurd h11 (by decide))
    refine zz_gsn 2 rfl ?_
    refine zz_br rfl (fun h19 => ?_) (fun h19 => absurd h19 (by decide))
    refine zz_gsn 7 rfl ?_
    refine zz_cv (n := 5) rfl rfl (t_Mo_laysQueue (v := v) (t := j + 1) (q := H.Q v) Q8 (by omega) (by omega) (by omega) s2 hqv s4) (Nat.le_of_ble_eq_true rfl) (Nat.le_of_ble_eq_true rfl) (Nat.le_of_ble_eq_true rfl) (fun r37 σ37 q37 => ?_)
    obtain ⟨rfl, p37, d37, e37⟩ := q37
    have P37 : MP σ37 m v (hw H v) := P8.ff (by rw [d37]) (fun a y1 y2 => funext (fun i => e37 a i (by omega) (by omega)))
    have f5 : σ37.1 1205 m = law := by rw [d37, h8]; exact r1
    have f6 : σ37.1 1206 m = C := by rw [d37, h8]; exact r2
    refine zz_gsn 8 rfl ?_
    refine zz_cv (n := 5) rfl rfl (t_Mo_deeds (s := v) (t := j + 1) (B := j) (mk := (j : Nat)) P37 (by omega) (by omega) (by omega) f5 f6 i0 (by omega) hC s2 s3 (fun z => ip _ (s4 z) rfl) (by show H.n + j + 10 ≤ 20000; omega)) (Nat.le_of_ble_eq_true rfl) (Nat.le_of_ble_eq_true rfl) (Nat.le_of_ble_eq_true rfl) (fun r46 σ46 q46 => ?_)
    obtain ⟨rfl, p46, g46, a46, b46⟩ := q46
    obtain ⟨wx1, wx2, wx3⟩ := w_hx (law := law) (C := C) (mk := (j : Nat)) (e := (0, v, x)) (H := H) (W := hw H v) s2
    have p46 : MP σ46 m (j + 1) (w_deed law C (j : Nat) 0 x (hw H v)) := p46
    have wx1 : w_deed law C (j : Nat) 0 x (hw H v) = w_deed law C (j : Nat) 0 (h_x (0, v, x) H) (hw H v) := wx1
    have wx2 : w_steps law C (j : Nat) 0 x (hw H v) = w_steps law C (j : Nat) 0 (h_x (0, v, x) H) (hw H v) := wx2
    have wx3 : w_over law C (j : Nat) 0 x (hw H v) = w_over law C (j : Nat) 0 (h_x (0, v, x) H) (hw H v) := wx3
    rw [wx1] at p46
    rw [wx3] at b46
    rw [wx2]
    clear wx1 wx2 wx3
    refine zz_ast rfl (⟨by omega, by omega⟩) ?_
    refine zz_gsn 5 rfl ?_
    rw [show (zz_sa σ46 (m + 8) (Int.toNat ((j + 1 : Nat) : Int)) _).1 1209 m = w_over law C (j : Nat) 0 (h_x (0, v, x) H) (hw H v) from b46]
    refine zz_ast rfl (⟨by omega, by omega⟩) ?_
    refine zz_gsn 4 rfl ?_
    refine zz_ast rfl (⟨by omega, by omega⟩) ?_
    refine zz_gsn 4 rfl ?_
    refine zz_ast rfl (⟨by omega, by omega⟩) ?_
    refine zz_gsn 4 rfl ?_
    refine zz_ast rfl (⟨by omega, by omega⟩) ?_
    refine zz_gsn 6 rfl ?_
    have e15 : zw (σ46.1 1215 m + 1) = ((j + 1 + 1 : Nat) : Int) := by
      rw [g46.fl (by decide), d37, h8, sa_1, r3]
      exact zw_s (by omega)
    have hu : x = h_x (0, v, x) H := rfl
    obtain ⟨σZ, hZ⟩ : ∃ s, s = zz_sf (zz_sa (zz_sa (zz_sa (zz_sa (zz_sa σ46 (m + 8) (j + 1) (w_steps law C (j : Nat) 0 (h_x (0, v, x) H) (hw H v))) (m + 9) (j + 1) (w_over law C (j : Nat) 0 (h_x (0, v, x) H) (hw H v))) (m + 5) (j + 1) (v : Nat)) (m + 6) (j + 1) 0) (m + 7) (j + 1) x) 1215 m ((j + 1 + 1 : Nat) : Int) := ⟨_, rfl⟩
    refine zz_sge (σ' := σZ) (by rw [hZ, ← e15, zz_zb (w_over_b law C (j : Nat) 0 (h_x (0, v, x) H) (hw H v))]; rfl) ?_
    refine zz_gsn 1 rfl ?_
    refine zz_ri rfl (Or.inl rfl) ?_
    have Z := RV.step (u := x) hR hs hj hql h8 p37 d37 e37 p46 g46 hZ hu
    rw [hu] at Z ⊢
    exact ⟨rfl, Z.1, Z.2⟩
  · subst ek
    have hpq : 0 < (H.Q v).1 := s4 (Or.inl rfl)
    have hx : h_x (1, v, x) H = (H.Q v).2 0 := rfl
    refine zz_gsn 2 rfl ?_
    rw [r3]
    refine zz_gsn 6 rfl ?_
    rw [rn]
    refine zz_ast rfl (⟨by omega, by omega⟩) ?_
    obtain ⟨σ8, h8⟩ : ∃ s, s = zz_sa σ (m + 10) (j + 1) (H.n : Nat) := ⟨_, rfl⟩
    refine zz_sge (σ' := σ8) h8 ?_
    have Q8 : QM σ8 m v (H.Q v) := by
      rw [h8]
      exact ⟨(sa_a _ _ (by omega)).trans rQ.1, fun i hi => (sa_a _ _ (by omega)).trans (rQ.2 i hi)⟩
    have P8 : MP σ8 m v (hw H v) := rP.ff (by rw [h8]; rfl) (fun a y1 y2 => by rw [h8]; exact funext (fun i => sa_a _ _ (by omega)))
    refine zz_gsn 2 rfl ?_
    refine zz_br rfl (fun h11 => absurd rfl h11) (fun h11 => ?_)
    refine zz_gsn 3 rfl ?_
    refine zz_cv (n := 3) rfl rfl (t_Mo_asked (v := v) (k := 0) (by omega) (by decide)) (Nat.le_of_ble_eq_true rfl) (Nat.le_of_ble_eq_true rfl) (Nat.le_of_ble_eq_true rfl) (fun r15 σ15 q15 => ?_)
    obtain ⟨rfl, rfl⟩ := q15
    refine zz_jp rfl ?_
    refine zz_gsn 6 rfl ?_
    refine zz_cv (n := 5) rfl rfl (t_Mo_laysQueue (v := v) (t := j + 1) (q := H.Q v) Q8 (by omega) (by omega) (by omega) s2 hqv s4) (Nat.le_of_ble_eq_true rfl) (Nat.le_of_ble_eq_true rfl) (Nat.le_of_ble_eq_true rfl) (fun r37 σ37 q37 => ?_)
    obtain ⟨rfl, p37, d37, e37⟩ := q37
    have P37 : MP σ37 m v (hw H v) := P8.ff (by rw [d37]) (fun a y1 y2 => funext (fun i => e37 a i (by omega) (by omega)))
    have f5 : σ37.1 1205 m = law := by rw [d37, h8]; exact r1
    have f6 : σ37.1 1206 m = C := by rw [d37, h8]; exact r2
    refine zz_gsn 8 rfl ?_
    refine zz_cv (n := 5) rfl rfl (t_Mo_deeds (s := v) (t := j + 1) (B := j) (mk := (j : Nat)) P37 (by omega) (by omega) (by omega) f5 f6 i0 (by omega) hC s2 s3 (fun z => ip _ (s4 z) rfl) (by show H.n + j + 10 ≤ 20000; omega)) (Nat.le_of_ble_eq_true rfl) (Nat.le_of_ble_eq_true rfl) (Nat.le_of_ble_eq_true rfl) (fun r46 σ46 q46 => ?_)
    obtain ⟨rfl, p46, g46, a46, b46⟩ := q46
    obtain ⟨wx1, wx2, wx3⟩ := w_hx (law := law) (C := C) (mk := (j : Nat)) (e := (1, v, x)) (H := H) (W := hw H v) s2
    have p46 : MP σ46 m (j + 1) (w_deed law C (j : Nat) 1 x (hw H v)) := p46
    have wx1 : w_deed law C (j : Nat) 1 x (hw H v) = w_deed law C (j : Nat) 1 (h_x (1, v, x) H) (hw H v) := wx1
    have wx2 : w_steps law C (j : Nat) 1 x (hw H v) = w_steps law C (j : Nat) 1 (h_x (1, v, x) H) (hw H v) := wx2
    have wx3 : w_over law C (j : Nat) 1 x (hw H v) = w_over law C (j : Nat) 1 (h_x (1, v, x) H) (hw H v) := wx3
    rw [wx1] at p46
    rw [wx3] at b46
    rw [wx2]
    clear wx1 wx2 wx3
    refine zz_ast rfl (⟨by omega, by omega⟩) ?_
    refine zz_gsn 5 rfl ?_
    rw [show (zz_sa σ46 (m + 8) (Int.toNat ((j + 1 : Nat) : Int)) _).1 1209 m = w_over law C (j : Nat) 1 (h_x (1, v, x) H) (hw H v) from b46]
    refine zz_ast rfl (⟨by omega, by omega⟩) ?_
    refine zz_gsn 4 rfl ?_
    refine zz_ast rfl (⟨by omega, by omega⟩) ?_
    refine zz_gsn 4 rfl ?_
    refine zz_ast rfl (⟨by omega, by omega⟩) ?_
    refine zz_gsn 4 rfl ?_
    refine zz_ast rfl (⟨by omega, by omega⟩) ?_
    refine zz_gsn 6 rfl ?_
    have e15 : zw (σ46.1 1215 m + 1) = ((j + 1 + 1 : Nat) : Int) := by
      rw [g46.fl (by decide), d37, h8, sa_1, r3]
      exact zw_s (by omega)
    have hu : (σ8.2 (m + 11) (64 * v + 0)) = h_x (1, v, x) H := (Q8.2 0 hpq).trans hx.symm
    obtain ⟨σZ, hZ⟩ : ∃ s, s = zz_sf (zz_sa (zz_sa (zz_sa (zz_sa (zz_sa σ46 (m + 8) (j + 1) (w_steps law C (j : Nat) 1 (h_x (1, v, x) H) (hw H v))) (m + 9) (j + 1) (w_over law C (j : Nat) 1 (h_x (1, v, x) H) (hw H v))) (m + 5) (j + 1) (v : Nat)) (m + 6) (j + 1) 1) (m + 7) (j + 1) (σ8.2 (m + 11) (64 * v + 0))) 1215 m ((j + 1 + 1 : Nat) : Int) := ⟨_, rfl⟩
    refine zz_sge (σ' := σZ) (by rw [hZ, ← e15, zz_zb (w_over_b law C (j : Nat) 1 (h_x (1, v, x) H) (hw H v))]; rfl) ?_
    refine zz_gsn 1 rfl ?_
    refine zz_ri rfl (Or.inl rfl) ?_
    have Z := RV.step (u := (σ8.2 (m + 11) (64 * v + 0))) hR hs hj hql h8 p37 d37 e37 p46 g46 hZ hu
    rw [hu] at Z ⊢
    exact ⟨rfl, Z.1, Z.2⟩
  · subst ek
    have hx : h_x (2, v, x) H = x := rfl
    refine zz_gsn 2 rfl ?_
    rw [r3]
    refine zz_gsn 6 rfl ?_
    rw [rn]
    refine zz_ast rfl (⟨by omega, by omega⟩) ?_
    obtain ⟨σ8, h8⟩ : ∃ s, s = zz_sa σ (m + 10) (j + 1) (H.n : Nat) := ⟨_, rfl⟩
    refine zz_sge (σ' := σ8) h8 ?_
    have Q8 : QM σ8 m v (H.Q v) := by
      rw [h8]
      exact ⟨(sa_a _ _ (by omega)).trans rQ.1, fun i hi => (sa_a _ _ (by omega)).trans (rQ.2 i hi)⟩
    have P8 : MP σ8 m v (hw H v) := rP.ff (by rw [h8]; rfl) (fun a y1 y2 => by rw [h8]; exact funext (fun i => sa_a _ _ (by omega)))
    refine zz_gsn 2 rfl ?_
    refine zz_br rfl (fun h11 => ?_) (fun h11 => absurd h11 (by decide))
    refine zz_gsn 2 rfl ?_
    refine zz_br rfl (fun h19 => ?_) (fun h19 => absurd h19 (by decide))
    refine zz_gsn 7 rfl ?_
    refine zz_cv (n := 5) rfl rfl (t_Mo_laysQueue (v := v) (t := j + 1) (q := H.Q v) Q8 (by omega) (by omega) (by omega) s2 hqv s4) (Nat.le_of_ble_eq_true rfl) (Nat.le_of_ble_eq_true rfl) (Nat.le_of_ble_eq_true rfl) (fun r37 σ37 q37 => ?_)
    obtain ⟨rfl, p37, d37, e37⟩ := q37
    have P37 : MP σ37 m v (hw H v) := P8.ff (by rw [d37]) (fun a y1 y2 => funext (fun i => e37 a i (by omega) (by omega)))
    have f5 : σ37.1 1205 m = law := by rw [d37, h8]; exact r1
    have f6 : σ37.1 1206 m = C := by rw [d37, h8]; exact r2
    refine zz_gsn 8 rfl ?_
    refine zz_cv (n := 5) rfl rfl (t_Mo_deeds (s := v) (t := j + 1) (B := j) (mk := (j : Nat)) P37 (by omega) (by omega) (by omega) f5 f6 i0 (by omega) hC s2 s3 (fun z => ip _ (s4 z) rfl) (by show H.n + j + 10 ≤ 20000; omega)) (Nat.le_of_ble_eq_true rfl) (Nat.le_of_ble_eq_true rfl) (Nat.le_of_ble_eq_true rfl) (fun r46 σ46 q46 => ?_)
    obtain ⟨rfl, p46, g46, a46, b46⟩ := q46
    obtain ⟨wx1, wx2, wx3⟩ := w_hx (law := law) (C := C) (mk := (j : Nat)) (e := (2, v, x)) (H := H) (W := hw H v) s2
    have p46 : MP σ46 m (j + 1) (w_deed law C (j : Nat) 2 x (hw H v)) := p46
    have wx1 : w_deed law C (j : Nat) 2 x (hw H v) = w_deed law C (j : Nat) 2 (h_x (2, v, x) H) (hw H v) := wx1
    have wx2 : w_steps law C (j : Nat) 2 x (hw H v) = w_steps law C (j : Nat) 2 (h_x (2, v, x) H) (hw H v) := wx2
    have wx3 : w_over law C (j : Nat) 2 x (hw H v) = w_over law C (j : Nat) 2 (h_x (2, v, x) H) (hw H v) := wx3
    rw [wx1] at p46
    rw [wx3] at b46
    rw [wx2]
    clear wx1 wx2 wx3
    refine zz_ast rfl (⟨by omega, by omega⟩) ?_
    refine zz_gsn 5 rfl ?_
    rw [show (zz_sa σ46 (m + 8) (Int.toNat ((j + 1 : Nat) : Int)) _).1 1209 m = w_over law C (j : Nat) 2 (h_x (2, v, x) H) (hw H v) from b46]
    refine zz_ast rfl (⟨by omega, by omega⟩) ?_
    refine zz_gsn 4 rfl ?_
    refine zz_ast rfl (⟨by omega, by omega⟩) ?_
    refine zz_gsn 4 rfl ?_
    refine zz_ast rfl (⟨by omega, by omega⟩) ?_
    refine zz_gsn 4 rfl ?_
    refine zz_ast rfl (⟨by omega, by omega⟩) ?_
    refine zz_gsn 6 rfl ?_
    have e15 : zw (σ46.1 1215 m + 1) = ((j + 1 + 1 : Nat) : Int) := by
      rw [g46.fl (by decide), d37, h8, sa_1, r3]
      exact zw_s (by omega)
    have hu : x = h_x (2, v, x) H := rfl
    obtain ⟨σZ, hZ⟩ : ∃ s, s = zz_sf (zz_sa (zz_sa (zz_sa (zz_sa (zz_sa σ46 (m + 8) (j + 1) (w_steps law C (j : Nat) 2 (h_x (2, v, x) H) (hw H v))) (m + 9) (j + 1) (w_over law C (j : Nat) 2 (h_x (2, v, x) H) (hw H v))) (m + 5) (j + 1) (v : Nat)) (m + 6) (j + 1) 2) (m + 7) (j + 1) x) 1215 m ((j + 1 + 1 : Nat) : Int) := ⟨_, rfl⟩
    refine zz_sge (σ' := σZ) (by rw [hZ, ← e15, zz_zb (w_over_b law C (j : Nat) 2 (h_x (2, v, x) H) (hw H v))]; rfl) ?_
    refine zz_gsn 1 rfl ?_
    refine zz_ri rfl (Or.inl rfl) ?_
    have Z := RV.step (u := x) hR hs hj hql h8 p37 d37 e37 p46 g46 hZ hu
    rw [hu] at Z ⊢
    exact ⟨rfl, Z.1, Z.2⟩
  · subst ek
    have hpq : 0 < (H.Q v).1 := s4 (Or.inr rfl)
    have hx : h_x (3, v, x) H = (H.Q v).2 ((H.Q v).1 - 1) := rfl
    refine zz_gsn 2 rfl ?_
    rw [r3]
    refine zz_gsn 6 rfl ?_
    rw [rn]
    refine zz_ast rfl (⟨by omega, by omega⟩) ?_
    obtain ⟨σ8, h8⟩ : ∃ s, s = zz_sa σ (m + 10) (j + 1) (H.n : Nat) := ⟨_, rfl⟩
    refine zz_sge (σ' := σ8) h8 ?_
    have Q8 : QM σ8 m v (H.Q v) := by
      rw [h8]
      exact ⟨(sa_a _ _ (by omega)).trans rQ.1, fun i hi => (sa_a _ _ (by omega)).trans (rQ.2 i hi)⟩
    have P8 : MP σ8 m v (hw H v) := rP.ff (by rw [h8]; rfl) (fun a y1 y2 => by rw [h8]; exact funext (fun i => sa_a _ _ (by omega)))
    refine zz_gsn 2 rfl ?_
    refine zz_br rfl (fun h11 => ?_) (fun h11 => absurd h11 (by decide))
    refine zz_gsn 2 rfl ?_
    refine zz_br rfl (fun h19 => absurd rfl h19) (fun h19 => ?_)
    refine zz_gsn 5 rfl ?_
    refine zz_ald rfl (⟨by omega, by omega⟩) ?_
    rw [show σ8.2 (m + 12) (Int.toNat (v : Int)) = ((H.Q v).1 : Nat) from Q8.1]
    refine zz_gsn 2 rfl ?_
    rw [zw_p hpq (by omega)]
    refine zz_cv (n := 3) rfl rfl (t_Mo_asked (v := v) (k := (H.Q v).1 - 1) (by omega) (by omega)) (Nat.le_of_ble_eq_true rfl) (Nat.le_of_ble_eq_true rfl) (Nat.le_of_ble_eq_true rfl) (fun r28 σ28 q28 => ?_)
    obtain ⟨rfl, rfl⟩ := q28
    refine zz_jp rfl ?_
    refine zz_gsn 6 rfl ?_
    refine zz_cv (n := 5) rfl rfl (t_Mo_laysQueue (v := v) (t := j + 1) (q := H.Q v) Q8 (by omega) (by omega) (by omega) s2 hqv s4) (Nat.le_of_ble_eq_true rfl) (Nat.le_of_ble_eq_true rfl) (Nat.le_of_ble_eq_true rfl) (fun r37 σ37 q37 => ?_)
    obtain ⟨rfl, p37, d37, e37⟩ := q37
    have P37 : MP σ37 m v (hw H v) := P8.ff (by rw [d37]) (fun a y1 y2 => funext (fun i => e37 a i (by omega) (by omega)))
    have f5 : σ37.1 1205 m = law := by rw [d37, h8]; exact r1
    have f6 : σ37.1 1206 m = C := by rw [d37, h8]; exact r2
    refine zz_gsn 8 rfl ?_
    refine zz_cv (n := 5) rfl rfl (t_Mo_deeds (s := v) (t := j + 1) (B := j) (mk := (j : Nat)) P37 (by omega) (by omega) (by omega) f5 f6 i0 (by omega) hC s2 s3 (fun z => ip _ (s4 z) rfl) (by show H.n + j + 10 ≤ 20000; omega)) (Nat.le_of_ble_eq_true rfl) (Nat.le_of_ble_eq_true rfl) (Nat.le_of_ble_eq_true rfl) (fun r46 σ46 q46 => ?_)
    obtain ⟨rfl, p46, g46, a46, b46⟩ := q46
    obtain ⟨wx1, wx2, wx3⟩ := w_hx (law := law) (C := C) (mk := (j : Nat)) (e := (3, v, x)) (H := H) (W := hw H v) s2
    have p46 : MP σ46 m (j + 1) (w_deed law C (j : Nat) 3 x (hw H v)) := p46
    have wx1 : w_deed law C (j : Nat) 3 x (hw H v) = w_deed law C (j : Nat) 3 (h_x (3, v, x) H) (hw H v) := wx1
    have wx2 : w_steps law C (j : Nat) 3 x (hw H v) = w_steps law C (j : Nat) 3 (h_x (3, v, x) H) (hw H v) := wx2
    have wx3 : w_over law C (j : Nat) 3 x (hw H v) = w_over law C (j : Nat) 3 (h_x (3, v, x) H) (hw H v) := wx3
    rw [wx1] at p46
    rw [wx3] at b46
    rw [wx2]
    clear wx1 wx2 wx3
    refine zz_ast rfl (⟨by omega, by omega⟩) ?_
    refine zz_gsn 5 rfl ?_
    rw [show (zz_sa σ46 (m + 8) (Int.toNat ((j + 1 : Nat) : Int)) _).1 1209 m = w_over law C (j : Nat) 3 (h_x (3, v, x) H) (hw H v) from b46]
    refine zz_ast rfl (⟨by omega, by omega⟩) ?_
    refine zz_gsn 4 rfl ?_
    refine zz_ast rfl (⟨by omega, by omega⟩) ?_
    refine zz_gsn 4 rfl ?_
    refine zz_ast rfl (⟨by omega, by omega⟩) ?_
    refine zz_gsn 4 rfl ?_
    refine zz_ast rfl (⟨by omega, by omega⟩) ?_
    refine zz_gsn 6 rfl ?_
    have e15 : zw (σ46.1 1215 m + 1) = ((j + 1 + 1 : Nat) : Int) := by
      rw [g46.fl (by decide), d37, h8, sa_1, r3]
      exact zw_s (by omega)
    have hu : (σ8.2 (m + 11) (64 * v + ((H.Q v).1 - 1))) = h_x (3, v, x) H := (Q8.2 _ (by omega)).trans hx.symm
    obtain ⟨σZ, hZ⟩ : ∃ s, s = zz_sf (zz_sa (zz_sa (zz_sa (zz_sa (zz_sa σ46 (m + 8) (j + 1) (w_steps law C (j : Nat) 3 (h_x (3, v, x) H) (hw H v))) (m + 9) (j + 1) (w_over law C (j : Nat) 3 (h_x (3, v, x) H) (hw H v))) (m + 5) (j + 1) (v : Nat)) (m + 6) (j + 1) 3) (m + 7) (j + 1) (σ8.2 (m + 11) (64 * v + ((H.Q v).1 - 1)))) 1215 m ((j + 1 + 1 : Nat) : Int) := ⟨_, rfl⟩
    refine zz_sge (σ' := σZ) (by rw [hZ, ← e15, zz_zb (w_over_b law C (j : Nat) 3 (h_x (3, v, x) H) (hw H v))]; rfl) ?_
    refine zz_gsn 1 rfl ?_
    refine zz_ri rfl (Or.inl rfl) ?_
    have Z := RV.step (u := (σ8.2 (m + 11) (64 * v + ((H.Q v).1 - 1)))) hR hs hj hql h8 p37 d37 e37 p46 g46 hZ hu
    rw [hu] at Z ⊢
    exact ⟨rfl, Z.1, Z.2⟩
