/-! the class: a deed enacted -/
theorem zz_ste {X : zz_X} {d : Nat} {P : zz_P} {j : Nat} {ls st st' : List zz_V} {σ : zz_M} {Post : Option zz_V → zz_M → Prop} (h : st = st') (k : zz_G X d P j ls st' σ Post) : zz_G X d P j ls st σ Post := h ▸ k
theorem zw_s {n : Nat} (h : n < 2147483647) : zw ((n : Int) + 1) = ((n + 1 : Nat) : Int) := by rw [zw_id (by omega) (by omega)]; omega
theorem zw_p {n : Nat} (h0 : 0 < n) (h : n < 2147483647) : zw ((n : Int) - 1) = ((n - 1 : Nat) : Int) := by rw [zw_id (by omega) (by omega)]; omega
theorem zz_z0' : zz_i2z 0 = 0 := by decide
theorem zz_z1' : zz_i2z 1 = 1 := by decide
theorem zz_zb {x : Int} (h : x = 0 ∨ x = 1) : zz_i2z x = x := by
  rcases h with h | h <;> subst h
  · exact zz_z0'
  · exact zz_z1'
theorem hw_s (law C : Int) (j : Nat) (e : Int × Nat × Int) (H : zz_H) : hw (h_one law C j e H) (j + 1) = h_w law C j e H := by
  have e1 : (h_one law C j e H).V (j + 1) = ((h_w law C j e H).R, (h_w law C j e H).S) := zu_s _ _ _
  show ((h_one law C j e H).n, (h_one law C j e H).num, (h_one law C j e H).mkr, ((h_one law C j e H).V (j + 1)).1, ((h_one law C j e H).V (j + 1)).2) = h_w law C j e H
  rw [e1]
  rfl
theorem hw_o (law C : Int) (j : Nat) (e : Int × Nat × Int) (H : zz_H) {v : Nat} (hv : v ≠ j + 1) : hw (h_one law C j e H) v = ((h_w law C j e H).n, (h_w law C j e H).num, (h_w law C j e H).mkr, (hw H v).R, (hw H v).S) := by
  have e1 : (h_one law C j e H).V v = H.V v := zu_n _ _ hv
  show ((h_one law C j e H).n, (h_one law C j e H).num, (h_one law C j e H).mkr, ((h_one law C j e H).V v).1, ((h_one law C j e H).V v).2) = _
  rw [e1]
  rfl
theorem h_one_nn (law C : Int) (j : Nat) (e : Int × Nat × Int) (H : zz_H) : (h_one law C j e H).n = (h_w law C j e H).n := rfl
theorem h_nb {law : Int} {j : Nat} {H : zz_H} (h : h_in law j H) (hj : j ≤ 60) : H.n ≤ 1890 := by
  obtain ⟨-, -, y1, y2, -⟩ := h
  obtain ⟨n, hn⟩ : ∃ n, n = H.n := ⟨_, rfl⟩
  rw [← hn] at y1 y2 ⊢
  by_cases z : law = 1
  · have := y2 z
    omega
  · have y3 := y1 z
    have y4 : j * (j + 3) ≤ 60 * 63 := Nat.mul_le_mul hj (by omega)
    omega
theorem h_nbw {law C : Int} {j : Nat} {e : Int × Nat × Int} {H : zz_H} (h : h_in law (j + 1) (h_one law C j e H)) (hj : j + 1 ≤ 60) : (w_deed law C (j : Nat) e.1 (h_x e H) (hw H e.2.1)).n ≤ 1890 := Nat.le_trans (Nat.le_of_eq (h_one_nn law C j e H).symm) (h_nb h hj)

/-- bounds, as a deed wants them -/
theorem h_bds {law : Int} {j : Nat} {W : zz_W} (h : IV law j W) (hj : j ≤ 1000) : (∀ k, k < 6 → (W.R k).length < 30000) ∧ (-700000 < W.S 6 ∧ W.S 6 < 700000) ∧ (-700000 < W.S 8 ∧ W.S 8 < 700000) ∧ (0 ≤ W.S 9 ∧ W.S 9 < 700000) ∧ (0 ≤ W.S 10 ∧ W.S 10 < 700000) ∧ (-700000 < W.S 11 ∧ W.S 11 < 700000) := by
  obtain ⟨b1, b2, -⟩ := IV_bd h
  obtain ⟨-, b4, b5⟩ := h
  have a6 := b2 6 (by decide) (by decide)
  have a8 := b2 8 (by decide) (by decide)
  have a9 := b2 9 (by decide) (by decide)
  have a10 := b2 10 (by decide) (by decide)
  refine ⟨fun k hk => ?_, by omega, by omega, by omega, by omega, by omega⟩
  have z : (W.R k).length ≤ 2 * j + 1 := b1 k hk
  omega
theorem t_History_enact {X : zz_X} {σ : zz_M} {h j k : Nat} {ho law0 C0 told law C : Int} {D : zz_D} {H : zz_H} (hD : DF σ (h + 1) ho law0 C0 told k D) (hho : ho ≠ 0) (hj : j < k) (hV : CV σ h law C j H) (hI : h_in law j H) (hC : 2 ≤ C ∧ C ≤ 4) (hs : h_st law j (D j) H) : zz_T X 7 p_History_enact [zP 3 0 0 h, zI (j : Nat)] σ (fun r σ' => r = none ∧ CV σ' h law C (j + 1) (h_one law C j (D j) H) ∧ DF σ' (h + 1) ho law0 C0 told k (zu D j ((D j).1, (D j).2.1, h_x (D j) H)) ∧ zz_F (A_hi h) σ σ' ∧ σ'.1 105 (h + 6) = σ.1 105 (h + 6)) := by
  refine zz_mk k_History_enact o_History_enact rfl rfl (Nat.le_of_ble_eq_true rfl) ?_
  show zz_G X 7 p_History_enact 0 [zP 3 0 0 h, zI (j : Nat), zU, zU, zU, zU, zU] [] σ _
  obtain ⟨e, he⟩ : ∃ e, e = D j := ⟨_, rfl⟩
  rw [← he] at hs ⊢
  have hI2 : h_in law (j + 1) (h_one law C j e H) := h_in_s hC hI hs
  obtain ⟨d1, d2, d3, d4, dR⟩ := id hD
  obtain ⟨d5, d6, d7⟩ := id dR
  obtain ⟨c1, c2, c3, c4⟩ := hV
  obtain ⟨s1, s2, s3, s4, s5⟩ := hs
  obtain ⟨b1, b2, b3⟩ := d7 j hj
  rw [← he] at b1 b2 b3
  have hv0 : vz ho k (e.2.1 : Nat) := ⟨hho, by omega, by omega⟩
  have hv1 : vz ho k ((j + 1 : Nat) : Int) := ⟨hho, by omega, by omega⟩
  have j6 : j + 1 ≤ 60 := Nat.le_trans hj d6
  obtain ⟨i1, i2, i3⟩ := hI.1 e.2.1 s1
  have i0 : IV law j (hw H e.2.1) := i1.up s1
  have hq0 := (c3 e.2.1 s1).2
  have ql : (H.Q e.2.1).1 ≤ j := by
    have z := i1.2.2
    rw [i2] at z
    exact Nat.le_trans (Int.ofNat_le.mp z) s1
  clear i1 i2 i3
  refine zz_gsn 3 rfl ?_
  refine zz_cv (n := 2) rfl rfl (t_Deeds_hasDeed) (Nat.le_of_ble_eq_true rfl) (Nat.le_of_ble_eq_true rfl) (Nat.le_of_ble_eq_true rfl) (fun r3 σ3 q3 => ?_)
  obtain ⟨rfl, n3, rfl, e3⟩ := q3
  have e3 := vd_of dR e3
  have e3 : n3 = 1 := e3.elim (fun z => z.1) (fun z => absurd ⟨by omega, by omega⟩ z.2)
  refine zz_br rfl (fun h4 => ?_) (fun h4 => absurd h4 (by omega))
  refine zz_gsn 5 rfl ?_
  refine zz_ald rfl (⟨by omega, by omega⟩) ?_
  refine zz_ste (st' := [zI (e.2.1 : Nat), zP 3 0 0 h]) (congrArg (fun z : Int => ([zI z, zP 3 0 0 h] : List zz_V)) b2) ?_
  refine zz_cv (n := 2) rfl rfl (t_History_stateOf_y (v := e.2.1) hD hv0) (Nat.le_of_ble_eq_true rfl) (Nat.le_of_ble_eq_true rfl) (Nat.le_of_ble_eq_true rfl) (fun r12 σ12 q12 => ?_)
  obtain ⟨rfl, rfl⟩ := q12
  refine zz_gsn 6 rfl ?_
  refine zz_ald rfl (⟨by omega, by omega⟩) ?_
  refine zz_ste (st' := [zI (e.2.1 : Nat), zP 3 0 0 h]) (congrArg (fun z : Int => ([zI z, zP 3 0 0 h] : List zz_V)) b2) ?_
  refine zz_cv (n := 2) rfl rfl (t_History_queueOf_y (v := e.2.1) hD hv0) (Nat.le_of_ble_eq_true rfl) (Nat.le_of_ble_eq_true rfl) (Nat.le_of_ble_eq_true rfl) (fun r20 σ20 q20 => ?_)
  obtain ⟨rfl, rfl⟩ := q20
  refine zz_gsn 5 rfl ?_
  refine zz_ste (st' := [zI ((j + 1 : Nat) : Int), zP 3 0 0 h]) (congrArg (fun z : Int => ([zI z, zP 3 0 0 h] : List zz_V)) (zw_s (n := j) (by omega))) ?_
  refine zz_cv (n := 2) rfl rfl (t_History_stateOf_y (v := j + 1) hD hv1) (Nat.le_of_ble_eq_true rfl) (Nat.le_of_ble_eq_true rfl) (Nat.le_of_ble_eq_true rfl) (fun r26 σ26 q26 => ?_)
  obtain ⟨rfl, rfl⟩ := q26
  refine zz_gsn 5 rfl ?_
  refine zz_ste (st' := [zI ((j + 1 : Nat) : Int), zP 3 0 0 h]) (congrArg (fun z : Int => ([zI z, zP 3 0 0 h] : List zz_V)) (zw_s (n := j) (by omega))) ?_
  refine zz_cv (n := 2) rfl rfl (t_History_queueOf_y (v := j + 1) hD hv1) (Nat.le_of_ble_eq_true rfl) (Nat.le_of_ble_eq_true rfl) (Nat.le_of_ble_eq_true rfl) (fun r32 σ32 q32 => ?_)
  obtain ⟨rfl, rfl⟩ := q32
  refine zz_gsn 2 rfl ?_
  refine zz_jp rfl ?_
  refine zz_gsn 1 rfl ?_
  refine zz_jp rfl ?_
  refine zz_gsn 1 rfl ?_
  refine zz_jp rfl ?_
  refine zz_gsn 1 rfl ?_
  refine zz_jp rfl ?_
  refine zz_gsn 4 rfl ?_
  refine zz_ald rfl (⟨by omega, by omega⟩) ?_
  refine zz_ste (st' := [zI e.1]) (congrArg (fun z : Int => ([zI z] : List zz_V)) b1) ?_
  refine zz_gsn 3 rfl ?_
  refine zz_cv (n := 2) rfl rfl (t_Numbers_become hq0 (by omega) (by omega) (by omega) (by omega) (by omega)) (Nat.le_of_ble_eq_true rfl) (Nat.le_of_ble_eq_true rfl) (Nat.le_of_ble_eq_true rfl) (fun r51 σ51 q51 => ?_)
  obtain ⟨rfl, p51, g51⟩ := q51
  refine zz_gsn 10 rfl ?_
  refine zz_ald rfl (⟨by omega, by omega⟩) ?_
  have b3' : σ51.2 (h + 1 + 3) j = e.2.2 := ((g51 (h + 1 + 3) (by show ¬ (h + 1 + 3 = _ ∨ h + 1 + 3 = _); omega)).2 j).trans b3
  refine zz_ste (st' := [zI e.2.2, zI e.1, zP 5 60 0 (h + 29 + 9 * (j + 1)), zI (j : Nat), zP 50 60 0 (h + 1 + 3)]) (congrArg (fun z : Int => ([zI z, zI e.1, zP 5 60 0 (h + 29 + 9 * (j + 1)), zI (j : Nat), zP 50 60 0 (h + 1 + 3)] : List zz_V)) b3') ?_
  refine zz_cv (n := 3) rfl rfl (t_Numbers_change (x := e.2.2) p51 s2 (fun _ => by omega) s4 (by omega) (by omega)) (Nat.le_of_ble_eq_true rfl) (Nat.le_of_ble_eq_true rfl) (Nat.le_of_ble_eq_true rfl) (fun r63 σ63 q63 => ?_)
  obtain ⟨rfl, p63, g63⟩ := q63
  have G1 := g51.tr g63
  refine zz_ast rfl (⟨by omega, by omega⟩) ?_
  obtain ⟨σ64, h64⟩ : ∃ s, s = zz_sa σ63 (h + 4) j (h_x e H) := ⟨_, rfl⟩
  refine zz_sge (σ' := σ64) h64 ?_
  refine zz_gsn 2 rfl ?_
  refine zz_cv (n := 2) rfl rfl (t_State_become (s := h + 22 + 9 * (j + 1)) (t := h + 22 + 9 * e.2.1) (Or.inr (by omega))) (Nat.le_of_ble_eq_true rfl) (Nat.le_of_ble_eq_true rfl) (Nat.le_of_ble_eq_true rfl) (fun r67 σ67 q67 => ?_)
  obtain ⟨rfl, p67, g67⟩ := q67
  have G2 : zz_F (fun a => a = h + 29 + 9 * (j + 1) ∨ a = h + 30 + 9 * (j + 1) ∨ a = h + 4 ∨ (h + 22 + 9 * (j + 1) ≤ a ∧ a ≤ h + 28 + 9 * (j + 1))) σ σ67 := ((G1.mono (fun a z => z.elim Or.inl (fun z => Or.inr (Or.inl (by omega))))).tr (by rw [h64]; exact zz_F.sa (Or.inr (Or.inr (Or.inl rfl))))).tr (g67.F.mono (fun a z => Or.inr (Or.inr (Or.inr ⟨z.1, by omega⟩))))
  have P67 : SP σ67 1890 (h + 5) (h + 22 + 9 * (j + 1)) (hw H e.2.1) := p67 1890 (h + 5) _ (fun _ => Or.inl (by omega)) ((c3 e.2.1 s1).1.f (A := fun a => (a = h + 29 + 9 * (j + 1) ∨ a = h + 29 + 9 * (j + 1) + 1) ∨ a = h + 4) ((G1.mono (fun a z => Or.inl z)).tr (by rw [h64]; exact zz_F.sa (Or.inr rfl))) (fun a y1 y2 z => by omega) (fun _ a y1 y2 z => by omega))
  refine zz_gsn 6 rfl ?_
  refine zz_ast rfl (⟨by omega, by omega⟩) ?_
  obtain ⟨σ74, h74⟩ : ∃ s, s = zz_sa σ67 (h + 16) j (σ67.1 100 (h + 6)) := ⟨_, rfl⟩
  refine zz_sge (σ' := σ74) h74 ?_
  have G3 : zz_F (fun a => a = h + 29 + 9 * (j + 1) ∨ a = h + 30 + 9 * (j + 1) ∨ a = h + 4 ∨ (h + 22 + 9 * (j + 1) ≤ a ∧ a ≤ h + 28 + 9 * (j + 1)) ∨ a = h + 16) σ σ74 := (G2.mono (fun a z => by omega)).tr (by rw [h74]; exact zz_F.sa (Or.inr (Or.inr (Or.inr (Or.inr rfl)))))
  have P74 : SP σ74 1890 (h + 5) (h + 22 + 9 * (j + 1)) (hw H e.2.1) := P67.f (A := fun a => a = h + 16) (by rw [h74]; exact zz_F.sa rfl) (fun a y1 y2 z => by omega) (fun _ a y1 y2 z => by omega)
  have m1 : σ74.1 404 (h + 5) = law := ((G3 (h + 5) (by omega)).1 404).trans c1
  have m2 : σ74.1 405 (h + 5) = C := ((G3 (h + 5) (by omega)).1 405).trans c2
  have x74 : σ74.2 (h + 1 + 3) j = h_x e H := by
    rw [h74, sa_a _ _ (by omega), (g67.F (h + 1 + 3) (by omega)).2, h64]
    exact sa_h _ _ _ _
  have f74 : σ74.2 (h + 16) j = (H.n : Nat) := by
    rw [h74, sa_h]
    have z := (P67.2.2.2.1 (by decide)).1
    exact z
  refine zz_gsn 11 rfl ?_
  refine zz_ald rfl (⟨by omega, by omega⟩) ?_
  refine zz_gsn 1 rfl ?_
  refine zz_ste (st' := [zI (j : Nat), zI (h_x e H), zI e.1, zP 9 0 0 (h + 22 + 9 * (j + 1)), zP 4 1890 60 (h + 5), zI (j : Nat), zP 50 60 0 (h + 14)]) (congrArg (fun z : Int => ([zI (j : Nat), zI z, zI e.1, zP 9 0 0 (h + 22 + 9 * (j + 1)), zP 4 1890 60 (h + 5), zI (j : Nat), zP 50 60 0 (h + 14)] : List zz_V)) x74) ?_
  refine zz_cv (n := 5) rfl rfl (t_Mill_perform (mk := (j : Nat)) (x := h_x e H) P74 m1 m2 (by omega) s2 (fun _ => h_nbw hI2 (Nat.le_trans hj d6)) (by decide) (by decide) (h_bds i0 (by omega)).1 (h_bds i0 (by omega)).2.1 (h_bds i0 (by omega)).2.2.1 (h_bds i0 (by omega)).2.2.2.1 (h_bds i0 (by omega)).2.2.2.2.1 (h_bds i0 (by omega)).2.2.2.2.2 (fun _ => Nat.le_trans (w_q (law := law) (mk := (j : Nat)) (kind := e.1) (x := h_x e H) i0 s2) (by omega))) (Nat.le_of_ble_eq_true rfl) (Nat.le_of_ble_eq_true rfl) (Nat.le_of_ble_eq_true rfl) (fun r88 σ88 q88 => ?_)
  obtain ⟨rfl, p88, g88, b1_88, b2_88⟩ := q88
  refine zz_ast rfl (⟨by omega, by omega⟩) ?_
  obtain ⟨σ89, h89⟩ : ∃ s, s = zz_sa σ88 (h + 14) j (w_steps law C (j : Nat) e.1 (h_x e H) (hw H e.2.1)) := ⟨_, rfl⟩
  refine zz_sge (σ' := σ89) h89 ?_
  refine zz_gsn 6 rfl ?_
  refine zz_ast rfl (⟨by omega, by omega⟩) ?_
  obtain ⟨σ96, h96⟩ : ∃ s, s = zz_sa σ89 (h + 15) j (w_over law C (j : Nat) e.1 (h_x e H) (hw H e.2.1)) := ⟨_, rfl⟩
  have v96 : zz_i2z (σ89.1 402 (h + 5)) = w_over law C (j : Nat) e.1 (h_x e H) (hw H e.2.1) := by
    rw [h89, sa_1, b2_88]
    exact zz_zb (w_over_b _ _ _ _ _ _)
  refine zz_sge (σ' := σ96) (by rw [h96, ← v96]; rfl) ?_
  refine zz_rv rfl rfl ?_
  have G5 : zz_F (fun a => a = h + 14 ∨ a = h + 15) σ88 σ96 := by
    rw [h96, h89]
    exact (zz_F.sa (Or.inl rfl)).tr (zz_F.sa (Or.inr rfl))
  have x88 : w_ext (hw H e.2.1) (h_w law C j e H) := x_deed law C (j : Nat) e.1 (h_x e H) (hw H e.2.1) s2
  have hVo : ∀ v, v ≠ j + 1 → (h_one law C j e H).Q v = H.Q v := fun v hv => zu_n _ _ hv
  have G8 : zz_F (fun a => (a = h + 29 + 9 * (j + 1) ∨ a = h + 30 + 9 * (j + 1) ∨ a = h + 4 ∨ (h + 22 + 9 * (j + 1) ≤ a ∧ a ≤ h + 28 + 9 * (j + 1)) ∨ a = h + 16) ∨ ((h + 22 + 9 * (j + 1) ≤ a ∧ a ≤ h + 22 + 9 * (j + 1) + 6) ∨ (h + 5 ≤ a ∧ a ≤ h + 5 + 6)) ∨ (a = h + 14 ∨ a = h + 15)) σ σ96 := ((G3.mono (fun a z => Or.inl z)).tr (g88.F.mono (fun a z => Or.inr (Or.inl z)))).tr (G5.mono (fun a z => Or.inr (Or.inr z)))
  have k105 : σ96.1 105 (h + 6) = σ.1 105 (h + 6) := ((G5 (h + 6) (by omega)).1 105).trans ((g88.1 105 (h + 6) (by unfold zz_c1m; omega)).trans ((G3 (h + 6) (by omega)).1 105))
  have k10 : ∀ i, σ96.2 (h + 10) i = σ.2 (h + 10) i := fun i => ((G5 (h + 10) (by omega)).2 i).trans ((g88.2 (h + 10) i (by unfold zz_c2m; omega)).trans ((G3 (h + 10) (by omega)).2 i))
  have G6 : zz_F (A_hi h) σ σ96 := fun a ha => by
    by_cases z : a = h + 10
    · subst z
      exact ⟨fun f => ((G5 (h + 10) (by omega)).1 f).trans ((g88.1 f (h + 10) (by unfold zz_c1m; omega)).trans ((G3 (h + 10) (by omega)).1 f)), k10⟩
    · exact G8 a (by unfold A_hi at ha; omega)
  have y67 : ∀ i, i ≠ j → σ96.2 (h + 16) i = σ.2 (h + 16) i := fun i hi => by
    rw [(G5 (h + 16) (by omega)).2, (g88.F (h + 16) (by omega)).2, h74, sa_i _ _ hi]
    exact (G2 (h + 16) (by omega)).2 i
  have y64 : ∀ i, i ≠ j → σ96.2 (h + 1 + 3) i = σ.2 (h + 1 + 3) i := fun i hi => by
    rw [(G5 (h + 1 + 3) (by omega)).2, (g88.F (h + 1 + 3) (by omega)).2, h74, sa_a _ _ (by omega), (g67.F (h + 1 + 3) (by omega)).2, h64, sa_i _ _ hi]
    exact (G1 (h + 1 + 3) (by show ¬ (h + 1 + 3 = _ ∨ h + 1 + 3 = _); omega)).2 i
  have x96 : σ96.2 (h + 1 + 3) j = h_x e H := by
    rw [(G5 (h + 1 + 3) (by omega)).2, (g88.F (h + 1 + 3) (by omega)).2]
    exact x74
  refine ⟨rfl, ⟨?_, ?_, fun v hv => ?_, fun i hi => ?_⟩, ⟨?_, ?_, ?_, ?_, ?_, d6, fun i hi => ?_⟩, G6, k105⟩
  · exact ((G5 (h + 5) (by omega)).1 404).trans ((g88.1 404 (h + 5) (by unfold zz_c1m; omega)).trans m1)
  · exact ((G5 (h + 5) (by omega)).1 405).trans ((g88.1 405 (h + 5) (by unfold zz_c1m; omega)).trans m2)
  · by_cases ev : v = j + 1
    · subst ev
      rw [hw_s]
      refine ⟨SP.f p88 G5 (fun a y1 y2 z => by omega) (fun _ a y1 y2 z => by omega), ?_⟩
      have q1 : QR σ96 (h + 29 + 9 * (j + 1)) (zq_chg e.1 e.2.2 (H.Q e.2.1)) := by
        have F : zz_F (fun a => a = h + 4 ∨ (h + 22 + 9 * (j + 1) ≤ a ∧ a ≤ h + 28 + 9 * (j + 1)) ∨ a = h + 16 ∨ (h + 5 ≤ a ∧ a ≤ h + 11) ∨ a = h + 14 ∨ a = h + 15) σ63 σ96 := by
          refine zz_F.tr (σ1 := σ64) (by rw [h64]; exact zz_F.sa (Or.inl rfl)) ?_
          refine zz_F.tr (g67.F.mono (fun a z => by omega)) ?_
          refine zz_F.tr (σ1 := σ74) (by rw [h74]; exact zz_F.sa (Or.inr (Or.inr (Or.inl rfl)))) ?_
          exact (g88.F.mono (fun a z => by omega)).tr (G5.mono (fun a z => by omega))
        exact p63.f F (by omega) (by omega)
      rw [show (h_one law C j e H).Q (j + 1) = zq_chg e.1 e.2.2 (H.Q e.2.1) from zu_s _ _ _]
      exact q1
    · rw [hw_o law C j e H ev, hVo v ev]
      have p0 := (c3 v (by omega)).1.f G3 (fun a y1 y2 z => by omega) (fun _ a y1 y2 z => by omega)
      have p1 := SP.oth (W' := h_w law C j e H) p0 g88 p88 x88.1 (by omega) (by omega)
      exact ⟨p1.f G5 (fun a y1 y2 z => by omega) (fun _ a y1 y2 z => by omega), (c3 v (by omega)).2.f G8 (by omega) (by omega)⟩
  · by_cases ei : i = j
    · subst ei
      refine ⟨?_, ?_, ?_⟩
      · rw [h96, sa_a _ _ (by omega), h89, sa_h]
        exact (zu_s _ _ _).symm
      · rw [h96, sa_h]
        exact (zu_s _ _ _).symm
      · rw [(G5 (h + 16) (by omega)).2, (g88.F (h + 16) (by omega)).2, f74]
        exact congrArg (fun z : Nat => (z : Int)) (zu_s _ _ _).symm
    · obtain ⟨a1, a2, a3⟩ := c4 i (by omega)
      refine ⟨?_, ?_, ?_⟩
      · rw [h96, sa_a _ _ (by omega), h89, sa_i _ _ ei, (g88.F (h + 14) (by omega)).2, (G3 (h + 14) (by omega)).2, a1]
        exact (zu_n _ _ ei).symm
      · rw [h96, sa_i _ _ ei, h89, sa_a _ _ (by omega), (g88.F (h + 15) (by omega)).2, (G3 (h + 15) (by omega)).2, a2]
        exact (zu_n _ _ ei).symm
      · rw [y67 i ei, a3]
        exact congrArg (fun z : Nat => (z : Int)) (zu_n _ _ ei).symm
  · exact ((G8 (h + 1) (by omega)).1 200).trans d1
  · exact ((G8 (h + 1) (by omega)).1 201).trans d2
  · exact ((G8 (h + 1) (by omega)).1 202).trans d3
  · exact ((G8 (h + 1) (by omega)).1 203).trans d4
  · exact ((G8 (h + 1) (by omega)).1 204).trans d5
  · obtain ⟨a1, a2, a3⟩ := d7 i hi
    rw [(G8 (h + 1 + 1) (by omega)).2, (G8 (h + 1 + 2) (by omega)).2]
    by_cases ei : i = j
    · subst ei
      rw [zu_s]
      exact ⟨b1, b2, x96⟩
    · rw [zu_n _ _ ei, y64 i ei]
      exact ⟨a1, a2, a3⟩
