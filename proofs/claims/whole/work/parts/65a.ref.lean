/-! the reference: LAW 2 -/
theorem lp_pay {X : zz_X} {m s k : Nat} {pay o C0 : Int} {v : zz_V} {W : zz_W} {σ : zz_M} {Post : Option zz_V → zz_M → Prop} (hk : k < 2) (hP : MP σ m s W) (hs : s < 182) (ho : W.S (9 + k) = o) (h0 : 0 ≤ o ∧ o < 900000) (hp : 0 ≤ pay ∧ pay ≤ 2) (h7 : 0 ≤ σ.1 1207 m ∧ σ.1 1207 m < 900000)
    (kk : ∀ (σ' : zz_M) (w : Int), MP σ' m s (w_S (9 + k) (o - min o pay) W) → Rg m s W.n σ σ' → σ'.1 1207 m = σ.1 1207 m + min o pay → (∀ f, f ≠ 1203 → f ≠ 1207 → σ'.1 f m = σ.1 f m) → zz_G X 3 p_Mo_evens 2 [zP 12 0 0 m, zI (s : Nat), zI pay, zI ((k + 1 : Nat) : Int), zI w] [] σ' Post) :
    zz_G X 3 p_Mo_evens 2 [zP 12 0 0 m, zI (s : Nat), zI pay, zI (k : Nat), v] [] σ Post := by
  have eo : σ.2 (m + 3) (12 * s + (9 + k)) = o := by rw [hP.2.1 (9 + k) (by omega) (by omega), ho]
  have hmn : min pay o = min o pay := Int.min_comm _ _
  obtain ⟨mn, hmn2⟩ : ∃ mn, mn = min o pay := ⟨_, rfl⟩
  have hm0 : 0 ≤ mn ∧ mn ≤ 2 ∧ mn ≤ o := by omega
  rw [← hmn2] at kk hmn
  refine zz_gsn 2 rfl ?_
  refine zz_br rfl (fun h4 => absurd h4 (by omega)) (fun h4 => ?_)
  refine zz_gsn 6 rfl ?_
  rw [zw_9 (by omega)]
  refine zz_cv (n := 3) rfl rfl (t_Mo_of (s := s) (k := 9 + k) hs (by omega)) (Nat.le_of_ble_eq_true rfl) (Nat.le_of_ble_eq_true rfl) (Nat.le_of_ble_eq_true rfl) (fun r11 σ11 q11 => ?_)
  obtain ⟨rfl, rfl⟩ := q11
  rw [eo]
  refine zz_mth rfl (Nat.le_of_ble_eq_true rfl) (Nat.le_of_ble_eq_true rfl) ?_
  rw [hmn]
  refine zz_gsn 6 rfl ?_
  rw [zw_9 (by omega)]
  refine zz_gsn 5 rfl ?_
  rw [zw_9 (by omega)]
  refine zz_cv (n := 3) rfl rfl (t_Mo_of (s := s) (k := 9 + k) hs (by omega)) (Nat.le_of_ble_eq_true rfl) (Nat.le_of_ble_eq_true rfl) (Nat.le_of_ble_eq_true rfl) (fun r24 σ24 q24 => ?_)
  obtain ⟨rfl, rfl⟩ := q24
  rw [eo]
  refine zz_gsn 2 rfl ?_
  refine zz_cv (n := 4) rfl rfl (t_Mo_sets (s := s) (k := 9 + k) hs (by omega)) (Nat.le_of_ble_eq_true rfl) (Nat.le_of_ble_eq_true rfl) (Nat.le_of_ble_eq_true rfl) (fun r27 σ27 q27 => ?_)
  obtain ⟨rfl, h27⟩ := q27
  refine zz_gsn 7 rfl ?_
  refine zz_jp rfl ?_
  have e27 : zw (o - mn) = o - mn := zw_id (by omega) (by omega)
  have P27 : MP σ27 m s (w_S (9 + k) (o - mn) W) := by rw [h27]; exact hP.S' (by omega) e27
  have G27 : Rc m s W.n σ σ27 := by rw [h27]; exact Rc.st (by omega)
  have e7 : zw (σ27.1 1207 m + mn) = σ.1 1207 m + mn := by rw [G27.fl (by decide)]; exact zw_id (by omega) (by omega)
  rw [zw_s (by omega)]
  refine zz_sge (σ' := zz_sf σ27 1207 m (σ.1 1207 m + mn)) (congrArg (zz_sf σ27 1207 m) e7.symm) ?_
  exact kk _ _ (P27.fd (by decide)) (G27.g.tr (Rg.sf (Or.inr (Or.inl rfl))) (Nat.le_refl _)) (sf_h _ _ _ _) (fun f f1 f2 => (sf_f _ _ f2).trans (G27.fl f1))
theorem lp_evT {X : zz_X} {m s : Nat} {mk C pay : Int} {x3 x4 : zz_V} {W : zz_W} {σ : zz_M} {Post : Option zz_V → zz_M → Prop} (hP : MP σ m s W) (hs : s < 182) (hC0 : σ.1 1206 m = C) (hC : 2 ≤ C ∧ C ≤ 4) (hl0 : (W.R 0).length ≤ 790) (hl1 : (W.R 1).length ≤ 790) (hn : W.n + (W.R 0).length + (W.R 1).length ≤ 20000) (h18 : σ.1 1208 m = 0) (h19 : σ.1 1209 m = 0) (hx : ∃ a b : Int, x3 = zI a ∧ x4 = zI b)
    (kk : ∀ σ', MP σ' m s (w_evn mk C W) → Rg m s W.n σ σ' → σ'.1 1207 m = σ.1 1207 m → σ'.1 1208 m = w_evnB C W → σ'.1 1209 m = w_evnO C W → Post none σ') :
    zz_G X 3 p_Mo_evens 36 [zP 12 0 0 m, zI (s : Nat), zI pay, x3, x4] [] σ Post := by
  obtain ⟨xa, xb, rfl, rfl⟩ := hx
  have c0 := hP.1 0 (by decide)
  have c1 := hP.1 1 (by decide)
  have d0 : ∀ c ∈ W.R 0, c < 20000 := fun c hc => by have := hP.2.2.2 0 (by decide) c hc; omega
  have d1 : ∀ c ∈ W.R 1, c < 20000 := fun c hc => by have := hP.2.2.2 1 (by decide) c hc; omega
  obtain ⟨L0, hL0⟩ : ∃ L0 : Int, L0 = ((W.R 0).length : Nat) := ⟨_, rfl⟩
  obtain ⟨L1, hL1⟩ : ∃ L1 : Int, L1 = ((W.R 1).length : Nat) := ⟨_, rfl⟩
  have b0 : 0 ≤ L0 ∧ L0 ≤ 790 := by omega
  have b1 : 0 ≤ L1 ∧ L1 ≤ 790 := by omega
  have q1 : 0 ≤ C * L1 ∧ C * L1 ≤ 4 * 790 ∧ L1 ≤ C * L1 := ⟨Int.mul_nonneg (by omega) b1.1, Int.le_trans (Int.mul_le_mul_of_nonneg_right hC.2 b1.1) (by omega), by have := Int.mul_le_mul_of_nonneg_right (show 1 ≤ C by omega) b1.1; omega⟩
  have q0 : 0 ≤ C * L0 ∧ C * L0 ≤ 4 * 790 ∧ L0 ≤ C * L0 := ⟨Int.mul_nonneg (by omega) b0.1, Int.le_trans (Int.mul_le_mul_of_nonneg_right hC.2 b0.1) (by omega), by have := Int.mul_le_mul_of_nonneg_right (show 1 ≤ C by omega) b0.1; omega⟩
  have m1 : zw (zw (C * (((W.R 1).length : Nat) : Int)) + 1) = C * L1 + 1 := by rw [← hL1, zw_id (x := C * L1) (by omega) (by omega), zw_id (by omega) (by omega)]
  have m2 : zw (zw (C * (((W.R 0).length : Nat) : Int)) + 1) = C * L0 + 1 := by rw [← hL0, zw_id (x := C * L0) (by omega) (by omega), zw_id (by omega) (by omega)]
  have lt1 : C * L1 + 1 < (((W.R 0).length : Nat) : Int) → (W.R 1).length < (W.R 0).length := fun z => by clear m1 m2; omega
  have lt2 : C * L0 + 1 < (((W.R 1).length : Nat) : Int) → (W.R 0).length < (W.R 1).length := fun z => by clear m1 m2; omega
  have eW0 : w_len 0 W = L0 := hL0.symm
  have eW1 : w_len 1 W = L1 := hL1.symm
  unfold w_evn w_evnB w_evnO at kk
  rw [eW0, eW1] at kk
  have kk : ∀ σ', MP σ' m s (if C * L1 + 1 < L0 then w_spl mk 0 1 W else if C * L0 + 1 < L1 then w_spl mk 1 0 W else W) → Rg m s W.n σ σ' → σ'.1 1207 m = σ.1 1207 m → σ'.1 1208 m = (if C * L1 + 1 < L0 ∨ C * L0 + 1 < L1 then 1 else 0) → σ'.1 1209 m = (if (C * L1 + 1 < L0 ∨ C * L0 + 1 < L1) ∧ (0 < W.S 9 ∨ 0 < W.S 10) then 1 else 0) → Post none σ' := kk
  refine zz_gsn 4 rfl ?_
  refine zz_cv (n := 3) rfl rfl (t_Mo_of (s := s) (k := 0) hs (by decide)) (Nat.le_of_ble_eq_true rfl) (Nat.le_of_ble_eq_true rfl) (Nat.le_of_ble_eq_true rfl) (fun r40 σ40 q40 => ?_)
  obtain ⟨rfl, rfl⟩ := q40
  refine zz_cv (n := 2) rfl rfl (t_Mo_lengthOf (l := W.R 0) c0 d0 (by omega)) (Nat.le_of_ble_eq_true rfl) (Nat.le_of_ble_eq_true rfl) (Nat.le_of_ble_eq_true rfl) (fun r41 σ41 q41 => ?_)
  obtain ⟨rfl, rfl⟩ := q41
  refine zz_gsn 5 rfl ?_
  refine zz_cv (n := 3) rfl rfl (t_Mo_of (s := s) (k := 1) hs (by decide)) (Nat.le_of_ble_eq_true rfl) (Nat.le_of_ble_eq_true rfl) (Nat.le_of_ble_eq_true rfl) (fun r47 σ47 q47 => ?_)
  obtain ⟨rfl, rfl⟩ := q47
  refine zz_cv (n := 2) rfl rfl (t_Mo_lengthOf (l := W.R 1) c1 d1 (by omega)) (Nat.le_of_ble_eq_true rfl) (Nat.le_of_ble_eq_true rfl) (Nat.le_of_ble_eq_true rfl) (fun r48 σ48 q48 => ?_)
  obtain ⟨rfl, rfl⟩ := q48
  refine zz_gsn 8 rfl ?_
  rw [hC0, m1]
  clear m1
  refine zz_br rfl (fun h57 => ?_) (fun h57 => ?_)
  · refine zz_gsn 7 rfl ?_
    rw [hC0, m2]
    clear m2
    refine zz_br rfl (fun h71 => ?_) (fun h71 => ?_)
    · refine zz_rv rfl rfl ?_
      refine kk σ (by rw [show (if C * L1 + 1 < L0 then w_spl mk 0 1 W else if C * L0 + 1 < L1 then w_spl mk 1 0 W else W) = W from (if_neg (show ¬ C * L1 + 1 < L0 by omega)).trans (if_neg (show ¬ C * L0 + 1 < L1 by omega))]; exact hP) Rg.rf rfl ?_ ?_
      · rw [h18]; exact (if_neg (show ¬ (C * L1 + 1 < L0 ∨ C * L0 + 1 < L1) by omega)).symm
      · rw [h19]; exact (if_neg (fun z => absurd (show C * L1 + 1 < L0 ∨ C * L0 + 1 < L1 from z.1) (by omega))).symm
    · refine zz_gsn 4 rfl ?_
      refine zz_cv (n := 4) rfl rfl (t_Mo_evensBy (mk := mk) (i := 1) (j := 0) (W := W) (Or.inr ⟨rfl, rfl⟩) hP hs (lt2 h71) hl1 (by omega)) (Nat.le_of_ble_eq_true rfl) (Nat.le_of_ble_eq_true rfl) (Nat.le_of_ble_eq_true rfl) (fun r76 σ76 q76 => ?_)
      obtain ⟨rfl, p76, y76, a76, b76, c76⟩ := q76
      refine zz_rv rfl rfl ?_
      refine kk σ76 (by rw [show (if C * L1 + 1 < L0 then w_spl mk 0 1 W else if C * L0 + 1 < L1 then w_spl mk 1 0 W else W) = w_spl mk 1 0 W from (if_neg (show ¬ C * L1 + 1 < L0 by omega)).trans (if_pos (show C * L0 + 1 < L1 by omega))]; exact p76) y76 a76 ?_ ?_
      · rw [b76]; exact (if_pos (show C * L1 + 1 < L0 ∨ C * L0 + 1 < L1 by omega)).symm
      · rw [c76]
        by_cases z : 0 < W.S 9 ∨ 0 < W.S 10
        · rw [if_pos z]; exact (if_pos ⟨show C * L1 + 1 < L0 ∨ C * L0 + 1 < L1 by omega, z⟩).symm
        · rw [if_neg z]; exact (if_neg (fun y => z y.2)).symm
  · refine zz_gsn 4 rfl ?_
    refine zz_cv (n := 4) rfl rfl (t_Mo_evensBy (mk := mk) (i := 0) (j := 1) (W := W) (Or.inl ⟨rfl, rfl⟩) hP hs (lt1 h57) hl0 hn) (Nat.le_of_ble_eq_true rfl) (Nat.le_of_ble_eq_true rfl) (Nat.le_of_ble_eq_true rfl) (fun r62 σ62 q62 => ?_)
    obtain ⟨rfl, p62, y62, a62, b62, c62⟩ := q62
    refine zz_jp rfl ?_
    refine zz_rv rfl rfl ?_
    refine kk σ62 (by rw [show (if C * L1 + 1 < L0 then w_spl mk 0 1 W else if C * L0 + 1 < L1 then w_spl mk 1 0 W else W) = w_spl mk 0 1 W from if_pos (show C * L1 + 1 < L0 by omega)]; exact p62) y62 a62 ?_ ?_
    · rw [b62]; exact (if_pos (show C * L1 + 1 < L0 ∨ C * L0 + 1 < L1 by omega)).symm
    · rw [c62]
      by_cases z : 0 < W.S 9 ∨ 0 < W.S 10
      · rw [if_pos z]; exact (if_pos ⟨show C * L1 + 1 < L0 ∨ C * L0 + 1 < L1 by omega, z⟩).symm
      · rw [if_neg z]; exact (if_neg (fun y => z y.2)).symm
theorem t_Mo_evens {X : zz_X} {σ : zz_M} {m s : Nat} {mk C pay : Int} {W : zz_W} (hP : MP σ m s W) (hs : s < 182) (hC0 : σ.1 1206 m = C) (hC : 2 ≤ C ∧ C ≤ 4) (hp : 0 ≤ pay ∧ pay ≤ 2) (h9 : 0 ≤ W.S 9 ∧ W.S 9 < 900000) (h10 : 0 ≤ W.S 10 ∧ W.S 10 < 900000) (hl0 : (W.R 0).length ≤ 790) (hl1 : (W.R 1).length ≤ 790) (hn : W.n + (W.R 0).length + (W.R 1).length ≤ 20000) (h17 : 0 ≤ σ.1 1207 m ∧ σ.1 1207 m < 800000) (h18 : σ.1 1208 m = 0) (h19 : σ.1 1209 m = 0) : zz_T X 3 p_Mo_evens [zP 12 0 0 m, zI (s : Nat), zI pay] σ (fun r σ' => r = none ∧ MP σ' m s (w_evn mk C (w_pay pay W)) ∧ Rg m s W.n σ σ' ∧ σ'.1 1207 m = σ.1 1207 m + w_payS pay W ∧ σ'.1 1208 m = w_evnB C (w_pay pay W) ∧ σ'.1 1209 m = w_evnO C (w_pay pay W)) := by
  refine zz_mk k_Mo_evens o_Mo_evens rfl rfl (Nat.le_of_ble_eq_true rfl) ?_
  show zz_G X 3 p_Mo_evens 0 [zP 12 0 0 m, zI (s : Nat), zI pay, zU, zU] [] σ _
  refine zz_gsn 2 rfl ?_
  refine lp_pay (k := 0) (o := W.S 9) (C0 := 0) (by decide) hP hs rfl h9 hp ⟨h17.1, by omega⟩ (fun σ1 w1 P1 G1 a1 b1 => ?_)
  refine lp_pay (k := 1) (o := W.S 10) (C0 := 0) (by decide) P1 hs rfl h10 hp (by rw [a1]; omega) (fun σ2 w2 P2 G2 a2 b2 => ?_)
  refine zz_gsn 2 rfl ?_
  refine zz_br rfl (fun h4 => ?_) (fun h4 => absurd h4 (by decide))
  refine lp_evT (mk := mk) (C := C) (W := w_pay pay W) P2 hs ((b2 1206 (by decide) (by decide)).trans ((b1 1206 (by decide) (by decide)).trans hC0)) hC hl0 hl1 hn ((b2 1208 (by decide) (by decide)).trans ((b1 1208 (by decide) (by decide)).trans h18)) ((b2 1209 (by decide) (by decide)).trans ((b1 1209 (by decide) (by decide)).trans h19)) ⟨_, _, rfl, rfl⟩ (fun σ3 P3 G3 a3 b3 c3 => ?_)
  refine ⟨rfl, P3, (G1.tr G2 (Nat.le_refl _)).tr G3 (Nat.le_refl _), ?_, b3, c3⟩
  rw [a3, a2, a1]
  show σ.1 1207 m + min (W.S 9) pay + min (W.S 10) pay = σ.1 1207 m + (min (W.S 9) pay + min (W.S 10) pay)
  omega
