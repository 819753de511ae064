/-! the reference: two rows evened -/
theorem w_S_com {a b : Nat} {x y : Int} {W : zz_W} (h : a ≠ b) : ∀ k, (w_S a x (w_S b y W)).S k = (w_S b y (w_S a x W)).S k := fun k => by
  show zu (zu W.S b y) a x k = zu (zu W.S a x) b y k
  by_cases z : k = a
  · subst z
    rw [zu_s, zu_n _ _ h, zu_s]
  · rw [zu_n _ _ z]
    by_cases z2 : k = b
    · subst z2
      rw [zu_s, zu_s]
    · rw [zu_n _ _ z2, zu_n _ _ z2, zu_n _ _ z]
/-- what w_spl is made of -/
theorem spl_is (mk : Int) (i j : Nat) (W : zz_W) : w_spl mk i j W = w_S 10 (w_len 1 (w_pus mk j ((w_laid i j W).drop ((w_laid i j W).length / 2)).reverse (w_pus mk i ((w_laid i j W).take ((w_laid i j W).length / 2)) (w_R j [] (w_R i [] W))))) (w_S 9 (w_len 0 (w_pus mk j ((w_laid i j W).drop ((w_laid i j W).length / 2)).reverse (w_pus mk i ((w_laid i j W).take ((w_laid i j W).length / 2)) (w_R j [] (w_R i [] W))))) (w_pus mk j ((w_laid i j W).drop ((w_laid i j W).length / 2)).reverse (w_pus mk i ((w_laid i j W).take ((w_laid i j W).length / 2)) (w_R j [] (w_R i [] W))))) := rfl
theorem w_pus_app (mk : Int) (k : Nat) : ∀ (a b : List Int) (W : zz_W), w_pus mk k (a ++ b) W = w_pus mk k a (w_pus mk k b W)
  | [], _, _ => rfl
  | x :: a, b, W => by
    show w_push mk k x (w_pus mk k (a ++ b) W) = w_push mk k x (w_pus mk k a (w_pus mk k b W))
    rw [w_pus_app mk k a b W]
/-- the second row, in two pieces -/
theorem laid_j {A B : List Int} {k : Nat} (hk : k ≤ A.length) : ((A ++ B.reverse).drop k).reverse = B ++ (A.drop k).reverse := by
  rw [List.drop_append_of_le_length hk, List.reverse_append, List.reverse_reverse]
theorem laid_i {A B : List Int} {k : Nat} (hk : k ≤ A.length) : (A ++ B).take k = A.take k := List.take_append_of_le_length hk
theorem zw_9 {i : Nat} (h : i < 10) : zw (9 + (i : Int)) = ((9 + i : Nat) : Int) := by rw [zw_id (by omega) (by omega)]; omega
theorem zw_sub {a b : Nat} (h : b ≤ a) (ha : a < 100000) : zw ((a : Int) - (b : Int)) = ((a - b : Nat) : Int) := by rw [zw_id (by omega) (by omega)]; omega
theorem zz_neg1 : zw ((0 : Int) - 1) = -1 := by decide
theorem lp_evM {X : zz_X} {m s i j : Nat} {mk : Int} {W : zz_W} {σ : zz_M} {Post : Option zz_V → zz_M → Prop} (hij : (i = 0 ∧ j = 1) ∨ (i = 1 ∧ j = 0)) (hP : MP σ m s W) (hs : s < 182) (hgt : (W.R j).length < (W.R i).length) (hl : (W.R i).length ≤ 790) (hn : W.n + (W.R i).length + (W.R j).length ≤ 20000)
    (kk : ∀ σ', MP σ' m s (w_spl mk i j W) → Rg m s W.n σ σ' → (∀ f, f ≠ 1203 → σ'.1 f m = σ.1 f m) → Post none σ') :
    zz_G X 2 p_Mo_evensBy 18 [zP 12 0 0 m, zI (s : Nat), zI (i : Nat), zI (j : Nat), zU, zU, zU, zU, zU, zU, zU] [] σ Post := by
  have hi6 : i < 6 := by omega
  have hj6 : j < 6 := by omega
  have hne : i ≠ j := by omega
  obtain ⟨A, hA⟩ : ∃ A, A = (W.R i).map W.num := ⟨_, rfl⟩
  obtain ⟨B, hB⟩ : ∃ B, B = (W.R j).map W.num := ⟨_, rfl⟩
  have lA : A.length = (W.R i).length := by rw [hA, List.length_map]
  have lB : B.length = (W.R j).length := by rw [hB, List.length_map]
  have hlaid : w_laid i j W = A ++ B.reverse := by rw [hA, hB]; rfl
  have llen : (w_laid i j W).length = A.length + B.length := by rw [hlaid, List.length_append, List.length_reverse]
  obtain ⟨kp, hkp⟩ : ∃ kp, kp = (A.length + B.length) / 2 := ⟨_, rfl⟩
  have hk : kp ≤ A.length := by omega
  have hcj : ∀ c ∈ W.R j, c < 20000 := fun c hc => by have := hP.2.2.2 j hj6 c hc; omega
  have elen : ∀ x y : Int, x = ((A.length : Nat) : Int) → y = ((B.length : Nat) : Int) → zw (x + y) = ((A.length + B.length : Nat) : Int) := fun x y e1 e2 => by rw [e1, e2, zw_id (by omega) (by omega)]; omega
  have ediv : zz_div ((A.length + B.length : Nat) : Int) 2 = (kp : Nat) := by rw [hkp]; exact zz_div_n (d := 2) (by omega) (by decide) (by decide)
  obtain ⟨Y0, hY0⟩ : ∃ Y0, Y0 = w_R j [] (w_R i [] W) := ⟨_, rfl⟩
  have nY0 : Y0.n = W.n := by rw [hY0]; rfl
  have rY0 : Y0.R i = [] := by rw [hY0]; show zu (zu W.R i []) j [] i = []; rw [zu_n _ _ hne, zu_s]
  have rY0j : Y0.R j = [] := by rw [hY0]; exact zu_s _ _ _
  obtain ⟨Y1, hY1⟩ : ∃ Y1, Y1 = w_pus mk i (A.take kp) Y0 := ⟨_, rfl⟩
  obtain ⟨a1, a2, a3, a4⟩ := w_pus_R (mk := mk) (k := i) (A.take kp) Y0
  rw [← hY1] at a1 a2 a3 a4
  have lt : (A.take kp).length = kp := by rw [List.length_take]; omega
  have nY1 : Y1.n = W.n + kp := by rw [a3, nY0, lt]
  obtain ⟨Y2, hY2⟩ : ∃ Y2, Y2 = w_pus mk j (A.drop kp).reverse Y1 := ⟨_, rfl⟩
  have nY2 : Y2.n = W.n + A.length := by rw [hY2, w_pus_n, List.length_reverse, List.length_drop]; omega
  obtain ⟨Y3, hY3⟩ : ∃ Y3, Y3 = w_pus mk j B Y2 := ⟨_, rfl⟩
  have nY3 : Y3.n = W.n + A.length + B.length := by rw [hY3, w_pus_n]; omega
  have eY3 : Y3 = w_pus mk j ((w_laid i j W).drop ((w_laid i j W).length / 2)).reverse (w_pus mk i ((w_laid i j W).take ((w_laid i j W).length / 2)) (w_R j [] (w_R i [] W))) := by
    rw [llen, ← hkp, hlaid, laid_j hk, laid_i hk, ← hY0, ← hY1, w_pus_app, ← hY2, ← hY3]
  obtain ⟨b1, b2, b3, b4⟩ := w_pus_R (mk := mk) (k := j) (A.drop kp).reverse Y1
  rw [← hY2] at b1 b2 b3 b4
  obtain ⟨d1, d2, d3, d4⟩ := w_pus_R (mk := mk) (k := j) B Y2
  rw [← hY3] at d1 d2 d3 d4
  have rY1j : Y1.R j = [] := by rw [a2 j (fun z => hne z.symm), rY0j]
  have rY3 : ∀ k, k < 6 → Y3.R k = (w_R j (Y3.R j) (w_R i (Y1.R i) W)).R k := fun k _ => by
    show Y3.R k = zu (zu W.R i (Y1.R i)) j (Y3.R j) k
    by_cases z : k = j
    · subst z; rw [zu_s]
    · rw [zu_n _ _ z, d2 k z, b2 k z]
      by_cases z2 : k = i
      · subst z2; rw [zu_s]
      · rw [zu_n _ _ z2, a2 k z2, hY0]
        show zu (zu W.R i []) j [] k = W.R k
        rw [zu_n _ _ z, zu_n _ _ z2]
  have sY3 : Y3.S = W.S := by rw [d4, b4, a4, hY0]; rfl
  have li : (Y3.R i).length = kp := by rw [d2 i hne, b2 i hne, a1, lt, rY0]; rfl
  have lj : (Y3.R j).length = A.length + B.length - kp := by rw [d1, b1, rY1j, List.length_reverse, List.length_drop]; show B.length + (A.length - kp + 0) = _; omega
  have hnum : ∀ c, c < W.n → σ.2 (m + 1) c = W.num c := hP.2.2.1.2
  refine zz_gsn 5 rfl ?_
  refine zz_cv (n := 3) rfl rfl (t_Mo_of (s := s) (k := i) hs (by omega)) (Nat.le_of_ble_eq_true rfl) (Nat.le_of_ble_eq_true rfl) (Nat.le_of_ble_eq_true rfl) (fun r23 σ23 q23 => ?_)
  obtain ⟨rfl, rfl⟩ := q23
  refine zz_gsn 1 rfl ?_
  refine lp_evA (num := W.num) (nn := W.n) (N := A.length) (σ0 := σ) (by omega) (by omega) hnum A (fun σ1 L1 F1 => ?_) (W.R i) [] _ σ (by show 0 + (W.R i).length = A.length; omega) (hP.1 i hi6) (hP.2.2.2 i hi6) (fun t x ht => absurd ht (by rw [List.getElem?_nil]; intro z; cases z)) Lo.rf (by rw [List.nil_append, hA])
  have P1 := hP.lo F1
  have c1 := P1.1 j hj6
  refine zz_gsn 5 rfl ?_
  refine zz_cv (n := 3) rfl rfl (t_Mo_of (s := s) (k := j) hs (by omega)) (Nat.le_of_ble_eq_true rfl) (Nat.le_of_ble_eq_true rfl) (Nat.le_of_ble_eq_true rfl) (fun r48 σ48 q48 => ?_)
  obtain ⟨rfl, rfl⟩ := q48
  refine zz_cv (n := 2) rfl rfl (t_Mo_lengthOf (l := W.R j) c1 hcj (by omega)) (Nat.le_of_ble_eq_true rfl) (Nat.le_of_ble_eq_true rfl) (Nat.le_of_ble_eq_true rfl) (fun r49 σ49 q49 => ?_)
  obtain ⟨rfl, rfl⟩ := q49
  rw [← lB]
  refine zz_gsn 1 rfl ?_
  rw [elen _ _ rfl rfl]
  refine zz_gsn 3 rfl ?_
  refine zz_dv rfl (by decide) ?_
  rw [ediv]
  clear ediv elen
  refine zz_gsn 4 rfl ?_
  refine zz_cv (n := 3) rfl rfl (t_Mo_of (s := s) (k := j) hs (by omega)) (Nat.le_of_ble_eq_true rfl) (Nat.le_of_ble_eq_true rfl) (Nat.le_of_ble_eq_true rfl) (fun r59 σ59 q59 => ?_)
  obtain ⟨rfl, rfl⟩ := q59
  refine zz_gsn 7 rfl ?_
  have ek : zw ((kp : Int) - 1) = (kp : Int) - 1 := zw_id (by omega) (by omega)
  rw [ek]
  clear ek
  have B0 : Bd σ1 m s i W.R W.S A (w_pus mk i ((A.take kp).drop kp) Y0) (-1) := by
    rw [List.drop_of_length_le (by omega)]
    refine ⟨P1.cg (W' := mkW Y0 W.R W.S) (fun _ _ => rfl) (fun _ _ _ => rfl) nY0 (by rw [hY0]; rfl), ?_, ?_, L1⟩
    · show zz_ch _ _ (Y0.R i)
      rw [rY0]; rfl
    · show ∀ c ∈ Y0.R i, c < Y0.n
      rw [rY0]; exact nil_lt
  refine lp_evB (mk := mk) (n0 := W.n) (keeps := kp) (σ0 := σ1) hk (by omega) (by omega) (by omega) (fun σ2 v2 B2 F2 => ?_) kp (-1) σ1 (Nat.le_refl _) B0 Rc.rf
  rw [← hY1] at B2
  obtain ⟨p2, q2, r2, L2⟩ := B2
  refine zz_gsn 4 rfl ?_
  refine zz_cv (n := 4) rfl rfl (t_Mo_sets (s := s) (k := i) hs (by omega)) (Nat.le_of_ble_eq_true rfl) (Nat.le_of_ble_eq_true rfl) (Nat.le_of_ble_eq_true rfl) (fun r83 σ83 q83 => ?_)
  obtain ⟨rfl, h83⟩ := q83
  have P83 := p2.R (k := i) hi6 q2 r2
  rw [← h83] at P83
  have F83 : Rc m s W.n σ2 σ83 := by rw [h83]; exact Rc.st (by omega)
  have L83 : Ln σ83 m A := fun t x ht => by rw [h83, sa_a _ _ (by omega)]; exact L2 t x ht
  refine zz_gsn 4 rfl ?_
  have B3 : Bd σ83 m s j (zu W.R i (Y1.R i)) W.S A (w_pus mk j ((A.drop kp).take 0).reverse Y1) (-1) := by
    refine ⟨P83, ?_, ?_, L83⟩
    · show zz_ch _ _ (Y1.R j)
      rw [rY1j]; rfl
    · show ∀ c ∈ Y1.R j, c < Y1.n
      rw [rY1j]; exact nil_lt
  refine lp_evE (mk := mk) (n0 := W.n) (keeps := kp) (σ0 := σ83) hk (by omega) (by omega) (by omega) (fun σ4 v4 B4 F4 => ?_) (A.length - kp) 0 (-1) σ83 (by omega) B3 Rc.rf
  rw [← hY2] at B4
  obtain ⟨p4, q4, r4, L4⟩ := B4
  have F14 : Rc m s W.n σ1 σ4 := (F2.tr F83 (Nat.le_refl _)).tr F4 (Nat.le_refl _)
  refine zz_gsn 4 rfl ?_
  have o1 : ∀ c, c < W.n → σ4.2 (m + 1) c = W.num c := fun c hc => by
    rw [F14.2 (m + 1) c (by unfold rc2; omega)]
    exact P1.2.2.1.2 c hc
  have o2 : zz_ch (σ4.2 (m + 2)) (σ1.2 (m + 3) (12 * s + j)) (W.R j) := zz_ch_cong (fun c hc => by
    have := hP.2.2.2 j hj6 c hc
    exact F14.2 (m + 2) c (by unfold rc2; omega)) c1
  refine lp_evC (num := W.num) (nn := W.n) (N := B.length) (σ0 := σ4) (by omega) (by omega) o1 B (fun σ5 L5 F5 => ?_) (W.R j) [] _ σ4 (by show 0 + (W.R j).length = B.length; omega) o2 (hP.2.2.2 j hj6) (fun t x ht => absurd ht (by rw [List.getElem?_nil]; intro z; cases z)) Lo.rf (by rw [List.nil_append, hB])
  have p5 := p4.lo F5
  have q5 : zz_ch (σ5.2 (m + 2)) v4 (Y2.R j) := by rw [F5.2 _ (by omega)]; exact q4
  refine zz_gsn 4 rfl ?_
  have ek : zw ((B.length : Int) - 1) = (B.length : Int) - 1 := zw_id (by omega) (by omega)
  rw [ek]
  clear ek
  have B5 : Bd σ5 m s j (zu W.R i (Y1.R i)) W.S B (w_pus mk j (B.drop B.length) Y2) v4 := by
    rw [List.drop_of_length_le (Nat.le_refl _)]
    exact ⟨p5, q5, r4, L5⟩
  refine lp_evD (mk := mk) (n0 := W.n) (σ0 := σ5) (by omega) (by omega) (by omega) (fun σ6 v6 B6 F6 => ?_) B.length v4 σ5 (Nat.le_refl _) B5 Rc.rf
  rw [← hY3] at B6
  obtain ⟨p6, q6, r6, -⟩ := B6
  refine zz_gsn 4 rfl ?_
  refine zz_cv (n := 4) rfl rfl (t_Mo_sets (s := s) (k := j) hs (by omega)) (Nat.le_of_ble_eq_true rfl) (Nat.le_of_ble_eq_true rfl) (Nat.le_of_ble_eq_true rfl) (fun r143 σ143 q143 => ?_)
  obtain ⟨rfl, h143⟩ := q143
  have P143 := p6.R (k := j) hj6 q6 r6
  rw [← h143] at P143
  have P3 : MP σ143 m s Y3 := P143.cg rY3 (fun k _ _ => by rw [sY3]; rfl) rfl rfl
  refine zz_gsn 6 rfl ?_
  rw [zw_9 (by omega)]
  refine zz_cv (n := 4) rfl rfl (t_Mo_sets (s := s) (k := 9 + i) hs (by omega)) (Nat.le_of_ble_eq_true rfl) (Nat.le_of_ble_eq_true rfl) (Nat.le_of_ble_eq_true rfl) (fun r150 σ150 q150 => ?_)
  obtain ⟨rfl, h150⟩ := q150
  have P150 := P3.S (j := 9 + i) (v := (kp : Nat)) (by omega)
  rw [← h150] at P150
  refine zz_gsn 8 rfl ?_
  rw [zw_9 (by omega), zw_sub (by omega) (by omega)]
  refine zz_cv (n := 4) rfl rfl (t_Mo_sets (s := s) (k := 9 + j) hs (by omega)) (Nat.le_of_ble_eq_true rfl) (Nat.le_of_ble_eq_true rfl) (Nat.le_of_ble_eq_true rfl) (fun r159 σ159 q159 => ?_)
  obtain ⟨rfl, h159⟩ := q159
  have P159 := P150.S (j := 9 + j) (v := ((A.length + B.length - kp : Nat) : Int)) (by omega)
  rw [← h159] at P159
  refine zz_rv rfl rfl ?_
  have G1 : Rg m s W.n σ σ4 := (F1.g (s := s) (n := W.n)).tr F14.g (Nat.le_refl _)
  have G2 : Rg m s W.n σ σ6 := (G1.tr F5.g (Nat.le_refl _)).tr F6.g (Nat.le_refl _)
  have F159 : Rc m s W.n σ6 σ159 := ((show Rc m s W.n σ6 σ143 by rw [h143]; exact Rc.st (by omega)).tr (show Rc m s W.n σ143 σ150 by rw [h150]; exact Rc.st (by omega)) (Nat.le_refl _)).tr (show Rc m s W.n σ150 σ159 by rw [h159]; exact Rc.st (by omega)) (Nat.le_refl _)
  have fl : ∀ f, f ≠ 1203 → σ159.1 f m = σ.1 f m := fun f hf => by
    rw [F159.fl hf, F6.fl hf, F5.1, F14.fl hf, F1.1]
  refine kk σ159 ?_ (G2.tr F159.g (Nat.le_refl _)) fl
  rw [spl_is, ← eY3]
  rcases hij with ⟨rfl, rfl⟩ | ⟨rfl, rfl⟩
  · have e1 : w_len 1 Y3 = ((A.length + B.length - kp : Nat) : Int) := by show (((Y3.R 1).length : Nat) : Int) = _; rw [lj]
    have e0 : w_len 0 Y3 = ((kp : Nat) : Int) := by show (((Y3.R 0).length : Nat) : Int) = _; rw [li]
    rw [e1, e0]
    exact P159
  · have e0 : w_len 0 Y3 = ((A.length + B.length - kp : Nat) : Int) := by show (((Y3.R 0).length : Nat) : Int) = _; rw [lj]
    have e1 : w_len 1 Y3 = ((kp : Nat) : Int) := by show (((Y3.R 1).length : Nat) : Int) = _; rw [li]
    rw [e1, e0]
    exact P159.sw (by decide)
theorem t_Mo_evensBy {X : zz_X} {σ : zz_M} {m s i j : Nat} {mk : Int} {W : zz_W} (hij : (i = 0 ∧ j = 1) ∨ (i = 1 ∧ j = 0)) (hP : MP σ m s W) (hs : s < 182) (hgt : (W.R j).length < (W.R i).length) (hl : (W.R i).length ≤ 790) (hn : W.n + (W.R i).length + (W.R j).length ≤ 20000) : zz_T X 2 p_Mo_evensBy [zP 12 0 0 m, zI (s : Nat), zI (i : Nat), zI (j : Nat)] σ (fun r σ' => r = none ∧ MP σ' m s (w_spl mk i j W) ∧ Rg m s W.n σ σ' ∧ σ'.1 1207 m = σ.1 1207 m ∧ σ'.1 1208 m = 1 ∧ σ'.1 1209 m = (if 0 < W.S 9 ∨ 0 < W.S 10 then 1 else 0)) := by
  refine zz_mk k_Mo_evensBy o_Mo_evensBy rfl rfl (Nat.le_of_ble_eq_true rfl) ?_
  show zz_G X 2 p_Mo_evensBy 0 [zP 12 0 0 m, zI (s : Nat), zI (i : Nat), zI (j : Nat), zU, zU, zU, zU, zU, zU, zU] [] σ _
  have e9 := hP.2.1 9 (by decide) (by decide)
  have e10 := hP.2.1 10 (by decide) (by decide)
  rcases (show (0 < W.S 9) ∨ (¬ 0 < W.S 9 ∧ 0 < W.S 10) ∨ (¬ 0 < W.S 9 ∧ ¬ 0 < W.S 10) by omega) with h9 | ⟨h9, h10⟩ | ⟨h9, h10⟩
  · refine zz_gsn 2 rfl ?_
    refine zz_ptz rfl (by first | exact Or.inl rfl | exact Or.inr rfl | omega) ?_
    refine zz_gsn 4 rfl ?_
    refine zz_cv (n := 3) rfl rfl (t_Mo_of (s := s) (k := 9) hs (by decide)) (Nat.le_of_ble_eq_true rfl) (Nat.le_of_ble_eq_true rfl) (Nat.le_of_ble_eq_true rfl) (fun r7 σ7 q7 => ?_)
    obtain ⟨rfl, rfl⟩ := q7
    rw [show (zz_sf σ 1208 m 1).2 (m + 3) (12 * s + 9) = W.S 9 from e9]
    refine zz_br rfl (fun h8 => ?_) (fun h8 => absurd h8 (by omega))
    refine zz_gsn 1 rfl ?_
    refine zz_jp rfl ?_
    refine zz_ptz rfl (by first | exact Or.inl rfl | exact Or.inr rfl | omega) ?_
    obtain ⟨σ2, h2⟩ : ∃ x, x = zz_sf (zz_sf σ 1208 m 1) 1209 m 1 := ⟨_, rfl⟩
    refine zz_sge (σ' := σ2) h2 ?_
    have P2 : MP σ2 m s W := by rw [h2]; exact (hP.fd (by decide)).fd (by decide)
    have G2 : Rg m s W.n σ σ2 := by rw [h2]; exact (Rg.sf (Or.inr (Or.inr (Or.inl rfl)))).tr (Rg.sf (Or.inr (Or.inr (Or.inr rfl)))) (Nat.le_refl _)
    have x7 : σ2.1 1207 m = σ.1 1207 m := by rw [h2, sf_f _ _ (by decide), sf_f _ _ (by decide)]
    have x8 : σ2.1 1208 m = 1 := by rw [h2, sf_f _ _ (by decide), sf_h]
    have x9 : σ2.1 1209 m = (if 0 < W.S 9 ∨ 0 < W.S 10 then 1 else 0) := by rw [h2, sf_h, if_pos (Or.inl h9)]
    clear h2
    exact lp_evM (mk := mk) hij P2 hs hgt hl hn (fun σ' a b c => ⟨rfl, a, G2.tr b (Nat.le_refl _), (c 1207 (by decide)).trans x7, (c 1208 (by decide)).trans x8, (c 1209 (by decide)).trans x9⟩)
  · refine zz_gsn 2 rfl ?_
    refine zz_ptz rfl (by first | exact Or.inl rfl | exact Or.inr rfl | omega) ?_
    refine zz_gsn 4 rfl ?_
    refine zz_cv (n := 3) rfl rfl (t_Mo_of (s := s) (k := 9) hs (by decide)) (Nat.le_of_ble_eq_true rfl) (Nat.le_of_ble_eq_true rfl) (Nat.le_of_ble_eq_true rfl) (fun r7 σ7 q7 => ?_)
    obtain ⟨rfl, rfl⟩ := q7
    rw [show (zz_sf σ 1208 m 1).2 (m + 3) (12 * s + 9) = W.S 9 from e9]
    refine zz_br rfl (fun h8 => absurd h8 h9) (fun h8 => ?_)
    refine zz_gsn 3 rfl ?_
    refine zz_cv (n := 3) rfl rfl (t_Mo_of (s := s) (k := 10) hs (by decide)) (Nat.le_of_ble_eq_true rfl) (Nat.le_of_ble_eq_true rfl) (Nat.le_of_ble_eq_true rfl) (fun r12 σ12 q12 => ?_)
    obtain ⟨rfl, rfl⟩ := q12
    rw [show (zz_sf σ 1208 m 1).2 (m + 3) (12 * s + 10) = W.S 10 from e10]
    refine zz_br rfl (fun h13 => absurd h13 (by omega)) (fun h13 => ?_)
    refine zz_gsn 1 rfl ?_
    refine zz_jp rfl ?_
    refine zz_ptz rfl (by first | exact Or.inl rfl | exact Or.inr rfl | omega) ?_
    obtain ⟨σ2, h2⟩ : ∃ x, x = zz_sf (zz_sf σ 1208 m 1) 1209 m 1 := ⟨_, rfl⟩
    refine zz_sge (σ' := σ2) h2 ?_
    have P2 : MP σ2 m s W := by rw [h2]; exact (hP.fd (by decide)).fd (by decide)
    have G2 : Rg m s W.n σ σ2 := by rw [h2]; exact (Rg.sf (Or.inr (Or.inr (Or.inl rfl)))).tr (Rg.sf (Or.inr (Or.inr (Or.inr rfl)))) (Nat.le_refl _)
    have x7 : σ2.1 1207 m = σ.1 1207 m := by rw [h2, sf_f _ _ (by decide), sf_f _ _ (by decide)]
    have x8 : σ2.1 1208 m = 1 := by rw [h2, sf_f _ _ (by decide), sf_h]
    have x9 : σ2.1 1209 m = (if 0 < W.S 9 ∨ 0 < W.S 10 then 1 else 0) := by rw [h2, sf_h, if_pos (Or.inr h10)]
    clear h2
    exact lp_evM (mk := mk) hij P2 hs hgt hl hn (fun σ' a b c => ⟨rfl, a, G2.tr b (Nat.le_refl _), (c 1207 (by decide)).trans x7, (c 1208 (by decide)).trans x8, (c 1209 (by decide)).trans x9⟩)
  · refine zz_gsn 2 rfl ?_
    refine zz_ptz rfl (by first | exact Or.inl rfl | exact Or.inr rfl | omega) ?_
    refine zz_gsn 4 rfl ?_
    refine zz_cv (n := 3) rfl rfl (t_Mo_of (s := s) (k := 9) hs (by decide)) (Nat.le_of_ble_eq_true rfl) (Nat.le_of_ble_eq_true rfl) (Nat.le_of_ble_eq_true rfl) (fun r7 σ7 q7 => ?_)
    obtain ⟨rfl, rfl⟩ := q7
    rw [show (zz_sf σ 1208 m 1).2 (m + 3) (12 * s + 9) = W.S 9 from e9]
    refine zz_br rfl (fun h8 => absurd h8 h9) (fun h8 => ?_)
    refine zz_gsn 3 rfl ?_
    refine zz_cv (n := 3) rfl rfl (t_Mo_of (s := s) (k := 10) hs (by decide)) (Nat.le_of_ble_eq_true rfl) (Nat.le_of_ble_eq_true rfl) (Nat.le_of_ble_eq_true rfl) (fun r12 σ12 q12 => ?_)
    obtain ⟨rfl, rfl⟩ := q12
    rw [show (zz_sf σ 1208 m 1).2 (m + 3) (12 * s + 10) = W.S 10 from e10]
    refine zz_br rfl (fun h13 => ?_) (fun h13 => absurd h13 (by omega))
    refine zz_gsn 1 rfl ?_
    refine zz_ptz rfl (by first | exact Or.inl rfl | exact Or.inr rfl | omega) ?_
    obtain ⟨σ2, h2⟩ : ∃ x, x = zz_sf (zz_sf σ 1208 m 1) 1209 m 0 := ⟨_, rfl⟩
    refine zz_sge (σ' := σ2) h2 ?_
    have P2 : MP σ2 m s W := by rw [h2]; exact (hP.fd (by decide)).fd (by decide)
    have G2 : Rg m s W.n σ σ2 := by rw [h2]; exact (Rg.sf (Or.inr (Or.inr (Or.inl rfl)))).tr (Rg.sf (Or.inr (Or.inr (Or.inr rfl)))) (Nat.le_refl _)
    have x7 : σ2.1 1207 m = σ.1 1207 m := by rw [h2, sf_f _ _ (by decide), sf_f _ _ (by decide)]
    have x8 : σ2.1 1208 m = 1 := by rw [h2, sf_f _ _ (by decide), sf_h]
    have x9 : σ2.1 1209 m = (if 0 < W.S 9 ∨ 0 < W.S 10 then 1 else 0) := by rw [h2, sf_h, if_neg (fun z => z.elim h9 h10)]
    clear h2
    exact lp_evM (mk := mk) hij P2 hs hgt hl hn (fun σ' a b c => ⟨rfl, a, G2.tr b (Nat.le_refl _), (c 1207 (by decide)).trans x7, (c 1208 (by decide)).trans x8, (c 1209 (by decide)).trans x9⟩)
