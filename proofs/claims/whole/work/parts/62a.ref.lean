/-! the reference: LAW 0 -/
theorem r_mv {mk : Int} {i j c : Nat} {l : List Nat} {W : zz_W} (e : W.R i = c :: l) (hij : i ≠ j) : (∀ k, (w_move mk i j W).R k = (w_push mk j (W.num c) (w_pop i W)).R k) ∧ (w_move mk i j W).S = (w_push mk j (W.num c) (w_pop i W)).S ∧ (w_move mk i j W).n = (w_push mk j (W.num c) (w_pop i W)).n ∧ (w_move mk i j W).num = (w_push mk j (W.num c) (w_pop i W)).num := by
  obtain ⟨a1, a2, a3⟩ := w_move_R (mk := mk) hij e
  have et : (W.R i).tail = l := by rw [e]; rfl
  have em : w_move mk i j W = w_pop i (w_push mk j (W.num c) W) := by
    unfold w_move
    split
    · rename_i z
      rw [e] at z
      exact absurd z (List.cons_ne_nil _ _)
    · rename_i c' t' z
      rw [e] at z
      obtain ⟨z1, -⟩ := List.cons.inj z
      rw [z1]
  refine ⟨fun k => ?_, by rw [em]; rfl, by rw [em]; rfl, by rw [em]; rfl⟩
  show _ = zu (zu W.R i (W.R i).tail) j (W.n :: (zu W.R i (W.R i).tail) j) k
  rw [et]
  by_cases kj : k = j
  · subst kj
    rw [a2, zu_s, zu_n _ _ (fun z => hij z.symm)]
  · rw [zu_n _ _ kj]
    by_cases ki : k = i
    · subst ki
      rw [a1, zu_s]
    · rw [a3 k ki kj, zu_n _ _ ki]
theorem MP.move {σ : zz_M} {m s i j c : Nat} {mk : Int} {l : List Nat} {W : zz_W} (e : W.R i = c :: l) (hij : i ≠ j) (h : MP σ m s (w_push mk j (W.num c) (w_pop i W))) : MP σ m s (w_move mk i j W) := by
  obtain ⟨a, b, c, d⟩ := r_mv (mk := mk) e hij
  exact h.cg (fun k _ => a k) (fun j _ _ => by rw [b]) c d
theorem w_move_c {mk : Int} {i j c : Nat} {l : List Nat} {W : zz_W} (e : W.R i = c :: l) : (w_move mk i j W).n = W.n + 1 := by
  rw [w_move_n, if_neg (by rw [e]; exact List.cons_ne_nil _ _)]
theorem l_cons {l : List Nat} (h : l ≠ []) : ∃ c t, l = c :: t := by
  cases l with
  | nil => exact absurd rfl h
  | cons c t => exact ⟨c, t, rfl⟩
theorem lp_rall {X : zz_X} {m s n0 : Nat} {mk N o : Int} {W' : zz_W} {σ0 : zz_M} {Post : Option zz_V → zz_M → Prop} (hs : s < 182) (hN : N < 1000000) (kk : ∀ σ', MP σ' m s W' → Rg m s n0 σ0 σ' → σ'.1 1207 m = N → σ'.1 1208 m = 1 → σ'.1 1209 m = o → Post none σ') :
    ∀ (r : Nat) (V : zz_W) (σ : zz_M), (V.R 1).length = r → MP σ m s V → V.n + r ≤ 20000 → n0 ≤ V.n → w_mvs mk 1 0 r V = W' → Rg m s n0 σ0 σ → σ.1 1207 m + r = N → 0 ≤ σ.1 1207 m → σ.1 1208 m = 1 → σ.1 1209 m = o → zz_G X 3 p_Mo_turnsAll 16 [zP 12 0 0 m, zI (s : Nat)] [] σ Post := by
  intro r
  induction r with
  | zero =>
    intro V σ hr hP hn hn0 hW hF h7 h70 h8 h9
    have e : V.R 1 = [] := List.length_eq_zero_iff.mp hr
    have ez := (zz_ch_n (hP.1 1 (by decide))).mpr e
    have hW2 : V = W' := hW
    subst hW2
    refine zz_gsn 3 rfl ?_
    refine zz_cv (n := 3) rfl rfl (t_Mo_of (s := s) (k := 1) hs (by omega)) (Nat.le_of_ble_eq_true rfl) (Nat.le_of_ble_eq_true rfl) (Nat.le_of_ble_eq_true rfl) (fun r19 σ19 q19 => ?_)
    obtain ⟨rfl, rfl⟩ := q19
    refine zz_gsn 1 rfl ?_
    refine zz_br rfl (fun h21 => ?_) (fun h21 => absurd ez h21)
    refine zz_rv rfl rfl ?_
    exact kk σ hP hF (by omega) h8 h9
  | succ r ih =>
    intro V σ hr hP hn hn0 hW hF h7 h70 h8 h9
    have hne : V.R 1 ≠ [] := fun z => by rw [z] at hr; exact absurd hr (Nat.succ_ne_zero r).symm
    obtain ⟨c, t, e⟩ := l_cons hne
    have ez : σ.2 (m + 3) (12 * s + 1) ≠ -1 := fun z => hne ((zz_ch_n (hP.1 1 (by decide))).mp z)
    have et : t.length = r := by rw [e] at hr; exact Nat.succ.inj hr
    refine zz_gsn 3 rfl ?_
    refine zz_cv (n := 3) rfl rfl (t_Mo_of (s := s) (k := 1) hs (by omega)) (Nat.le_of_ble_eq_true rfl) (Nat.le_of_ble_eq_true rfl) (Nat.le_of_ble_eq_true rfl) (fun r19 σ19 q19 => ?_)
    obtain ⟨rfl, rfl⟩ := q19
    refine zz_gsn 1 rfl ?_
    refine zz_br rfl (fun h21 => absurd h21 ez) (fun h21 => ?_)
    refine zz_gsn 6 rfl ?_
    refine zz_cv (n := 3) rfl rfl (t_Mo_pops (s := s) (k := 1) hP hs (by decide) (by omega) e) (Nat.le_of_ble_eq_true rfl) (Nat.le_of_ble_eq_true rfl) (Nat.le_of_ble_eq_true rfl) (fun r28 σ28 q28 => ?_)
    obtain ⟨rfl, p28, g28⟩ := q28
    refine zz_cv (n := 4) rfl rfl (t_Mo_pushes (s := s) (k := 0) (mk := mk) p28 hs (by decide) (by show V.n < 20000; omega)) (Nat.le_of_ble_eq_true rfl) (Nat.le_of_ble_eq_true rfl) (Nat.le_of_ble_eq_true rfl) (fun r29 σ29 q29 => ?_)
    obtain ⟨rfl, p29, g29⟩ := q29
    refine zz_gsn 6 rfl ?_
    refine zz_jp rfl ?_
    have P := MP.move e (by decide) p29
    have F2 : Rg m s n0 σ0 σ29 := (hF.tr g28.g hn0).tr g29.g hn0
    have f7 : σ29.1 1207 m = σ.1 1207 m := (g29.fl (by decide)).trans (g28.fl (by decide))
    have f8 : σ29.1 1208 m = 1 := ((g29.fl (by decide)).trans (g28.fl (by decide))).trans h8
    have f9 : σ29.1 1209 m = o := ((g29.fl (by decide)).trans (g28.fl (by decide))).trans h9
    have en := w_move_c (mk := mk) (i := 1) (j := 0) e
    have el : ((w_move mk 1 0 V).R 1).length = r := by rw [(w_move_R (mk := mk) (by decide) e).1]; exact et
    have s7 : zw (σ29.1 1207 m + 1) = σ.1 1207 m + 1 := by rw [f7]; exact zw_id (by omega) (by omega)
    refine zz_sge (σ' := zz_sf σ29 1207 m (σ.1 1207 m + 1)) (by rw [← s7]; first | done | rfl) ?_
    clear s7
    refine ih (w_move mk 1 0 V) _ el (P.fd (by decide)) (by rw [en]; omega) (by rw [en]; omega) hW (F2.tr (Rg.sf (Or.inr (Or.inl rfl))) (Nat.le_refl _)) ?_ ?_ ?_ ?_
    · rw [sf_h]; omega
    · rw [sf_h]; omega
    · rw [sf_f _ _ (by decide)]; exact f8
    · rw [sf_f _ _ (by decide)]; exact f9
theorem t_Mo_turnsAll {X : zz_X} {σ : zz_M} {m s : Nat} {mk : Int} {W : zz_W} (hP : MP σ m s W) (hs : s < 182) (hn : W.n + w_l 1 W ≤ 20000) (h7 : 0 ≤ σ.1 1207 m ∧ σ.1 1207 m < 900000) (h8 : σ.1 1208 m = 0) : zz_T X 3 p_Mo_turnsAll [zP 12 0 0 m, zI (s : Nat)] σ (fun r σ' => r = none ∧ MP σ' m s (w_all mk W) ∧ Rg m s W.n σ σ' ∧ σ'.1 1207 m = σ.1 1207 m + w_allS W ∧ σ'.1 1208 m = w_allB W ∧ σ'.1 1209 m = σ.1 1209 m) := by
  refine zz_mk k_Mo_turnsAll o_Mo_turnsAll rfl rfl (Nat.le_of_ble_eq_true rfl) ?_
  show zz_G X 3 p_Mo_turnsAll 0 [zP 12 0 0 m, zI (s : Nat)] [] σ _
  rcases zz_c3 (W.R 0 = []) (W.R 1 = []) with h0 | ⟨h0, h1⟩ | ⟨h0, h1⟩
  · have ez : σ.2 (m + 3) (12 * s + 0) ≠ -1 := fun z => h0 ((zz_ch_n (hP.1 0 (by decide))).mp z)
    refine zz_gsn 3 rfl ?_
    refine zz_cv (n := 3) rfl rfl (t_Mo_of (s := s) (k := 0) hs (by omega)) (Nat.le_of_ble_eq_true rfl) (Nat.le_of_ble_eq_true rfl) (Nat.le_of_ble_eq_true rfl) (fun r3 σ3 q3 => ?_)
    obtain ⟨rfl, rfl⟩ := q3
    refine zz_gsn 1 rfl ?_
    refine zz_br rfl (fun h5 => ?_) (fun h5 => absurd h5 ez)
    refine zz_rv rfl rfl ?_
    have eall : w_all mk W = W := if_neg h0
    have eS : w_allS W = 0 := if_neg h0
    have eB : w_allB W = 0 := if_neg (fun z => h0 z.1)
    rw [eall, eS, eB]
    exact ⟨rfl, hP, Rg.rf, (Int.add_zero _).symm, h8, rfl⟩
  · have ez := (zz_ch_n (hP.1 0 (by decide))).mpr h0
    have ez1 := (zz_ch_n (hP.1 1 (by decide))).mpr h1
    refine zz_gsn 3 rfl ?_
    refine zz_cv (n := 3) rfl rfl (t_Mo_of (s := s) (k := 0) hs (by omega)) (Nat.le_of_ble_eq_true rfl) (Nat.le_of_ble_eq_true rfl) (Nat.le_of_ble_eq_true rfl) (fun r3 σ3 q3 => ?_)
    obtain ⟨rfl, rfl⟩ := q3
    refine zz_gsn 1 rfl ?_
    refine zz_br rfl (fun h5 => absurd ez h5) (fun h5 => ?_)
    refine zz_gsn 3 rfl ?_
    refine zz_cv (n := 3) rfl rfl (t_Mo_of (s := s) (k := 1) hs (by omega)) (Nat.le_of_ble_eq_true rfl) (Nat.le_of_ble_eq_true rfl) (Nat.le_of_ble_eq_true rfl) (fun r9 σ9 q9 => ?_)
    obtain ⟨rfl, rfl⟩ := q9
    refine zz_gsn 1 rfl ?_
    refine zz_br rfl (fun h11 => absurd ez1 h11) (fun h11 => ?_)
    refine zz_rv rfl rfl ?_
    have eall : w_all mk W = W := by unfold w_all; rw [if_pos h0, h1]; rfl
    have eS : w_allS W = 0 := by unfold w_allS; rw [if_pos h0]; show (((W.R 1).length : Nat) : Int) = 0; rw [h1]; rfl
    have eB : w_allB W = 0 := if_neg (fun z => z.2 h1)
    rw [eall, eS, eB]
    exact ⟨rfl, hP, Rg.rf, (Int.add_zero _).symm, h8, rfl⟩
  · have ez := (zz_ch_n (hP.1 0 (by decide))).mpr h0
    have ez1 : σ.2 (m + 3) (12 * s + 1) ≠ -1 := fun z => h1 ((zz_ch_n (hP.1 1 (by decide))).mp z)
    refine zz_gsn 3 rfl ?_
    refine zz_cv (n := 3) rfl rfl (t_Mo_of (s := s) (k := 0) hs (by omega)) (Nat.le_of_ble_eq_true rfl) (Nat.le_of_ble_eq_true rfl) (Nat.le_of_ble_eq_true rfl) (fun r3 σ3 q3 => ?_)
    obtain ⟨rfl, rfl⟩ := q3
    refine zz_gsn 1 rfl ?_
    refine zz_br rfl (fun h5 => absurd ez h5) (fun h5 => ?_)
    refine zz_gsn 3 rfl ?_
    refine zz_cv (n := 3) rfl rfl (t_Mo_of (s := s) (k := 1) hs (by omega)) (Nat.le_of_ble_eq_true rfl) (Nat.le_of_ble_eq_true rfl) (Nat.le_of_ble_eq_true rfl) (fun r9 σ9 q9 => ?_)
    obtain ⟨rfl, rfl⟩ := q9
    refine zz_gsn 1 rfl ?_
    refine zz_br rfl (fun h11 => ?_) (fun h11 => absurd h11 ez1)
    refine zz_gsn 2 rfl ?_
    refine zz_ptz rfl (by first | exact Or.inl rfl | exact Or.inr rfl | omega) ?_
    have eall : w_all mk W = w_mvs mk 1 0 (W.R 1).length W := if_pos h0
    have eS : w_allS W = w_len 1 W := if_pos h0
    have eB : w_allB W = 1 := if_pos ⟨h0, h1⟩
    rw [eall, eS, eB]
    have hl1 : w_l 1 W = (W.R 1).length := rfl
    refine lp_rall (mk := mk) (n0 := W.n) (N := σ.1 1207 m + w_len 1 W) (o := σ.1 1209 m) (σ0 := σ) hs (by show _ + (((W.R 1).length : Nat) : Int) < _; omega) (fun σ' a b c d e => ⟨rfl, a, b, c, d, e⟩) (W.R 1).length W _ rfl (hP.fd (by decide)) hn (Nat.le_refl _) rfl (Rg.sf (Or.inr (Or.inr (Or.inl rfl)))) ?_ ?_ (sf_h _ _ _ _) (sf_f _ _ (by decide))
    · rw [sf_f _ _ (by decide)]
    · rw [sf_f _ _ (by decide)]; exact h7.1
