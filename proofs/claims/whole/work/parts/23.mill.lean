/-! the mill -/
theorem sp_add {σ σ' : zz_M} {p m s k : Nat} {W : zz_W} {x y mk : Int} (h : SP σ p m s W) (hk : k < 6) (hp : 0 < p → W.n < p) (hpb : p < 100000) (hlen : (W.R k).length < 100000) (hxy : 0 < p → x = y)
    (q : (0 ≤ σ.1 100 (m + 1) ∧ σ.1 100 (m + 1) < p ∧ σ' = zz_sf (zz_sf (zz_sf (zz_sa (zz_sa (zz_sa σ (m + 1 + 1) (σ.1 100 (m + 1)).toNat x) (m + 1 + 2) (σ.1 100 (m + 1)).toNat (σ.1 700 (s + 1 + k))) (m + 1 + 3) (σ.1 100 (m + 1)).toNat mk) 100 (m + 1) (zw (σ.1 100 (m + 1) + 1))) 700 (s + 1 + k) (σ.1 100 (m + 1))) 701 (s + 1 + k) (zw (σ.1 701 (s + 1 + k) + 1))) ∨ (¬ (0 ≤ σ.1 100 (m + 1) ∧ σ.1 100 (m + 1) < p) ∧ σ' = zz_sf (zz_sf σ 700 (s + 1 + k) (-1)) 701 (s + 1 + k) (zw (σ.1 701 (s + 1 + k) + 1)))) :
    SP σ' p m s (w_push mk k y W) ∧ Mc s m W.n σ σ' := by
  obtain ⟨h1, h2, h3, h4, h5⟩ := h
  have ek : w_len k W = ((W.R k).length : Nat) := rfl
  have el : zw (σ.1 701 (s + 1 + k) + 1) = ((W.n :: W.R k).length : Nat) := by
    rw [(h1 k hk).1, zw_id (by omega) (by omega), List.length_cons]
    omega
  rcases q with ⟨q1, q2, rfl⟩ | ⟨q1, rfl⟩
  · have hp0 : 0 < p := by omega
    obtain ⟨g1, g2, g3⟩ := h4 hp0
    have hx := hxy hp0
    subst hx
    have hn := hp hp0
    have en : (σ.1 100 (m + 1)).toNat = W.n := by omega
    have ew : zw (σ.1 100 (m + 1) + 1) = ((W.n + 1 : Nat) : Int) := by rw [g1, zw_id (by omega) (by omega)]; omega
    rw [el, en, ew, g1]
    refine ⟨⟨fun i hi => ?_, fun i a1 a2 => ?_, ?_, fun _ => ⟨?_, ?_, fun i hi => ?_⟩, fun i hi c hc => ?_⟩, ?_⟩
    · by_cases e : i = k
      · subst e
        rw [sf_h, sf_f _ _ (by omega), sf_h]
        show _ = ((((zu W.R i (W.n :: W.R i)) i).length : Nat) : Int) ∧ (0 < p → zz_ch _ _ ((zu W.R i (W.n :: W.R i)) i))
        rw [zu_s]
        refine ⟨rfl, fun _ => ⟨rfl, ?_⟩⟩
        have e1 : (zz_sf (zz_sf (zz_sf (zz_sa (zz_sa (zz_sa σ (m + 1 + 1) W.n x) (m + 1 + 2) W.n (σ.1 700 (s + 1 + i))) (m + 1 + 3) W.n mk) 100 (m + 1) ((W.n + 1 : Nat) : Int)) 700 (s + 1 + i) (W.n : Nat)) 701 (s + 1 + i) ((W.n :: W.R i).length : Nat)).2 (m + 3) W.n = σ.1 700 (s + 1 + i) := by
          rw [sf_2, sf_2, sf_2, sa_a _ _ (by omega), show m + 3 = m + 1 + 2 by omega, sa_h]
        rw [e1]
        refine zz_ch_cong (fun c hc => ?_) ((h1 i hi).2 hp0)
        have := h5 i hi c hc
        rw [sf_2, sf_2, sf_2, sa_a _ _ (by omega), sa_i _ _ (by omega), sa_a _ _ (by omega)]
      · rw [sf_a _ _ (by omega), sf_a _ _ (by omega), sf_f _ _ (by omega), sf_a _ _ (by omega), sf_a _ _ (by omega), sf_f _ _ (by omega)]
        show σ.1 701 (s + 1 + i) = ((((zu W.R k (W.n :: W.R k)) i).length : Nat) : Int) ∧ (0 < p → zz_ch _ (σ.1 700 (s + 1 + i)) ((zu W.R k (W.n :: W.R k)) i))
        rw [zu_n _ _ e]
        refine ⟨(h1 i hi).1, fun _ => zz_ch_cong (fun c hc => ?_) ((h1 i hi).2 hp0)⟩
        have := h5 i hi c hc
        rw [sf_2, sf_2, sf_2, sa_a _ _ (by omega), sa_i _ _ (by omega), sa_a _ _ (by omega)]
    · rw [sf_f _ _ (by omega), sf_f _ _ (by omega), sf_f _ _ (by omega)]
      exact h2 i a1 a2
    · rw [sf_f _ _ (by omega), sf_f _ _ (by omega), sf_f _ _ (by omega)]
      exact h3
    · rw [sf_f _ _ (by omega), sf_f _ _ (by omega), sf_h]
      rfl
    · exact hn
    · rw [sf_2, sf_2, sf_2]
      show _ = (zu W.num W.n x) i ∧ _ = (zu W.mkr W.n mk) i
      have hi' : i < W.n + 1 := hi
      by_cases e : i = W.n
      · rw [e, zu_s, zu_s]
        refine ⟨?_, ?_⟩
        · rw [sa_a _ _ (by omega), sa_a _ _ (by omega), show m + 2 = m + 1 + 1 by omega, sa_h]
        · rw [show m + 4 = m + 1 + 3 by omega, sa_h]
      · rw [zu_n _ _ e, zu_n _ _ e, sa_i _ _ e, sa_i _ _ e, sa_i _ _ e, sa_i _ _ e, sa_i _ _ e, sa_i _ _ e]
        exact g3 i (by omega)
    · show c < W.n + 1
      have hc' : c ∈ (zu W.R k (W.n :: W.R k)) i := hc
      by_cases e : i = k
      · subst e
        rw [zu_s] at hc'
        rcases List.mem_cons.mp hc' with z | z
        · omega
        · have := h5 i hi c z; omega
      · rw [zu_n _ _ e] at hc'
        have := h5 i hi c hc'
        omega
    · refine ⟨fun f a q => ?_, fun a i q => ?_⟩
      · unfold zz_c1c at q
        rw [sf_1, if_neg (by omega), sf_1, if_neg (by omega), sf_1, if_neg (by omega)]
        rfl
      · unfold zz_c2c at q
        rw [sf_2, sf_2, sf_2, sa_2, if_neg (by omega), sa_2, if_neg (by omega), sa_2, if_neg (by omega)]
  · have hp0 : ¬ 0 < p := by
      intro hp0
      obtain ⟨g1, g2, g3⟩ := h4 hp0
      have hn := hp hp0
      omega
    rw [el]
    refine ⟨⟨fun i hi => ?_, fun i a1 a2 => ?_, ?_, fun z => absurd z hp0, fun i hi c hc => ?_⟩, ?_⟩
    · by_cases e : i = k
      · subst e
        rw [sf_h]
        show _ = ((((zu W.R i (W.n :: W.R i)) i).length : Nat) : Int) ∧ _
        rw [zu_s]
        exact ⟨rfl, fun z => absurd z hp0⟩
      · rw [sf_a _ _ (by omega), sf_a _ _ (by omega)]
        show σ.1 701 (s + 1 + i) = ((((zu W.R k (W.n :: W.R k)) i).length : Nat) : Int) ∧ _
        rw [zu_n _ _ e]
        exact ⟨(h1 i hi).1, fun z => absurd z hp0⟩
    · rw [sf_f _ _ (by omega), sf_f _ _ (by omega)]
      exact h2 i a1 a2
    · rw [sf_f _ _ (by omega), sf_f _ _ (by omega)]
      exact h3
    · show c < W.n + 1
      have hc' : c ∈ (zu W.R k (W.n :: W.R k)) i := hc
      by_cases e : i = k
      · subst e
        rw [zu_s] at hc'
        rcases List.mem_cons.mp hc' with z | z
        · omega
        · have := h5 i hi c z; omega
      · rw [zu_n _ _ e] at hc'
        have := h5 i hi c hc'
        omega
    · refine ⟨fun f a q => ?_, fun a i q => rfl⟩
      unfold zz_c1c at q
      rw [sf_1, if_neg (by omega), sf_1, if_neg (by omega)]
theorem sp_drop {σ σ' : zz_M} {p m s k : Nat} {W : zz_W} (h : SP σ p m s W) (hk : k < 6) (hlen : (W.R k).length < 100000)
    (q : (0 < σ.1 701 (s + 1 + k) ∧ ∃ w : Int, ((0 ≤ σ.1 700 (s + 1 + k) ∧ σ.1 700 (s + 1 + k) < p ∧ w = σ.2 (m + 1 + 2) (σ.1 700 (s + 1 + k)).toNat) ∨ (¬ (0 ≤ σ.1 700 (s + 1 + k) ∧ σ.1 700 (s + 1 + k) < p) ∧ w = -1)) ∧ σ' = zz_sf (zz_sf σ 700 (s + 1 + k) w) 701 (s + 1 + k) (zw (σ.1 701 (s + 1 + k) - 1))) ∨ (σ.1 701 (s + 1 + k) ≤ 0 ∧ σ' = σ)) :
    SP σ' p m s (w_pop k W) ∧ Mc s m W.n σ σ' := by
  have h' := h
  obtain ⟨h1, h2, h3, h4, h5⟩ := h
  obtain ⟨e1, e2⟩ := h1 k hk
  cases hR : W.R k with
  | nil =>
    have e0 : w_len k W = 0 := by unfold w_len; rw [hR]; rfl
    rcases q with ⟨q1, -⟩ | ⟨q1, rfl⟩
    · omega
    · refine ⟨?_, Mc.rf⟩
      have : w_pop k W = W := by
        unfold w_pop w_R
        rw [hR]
        have e3 : zu W.R k [].tail = W.R := by
          funext j
          by_cases e : j = k
          · rw [e, zu_s, hR]; rfl
          · rw [zu_n _ _ e]
        rw [e3]
      rw [this]
      exact h'
  | cons c l =>
    have e0 : w_len k W = (l.length : Nat) + 1 := by unfold w_len; rw [hR]; rfl
    have hl : l.length + 1 < 100000 := by rw [hR] at hlen; exact hlen
    rcases q with ⟨q1, w, qw, rfl⟩ | ⟨q1, rfl⟩
    · refine ⟨?_, ?_⟩
      · refine SP.row h' hk ?_ (fun hp => ?_) (fun c' hc' => ?_)
        · rw [e1, e0, zw_id (by omega) (by omega), hR]
          show _ = ((l.length : Nat) : Int)
          omega
        · have hch := e2 hp
          rw [hR] at hch
          obtain ⟨z1, z2⟩ := hch
          have hc := h5 k hk c (by rw [hR]; exact List.mem_cons_self)
          have hnp := (h4 hp).2.1
          rcases qw with ⟨-, -, rfl⟩ | ⟨y, -⟩
          · rw [z1, hR]
            exact z2
          · exact absurd ⟨by omega, by omega⟩ y
        · rw [hR] at hc'
          exact h5 k hk c' (by rw [hR]; exact List.mem_cons_of_mem _ hc')
      · refine ⟨fun f a q => ?_, fun a i q => rfl⟩
        unfold zz_c1c at q
        rw [sf_1, if_neg (by omega), sf_1, if_neg (by omega)]
    · omega
theorem w_push_n (mk : Int) (k : Nat) (x : Int) (W : zz_W) : (w_push mk k x W).n = W.n + 1 := rfl
theorem w_pop_n (k : Nat) (W : zz_W) : (w_pop k W).n = W.n := rfl
theorem w_S_n (k : Nat) (v : Int) (W : zz_W) : (w_S k v W).n = W.n := rfl
theorem w_R_n (k : Nat) (l : List Nat) (W : zz_W) : (w_R k l W).n = W.n := rfl
theorem w_move_n (mk : Int) (i j : Nat) (W : zz_W) : (w_move mk i j W).n = W.n + (if W.R i = [] then 0 else 1) := by
  unfold w_move
  cases h : W.R i with
  | nil => rfl
  | cons c l => rfl
theorem w_len_0 {k : Nat} {W : zz_W} : w_len k W = 0 ↔ W.R k = [] := by
  unfold w_len
  cases W.R k with
  | nil => simp
  | cons c l => simp; omega
theorem t_Mill_move {X : zz_X} {σ : zz_M} {p q m s i j : Nat} {W : zz_W} {mk : Int} (hSP : SP σ p m s W) (hmk : σ.1 406 m = mk) (hi : i < 6) (hj : j < 6) (hij : i ≠ j) (hp : 0 < p → (w_move mk i j W).n ≤ p) (hpb : p < 100000) (hl : ∀ k, k < 6 → (W.R k).length < 90000) : zz_T X 3 p_Mill_move [zP 4 p q m, zP 7 0 0 (s + 1 + i), zP 7 0 0 (s + 1 + j)] σ (fun r σ' => r = none ∧ SP σ' p m s (w_move mk i j W) ∧ Mc s m W.n σ σ') := by
  refine zz_mk k_Mill_move o_Mill_move rfl rfl (Nat.le_of_ble_eq_true rfl) ?_
  show zz_G X 3 p_Mill_move 0 [zP 4 p q m, zP 7 0 0 (s + 1 + i), zP 7 0 0 (s + 1 + j)] [] σ _
  subst hmk
  refine zz_gsn 2 rfl ?_
  have el := (hSP.1 i hi).1
  cases hR : W.R i with
  | nil =>
    have e0 : w_len i W = 0 := w_len_0.mpr hR
    have e1 : w_move (σ.1 406 m) i j W = W := by unfold w_move; rw [hR]
    refine zz_br rfl (fun h2 => ?_) (fun h2 => absurd h2 (by omega))
    refine zz_rv rfl rfl ?_
    rw [e1]
    exact ⟨rfl, hSP, Mc.rf⟩
  | cons c l =>
    have e0 : w_len i W = (l.length : Nat) + 1 := by unfold w_len; rw [hR]; rfl
    have e1 : w_move (σ.1 406 m) i j W = w_pop i (w_push (σ.1 406 m) j (W.num c) W) := by unfold w_move; rw [hR]
    have hn : 0 < p → W.n < p := fun z => by have := hp z; rw [w_move_n, hR, if_neg (by simp)] at this; omega
    refine zz_br rfl (fun h2 => absurd h2 (by omega)) (fun h2 => ?_)
    refine zz_gsn 7 rfl ?_
    refine zz_cv (n := 2) rfl rfl (t_Cells_numberOf) (Nat.le_of_ble_eq_true rfl) (Nat.le_of_ble_eq_true rfl) (Nat.le_of_ble_eq_true rfl) (fun r10 σ10 q10 => ?_)
    obtain ⟨rfl, n10, rfl, e10⟩ := q10
    refine zz_gsn 2 rfl ?_
    refine zz_cv (n := 4) rfl rfl (t_Cells_add) (Nat.le_of_ble_eq_true rfl) (Nat.le_of_ble_eq_true rfl) (Nat.le_of_ble_eq_true rfl) (fun r13 σ13 q13 => ?_)
    obtain ⟨rfl, q13⟩ := q13
    have hxy : 0 < p → n10 = W.num c := fun z => by
      obtain ⟨g1, g2, g3⟩ := hSP.2.2.2.1 z
      have hch := (hSP.1 i hi).2 z
      rw [hR] at hch
      have hc := hSP.2.2.2.2 i hi c (by rw [hR]; exact List.mem_cons_self)
      have e5 : (σ.1 700 (s + 1 + i)).toNat = c := by rw [hch.1]; rfl
      rcases e10 with ⟨-, -, e10⟩ | ⟨e10, -⟩
      · rw [e10, e5]
        exact (g3 c hc).1
      · exact absurd ⟨by rw [hch.1]; omega, by rw [hch.1]; omega⟩ e10
    obtain ⟨p13, g13⟩ := sp_add (y := W.num c) hSP hj hn hpb (by have := hl j hj; omega) hxy q13
    refine zz_gsn 3 rfl ?_
    refine zz_cv (n := 2) rfl rfl (t_Cells_dropFirst) (Nat.le_of_ble_eq_true rfl) (Nat.le_of_ble_eq_true rfl) (Nat.le_of_ble_eq_true rfl) (fun r17 σ17 q17 => ?_)
    obtain ⟨rfl, q17⟩ := q17
    obtain ⟨p17, g17⟩ := sp_drop p13 hi (by show ((zu W.R j (W.n :: W.R j)) i).length < 100000; rw [zu_n _ _ hij]; have := hl i hi; omega) q17
    refine zz_rv rfl rfl ?_
    rw [e1]
    refine ⟨rfl, p17, g13.tr g17 (by show W.n ≤ W.n + 1; omega)⟩
