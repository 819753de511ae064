/-! bytes as lists: words, numbers, alike -/
/-- bytes as a list -/
def BL (σ : zz_M) (a : Nat) (l : List Int) : Prop := σ.1 0 a = (l.length : Nat) ∧ ∀ i, i < l.length → σ.2 (a + 1) i = l.getD i 0
theorem BL.f {A : Nat → Prop} {σ σ' : zz_M} {a : Nat} {l : List Int} (h : BL σ a l) (hF : zz_F A σ σ') (h0 : ¬ A a) (h1 : ¬ A (a + 1)) : BL σ' a l := ⟨((hF a h0).1 0).trans h.1, fun i hi => ((hF (a + 1) h1).2 i).trans (h.2 i hi)⟩
theorem zl_gL {l r : List Int} {i : Nat} (h : i < l.length) : (l ++ r).getD i 0 = l.getD i 0 := by
  rw [List.getD_eq_getElem?_getD, List.getD_eq_getElem?_getD, List.getElem?_append_left h]
theorem zl_gR {l : List Int} {x : Int} : (l ++ [x]).getD l.length 0 = x := by
  rw [List.getD_eq_getElem?_getD, List.getElem?_append_right (Nat.le_refl _), Nat.sub_self]
  rfl
theorem bl_add {σ σ' : zz_M} {p a : Nat} {v : Int} {l : List Int} (h : BL σ a l) (hp : l.length < p) (hb : p < 100000) (e : (0 ≤ σ.1 0 a ∧ σ.1 0 a < p ∧ σ' = zz_sf (zz_sa σ (a + 1) (σ.1 0 a).toNat (zz_i2b (zz_i2b v))) 0 a (zw (σ.1 0 a + 1))) ∨ (¬ (0 ≤ σ.1 0 a ∧ σ.1 0 a < p) ∧ σ' = σ)) : BL σ' a (l ++ [zz_i2b v]) ∧ zz_F (zz_A2 a) σ σ' := by
  obtain ⟨h1, h2⟩ := h
  rcases e with ⟨-, -, e⟩ | ⟨e, -⟩
  · subst e
    refine ⟨⟨?_, fun i hi => ?_⟩, (zz_F.sa (Or.inr rfl)).tr (zz_F.sf (Or.inl rfl))⟩
    · rw [sf_h, h1, zw_id (by omega) (by omega), List.length_append]
      show _ = ((l.length + 1 : Nat) : Int)
      omega
    · rw [List.length_append] at hi
      have hi2 : i < l.length + 1 := hi
      show (zz_sa σ (a + 1) (σ.1 0 a).toNat (zz_i2b (zz_i2b v))).2 (a + 1) i = (l ++ [zz_i2b v]).getD i 0
      rw [h1, Int.toNat_natCast, zz_i2b_i]
      by_cases z : i = l.length
      · rw [z, sa_h, zl_gR]
      · rw [sa_i _ _ z, zl_gL (by omega)]
        exact h2 i (by omega)
  · exact absurd ⟨by omega, by omega⟩ e
def zt_f (w : Int) : List Int := [zz_i2b (zz_ushr w 24), zz_i2b (zz_ushr w 16), zz_i2b (zz_ushr w 8), zz_i2b w]
theorem zl_i2b {x : Int} (h : -128 ≤ x ∧ x < 128) : zz_i2b x = x := by
  rw [zz_i2b_m]
  exact Int.bmod_eq_of_le (by omega) (by omega)
def zt_w (k : Nat) : List Int := (zz_tx k).map (fun c => zz_i2b (c : Nat))
theorem zt_w_len (k : Nat) : (zt_w k).length = (zz_tx k).length := List.length_map _
def zt_n (n : Nat) : List Int := if 10 ≤ n then [((48 + n / 10 % 10 : Nat) : Int), ((48 + n % 10 : Nat) : Int)] else [((48 + n % 10 : Nat) : Int)]
theorem zt_n_len (n : Nat) : (zt_n n).length ≤ 2 := by
  unfold zt_n
  split
  · exact Nat.le_refl _
  · exact Nat.le_succ _
theorem t_Bytes_addFour2 {X : zz_X} {σ : zz_M} {p a : Nat} {w : Int} {l : List Int} (hq : BL σ a l) (hp : l.length + 4 ≤ p) (hb : p < 100000) : zz_T X 2 p_Bytes_addFour [zP 0 p 0 a, zI w] σ (fun r σ' => r = none ∧ BL σ' a (l ++ zt_f w) ∧ zz_F (zz_A2 a) σ σ') := by
  refine zz_mk k_Bytes_addFour o_Bytes_addFour rfl rfl (Nat.le_of_ble_eq_true rfl) ?_
  show zz_G X 2 p_Bytes_addFour 0 [zP 0 p 0 a, zI w] [] σ _
  refine zz_gsn 4 rfl ?_
  refine zz_cv (n := 2) rfl rfl (t_Bytes_add) (Nat.le_of_ble_eq_true rfl) (Nat.le_of_ble_eq_true rfl) (Nat.le_of_ble_eq_true rfl) (fun r4 σ4 q4 => ?_)
  obtain ⟨rfl, q4⟩ := q4
  obtain ⟨p4, g4⟩ := bl_add hq (by first | omega | (simp only [List.length_append, List.length_cons, List.length_nil]; omega)) hb q4
  clear q4
  refine zz_gsn 4 rfl ?_
  refine zz_cv (n := 2) rfl rfl (t_Bytes_add) (Nat.le_of_ble_eq_true rfl) (Nat.le_of_ble_eq_true rfl) (Nat.le_of_ble_eq_true rfl) (fun r9 σ9 q9 => ?_)
  obtain ⟨rfl, q9⟩ := q9
  obtain ⟨p9, g9⟩ := bl_add p4 (by first | omega | (simp only [List.length_append, List.length_cons, List.length_nil]; omega)) hb q9
  clear q9
  refine zz_gsn 4 rfl ?_
  refine zz_cv (n := 2) rfl rfl (t_Bytes_add) (Nat.le_of_ble_eq_true rfl) (Nat.le_of_ble_eq_true rfl) (Nat.le_of_ble_eq_true rfl) (fun r14 σ14 q14 => ?_)
  obtain ⟨rfl, q14⟩ := q14
  obtain ⟨p14, g14⟩ := bl_add p9 (by first | omega | (simp only [List.length_append, List.length_cons, List.length_nil]; omega)) hb q14
  clear q14
  refine zz_gsn 2 rfl ?_
  refine zz_cv (n := 2) rfl rfl (t_Bytes_add) (Nat.le_of_ble_eq_true rfl) (Nat.le_of_ble_eq_true rfl) (Nat.le_of_ble_eq_true rfl) (fun r17 σ17 q17 => ?_)
  obtain ⟨rfl, q17⟩ := q17
  obtain ⟨p17, g17⟩ := bl_add p14 (by first | omega | (simp only [List.length_append, List.length_cons, List.length_nil]; omega)) hb q17
  clear q17
  refine zz_rv rfl rfl ?_
  refine ⟨rfl, ?_, ((g4.tr g9).tr g14).tr g17⟩
  have e : l ++ zt_f w = l ++ [zz_i2b (zz_ushr w 24)] ++ [zz_i2b (zz_ushr w 16)] ++ [zz_i2b (zz_ushr w 8)] ++ [zz_i2b w] := by
    rw [List.append_assoc, List.append_assoc, List.append_assoc]; rfl
  rw [e]
  exact p17
theorem zt_w_g {k i : Nat} (h : i < (zz_tx k).length) : (zt_w k).take (i + 1) = (zt_w k).take i ++ [zz_i2b (((zz_tx k).getD i 0 : Nat) : Int)] := by
  rw [List.take_succ]
  congr 1
  unfold zt_w
  rw [List.getElem?_map, List.getElem?_eq_getElem h, List.getD_eq_getElem?_getD, List.getElem?_eq_getElem h]
  rfl
theorem lp_addWord {X : zz_X} {p a k : Nat} {l0 : List Int} {σ0 : zz_M} {Post : Option zz_V → zz_M → Prop} (hb : p < 100000) (hp : l0.length + (zz_tx k).length ≤ p) (kk : ∀ σ', BL σ' a (l0 ++ zt_w k) → zz_F (zz_A2 a) σ0 σ' → Post none σ') :
    ∀ (r i : Nat) (σ : zz_M), i + r = (zz_tx k).length → BL σ a (l0 ++ (zt_w k).take i) → zz_F (zz_A2 a) σ0 σ → zz_G X 5 p_Bytes_addWord 2 [zP 0 p 0 a, zO (k + 2), zI (i : Nat)] [] σ Post := by
  intro r
  induction r with
  | zero =>
    intro i σ hi h hF
    have e : (zt_w k).take i = zt_w k := List.take_of_length_le (by rw [zt_w_len]; omega)
    rw [e] at h
    refine zz_gsn 2 rfl ?_
    refine zz_cst rfl (Nat.le_of_ble_eq_true rfl) (Nat.le_of_ble_eq_true rfl) ?_
    refine zz_br rfl (fun h5 => ?_) (fun h5 => absurd h5 (by omega))
    refine zz_rv rfl rfl ?_
    exact kk σ h hF
  | succ r ih =>
    intro i σ hi h hF
    have ei : zw ((i : Int) + 1) = ((i + 1 : Nat) : Int) := by rw [zw_id (by omega) (by omega)]; omega
    have hl : (l0 ++ (zt_w k).take i).length < p := by rw [List.length_append, List.length_take, zt_w_len]; omega
    refine zz_gsn 2 rfl ?_
    refine zz_cst rfl (Nat.le_of_ble_eq_true rfl) (Nat.le_of_ble_eq_true rfl) ?_
    refine zz_br rfl (fun h5 => absurd h5 (by omega)) (fun h5 => ?_)
    refine zz_gsn 3 rfl ?_
    refine zz_csc rfl (Nat.le_of_ble_eq_true rfl) (Nat.le_of_ble_eq_true rfl) (by omega) ?_
    refine zz_cv (n := 2) rfl rfl (t_Bytes_add) (Nat.le_of_ble_eq_true rfl) (Nat.le_of_ble_eq_true rfl) (Nat.le_of_ble_eq_true rfl) (fun r10 σ10 q10 => ?_)
    obtain ⟨rfl, q10⟩ := q10
    obtain ⟨p10, g10⟩ := bl_add h hl hb q10
    clear q10
    rw [Int.toNat_natCast, List.append_assoc, ← zt_w_g (by omega)] at p10
    refine zz_gsn 1 rfl ?_
    refine zz_jp rfl ?_
    rw [ei]
    exact ih (i + 1) _ (by omega) p10 (hF.tr g10)
theorem t_Bytes_addWord {X : zz_X} {σ : zz_M} {p a k : Nat} {l : List Int} (hq : BL σ a l) (hp : l.length + (zz_tx k).length ≤ p) (hb : p < 100000) : zz_T X 5 p_Bytes_addWord [zP 0 p 0 a, zO (k + 2)] σ (fun r σ' => r = none ∧ BL σ' a (l ++ zt_w k) ∧ zz_F (zz_A2 a) σ σ') := by
  refine zz_mk k_Bytes_addWord o_Bytes_addWord rfl rfl (Nat.le_of_ble_eq_true rfl) ?_
  show zz_G X 5 p_Bytes_addWord 0 [zP 0 p 0 a, zO (k + 2), zU] [] σ _
  refine zz_gsn 2 rfl ?_
  exact lp_addWord hb hp (fun σ' h1 h2 => ⟨rfl, h1, h2⟩) (zz_tx k).length 0 σ (Nat.zero_add _) (by rw [List.take_zero, List.append_nil]; exact hq) zz_F.rf
theorem zw_dig {n d : Nat} (h : n < 1000000) (hd : d < 10) : zw (48 + (d : Int)) = ((48 + d : Nat) : Int) := by
  rw [zw_id (by omega) (by omega)]; omega
theorem zl_dig {d : Nat} (hd : d < 10) : zz_i2b ((48 + d : Nat) : Int) = ((48 + d : Nat) : Int) := zl_i2b ⟨by omega, by omega⟩
theorem t_Bytes_addNumber {X : zz_X} {σ : zz_M} {p a n : Nat} {l : List Int} (hq : BL σ a l) (hn : n < 1000000) (hp : l.length + 2 ≤ p) (hb : p < 100000) : zz_T X 2 p_Bytes_addNumber [zP 0 p 0 a, zI (n : Nat)] σ (fun r σ' => r = none ∧ BL σ' a (l ++ zt_n n) ∧ zz_F (zz_A2 a) σ σ') := by
  refine zz_mk k_Bytes_addNumber o_Bytes_addNumber rfl rfl (Nat.le_of_ble_eq_true rfl) ?_
  show zz_G X 2 p_Bytes_addNumber 0 [zP 0 p 0 a, zI (n : Nat)] [] σ _
  have v1 : zz_div (n : Int) 10 = ((n / 10 : Nat) : Int) := zz_div_n (d := 10) (by omega) (by omega) (by omega)
  have v2 : zz_rem ((n / 10 : Nat) : Int) 10 = ((n / 10 % 10 : Nat) : Int) := zz_rem_n (d := 10) (by omega) (by omega) (by omega)
  have v3 : zz_rem (n : Int) 10 = ((n % 10 : Nat) : Int) := zz_rem_n (d := 10) (by omega) (by omega) (by omega)
  have w1 := zw_dig (n := n) (d := n / 10 % 10) hn (by omega)
  have w2 := zw_dig (n := n) (d := n % 10) hn (by omega)
  have b1 := zl_dig (d := n / 10 % 10) (by omega)
  have b2 := zl_dig (d := n % 10) (by omega)
  refine zz_gsn 2 rfl ?_
  refine zz_br rfl (fun h2 => ?_) (fun h2 => ?_)
  · refine zz_gsn 4 rfl ?_
    refine zz_dv rfl (by decide) ?_
    refine zz_gsn 1 rfl ?_
    refine zz_cv (n := 2) rfl rfl (t_Bytes_add) (Nat.le_of_ble_eq_true rfl) (Nat.le_of_ble_eq_true rfl) (Nat.le_of_ble_eq_true rfl) (fun r18 σ18 q18 => ?_)
    obtain ⟨rfl, q18⟩ := q18
    rw [v3, w2] at q18
    obtain ⟨p18, g18⟩ := bl_add hq (by omega) hb q18
    clear q18
    rw [b2] at p18
    refine zz_rv rfl rfl ?_
    have e : zt_n n = [((48 + n % 10 : Nat) : Int)] := if_neg (by omega)
    rw [e]
    exact ⟨rfl, p18, g18⟩
  · refine zz_gsn 4 rfl ?_
    refine zz_dv rfl (by decide) ?_
    refine zz_gsn 1 rfl ?_
    refine zz_dv rfl (by decide) ?_
    refine zz_gsn 1 rfl ?_
    refine zz_cv (n := 2) rfl rfl (t_Bytes_add) (Nat.le_of_ble_eq_true rfl) (Nat.le_of_ble_eq_true rfl) (Nat.le_of_ble_eq_true rfl) (fun r11 σ11 q11 => ?_)
    obtain ⟨rfl, q11⟩ := q11
    rw [v1, v2, w1] at q11
    obtain ⟨p11, g11⟩ := bl_add hq (by omega) hb q11
    clear q11
    rw [b1] at p11
    refine zz_gsn 4 rfl ?_
    refine zz_dv rfl (by decide) ?_
    refine zz_gsn 1 rfl ?_
    refine zz_cv (n := 2) rfl rfl (t_Bytes_add) (Nat.le_of_ble_eq_true rfl) (Nat.le_of_ble_eq_true rfl) (Nat.le_of_ble_eq_true rfl) (fun r18 σ18 q18 => ?_)
    obtain ⟨rfl, q18⟩ := q18
    rw [v3, w2] at q18
    obtain ⟨p18, g18⟩ := bl_add p11 (by rw [List.length_append]; show l.length + 1 < p; omega) hb q18
    clear q18
    rw [b2] at p18
    refine zz_rv rfl rfl ?_
    have e : zt_n n = [((48 + n / 10 % 10 : Nat) : Int), ((48 + n % 10 : Nat) : Int)] := if_pos (by omega)
    rw [e]
    exact ⟨rfl, by rw [List.append_assoc] at p18; exact p18, g11.tr g18⟩
/-- what a byte shows as -/
def zl_b (l : List Int) (i : Int) : Int := if 0 ≤ i ∧ i < (l.length : Nat) then zz_and (l.getD i.toNat 0) 255 else -1
theorem bl_at {σ : zz_M} {p a : Nat} {v n : Int} {l : List Int} (h : BL σ a l) (hp : l.length ≤ p) (e : (0 ≤ v ∧ v < σ.1 0 a ∧ v < p ∧ n = zz_and (σ.2 (a + 1) v.toNat) 255) ∨ (¬ (0 ≤ v ∧ v < σ.1 0 a ∧ v < p) ∧ n = -1)) : n = zl_b l v := by
  have h1 := h.1
  unfold zl_b
  rcases e with ⟨e1, e2, e3, e4⟩ | ⟨e1, e2⟩
  · rw [if_pos ⟨e1, by omega⟩, e4, h.2 v.toNat (by omega)]
  · rw [if_neg (fun z => e1 ⟨z.1, by omega, by omega⟩), e2]
theorem zl_b_s {l : List Int} {i : Nat} (h : i < l.length) : zl_b l (i : Nat) = zz_and (l.getD i 0) 255 := by
  unfold zl_b
  rw [if_pos ⟨by omega, by omega⟩, Int.toNat_natCast]
/-- the same bytes, as they show -/
def zl_eq (l l' : List Int) : Prop := l.length = l'.length ∧ ∀ i, i < l.length → zl_b l (i : Nat) = zl_b l' (i : Nat)
theorem lp_beq {X : zz_X} {p p' a b : Nat} {q q' : List Int} {σ : zz_M} {Post : Option zz_V → zz_M → Prop} (hq : BL σ a q) (hq' : BL σ b q') (hp : q.length ≤ p) (hp' : q'.length ≤ p') (hb : p < 100000) (hn : q.length = q'.length) (k1 : zl_eq q q' → Post (some (zI 1)) σ) (k0 : ¬ zl_eq q q' → Post (some (zI 0)) σ) :
    ∀ (r i : Nat), i + r = q.length → (∀ j : Nat, j < i → zl_b q (j : Nat) = zl_b q' (j : Nat)) → zz_G X 2 p_Bytes_equalTo 11 [zP 0 p 0 a, zP 0 p' 0 b, zI 1, zI (i : Nat)] [] σ Post := by
  have hq1 := hq.1
  intro r
  induction r with
  | zero =>
    intro i hi h
    have he : zl_eq q q' := ⟨hn, fun j hj => h j (by omega)⟩
    refine zz_gsn 1 rfl ?_
    refine zz_br rfl (fun h12 => absurd h12 (by decide)) (fun h12 => ?_)
    refine zz_gsn 3 rfl ?_
    refine zz_br rfl (fun h16 => ?_) (fun h16 => absurd h16 (by omega))
    refine zz_gsn 1 rfl ?_
    refine zz_ri rfl (Or.inr ⟨rfl, by first | exact Or.inl rfl | exact Or.inr rfl | omega⟩) ?_
    exact k1 he
  | succ r ih =>
    intro i hi h
    have ei : zw ((i : Int) + 1) = ((i + 1 : Nat) : Int) := by rw [zw_id (by omega) (by omega)]; omega
    refine zz_gsn 1 rfl ?_
    refine zz_br rfl (fun h12 => absurd h12 (by decide)) (fun h12 => ?_)
    refine zz_gsn 3 rfl ?_
    refine zz_br rfl (fun h16 => absurd h16 (by omega)) (fun h16 => ?_)
    refine zz_gsn 2 rfl ?_
    refine zz_cv (n := 2) rfl rfl (t_Bytes_byteAt) (Nat.le_of_ble_eq_true rfl) (Nat.le_of_ble_eq_true rfl) (Nat.le_of_ble_eq_true rfl) (fun r19 σ19 q19 => ?_)
    obtain ⟨rfl, n19, rfl, e19⟩ := q19
    have v19 := bl_at hq hp e19
    clear e19
    refine zz_gsn 2 rfl ?_
    refine zz_cv (n := 2) rfl rfl (t_Bytes_byteAt) (Nat.le_of_ble_eq_true rfl) (Nat.le_of_ble_eq_true rfl) (Nat.le_of_ble_eq_true rfl) (fun r22 σ22 q22 => ?_)
    obtain ⟨rfl, n22, rfl, e22⟩ := q22
    have v22 := bl_at hq' hp' e22
    clear e22
    refine zz_br rfl (fun h23 => ?_) (fun h23 => ?_)
    · refine zz_gsn 3 rfl ?_
      refine zz_jp rfl ?_
      have hne : ¬ zl_eq q q' := fun z => h23 (by rw [v19, v22]; exact z.2 i (by omega))
      refine zz_gsn 1 rfl ?_
      refine zz_br rfl (fun h12 => ?_) (fun h12 => absurd rfl h12)
      refine zz_gsn 1 rfl ?_
      refine zz_ri rfl (Or.inr ⟨rfl, by first | exact Or.inl rfl | exact Or.inr rfl | omega⟩) ?_
      exact k0 hne
    · refine zz_gsn 1 rfl ?_
      refine zz_jp rfl ?_
      refine zz_gsn 2 rfl ?_
      refine zz_jp rfl ?_
      rw [ei]
      exact ih (i + 1) (by omega) (fun j hj => by
        by_cases z : j = i
        · subst z
          rw [← v19, ← v22]
          exact h23
        · exact h j (by omega))
theorem t_Bytes_equalTo {X : zz_X} {σ : zz_M} {p p' a b : Nat} {q q' : List Int} (hq : BL σ a q) (hq' : BL σ b q') (hp : q.length ≤ p) (hp' : q'.length ≤ p') (hb : p < 100000) : zz_T X 2 p_Bytes_equalTo [zP 0 p 0 a, zP 0 p' 0 b] σ (fun r σ' => σ = σ' ∧ ∃ n : Int, r = some (zI n) ∧ ((n = 1 ∧ zl_eq q q') ∨ (n = 0 ∧ ¬ zl_eq q q'))) := by
  refine zz_mk k_Bytes_equalTo o_Bytes_equalTo rfl rfl (Nat.le_of_ble_eq_true rfl) ?_
  show zz_G X 2 p_Bytes_equalTo 0 [zP 0 p 0 a, zP 0 p' 0 b, zU, zU] [] σ _
  have hq1 := hq.1
  have hq2 := hq'.1
  refine zz_gsn 4 rfl ?_
  refine zz_br rfl (fun h4 => ?_) (fun h4 => ?_)
  · refine zz_gsn 4 rfl ?_
    have hne : ¬ zl_eq q q' := fun z => h4 (by rw [hq1, hq2, z.1])
    refine zz_gsn 1 rfl ?_
    refine zz_br rfl (fun h12 => ?_) (fun h12 => absurd rfl h12)
    refine zz_gsn 1 rfl ?_
    refine zz_ri rfl (Or.inr ⟨rfl, by first | exact Or.inl rfl | exact Or.inr rfl | omega⟩) ?_
    exact ⟨rfl, _, rfl, Or.inr ⟨rfl, hne⟩⟩
  · refine zz_gsn 1 rfl ?_
    refine zz_jp rfl ?_
    refine zz_gsn 3 rfl ?_
    exact lp_beq hq hq' hp hp' hb (by omega) (fun h => ⟨rfl, _, rfl, Or.inl ⟨rfl, h⟩⟩) (fun h => ⟨rfl, _, rfl, Or.inr ⟨rfl, h⟩⟩) q.length 0 (Nat.zero_add _) (fun j hj => absurd hj (Nat.not_lt_zero j))
