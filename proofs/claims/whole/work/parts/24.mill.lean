/-! the mill: LAW 0 -/
theorem zz_lse {X : zz_X} {d : Nat} {P : zz_P} {j : Nat} {ls ls' st : List zz_V} {σ : zz_M} {Post : Option zz_V → zz_M → Prop} (h : ls = ls') (k : zz_G X d P j ls' st σ Post) : zz_G X d P j ls st σ Post := h ▸ k
theorem w_mvs_le (mk : Int) (i j : Nat) : ∀ (r : Nat) (W : zz_W), W.n ≤ (w_mvs mk i j r W).n
  | 0, W => Nat.le_refl _
  | r + 1, W => by
    have h := w_mvs_le mk i j r (w_move mk i j W)
    rw [w_move_n] at h
    show W.n ≤ (w_mvs mk i j r (w_move mk i j W)).n
    omega
theorem w_move_R {mk : Int} {i j : Nat} {W : zz_W} (hij : i ≠ j) {c : Nat} {l : List Nat} (h : W.R i = c :: l) : (w_move mk i j W).R i = l ∧ (w_move mk i j W).R j = W.n :: W.R j ∧ ∀ k, k ≠ i → k ≠ j → (w_move mk i j W).R k = W.R k := by
  unfold w_move
  rw [h]
  refine ⟨?_, ?_, fun k h1 h2 => ?_⟩
  · show (zu (zu W.R j (W.n :: W.R j)) i ((zu W.R j (W.n :: W.R j)) i).tail) i = l
    rw [zu_s, zu_n _ _ hij, h]
    rfl
  · show (zu (zu W.R j (W.n :: W.R j)) i ((zu W.R j (W.n :: W.R j)) i).tail) j = _
    rw [zu_n _ _ (Ne.symm hij), zu_s]
  · show (zu (zu W.R j (W.n :: W.R j)) i ((zu W.R j (W.n :: W.R j)) i).tail) k = _
    rw [zu_n _ _ h1, zu_n _ _ h2]
theorem w_move_S (mk : Int) (i j : Nat) (W : zz_W) : (w_move mk i j W).S = W.S := by
  unfold w_move
  cases W.R i with
  | nil => rfl
  | cons c l => rfl
theorem lp_turnAtOnce {X : zz_X} {p q m s : Nat} {mk : Int} {Post : Option zz_V → zz_M → Prop} (hpb : p < 100000) (many : Nat) (hmany : many < 80000) : ∀ (r : Nat) (W : zz_W) (σ : zz_M), r ≤ many → SP σ p m s W → σ.1 406 m = mk → (W.R 1).length = r → (0 < p → (w_mvs mk 1 0 r W).n ≤ p) → (W.R 0).length + r < 85000 → (∀ k, k < 6 → k ≠ 0 → (W.R k).length < 85000) → (∀ σ', SP σ' p m s (w_mvs mk 1 0 r W) → Mc s m W.n σ σ' → zz_G X 4 p_Mill_turnAtOnce 29 [zP 4 p q m, zP 9 0 0 s, zI many, zI many] [] σ' Post) → zz_G X 4 p_Mill_turnAtOnce 18 [zP 4 p q m, zP 9 0 0 s, zI many, zI ((many - r : Nat) : Int)] [] σ Post := by
  intro r
  induction r with
  | zero =>
    intro W σ hr hSP hmk hlen hp h0 hl k
    refine zz_gsn 2 rfl ?_
    refine zz_br rfl (fun h20 => ?_) (fun h20 => absurd h20 (by omega))
    exact k σ hSP Mc.rf
  | succ r ih =>
    intro W σ hr hSP hmk hlen hp h0 hl k
    obtain ⟨c, l, hR⟩ : ∃ c l, W.R 1 = c :: l := by
      cases h : W.R 1 with
      | nil => rw [h] at hlen; cases hlen
      | cons c l => exact ⟨c, l, rfl⟩
    have hle := w_mvs_le mk 1 0 r (w_move mk 1 0 W)
    refine zz_gsn 2 rfl ?_
    refine zz_br rfl (fun h20 => absurd h20 (by omega)) (fun h20 => ?_)
    refine zz_gsn 5 rfl ?_
    refine zz_cv (n := 3) rfl rfl (t_Mill_move (i := 1) (j := 0) hSP hmk (by decide) (by decide) (by decide) (fun z => Nat.le_trans hle (hp z)) hpb (fun k hk => by rcases Nat.eq_zero_or_pos k with e | e <;> first | (subst e; omega) | (have := hl k hk (by omega); omega))) (Nat.le_of_ble_eq_true rfl) (Nat.le_of_ble_eq_true rfl) (Nat.le_of_ble_eq_true rfl) (fun r26 σ26 q26 => ?_)
    obtain ⟨rfl, p26, g26⟩ := q26
    refine zz_gsn 1 rfl ?_
    refine zz_jp rfl ?_
    have ew : zw (((many - (r + 1) : Nat) : Int) + 1) = ((many - r : Nat) : Int) := by rw [zw_id (by omega) (by omega)]; omega
    rw [ew]
    obtain ⟨b1, b2, b3⟩ := w_move_R (mk := mk) (i := 1) (j := 0) (by decide) hR
    have hl1 : l.length = r := by rw [hR] at hlen; simpa using hlen
    refine ih (w_move mk 1 0 W) _ (by omega) p26 (by rw [g26.m (by omega)]; exact hmk) (by rw [b1]; exact hl1) hp (by rw [b2, List.length_cons]; omega) (fun k hk hk0 => ?_) (fun σ' hS' hM' => ?_)
    · by_cases e : k = 1
      · subst e
        rw [b1]
        have := hl 1 hk hk0
        rw [hR, List.length_cons] at this
        omega
      · rw [b3 k e hk0]
        exact hl k hk hk0
    · exact k σ' hS' (g26.tr hM' (by rw [w_move_n]; omega))
theorem t_Mill_turnAtOnce {X : zz_X} {σ : zz_M} {p q m s : Nat} {W : zz_W} {mk : Int} (hSP : SP σ p m s W) (hmk : σ.1 406 m = mk) (h401 : σ.1 401 m = 0) (h407 : 0 ≤ σ.1 407 m ∧ σ.1 407 m < 1000000) (hp : 0 < p → (w_all mk W).n ≤ p) (hpb : p < 100000) (hl : ∀ k, k < 6 → (W.R k).length < 40000) : zz_T X 4 p_Mill_turnAtOnce [zP 4 p q m, zP 9 0 0 s] σ (fun r σ' => r = none ∧ SP σ' p m s (w_all mk W) ∧ Mg s m W.n σ σ' ∧ σ'.1 401 m = w_allB W ∧ σ'.1 402 m = σ.1 402 m ∧ σ'.1 406 m = mk ∧ σ'.1 407 m = σ.1 407 m + w_allS W) := by
  refine zz_mk k_Mill_turnAtOnce o_Mill_turnAtOnce rfl rfl (Nat.le_of_ble_eq_true rfl) ?_
  show zz_G X 4 p_Mill_turnAtOnce 0 [zP 4 p q m, zP 9 0 0 s, zU, zU] [] σ _
  have e0 : σ.1 701 (s + 1) = w_len 0 W := (hSP.1 0 (by decide)).1
  have e1 : σ.1 701 (s + 2) = w_len 1 W := (hSP.1 1 (by decide)).1
  have hn0 : 0 ≤ w_len 0 W := Int.natCast_nonneg _
  have hn1 : 0 ≤ w_len 1 W := Int.natCast_nonneg _
  have hb0 : (W.R 1).length < 40000 := hl 1 (by decide)
  have hb1 : w_len 1 W < 40000 := by unfold w_len; omega
  have hz0 := w_len_0 (k := 0) (W := W)
  have hz1 := w_len_0 (k := 1) (W := W)
  refine zz_gsn 3 rfl ?_
  refine zz_br rfl (fun h3 => ?_) (fun h3 => ?_)
  · refine zz_gsn 6 rfl ?_
    refine zz_br rfl (fun h11 => ?_) (fun h11 => ?_)
    · refine zz_gsn 1 rfl ?_
      refine zz_ptz rfl (by first | exact Or.inl rfl | exact Or.inr rfl | omega) ?_
      refine zz_gsn 2 rfl ?_
      have hR0 : W.R 0 = [] := hz0.mp (by omega)
      have hall : w_all mk W = w_mvs mk 1 0 (W.R 1).length W := if_pos hR0
      have hS2 : SP (zz_sf σ 401 m 0) p m s W := hSP.mf (by omega)
      rw [hall] at hp ⊢
      refine zz_lse (ls' := [zP 4 p q m, zP 9 0 0 s, zI ((W.R 1).length : Nat), zI (((W.R 1).length - (W.R 1).length : Nat) : Int)]) (by show [zP 4 p q m, zP 9 0 0 s, zI (σ.1 701 (s + 2)), zI 0] = _; rw [e1, Nat.sub_self]; rfl) ?_
      refine lp_turnAtOnce hpb (W.R 1).length (by have := hl 1 (by decide); omega) (W.R 1).length W _ (Nat.le_refl _) hS2 (by rw [sf_f _ _ (by omega)]; exact hmk) rfl hp (by rw [hR0]; have := hl 1 (by decide); show 0 + _ < _; omega) (fun k hk _ => by have := hl k hk; omega) (fun σ' hS' hM' => ?_)
      have q407 : σ'.1 407 m = σ.1 407 m := by rw [hM'.m (by omega), sf_f _ _ (by omega)]
      have q401 : σ'.1 401 m = 0 := by rw [hM'.m (by omega), sf_h]
      have q402 : σ'.1 402 m = σ.1 402 m := by rw [hM'.m (by omega), sf_f _ _ (by omega)]
      have q406 : σ'.1 406 m = σ.1 406 m := by rw [hM'.m (by omega), sf_f _ _ (by omega)]
      have hM2 : Mg s m W.n σ σ' := (Mg.sf (Or.inr (Or.inr (Or.inr ⟨rfl, Or.inl rfl⟩)))).tr hM'.g (Nat.le_refl _)
      have eS : w_allS W = w_len 1 W := if_pos hR0
      have eB : w_allB W = 0 := by unfold w_allB; rw [if_neg (fun z => z.2 (hz1.mp (by omega)))]
      refine zz_gsn 6 rfl ?_
      refine zz_rv rfl rfl ?_
      refine ⟨rfl, hS'.mf (by omega), hM2.tr (Mg.sf (Or.inr (Or.inr (Or.inr ⟨rfl, Or.inr (Or.inr (Or.inr rfl))⟩)))) (Nat.le_refl _), ?_, ?_, ?_, ?_⟩
      · rw [sf_f _ _ (by omega), q401, eB]
      · rw [sf_f _ _ (by omega), q402]
      · rw [sf_f _ _ (by omega), q406, hmk]
      · rw [sf_h, q407, eS, zw_id (by omega) (by omega)]
    · refine zz_gsn 1 rfl ?_
      refine zz_jp rfl ?_
      refine zz_ptz rfl (by first | exact Or.inl rfl | exact Or.inr rfl | omega) ?_
      refine zz_gsn 2 rfl ?_
      have hR0 : W.R 0 = [] := hz0.mp (by omega)
      have hall : w_all mk W = w_mvs mk 1 0 (W.R 1).length W := if_pos hR0
      have hS2 : SP (zz_sf σ 401 m 1) p m s W := hSP.mf (by omega)
      rw [hall] at hp ⊢
      refine zz_lse (ls' := [zP 4 p q m, zP 9 0 0 s, zI ((W.R 1).length : Nat), zI (((W.R 1).length - (W.R 1).length : Nat) : Int)]) (by show [zP 4 p q m, zP 9 0 0 s, zI (σ.1 701 (s + 2)), zI 0] = _; rw [e1, Nat.sub_self]; rfl) ?_
      refine lp_turnAtOnce hpb (W.R 1).length (by have := hl 1 (by decide); omega) (W.R 1).length W _ (Nat.le_refl _) hS2 (by rw [sf_f _ _ (by omega)]; exact hmk) rfl hp (by rw [hR0]; have := hl 1 (by decide); show 0 + _ < _; omega) (fun k hk _ => by have := hl k hk; omega) (fun σ' hS' hM' => ?_)
      have q407 : σ'.1 407 m = σ.1 407 m := by rw [hM'.m (by omega), sf_f _ _ (by omega)]
      have q401 : σ'.1 401 m = 1 := by rw [hM'.m (by omega), sf_h]
      have q402 : σ'.1 402 m = σ.1 402 m := by rw [hM'.m (by omega), sf_f _ _ (by omega)]
      have q406 : σ'.1 406 m = σ.1 406 m := by rw [hM'.m (by omega), sf_f _ _ (by omega)]
      have hM2 : Mg s m W.n σ σ' := (Mg.sf (Or.inr (Or.inr (Or.inr ⟨rfl, Or.inl rfl⟩)))).tr hM'.g (Nat.le_refl _)
      have eS : w_allS W = w_len 1 W := if_pos hR0
      have eB : w_allB W = 1 := by unfold w_allB; rw [if_pos ⟨hR0, fun z => by have := hz1.mpr z; omega⟩]
      refine zz_gsn 6 rfl ?_
      refine zz_rv rfl rfl ?_
      refine ⟨rfl, hS'.mf (by omega), hM2.tr (Mg.sf (Or.inr (Or.inr (Or.inr ⟨rfl, Or.inr (Or.inr (Or.inr rfl))⟩)))) (Nat.le_refl _), ?_, ?_, ?_, ?_⟩
      · rw [sf_f _ _ (by omega), q401, eB]
      · rw [sf_f _ _ (by omega), q402]
      · rw [sf_f _ _ (by omega), q406, hmk]
      · rw [sf_h, q407, eS, zw_id (by omega) (by omega)]
  · refine zz_rv rfl rfl ?_
    have hR0 : W.R 0 ≠ [] := fun z => by have := hz0.mpr z; omega
    have hall : w_all mk W = W := if_neg hR0
    have eS : w_allS W = 0 := if_neg hR0
    have eB : w_allB W = 0 := if_neg (fun z => hR0 z.1)
    rw [hall, eS, eB]
    exact ⟨rfl, hSP, Mg.rf, h401, rfl, hmk, by omega⟩
