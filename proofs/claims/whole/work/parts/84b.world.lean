/-! the class: rows, counts told -/
theorem lp_wrow {X : zz_X} {h a p r n : Nat} {u2 : zz_V} {num : Nat → Int} {lf : List Int} {σ0 : zz_M} {Post : Option zz_V → zz_M → Prop} (hp : p < 100000) (hlf : lf.length + 2 ≤ p) (hn : n < 100000) (hr : σ0.1 701 r = (n : Nat)) (hra : r ≠ a ∧ r ≠ a + 1) (ha : a + 1 < h + 7 ∨ h + 8 < a) (kk : ∀ σ' : zz_M, BL σ' a lf → zz_F (zz_A2 a) σ0 σ' → Post none σ') :
    ∀ (R : List Nat) (i : Nat) (cell : Int) (l : List Int) (σ : zz_M), i + R.length = n → zz_ch (σ0.2 (h + 8)) cell R → (∀ c ∈ R, c < 1890 ∧ σ0.2 (h + 7) c = num c ∧ 0 ≤ num c ∧ num c ≤ 99) → l ++ g_cs num R = lf → BL σ a l → zz_F (zz_A2 a) σ0 σ → zz_G X 6 p_History_writeRow 8 [zP 3 0 0 h, zP 0 p 0 a, u2, zP 7 0 0 r, zI cell, zI (i : Nat)] [] σ Post := by
  intro R
  induction R with
  | nil =>
    intro i cell l σ hi hch hR hl hB hF
    have e : l = lf := by
      rw [← hl]
      exact (List.append_nil l).symm
    rw [e] at hB
    have i2 : i = n := hi
    have e7 : σ.1 701 r = (n : Nat) := ((hF r (fun z => z.elim hra.1 hra.2)).1 701).trans hr
    refine zz_gsn 3 rfl ?_
    rw [e7]
    refine zz_br rfl (fun h11 => ?_) (fun h11 => absurd h11 (by omega))
    refine zz_rv rfl rfl ?_
    exact kk σ hB hF
  | cons c R ih =>
    intro i cell l σ hi hch hR hl hB hF
    obtain ⟨c1, c2⟩ := hch
    obtain ⟨k1, k2, k3, k4⟩ := hR c List.mem_cons_self
    have hi2 : i + (R.length + 1) = n := hi
    have e7 : σ.1 701 r = (n : Nat) := ((hF r (fun z => z.elim hra.1 hra.2)).1 701).trans hr
    have i1 : i < 2147483647 := by omega
    have i11 : ¬ ((i : Nat) : Int) ≥ (n : Nat) := by omega
    have i9 : i + 1 + R.length = n := by omega
    have hl2 : l ++ [32] ++ zt_n (num c).toNat ++ g_cs num R = lf := by
      rw [← hl]
      show _ = l ++ (32 :: (zt_n (num c).toNat ++ g_cs num R))
      rw [List.append_assoc, List.append_assoc]
      rfl
    have hlen : l.length + 1 + (zt_n (num c).toNat).length + 2 ≤ p := by
      have z := congrArg List.length hl2
      rw [List.length_append, List.length_append, List.length_append] at z
      have z2 : [(32 : Int)].length = 1 := rfl
      omega
    have a1 : l.length < p := by omega
    have nd : (num c).toNat < 1000000 := by omega
    have ec : ((num c).toNat : Int) = num c := Int.toNat_of_nonneg k3
    have h7 : ∀ σ' : zz_M, zz_F (zz_A2 a) σ0 σ' → σ'.2 (h + 7) c = ((num c).toNat : Nat) ∧ σ'.2 (h + 8) c = σ0.2 (h + 8) c := fun σ' F => ⟨((F (h + 7) (fun z => by rcases z with z | z <;> omega)).2 c).trans (k2.trans ec.symm), (F (h + 8) (fun z => by rcases z with z | z <;> omega)).2 c⟩
    have hob : ∀ n : Int, ∀ f : Int, (0 ≤ cell ∧ cell < ((1890 : Nat) : Int) ∧ n = f) ∨ (¬ (0 ≤ cell ∧ cell < ((1890 : Nat) : Int)) ∧ n = -1) → n = f := fun n f z => z.elim (fun z => z.2.2) (fun z => absurd ⟨by omega, by omega⟩ z.1)
    have hcl : cell.toNat = c := by omega
    have n32 : zz_i2b 32 = 32 := zl_i2b ⟨by decide, by decide⟩
    have hlen2 : l.length + [(32 : Int)].length + 2 ≤ p := by
      show l.length + 1 + 2 ≤ p
      omega
    have zs : zw ((i : Int) + 1) = ((i + 1 : Nat) : Int) := zw_s i1
    clear hl k2 k4
    refine zz_gsn 3 rfl ?_
    rw [e7]
    refine zz_br rfl (fun h11 => absurd h11 i11) (fun h11 => ?_)
    refine zz_gsn 2 rfl ?_
    refine zz_cv (n := 2) rfl rfl (t_Bytes_add) (Nat.le_of_ble_eq_true rfl) (Nat.le_of_ble_eq_true rfl) (Nat.le_of_ble_eq_true rfl) (fun r14 σ14 q14 => ?_)
    obtain ⟨rfl, q14⟩ := q14
    obtain ⟨p14, g14⟩ := bl_add hB a1 hp q14
    clear q14
    rw [n32] at p14
    have F14 := hF.tr g14
    refine zz_gsn 4 rfl ?_
    refine zz_cv (n := 2) rfl rfl (t_Cells_numberOf) (Nat.le_of_ble_eq_true rfl) (Nat.le_of_ble_eq_true rfl) (Nat.le_of_ble_eq_true rfl) (fun r19 σ19 q19 => ?_)
    obtain ⟨rfl, n19, rfl, e19⟩ := q19
    replace e19 := hob _ _ e19
    rw [hcl] at e19
    replace e19 := e19.trans (h7 σ14 F14).1
    rw [e19]
    refine zz_cv (n := 2) rfl rfl (t_Bytes_addNumber (n := (num c).toNat) p14 nd (by rw [List.length_append]; exact hlen2) hp) (Nat.le_of_ble_eq_true rfl) (Nat.le_of_ble_eq_true rfl) (Nat.le_of_ble_eq_true rfl) (fun r20 σ20 q20 => ?_)
    obtain ⟨rfl, p20, g20⟩ := q20
    have F20 := F14.tr g20
    refine zz_gsn 3 rfl ?_
    refine zz_cv (n := 2) rfl rfl (t_Cells_behind) (Nat.le_of_ble_eq_true rfl) (Nat.le_of_ble_eq_true rfl) (Nat.le_of_ble_eq_true rfl) (fun r24 σ24 q24 => ?_)
    obtain ⟨rfl, n24, rfl, e24⟩ := q24
    replace e24 := hob _ _ e24
    rw [hcl] at e24
    replace e24 := e24.trans (h7 σ20 F20).2
    refine zz_gsn 2 rfl ?_
    refine zz_jp rfl ?_
    rw [zs]
    exact ih (i + 1) n24 _ σ20 i9 (by rw [e24]; exact c2) (fun d hd => hR d (List.mem_cons_of_mem _ hd)) hl2 p20 F20
theorem t_History_writeRow {X : zz_X} {σ : zz_M} {h a p k q : Nat} {num : Nat → Int} {l : List Int} {R : List Nat} (hB : BL σ a l) (hp : p < 100000) (hlen : (l ++ (zt_w k ++ g_cs num R)).length + 2 ≤ p) (hn : R.length < 100000) (hr : σ.1 701 q = (R.length : Nat)) (hra : q ≠ a ∧ q ≠ a + 1) (ha : a + 1 < h + 7 ∨ h + 8 < a) (hch : zz_ch (σ.2 (h + 8)) (σ.1 700 q) R) (hR : ∀ c ∈ R, c < 1890 ∧ σ.2 (h + 7) c = num c ∧ 0 ≤ num c ∧ num c ≤ 99) : zz_T X 6 p_History_writeRow [zP 3 0 0 h, zP 0 p 0 a, zO (k + 2), zP 7 0 0 q] σ (fun r σ' => r = none ∧ BL σ' a (l ++ (zt_w k ++ g_cs num R)) ∧ zz_F (zz_A2 a) σ σ') := by
  refine zz_mk k_History_writeRow o_History_writeRow rfl rfl (Nat.le_of_ble_eq_true rfl) ?_
  show zz_G X 6 p_History_writeRow 0 [zP 3 0 0 h, zP 0 p 0 a, zO (k + 2), zP 7 0 0 q, zU, zU] [] σ _
  have hw : l.length + (zz_tx k).length ≤ p := by
    rw [List.length_append, List.length_append, zt_w_len] at hlen
    omega
  refine zz_gsn 2 rfl ?_
  refine zz_cv (n := 2) rfl rfl (t_Bytes_addWord (k := k) hB hw hp) (Nat.le_of_ble_eq_true rfl) (Nat.le_of_ble_eq_true rfl) (Nat.le_of_ble_eq_true rfl) (fun r2 σ2 q2 => ?_)
  obtain ⟨rfl, p2, g2⟩ := q2
  have e0 : σ2.1 700 q = σ.1 700 q := (g2 q (fun z => z.elim hra.1 hra.2)).1 700
  refine zz_gsn 2 rfl ?_
  rw [e0]
  refine zz_gsn 3 rfl ?_
  exact lp_wrow (σ0 := σ) (n := R.length) (lf := l ++ (zt_w k ++ g_cs num R)) hp hlen hn hr hra ha (fun σ' y F => ⟨rfl, y, F⟩) R 0 _ (l ++ zt_w k) σ2 (Nat.zero_add _) hch hR (List.append_assoc _ _ _) p2 g2
theorem t_History_writeCount {X : zz_X} {σ : zz_M} {h a p k n : Nat} {l : List Int} (hB : BL σ a l) (hp : p < 100000) (hlen : l.length + (zz_tx k).length + 2 ≤ p) (hn : n < 1000000) : zz_T X 6 p_History_writeCount [zP 3 0 0 h, zP 0 p 0 a, zO (k + 2), zI (n : Nat)] σ (fun r σ' => r = none ∧ BL σ' a (l ++ zt_w k ++ zt_n n) ∧ zz_F (zz_A2 a) σ σ') := by
  refine zz_mk k_History_writeCount o_History_writeCount rfl rfl (Nat.le_of_ble_eq_true rfl) ?_
  show zz_G X 6 p_History_writeCount 0 [zP 3 0 0 h, zP 0 p 0 a, zO (k + 2), zI (n : Nat)] [] σ _
  refine zz_gsn 2 rfl ?_
  refine zz_cv (n := 2) rfl rfl (t_Bytes_addWord (k := k) hB (by omega) hp) (Nat.le_of_ble_eq_true rfl) (Nat.le_of_ble_eq_true rfl) (Nat.le_of_ble_eq_true rfl) (fun r2 σ2 q2 => ?_)
  obtain ⟨rfl, p2, g2⟩ := q2
  refine zz_gsn 2 rfl ?_
  refine zz_cv (n := 2) rfl rfl (t_Bytes_addNumber (n := n) p2 hn (by rw [List.length_append, zt_w_len]; exact hlen) hp) (Nat.le_of_ble_eq_true rfl) (Nat.le_of_ble_eq_true rfl) (Nat.le_of_ble_eq_true rfl) (fun r5 σ5 q5 => ?_)
  obtain ⟨rfl, p5, g5⟩ := q5
  refine zz_rv rfl rfl ?_
  exact ⟨rfl, p5, g2.tr g5⟩
