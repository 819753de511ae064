/-! the reference: numbers, rows told -/
theorem zz_abs : ∀ n : Fin 100, zz_b (fun a _ => if 0 ≤ a then a else 0 - a) ((n.val : Nat) : Int) 0 = ((n.val : Nat) : Int) := by decide +kernel
theorem zz_abs_n {n : Nat} (h : n < 100) : zz_b (fun a _ => if 0 ≤ a then a else 0 - a) (n : Int) 0 = (n : Int) := zz_abs ⟨n, h⟩
theorem t_Mo_tellsNumber1 {X : zz_X} {σ : zz_M} {m n : Nat} {l : List Int} (hB : RO σ m l) (hp : l.length + 2 ≤ 1400) (hn : n < 10) : zz_T X 2 p_Mo_tellsNumber [zP 12 0 0 m, zI (n : Nat)] σ (fun r σ' => r = none ∧ RO σ' m (l ++ zt_n n) ∧ FO m σ σ') := by
  refine zz_mk k_Mo_tellsNumber o_Mo_tellsNumber rfl rfl (Nat.le_of_ble_eq_true rfl) ?_
  show zz_G X 2 p_Mo_tellsNumber 0 [zP 12 0 0 m, zI (n : Nat), zU] [] σ _
  have hb1 := hB.1
  have nX : n < 2147483648 := by omega
  have nY : n < 1000000 := by omega
  have nZ : n % 10 < 10 := by omega
  have nW : n < 100 := by omega
  have ob : 0 ≤ σ.1 1256 m ∧ σ.1 1256 m < 1400 := ⟨by omega, by omega⟩
  have n0 : (n : Int) ≥ 0 := Int.natCast_nonneg _
  have hl2 : l.length < 100000 := by omega
  have n9 : (n : Int) ≤ 9 := by omega
  have n10 : ¬ 10 ≤ n := by omega
  have v0 := zz_abs_n nW
  have v3 : zz_rem (n : Int) 10 = ((n % 10 : Nat) : Int) := zz_rem_n (d := 10) nX (by decide) (by decide)
  have w2 := zw_dig (n := n) (d := n % 10) nY nZ
  have b2 := zl_dig (d := n % 10) nZ
  refine zz_gsn 1 rfl ?_
  refine zz_br rfl (fun h1 => ?_) (fun h1 => absurd n0 (Int.not_le.mpr h1))
  refine zz_gsn 1 rfl ?_
  refine zz_mth rfl (Nat.le_of_ble_eq_true rfl) (Nat.le_of_ble_eq_true rfl) ?_
  rw [v0]
  refine zz_gsn 3 rfl ?_
  refine zz_br rfl (fun h10 => ?_) (fun h10 => absurd n9 (Int.not_le.mpr h10))
  refine zz_gsn 7 rfl ?_
  refine zz_dv rfl (by decide) ?_
  refine zz_gsn 1 rfl ?_
  rw [v3, w2]
  refine zz_gsn 1 rfl ?_
  refine zz_ast rfl (ob) ?_
  refine zz_gsn 6 rfl ?_
  refine zz_rv rfl rfl ?_
  obtain ⟨p, g⟩ := ro_add (v := ((48 + n % 10 : Nat) : Int)) hB hl2
  have e : zt_n n = [zz_i2b ((48 + n % 10 : Nat) : Int)] := (if_neg n10).trans (by rw [b2])
  rw [e]
  exact ⟨rfl, p, g⟩
theorem t_Mo_tellsNumber {X : zz_X} {σ : zz_M} {m n : Nat} {l : List Int} (hB : RO σ m l) (hp : l.length + 2 ≤ 1400) (hn : n < 100) : zz_T X 3 p_Mo_tellsNumber [zP 12 0 0 m, zI (n : Nat)] σ (fun r σ' => r = none ∧ RO σ' m (l ++ zt_n n) ∧ FO m σ σ') := by
  refine zz_mk k_Mo_tellsNumber o_Mo_tellsNumber rfl rfl (Nat.le_of_ble_eq_true rfl) ?_
  show zz_G X 3 p_Mo_tellsNumber 0 [zP 12 0 0 m, zI (n : Nat), zU] [] σ _
  have hb1 := hB.1
  have nX : n < 2147483648 := by omega
  have nY : n < 1000000 := by omega
  have nZ : n % 10 < 10 := by omega
  have nW : n < 100 := by omega
  have ob : 0 ≤ σ.1 1256 m ∧ σ.1 1256 m < 1400 := ⟨by omega, by omega⟩
  have n0 : (n : Int) ≥ 0 := Int.natCast_nonneg _
  have hl2 : l.length < 100000 := by omega
  have nd : n / 10 < 10 := by omega
  have nd2 : ¬ 10 ≤ n / 10 := by omega
  have na : (n : Int) ≤ 9 → ¬ 10 ≤ n := fun z => by omega
  have nb : ¬ (n : Int) ≤ 9 → 10 ≤ n := fun z => by omega
  have l2 : ∀ x : Nat, x ≤ l.length + 1 → (x : Int) < 1400 ∧ x < 100000 := fun x h => ⟨by omega, by omega⟩
  have v0 := zz_abs_n nW
  have v3 : zz_rem (n : Int) 10 = ((n % 10 : Nat) : Int) := zz_rem_n (d := 10) nX (by decide) (by decide)
  have w2 := zw_dig (n := n) (d := n % 10) nY nZ
  have b2 := zl_dig (d := n % 10) nZ
  have v1 : zz_div (n : Int) 10 = ((n / 10 : Nat) : Int) := zz_div_n (d := 10) nX (by decide) (by decide)
  refine zz_gsn 1 rfl ?_
  refine zz_br rfl (fun h1 => ?_) (fun h1 => absurd n0 (Int.not_le.mpr h1))
  refine zz_gsn 1 rfl ?_
  refine zz_mth rfl (Nat.le_of_ble_eq_true rfl) (Nat.le_of_ble_eq_true rfl) ?_
  rw [v0]
  refine zz_gsn 3 rfl ?_
  refine zz_br rfl (fun h10 => ?_) (fun h10 => ?_)
  · refine zz_gsn 7 rfl ?_
    refine zz_dv rfl (by decide) ?_
    refine zz_gsn 1 rfl ?_
    rw [v3, w2]
    refine zz_gsn 1 rfl ?_
    refine zz_ast rfl (by first | exact ob15 | exact ob) ?_
    refine zz_gsn 6 rfl ?_
    refine zz_rv rfl rfl ?_
    obtain ⟨p, g⟩ := ro_add (v := ((48 + n % 10 : Nat) : Int)) hB hl2
    have e : zt_n n = [zz_i2b ((48 + n % 10 : Nat) : Int)] := (if_neg (na (by first | exact h10 | exact Decidable.not_not.mp h10))).trans (by rw [b2])
    rw [e]
    exact ⟨rfl, p, g⟩
  · refine zz_gsn 3 rfl ?_
    refine zz_dv rfl (by decide) ?_
    rw [v1]
    refine zz_cv (n := 2) rfl rfl (t_Mo_tellsNumber1 (n := n / 10) hB hp nd) (Nat.le_of_ble_eq_true rfl) (Nat.le_of_ble_eq_true rfl) (Nat.le_of_ble_eq_true rfl) (fun r15 σ15 q15 => ?_)
    obtain ⟨rfl, p15, g15⟩ := q15
    have l1 : (l ++ zt_n (n / 10)).length ≤ l.length + 1 := by
      rw [show zt_n (n / 10) = [((48 + n / 10 % 10 : Nat) : Int)] from if_neg nd2, List.length_append]
      exact Nat.le_refl _
    have ob15 : 0 ≤ σ15.1 1256 m ∧ σ15.1 1256 m < 1400 := by
      rw [p15.1]
      exact ⟨Int.natCast_nonneg _, (l2 _ l1).1⟩
    refine zz_gsn 7 rfl ?_
    refine zz_dv rfl (by decide) ?_
    refine zz_gsn 1 rfl ?_
    rw [v3, w2]
    refine zz_gsn 1 rfl ?_
    refine zz_ast rfl (by first | exact ob15 | exact ob) ?_
    refine zz_gsn 6 rfl ?_
    refine zz_rv rfl rfl ?_
    obtain ⟨p, g⟩ := ro_add (v := ((48 + n % 10 : Nat) : Int)) p15 (l2 _ l1).2
    have e : zt_n n = [((48 + n / 10 % 10 : Nat) : Int), zz_i2b ((48 + n % 10 : Nat) : Int)] := (if_pos (nb (by first | exact h10 | exact Int.not_le.mpr h10))).trans (by rw [b2])
    have e1 : zt_n (n / 10) = [((48 + n / 10 % 10 : Nat) : Int)] := if_neg nd2
    rw [e1, List.append_assoc] at p
    rw [e]
    exact ⟨rfl, p, g15.tr g⟩
theorem lp_rtrow {X : zz_X} {m : Nat} {u1 : zz_V} {hd : Int} {num : Nat → Int} {lf : List Int} {σ0 : zz_M} {Post : Option zz_V → zz_M → Prop} (hlf : lf.length + 2 ≤ 1400) (kk : ∀ σ' : zz_M, RO σ' m lf → FO m σ0 σ' → Post none σ') :
    ∀ (R : List Nat) (cell : Int) (l : List Int) (σ : zz_M), zz_ch (σ0.2 (m + 2)) cell R → (∀ c ∈ R, c < 20000 ∧ σ0.2 (m + 1) c = num c ∧ 0 ≤ num c ∧ num c ≤ 99) → l ++ g_cs num R = lf → RO σ m l → FO m σ0 σ → zz_G X 6 p_Mo_tellsRow 5 [zP 12 0 0 m, u1, zI hd, zI cell] [] σ Post := by
  intro R
  induction R with
  | nil =>
    intro cell l σ hch hR hl hB hF
    have e : l = lf := by
      rw [← hl]
      exact (List.append_nil l).symm
    rw [e] at hB
    have hc : cell = -1 := hch
    refine zz_gsn 2 rfl ?_
    refine zz_br rfl (fun h7 => ?_) (fun h7 => absurd hc h7)
    refine zz_rv rfl rfl ?_
    exact kk σ hB hF
  | cons c R ih =>
    intro cell l σ hch hR hl hB hF
    obtain ⟨c1, c2⟩ := hch
    obtain ⟨k1, k2, k3, k4⟩ := hR c List.mem_cons_self
    subst c1
    have hl2 : l ++ [32] ++ zt_n (num c).toNat ++ g_cs num R = lf := by
      rw [← hl]
      show _ = l ++ (32 :: (zt_n (num c).toNat ++ g_cs num R))
      rw [List.append_assoc, List.append_assoc]
      rfl
    have hlen : l.length + 1 + (zt_n (num c).toNat).length + 2 ≤ 1400 := by
      have z := congrArg List.length hl2
      rw [List.length_append, List.length_append, List.length_append] at z
      have z2 : [(32 : Int)].length = 1 := rfl
      omega
    have hlen2 : (l ++ [(32 : Int)]).length + 2 ≤ 1400 := by
      rw [List.length_append]
      show l.length + 1 + 2 ≤ 1400
      omega
    have a1 : l.length + (zz_tx 26).length ≤ 1400 := by
      show l.length + 1 ≤ 1400
      omega
    have nd : (num c).toNat < 100 := by omega
    have ec : ((num c).toNat : Int) = num c := Int.toNat_of_nonneg k3
    have h7c : ¬ ((c : Nat) : Int) = -1 := by omega
    have ob : 0 ≤ ((c : Nat) : Int) ∧ ((c : Nat) : Int) < 20000 := ⟨by omega, by omega⟩
    have n32 : zt_w 26 = [32] := by decide
    have hv : ∀ σ' : zz_M, FO m σ0 σ' → σ'.2 (m + 1) c = ((num c).toNat : Nat) ∧ σ'.2 (m + 2) c = σ0.2 (m + 2) c := fun σ' F => ⟨by rw [F.2 (m + 1) (by omega)]; exact k2.trans ec.symm, by rw [F.2 (m + 2) (by omega)]⟩
    clear hl k2 k4 hlen
    refine zz_gsn 2 rfl ?_
    refine zz_br rfl (fun h7 => absurd h7 h7c) (fun h7 => ?_)
    refine zz_gsn 2 rfl ?_
    refine zz_cv (n := 2) rfl rfl (t_Mo_tells (k := 26) hB a1) (Nat.le_of_ble_eq_true rfl) (Nat.le_of_ble_eq_true rfl) (Nat.le_of_ble_eq_true rfl) (fun r10 σ10 q10 => ?_)
    obtain ⟨rfl, p10, g10⟩ := q10
    rw [n32] at p10
    have F10 := hF.tr g10
    refine zz_gsn 4 rfl ?_
    refine zz_ald rfl (ob) ?_
    rw [show σ10.2 (m + 1) ((c : Nat) : Int).toNat = ((num c).toNat : Nat) from (hv σ10 F10).1]
    refine zz_cv (n := 2) rfl rfl (t_Mo_tellsNumber (n := (num c).toNat) p10 hlen2 nd) (Nat.le_of_ble_eq_true rfl) (Nat.le_of_ble_eq_true rfl) (Nat.le_of_ble_eq_true rfl) (fun r16 σ16 q16 => ?_)
    obtain ⟨rfl, p16, g16⟩ := q16
    have F16 := F10.tr g16
    refine zz_gsn 3 rfl ?_
    refine zz_ald rfl (ob) ?_
    rw [show σ16.2 (m + 2) ((c : Nat) : Int).toNat = σ0.2 (m + 2) c from (hv σ16 F16).2]
    refine zz_gsn 1 rfl ?_
    refine zz_jp rfl ?_
    exact ih _ _ σ16 c2 (fun d hd => hR d (List.mem_cons_of_mem _ hd)) hl2 p16 F16
theorem t_Mo_tellsRow {X : zz_X} {σ : zz_M} {m k : Nat} {hd : Int} {num : Nat → Int} {l : List Int} {R : List Nat} (hB : RO σ m l) (hlen : (l ++ (zt_w k ++ g_cs num R)).length + 2 ≤ 1400) (hch : zz_ch (σ.2 (m + 2)) hd R) (hR : ∀ c ∈ R, c < 20000 ∧ σ.2 (m + 1) c = num c ∧ 0 ≤ num c ∧ num c ≤ 99) : zz_T X 6 p_Mo_tellsRow [zP 12 0 0 m, zO (k + 2), zI hd] σ (fun r σ' => r = none ∧ RO σ' m (l ++ (zt_w k ++ g_cs num R)) ∧ FO m σ σ') := by
  refine zz_mk k_Mo_tellsRow o_Mo_tellsRow rfl rfl (Nat.le_of_ble_eq_true rfl) ?_
  show zz_G X 6 p_Mo_tellsRow 0 [zP 12 0 0 m, zO (k + 2), zI hd, zU] [] σ _
  have hw : l.length + (zz_tx k).length ≤ 1400 := by
    rw [List.length_append, List.length_append, zt_w_len] at hlen
    omega
  refine zz_gsn 2 rfl ?_
  refine zz_cv (n := 2) rfl rfl (t_Mo_tells (k := k) hB hw) (Nat.le_of_ble_eq_true rfl) (Nat.le_of_ble_eq_true rfl) (Nat.le_of_ble_eq_true rfl) (fun r2 σ2 q2 => ?_)
  obtain ⟨rfl, p2, g2⟩ := q2
  refine zz_gsn 2 rfl ?_
  exact lp_rtrow (σ0 := σ) (lf := l ++ (zt_w k ++ g_cs num R)) hlen (fun σ' y F => ⟨rfl, y, F⟩) R _ (l ++ zt_w k) σ2 hch hR (List.append_assoc _ _ _) p2 g2
