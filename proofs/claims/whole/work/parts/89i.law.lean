/-! THE LAW'S CASES 33 to 43; printed by program. -/
theorem zj_c_balanced {X : zz_X} {b L : Nat} {xs : Nat → Int32} {i : Nat} {σ : zz_M} {B : Int} {G : zz_J} (hi : i + 6 ≤ L) (hL : L ≤ 3072) (hC : CG σ X.b B G) (hR : RG σ (X.b + 1101) G) (ok : g_ok G) (hB : B ≤ 900000) (kk : ∀ σ' G', CG σ' X.b (B + 3) G' → RG σ' (X.b + 1101) G' → g_ok G' → zj_G X b L xs 1803 i [] σ') : zj_G X b L xs 1177 i [] σ := by
  refine zj_x (by decide +kernel) ?_
  refine zj_arg (q := 1) (j := 1) rfl (by decide +kernel) (by decide +kernel) (by decide +kernel) (by decide +kernel) (by decide +kernel) (by decide) hi hL ?_
  refine zj_cv (n := 2) (idx := 153) (by decide +kernel) (List.mem_of_getElem? (i := 1164) (by decide +kernel)) rfl rfl (t_TQ_balanced (b := X.b) (B := B) hC ok) (by decide) (Nat.le_of_ble_eq_true rfl) (Nat.le_of_ble_eq_true rfl) (fun r1 σ1 q1 => ?_)
  obtain ⟨rfl, g1, f1⟩ := q1
  have hR1 := hR.k ok f1
  have hC1 := g1
  refine zj_m (by decide +kernel) ?_
  refine zj_arg (q := 1) (j := 1) rfl (by decide +kernel) (by decide +kernel) (by decide +kernel) (by decide +kernel) (by decide +kernel) (by decide) hi hL ?_
  refine zj_cv (n := 2) (idx := 156) (by decide +kernel) (List.mem_of_getElem? (i := 1869) (by decide +kernel)) rfl rfl (t_Mo_balanced (m := X.b + 1101) hR1 ok) (by decide) (Nat.le_of_ble_eq_true rfl) (Nat.le_of_ble_eq_true rfl) (fun r2 σ2 q2 => ?_)
  obtain ⟨rfl, g2, f2⟩ := q2
  refine zj_eq (off := 608) (tgt := 1803) (by decide +kernel) (by decide) ?_
  exact kk _ _ (CG.up (hC1.k f2) (by omega)) g2 (ok)
theorem zj_c_balance {X : zz_X} {b L : Nat} {xs : Nat → Int32} {i : Nat} {σ : zz_M} {B : Int} {G : zz_J} (hi : i + 6 ≤ L) (hL : L ≤ 3072) (hC : CG σ X.b B G) (hR : RG σ (X.b + 1101) G) (ok : g_ok G) (hB : B ≤ 900000) (kk : ∀ σ' G', CG σ' X.b (B + 3) G' → RG σ' (X.b + 1101) G' → g_ok G' → zj_G X b L xs 1803 i [] σ') : zj_G X b L xs 1200 i [] σ := by
  refine zj_x (by decide +kernel) ?_
  refine zj_cv (n := 1) (idx := 157) (by decide +kernel) (List.mem_of_getElem? (i := 1168) (by decide +kernel)) rfl rfl (t_TQ_balance (b := X.b) (B := B) hC ok) (by decide) (Nat.le_of_ble_eq_true rfl) (Nat.le_of_ble_eq_true rfl) (fun r1 σ1 q1 => ?_)
  obtain ⟨rfl, g1, f1⟩ := q1
  have hR1 := hR.k ok f1
  have hC1 := g1
  refine zj_m (by decide +kernel) ?_
  refine zj_cv (n := 1) (idx := 160) (by decide +kernel) (List.mem_of_getElem? (i := 1873) (by decide +kernel)) rfl rfl (t_Mo_balance (m := X.b + 1101) hR1 ok) (by decide) (Nat.le_of_ble_eq_true rfl) (Nat.le_of_ble_eq_true rfl) (fun r2 σ2 q2 => ?_)
  obtain ⟨rfl, g2, f2⟩ := q2
  refine zj_eq (off := 595) (tgt := 1803) (by decide +kernel) (by decide) ?_
  exact kk _ _ (CG.up (hC1.k f2) (by omega)) g2 (ok)
theorem zj_c_until {X : zz_X} {b L : Nat} {xs : Nat → Int32} {i : Nat} {σ : zz_M} {B : Int} {G : zz_J} (hi : i + 6 ≤ L) (hL : L ≤ 3072) (hC : CG σ X.b B G) (hR : RG σ (X.b + 1101) G) (ok : g_ok G) (hB : B ≤ 900000) (kk : ∀ σ' G', CG σ' X.b (B + 3) G' → RG σ' (X.b + 1101) G' → g_ok G' → zj_G X b L xs 1803 i [] σ') : zj_G X b L xs 1213 i [] σ := by
  refine zj_x (by decide +kernel) ?_
  refine zj_arg (q := 1) (j := 1) rfl (by decide +kernel) (by decide +kernel) (by decide +kernel) (by decide +kernel) (by decide +kernel) (by decide) hi hL ?_
  refine zj_cv (n := 2) (idx := 161) (by decide +kernel) (List.mem_of_getElem? (i := 1177) (by decide +kernel)) rfl rfl (t_TQ_until (b := X.b) (B := B) hC ok) (by decide) (Nat.le_of_ble_eq_true rfl) (Nat.le_of_ble_eq_true rfl) (fun r1 σ1 q1 => ?_)
  obtain ⟨rfl, g1, f1⟩ := q1
  have hR1 := hR.k ok f1
  have hC1 := g1
  refine zj_m (by decide +kernel) ?_
  refine zj_arg (q := 1) (j := 1) rfl (by decide +kernel) (by decide +kernel) (by decide +kernel) (by decide +kernel) (by decide +kernel) (by decide) hi hL ?_
  refine zj_cv (n := 2) (idx := 164) (by decide +kernel) (List.mem_of_getElem? (i := 1877) (by decide +kernel)) rfl rfl (t_Mo_until (m := X.b + 1101) hR1 ok) (by decide) (Nat.le_of_ble_eq_true rfl) (Nat.le_of_ble_eq_true rfl) (fun r2 σ2 q2 => ?_)
  obtain ⟨rfl, g2, f2⟩ := q2
  refine zj_eq (off := 572) (tgt := 1803) (by decide +kernel) (by decide) ?_
  exact kk _ _ (CG.up (hC1.k f2) (by omega)) g2 (ok)
theorem zj_c_rest {X : zz_X} {b L : Nat} {xs : Nat → Int32} {i : Nat} {σ : zz_M} {B : Int} {G : zz_J} (hi : i + 6 ≤ L) (hL : L ≤ 3072) (hC : CG σ X.b B G) (hR : RG σ (X.b + 1101) G) (ok : g_ok G) (hB : B ≤ 900000) (kk : ∀ σ' G', CG σ' X.b (B + 3) G' → RG σ' (X.b + 1101) G' → g_ok G' → zj_G X b L xs 1803 i [] σ') : zj_G X b L xs 1236 i [] σ := by
  refine zj_x (by decide +kernel) ?_
  refine zj_arg (q := 1) (j := 1) rfl (by decide +kernel) (by decide +kernel) (by decide +kernel) (by decide +kernel) (by decide +kernel) (by decide) hi hL ?_
  refine zj_cv (n := 2) (idx := 165) (by decide +kernel) (List.mem_of_getElem? (i := 1189) (by decide +kernel)) rfl rfl (t_TQ_rest (b := X.b) (B := B) hC ok) (by decide) (Nat.le_of_ble_eq_true rfl) (Nat.le_of_ble_eq_true rfl) (fun r1 σ1 q1 => ?_)
  obtain ⟨rfl, g1, f1⟩ := q1
  have hR1 := hR.k ok f1
  have hC1 := g1
  refine zj_m (by decide +kernel) ?_
  refine zj_arg (q := 1) (j := 1) rfl (by decide +kernel) (by decide +kernel) (by decide +kernel) (by decide +kernel) (by decide +kernel) (by decide) hi hL ?_
  refine zj_cv (n := 2) (idx := 168) (by decide +kernel) (List.mem_of_getElem? (i := 1881) (by decide +kernel)) rfl rfl (t_Mo_rest (m := X.b + 1101) hR1 ok) (by decide) (Nat.le_of_ble_eq_true rfl) (Nat.le_of_ble_eq_true rfl) (fun r2 σ2 q2 => ?_)
  obtain ⟨rfl, g2, f2⟩ := q2
  refine zj_eq (off := 549) (tgt := 1803) (by decide +kernel) (by decide) ?_
  exact kk _ _ (CG.up (hC1.k f2) (by omega)) g2 (ok)
theorem zj_c_worst {X : zz_X} {b L : Nat} {xs : Nat → Int32} {i : Nat} {σ : zz_M} {B : Int} {G : zz_J} (hi : i + 6 ≤ L) (hL : L ≤ 3072) (hC : CG σ X.b B G) (hR : RG σ (X.b + 1101) G) (ok : g_ok G) (hB : B ≤ 900000) (kk : ∀ σ' G', CG σ' X.b (B + 3) G' → RG σ' (X.b + 1101) G' → g_ok G' → zj_G X b L xs 1803 i [] σ') : zj_G X b L xs 1259 i [] σ := by
  refine zj_x (by decide +kernel) ?_
  refine zj_arg (q := 1) (j := 1) rfl (by decide +kernel) (by decide +kernel) (by decide +kernel) (by decide +kernel) (by decide +kernel) (by decide) hi hL ?_
  refine zj_arg (q := 2) (j := 2) rfl (by decide +kernel) (by decide +kernel) (by decide +kernel) (by decide +kernel) (by decide +kernel) (by decide) hi hL ?_
  refine zj_arg (q := 3) (j := 3) rfl (by decide +kernel) (by decide +kernel) (by decide +kernel) (by decide +kernel) (by decide +kernel) (by decide) hi hL ?_
  refine zj_cv (n := 4) (idx := 169) (by decide +kernel) (List.mem_of_getElem? (i := 1201) (by decide +kernel)) rfl rfl (t_TQ_worst (b := X.b) (B := B) hC ok) (by decide) (Nat.le_of_ble_eq_true rfl) (Nat.le_of_ble_eq_true rfl) (fun r1 σ1 q1 => ?_)
  obtain ⟨rfl, g1, f1⟩ := q1
  have hR1 := hR.k ok f1
  have hC1 := g1
  refine zj_m (by decide +kernel) ?_
  refine zj_arg (q := 1) (j := 1) rfl (by decide +kernel) (by decide +kernel) (by decide +kernel) (by decide +kernel) (by decide +kernel) (by decide) hi hL ?_
  refine zj_arg (q := 2) (j := 2) rfl (by decide +kernel) (by decide +kernel) (by decide +kernel) (by decide +kernel) (by decide +kernel) (by decide) hi hL ?_
  refine zj_arg (q := 3) (j := 3) rfl (by decide +kernel) (by decide +kernel) (by decide +kernel) (by decide +kernel) (by decide +kernel) (by decide) hi hL ?_
  refine zj_cv (n := 4) (idx := 172) (by decide +kernel) (List.mem_of_getElem? (i := 1906) (by decide +kernel)) rfl rfl (t_Mo_worst (m := X.b + 1101) hR1 ok) (by decide) (Nat.le_of_ble_eq_true rfl) (Nat.le_of_ble_eq_true rfl) (fun r2 σ2 q2 => ?_)
  obtain ⟨rfl, g2, f2⟩ := q2
  refine zj_eq (off := 506) (tgt := 1803) (by decide +kernel) (by decide) ?_
  exact kk _ _ (CG.up (hC1.k f2) (by omega)) g2 (ok)
theorem zj_c_worstAt {X : zz_X} {b L : Nat} {xs : Nat → Int32} {i : Nat} {σ : zz_M} {B : Int} {G : zz_J} (hi : i + 6 ≤ L) (hL : L ≤ 3072) (hC : CG σ X.b B G) (hR : RG σ (X.b + 1101) G) (ok : g_ok G) (hB : B ≤ 900000) (kk : ∀ σ' G', CG σ' X.b (B + 3) G' → RG σ' (X.b + 1101) G' → g_ok G' → zj_G X b L xs 1803 i [] σ') : zj_G X b L xs 1302 i [] σ := by
  refine zj_x (by decide +kernel) ?_
  refine zj_arg (q := 1) (j := 1) rfl (by decide +kernel) (by decide +kernel) (by decide +kernel) (by decide +kernel) (by decide +kernel) (by decide) hi hL ?_
  refine zj_arg (q := 2) (j := 2) rfl (by decide +kernel) (by decide +kernel) (by decide +kernel) (by decide +kernel) (by decide +kernel) (by decide) hi hL ?_
  refine zj_arg (q := 3) (j := 3) rfl (by decide +kernel) (by decide +kernel) (by decide +kernel) (by decide +kernel) (by decide +kernel) (by decide) hi hL ?_
  refine zj_cv (n := 4) (idx := 173) (by decide +kernel) (List.mem_of_getElem? (i := 1225) (by decide +kernel)) rfl rfl (t_TQ_worstAt (b := X.b) (B := B) hC ok) (by decide) (Nat.le_of_ble_eq_true rfl) (Nat.le_of_ble_eq_true rfl) (fun r1 σ1 q1 => ?_)
  obtain ⟨rfl, g1, f1⟩ := q1
  have hR1 := hR.k ok f1
  have hC1 := g1
  refine zj_m (by decide +kernel) ?_
  refine zj_arg (q := 1) (j := 1) rfl (by decide +kernel) (by decide +kernel) (by decide +kernel) (by decide +kernel) (by decide +kernel) (by decide) hi hL ?_
  refine zj_arg (q := 2) (j := 2) rfl (by decide +kernel) (by decide +kernel) (by decide +kernel) (by decide +kernel) (by decide +kernel) (by decide) hi hL ?_
  refine zj_arg (q := 3) (j := 3) rfl (by decide +kernel) (by decide +kernel) (by decide +kernel) (by decide +kernel) (by decide +kernel) (by decide) hi hL ?_
  refine zj_cv (n := 4) (idx := 176) (by decide +kernel) (List.mem_of_getElem? (i := 1889) (by decide +kernel)) rfl rfl (t_Mo_worstAt (m := X.b + 1101) hR1 ok) (by decide) (Nat.le_of_ble_eq_true rfl) (Nat.le_of_ble_eq_true rfl) (fun r2 σ2 q2 => ?_)
  obtain ⟨rfl, g2, f2⟩ := q2
  refine zj_eq (off := 463) (tgt := 1803) (by decide +kernel) (by decide) ?_
  exact kk _ _ (CG.up (hC1.k f2) (by omega)) g2 (ok)
theorem zj_c_spike {X : zz_X} {b L : Nat} {xs : Nat → Int32} {i : Nat} {σ : zz_M} {B : Int} {G : zz_J} (hi : i + 6 ≤ L) (hL : L ≤ 3072) (hC : CG σ X.b B G) (hR : RG σ (X.b + 1101) G) (ok : g_ok G) (hB : B ≤ 900000) (kk : ∀ σ' G', CG σ' X.b (B + 3) G' → RG σ' (X.b + 1101) G' → g_ok G' → zj_G X b L xs 1803 i [] σ') : zj_G X b L xs 1345 i [] σ := by
  refine zj_x (by decide +kernel) ?_
  refine zj_arg (q := 1) (j := 1) rfl (by decide +kernel) (by decide +kernel) (by decide +kernel) (by decide +kernel) (by decide +kernel) (by decide) hi hL ?_
  refine zj_arg (q := 2) (j := 2) rfl (by decide +kernel) (by decide +kernel) (by decide +kernel) (by decide +kernel) (by decide +kernel) (by decide) hi hL ?_
  refine zj_cv (n := 3) (idx := 177) (by decide +kernel) (List.mem_of_getElem? (i := 1233) (by decide +kernel)) rfl rfl (t_TQ_spike (b := X.b) (B := B) hC ok) (by decide) (Nat.le_of_ble_eq_true rfl) (Nat.le_of_ble_eq_true rfl) (fun r1 σ1 q1 => ?_)
  obtain ⟨rfl, g1, f1⟩ := q1
  have hR1 := hR.k ok f1
  have hC1 := g1
  refine zj_m (by decide +kernel) ?_
  refine zj_arg (q := 1) (j := 1) rfl (by decide +kernel) (by decide +kernel) (by decide +kernel) (by decide +kernel) (by decide +kernel) (by decide) hi hL ?_
  refine zj_arg (q := 2) (j := 2) rfl (by decide +kernel) (by decide +kernel) (by decide +kernel) (by decide +kernel) (by decide +kernel) (by decide) hi hL ?_
  refine zj_cv (n := 3) (idx := 180) (by decide +kernel) (List.mem_of_getElem? (i := 1902) (by decide +kernel)) rfl rfl (t_Mo_spike (m := X.b + 1101) hR1 ok) (by decide) (Nat.le_of_ble_eq_true rfl) (Nat.le_of_ble_eq_true rfl) (fun r2 σ2 q2 => ?_)
  obtain ⟨rfl, g2, f2⟩ := q2
  refine zj_eq (off := 430) (tgt := 1803) (by decide +kernel) (by decide) ?_
  exact kk _ _ (CG.up (hC1.k f2) (by omega)) g2 (ok)
theorem zj_c_drain {X : zz_X} {b L : Nat} {xs : Nat → Int32} {i : Nat} {σ : zz_M} {B : Int} {G : zz_J} (hi : i + 6 ≤ L) (hL : L ≤ 3072) (hC : CG σ X.b B G) (hR : RG σ (X.b + 1101) G) (ok : g_ok G) (hB : B ≤ 900000) (kk : ∀ σ' G', CG σ' X.b (B + 3) G' → RG σ' (X.b + 1101) G' → g_ok G' → zj_G X b L xs 1803 i [] σ') : zj_G X b L xs 1378 i [] σ := by
  refine zj_x (by decide +kernel) ?_
  refine zj_arg (q := 1) (j := 1) rfl (by decide +kernel) (by decide +kernel) (by decide +kernel) (by decide +kernel) (by decide +kernel) (by decide) hi hL ?_
  refine zj_cv (n := 2) (idx := 181) (by decide +kernel) (List.mem_of_getElem? (i := 1241) (by decide +kernel)) rfl rfl (t_TQ_drain (b := X.b) (B := B) hC ok) (by decide) (Nat.le_of_ble_eq_true rfl) (Nat.le_of_ble_eq_true rfl) (fun r1 σ1 q1 => ?_)
  obtain ⟨rfl, g1, f1⟩ := q1
  have hR1 := hR.k ok f1
  have hC1 := g1
  refine zj_m (by decide +kernel) ?_
  refine zj_arg (q := 1) (j := 1) rfl (by decide +kernel) (by decide +kernel) (by decide +kernel) (by decide +kernel) (by decide +kernel) (by decide) hi hL ?_
  refine zj_cv (n := 2) (idx := 184) (by decide +kernel) (List.mem_of_getElem? (i := 1910) (by decide +kernel)) rfl rfl (t_Mo_drain (m := X.b + 1101) hR1 ok) (by decide) (Nat.le_of_ble_eq_true rfl) (Nat.le_of_ble_eq_true rfl) (fun r2 σ2 q2 => ?_)
  obtain ⟨rfl, g2, f2⟩ := q2
  refine zj_eq (off := 407) (tgt := 1803) (by decide +kernel) (by decide) ?_
  exact kk _ _ (CG.up (hC1.k f2) (by omega)) g2 (ok)
theorem zj_c_tell {X : zz_X} {b L : Nat} {xs : Nat → Int32} {i : Nat} {σ : zz_M} {B : Int} {G : zz_J} (hi : i + 6 ≤ L) (hL : L ≤ 3072) (hC : CG σ X.b B G) (hR : RG σ (X.b + 1101) G) (ok : g_ok G) (hB : B ≤ 900000) (kk : ∀ σ' G', CG σ' X.b (B + 3) G' → RG σ' (X.b + 1101) G' → g_ok G' → zj_G X b L xs 1803 i [] σ') : zj_G X b L xs 1401 i [] σ := by
  refine zj_x (by decide +kernel) ?_
  refine zj_arg (q := 1) (j := 1) rfl (by decide +kernel) (by decide +kernel) (by decide +kernel) (by decide +kernel) (by decide +kernel) (by decide) hi hL ?_
  refine zj_cv (n := 2) (idx := 185) (by decide +kernel) (List.mem_of_getElem? (i := 1249) (by decide +kernel)) rfl rfl (t_TQ_tell (b := X.b) (B := B) hC ok) (by decide) (Nat.le_of_ble_eq_true rfl) (Nat.le_of_ble_eq_true rfl) (fun r1 σ1 q1 => ?_)
  obtain ⟨rfl, g1, f1⟩ := q1
  have hR1 := hR.k ok f1
  have hC1 := g1
  refine zj_m (by decide +kernel) ?_
  refine zj_arg (q := 1) (j := 1) rfl (by decide +kernel) (by decide +kernel) (by decide +kernel) (by decide +kernel) (by decide +kernel) (by decide) hi hL ?_
  refine zj_cv (n := 2) (idx := 188) (by decide +kernel) (List.mem_of_getElem? (i := 1947) (by decide +kernel)) rfl rfl (t_Mo_tell (m := X.b + 1101) hR1 ok) (by decide) (Nat.le_of_ble_eq_true rfl) (Nat.le_of_ble_eq_true rfl) (fun r2 σ2 q2 => ?_)
  obtain ⟨rfl, g2, f2⟩ := q2
  refine zj_eq (off := 384) (tgt := 1803) (by decide +kernel) (by decide) ?_
  exact kk _ _ (CG.up (hC1.k f2) (by omega)) g2 (ok_tell ok)
theorem zj_c_octet {X : zz_X} {b L : Nat} {xs : Nat → Int32} {i : Nat} {σ : zz_M} {B : Int} {G : zz_J} (hi : i + 6 ≤ L) (hL : L ≤ 3072) (hC : CG σ X.b B G) (hR : RG σ (X.b + 1101) G) (ok : g_ok G) (hB : B ≤ 900000) (kk : ∀ σ' G', CG σ' X.b (B + 3) G' → RG σ' (X.b + 1101) G' → g_ok G' → zj_G X b L xs 1803 i [] σ') : zj_G X b L xs 1424 i [] σ := by
  refine zj_x (by decide +kernel) ?_
  refine zj_arg (q := 1) (j := 1) rfl (by decide +kernel) (by decide +kernel) (by decide +kernel) (by decide +kernel) (by decide +kernel) (by decide) hi hL ?_
  refine zj_cv (n := 2) (idx := 189) (by decide +kernel) (List.mem_of_getElem? (i := 1254) (by decide +kernel)) rfl rfl (t_TQ_octet (b := X.b) (B := B) hC ok) (by decide) (Nat.le_of_ble_eq_true rfl) (Nat.le_of_ble_eq_true rfl) (fun r1 σ1 q1 => ?_)
  obtain ⟨rfl, rfl⟩ := q1
  have hR1 := hR
  have hC1 := hC
  refine zj_m (by decide +kernel) ?_
  refine zj_arg (q := 1) (j := 1) rfl (by decide +kernel) (by decide +kernel) (by decide +kernel) (by decide +kernel) (by decide +kernel) (by decide) hi hL ?_
  refine zj_cv (n := 2) (idx := 192) (by decide +kernel) (List.mem_of_getElem? (i := 1982) (by decide +kernel)) rfl rfl (t_Mo_octet (m := X.b + 1101) hR1 ok) (by decide) (Nat.le_of_ble_eq_true rfl) (Nat.le_of_ble_eq_true rfl) (fun r2 σ2 q2 => ?_)
  obtain ⟨rfl, rfl⟩ := q2
  refine zj_eq (off := 361) (tgt := 1803) (by decide +kernel) (by decide) ?_
  exact kk _ _ (CG.up hC1 (by omega)) hR1 (ok)
theorem zj_c_walk {X : zz_X} {b L : Nat} {xs : Nat → Int32} {i : Nat} {σ : zz_M} {B : Int} {G : zz_J} (hi : i + 6 ≤ L) (hL : L ≤ 3072) (hC : CG σ X.b B G) (hR : RG σ (X.b + 1101) G) (ok : g_ok G) (hB : B ≤ 900000) (kk : ∀ σ' G', CG σ' X.b (B + 3) G' → RG σ' (X.b + 1101) G' → g_ok G' → zj_G X b L xs 1803 i [] σ') : zj_G X b L xs 1447 i [] σ := by
  refine zj_x (by decide +kernel) ?_
  refine zj_arg (q := 1) (j := 1) rfl (by decide +kernel) (by decide +kernel) (by decide +kernel) (by decide +kernel) (by decide +kernel) (by decide) hi hL ?_
  refine zj_cv (n := 2) (idx := 193) (by decide +kernel) (List.mem_of_getElem? (i := 1259) (by decide +kernel)) rfl rfl (t_TQ_walk (b := X.b) (B := B) hC ok) (by decide) (Nat.le_of_ble_eq_true rfl) (Nat.le_of_ble_eq_true rfl) (fun r1 σ1 q1 => ?_)
  obtain ⟨rfl, g1, f1⟩ := q1
  have hR1 := hR.k ok f1
  have hC1 := g1
  refine zj_m (by decide +kernel) ?_
  refine zj_arg (q := 1) (j := 1) rfl (by decide +kernel) (by decide +kernel) (by decide +kernel) (by decide +kernel) (by decide +kernel) (by decide) hi hL ?_
  refine zj_cv (n := 2) (idx := 196) (by decide +kernel) (List.mem_of_getElem? (i := 1986) (by decide +kernel)) rfl rfl (t_Mo_walk (m := X.b + 1101) hR1 ok) (by decide) (Nat.le_of_ble_eq_true rfl) (Nat.le_of_ble_eq_true rfl) (fun r2 σ2 q2 => ?_)
  obtain ⟨rfl, g2, f2⟩ := q2
  refine zj_eq (off := 338) (tgt := 1803) (by decide +kernel) (by decide) ?_
  exact kk _ _ (CG.up (hC1.k f2) (by omega)) g2 (ok_walk ok)
