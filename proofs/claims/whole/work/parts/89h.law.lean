/-! THE LAW'S CASES 22 to 32; printed by program. -/
theorem zj_c_lost {X : zz_X} {b L : Nat} {xs : Nat → Int32} {i : Nat} {σ : zz_M} {B : Int} {G : zz_J} (hi : i + 6 ≤ L) (hL : L ≤ 3072) (hC : CG σ X.b B G) (hR : RG σ (X.b + 1101) G) (ok : g_ok G) (hB : B ≤ 900000) (kk : ∀ σ' G', CG σ' X.b (B + 3) G' → RG σ' (X.b + 1101) G' → g_ok G' → zj_G X b L xs 1803 i [] σ') : zj_G X b L xs 934 i [] σ := by
  refine zj_x (by decide +kernel) ?_
  refine zj_cv (n := 1) (idx := 106) (by decide +kernel) (List.mem_of_getElem? (i := 1080) (by decide +kernel)) rfl rfl (t_TQ_lost (b := X.b) (B := B) hC ok (by omega)) (by decide) (Nat.le_of_ble_eq_true rfl) (Nat.le_of_ble_eq_true rfl) (fun r1 σ1 q1 => ?_)
  obtain ⟨rfl, g1, f1⟩ := q1
  have hR1 := hR.k ok f1
  have hC1 := g1
  refine zj_m (by decide +kernel) ?_
  refine zj_cv (n := 1) (idx := 109) (by decide +kernel) (List.mem_of_getElem? (i := 1795) (by decide +kernel)) rfl rfl (t_Mo_lost (m := X.b + 1101) hR1 ok) (by decide) (Nat.le_of_ble_eq_true rfl) (Nat.le_of_ble_eq_true rfl) (fun r2 σ2 q2 => ?_)
  obtain ⟨rfl, g2, f2⟩ := q2
  refine zj_eq (off := 861) (tgt := 1803) (by decide +kernel) (by decide) ?_
  exact kk _ _ (CG.up (hC1.k f2) (by omega)) g2 (ok)
theorem zj_c_holds {X : zz_X} {b L : Nat} {xs : Nat → Int32} {i : Nat} {σ : zz_M} {B : Int} {G : zz_J} (hi : i + 6 ≤ L) (hL : L ≤ 3072) (hC : CG σ X.b B G) (hR : RG σ (X.b + 1101) G) (ok : g_ok G) (hB : B ≤ 900000) (kk : ∀ σ' G', CG σ' X.b (B + 3) G' → RG σ' (X.b + 1101) G' → g_ok G' → zj_G X b L xs 1803 i [] σ') : zj_G X b L xs 947 i [] σ := by
  refine zj_x (by decide +kernel) ?_
  refine zj_arg (q := 1) (j := 1) rfl (by decide +kernel) (by decide +kernel) (by decide +kernel) (by decide +kernel) (by decide +kernel) (by decide) hi hL ?_
  refine zj_cv (n := 2) (idx := 110) (by decide +kernel) (List.mem_of_getElem? (i := 1095) (by decide +kernel)) rfl rfl (t_TQ_holds (b := X.b) (B := B) hC ok (by omega)) (by decide) (Nat.le_of_ble_eq_true rfl) (Nat.le_of_ble_eq_true rfl) (fun r1 σ1 q1 => ?_)
  obtain ⟨rfl, g1, f1⟩ := q1
  have hR1 := hR.k ok f1
  have hC1 := g1
  refine zj_m (by decide +kernel) ?_
  refine zj_arg (q := 1) (j := 1) rfl (by decide +kernel) (by decide +kernel) (by decide +kernel) (by decide +kernel) (by decide +kernel) (by decide) hi hL ?_
  refine zj_cv (n := 2) (idx := 113) (by decide +kernel) (List.mem_of_getElem? (i := 1820) (by decide +kernel)) rfl rfl (t_Mo_holds (m := X.b + 1101) hR1 ok) (by decide) (Nat.le_of_ble_eq_true rfl) (Nat.le_of_ble_eq_true rfl) (fun r2 σ2 q2 => ?_)
  obtain ⟨rfl, g2, f2⟩ := q2
  refine zj_eq (off := 838) (tgt := 1803) (by decide +kernel) (by decide) ?_
  exact kk _ _ (CG.up (hC1.k f2) (by omega)) g2 (ok)
theorem zj_c_shares {X : zz_X} {b L : Nat} {xs : Nat → Int32} {i : Nat} {σ : zz_M} {B : Int} {G : zz_J} (hi : i + 6 ≤ L) (hL : L ≤ 3072) (hC : CG σ X.b B G) (hR : RG σ (X.b + 1101) G) (ok : g_ok G) (hB : B ≤ 900000) (kk : ∀ σ' G', CG σ' X.b (B + 3) G' → RG σ' (X.b + 1101) G' → g_ok G' → zj_G X b L xs 1803 i [] σ') : zj_G X b L xs 970 i [] σ := by
  refine zj_x (by decide +kernel) ?_
  refine zj_arg (q := 1) (j := 1) rfl (by decide +kernel) (by decide +kernel) (by decide +kernel) (by decide +kernel) (by decide +kernel) (by decide) hi hL ?_
  refine zj_arg (q := 2) (j := 2) rfl (by decide +kernel) (by decide +kernel) (by decide +kernel) (by decide +kernel) (by decide +kernel) (by decide) hi hL ?_
  refine zj_cv (n := 3) (idx := 114) (by decide +kernel) (List.mem_of_getElem? (i := 1099) (by decide +kernel)) rfl rfl (t_TQ_shares (b := X.b) (B := B) hC ok (by omega)) (by decide) (Nat.le_of_ble_eq_true rfl) (Nat.le_of_ble_eq_true rfl) (fun r1 σ1 q1 => ?_)
  obtain ⟨rfl, g1, f1⟩ := q1
  have hR1 := hR.k ok f1
  have hC1 := g1
  refine zj_m (by decide +kernel) ?_
  refine zj_arg (q := 1) (j := 1) rfl (by decide +kernel) (by decide +kernel) (by decide +kernel) (by decide +kernel) (by decide +kernel) (by decide) hi hL ?_
  refine zj_arg (q := 2) (j := 2) rfl (by decide +kernel) (by decide +kernel) (by decide +kernel) (by decide +kernel) (by decide +kernel) (by decide) hi hL ?_
  refine zj_cv (n := 3) (idx := 117) (by decide +kernel) (List.mem_of_getElem? (i := 1824) (by decide +kernel)) rfl rfl (t_Mo_shares (m := X.b + 1101) hR1 ok) (by decide) (Nat.le_of_ble_eq_true rfl) (Nat.le_of_ble_eq_true rfl) (fun r2 σ2 q2 => ?_)
  obtain ⟨rfl, g2, f2⟩ := q2
  refine zj_eq (off := 805) (tgt := 1803) (by decide +kernel) (by decide) ?_
  exact kk _ _ (CG.up (hC1.k f2) (by omega)) g2 (ok)
theorem zj_c_held {X : zz_X} {b L : Nat} {xs : Nat → Int32} {i : Nat} {σ : zz_M} {B : Int} {G : zz_J} (hi : i + 6 ≤ L) (hL : L ≤ 3072) (hC : CG σ X.b B G) (hR : RG σ (X.b + 1101) G) (ok : g_ok G) (hB : B ≤ 900000) (kk : ∀ σ' G', CG σ' X.b (B + 3) G' → RG σ' (X.b + 1101) G' → g_ok G' → zj_G X b L xs 1803 i [] σ') : zj_G X b L xs 1003 i [] σ := by
  refine zj_x (by decide +kernel) ?_
  refine zj_arg (q := 1) (j := 1) rfl (by decide +kernel) (by decide +kernel) (by decide +kernel) (by decide +kernel) (by decide +kernel) (by decide) hi hL ?_
  refine zj_l1 (by decide +kernel) (by decide +kernel) (by decide +kernel) ?_
  refine zj_arg (q := 2) (j := 2) rfl (by decide +kernel) (by decide +kernel) (by decide +kernel) (by decide +kernel) (by decide +kernel) (by decide) hi hL ?_
  refine zj_l2 (idx := 118) (by decide +kernel) (by decide +kernel) (List.mem_of_getElem? (i := 2039) (by decide +kernel)) (by decide +kernel) (by decide +kernel) ?_
  refine zj_cv (n := 2) (idx := 120) (by decide +kernel) (List.mem_of_getElem? (i := 1104) (by decide +kernel)) rfl rfl (t_TQ_held (b := X.b) (B := B) hC ok (by omega) (zz_i64 _)) (by decide) (Nat.le_of_ble_eq_true rfl) (Nat.le_of_ble_eq_true rfl) (fun r1 σ1 q1 => ?_)
  obtain ⟨rfl, g1, f1⟩ := q1
  have hR1 := hR.k ok f1
  have hC1 := g1
  refine zj_m (by decide +kernel) ?_
  refine zj_arg (q := 1) (j := 1) rfl (by decide +kernel) (by decide +kernel) (by decide +kernel) (by decide +kernel) (by decide +kernel) (by decide) hi hL ?_
  refine zj_l1 (by decide +kernel) (by decide +kernel) (by decide +kernel) ?_
  refine zj_arg (q := 2) (j := 2) rfl (by decide +kernel) (by decide +kernel) (by decide +kernel) (by decide +kernel) (by decide +kernel) (by decide) hi hL ?_
  refine zj_l2 (idx := 118) (by decide +kernel) (by decide +kernel) (List.mem_of_getElem? (i := 2039) (by decide +kernel)) (by decide +kernel) (by decide +kernel) ?_
  refine zj_cv (n := 2) (idx := 124) (by decide +kernel) (List.mem_of_getElem? (i := 1828) (by decide +kernel)) rfl rfl (t_Mo_held (m := X.b + 1101) hR1 ok (zz_i64 _)) (by decide) (Nat.le_of_ble_eq_true rfl) (Nat.le_of_ble_eq_true rfl) (fun r2 σ2 q2 => ?_)
  obtain ⟨rfl, g2, f2⟩ := q2
  refine zj_eq (off := 752) (tgt := 1803) (by decide +kernel) (by decide) ?_
  exact kk _ _ (CG.up (hC1.k f2) (by omega)) g2 (ok)
theorem zj_c_made {X : zz_X} {b L : Nat} {xs : Nat → Int32} {i : Nat} {σ : zz_M} {B : Int} {G : zz_J} (hi : i + 6 ≤ L) (hL : L ≤ 3072) (hC : CG σ X.b B G) (hR : RG σ (X.b + 1101) G) (ok : g_ok G) (hB : B ≤ 900000) (kk : ∀ σ' G', CG σ' X.b (B + 3) G' → RG σ' (X.b + 1101) G' → g_ok G' → zj_G X b L xs 1803 i [] σ') : zj_G X b L xs 1056 i [] σ := by
  refine zj_x (by decide +kernel) ?_
  refine zj_cv (n := 1) (idx := 125) (by decide +kernel) (List.mem_of_getElem? (i := 1109) (by decide +kernel)) rfl rfl (t_TQ_made (b := X.b) (B := B) hC ok) (by decide) (Nat.le_of_ble_eq_true rfl) (Nat.le_of_ble_eq_true rfl) (fun r1 σ1 q1 => ?_)
  obtain ⟨rfl, rfl⟩ := q1
  have hR1 := hR
  have hC1 := hC
  refine zj_m (by decide +kernel) ?_
  refine zj_cv (n := 1) (idx := 128) (by decide +kernel) (List.mem_of_getElem? (i := 1829) (by decide +kernel)) rfl rfl (t_Mo_made (m := X.b + 1101) hR1 ok) (by decide) (Nat.le_of_ble_eq_true rfl) (Nat.le_of_ble_eq_true rfl) (fun r2 σ2 q2 => ?_)
  obtain ⟨rfl, rfl⟩ := q2
  refine zj_eq (off := 739) (tgt := 1803) (by decide +kernel) (by decide) ?_
  exact kk _ _ (CG.up hC1 (by omega)) hR1 (ok)
theorem zj_c_spent {X : zz_X} {b L : Nat} {xs : Nat → Int32} {i : Nat} {σ : zz_M} {B : Int} {G : zz_J} (hi : i + 6 ≤ L) (hL : L ≤ 3072) (hC : CG σ X.b B G) (hR : RG σ (X.b + 1101) G) (ok : g_ok G) (hB : B ≤ 900000) (kk : ∀ σ' G', CG σ' X.b (B + 3) G' → RG σ' (X.b + 1101) G' → g_ok G' → zj_G X b L xs 1803 i [] σ') : zj_G X b L xs 1069 i [] σ := by
  refine zj_x (by decide +kernel) ?_
  refine zj_arg (q := 1) (j := 1) rfl (by decide +kernel) (by decide +kernel) (by decide +kernel) (by decide +kernel) (by decide +kernel) (by decide) hi hL ?_
  refine zj_cv (n := 2) (idx := 129) (by decide +kernel) (List.mem_of_getElem? (i := 1113) (by decide +kernel)) rfl rfl (t_TQ_spent (b := X.b) (B := B) hC ok) (by decide) (Nat.le_of_ble_eq_true rfl) (Nat.le_of_ble_eq_true rfl) (fun r1 σ1 q1 => ?_)
  obtain ⟨rfl, rfl⟩ := q1
  have hR1 := hR
  have hC1 := hC
  refine zj_m (by decide +kernel) ?_
  refine zj_arg (q := 1) (j := 1) rfl (by decide +kernel) (by decide +kernel) (by decide +kernel) (by decide +kernel) (by decide +kernel) (by decide) hi hL ?_
  refine zj_cv (n := 2) (idx := 132) (by decide +kernel) (List.mem_of_getElem? (i := 1833) (by decide +kernel)) rfl rfl (t_Mo_spent (m := X.b + 1101) hR1 ok) (by decide) (Nat.le_of_ble_eq_true rfl) (Nat.le_of_ble_eq_true rfl) (fun r2 σ2 q2 => ?_)
  obtain ⟨rfl, rfl⟩ := q2
  refine zj_eq (off := 716) (tgt := 1803) (by decide +kernel) (by decide) ?_
  exact kk _ _ (CG.up hC1 (by omega)) hR1 (ok)
theorem zj_c_ledger {X : zz_X} {b L : Nat} {xs : Nat → Int32} {i : Nat} {σ : zz_M} {B : Int} {G : zz_J} (hi : i + 6 ≤ L) (hL : L ≤ 3072) (hC : CG σ X.b B G) (hR : RG σ (X.b + 1101) G) (ok : g_ok G) (hB : B ≤ 900000) (kk : ∀ σ' G', CG σ' X.b (B + 3) G' → RG σ' (X.b + 1101) G' → g_ok G' → zj_G X b L xs 1803 i [] σ') : zj_G X b L xs 1092 i [] σ := by
  refine zj_x (by decide +kernel) ?_
  refine zj_cv (n := 1) (idx := 133) (by decide +kernel) (List.mem_of_getElem? (i := 1118) (by decide +kernel)) rfl rfl (t_TQ_ledger (b := X.b) (B := B) hC ok) (by decide) (Nat.le_of_ble_eq_true rfl) (Nat.le_of_ble_eq_true rfl) (fun r1 σ1 q1 => ?_)
  obtain ⟨rfl, rfl⟩ := q1
  have hR1 := hR
  have hC1 := hC
  refine zj_m (by decide +kernel) ?_
  refine zj_cv (n := 1) (idx := 136) (by decide +kernel) (List.mem_of_getElem? (i := 1837) (by decide +kernel)) rfl rfl (t_Mo_ledger (m := X.b + 1101) hR1 ok) (by decide) (Nat.le_of_ble_eq_true rfl) (Nat.le_of_ble_eq_true rfl) (fun r2 σ2 q2 => ?_)
  obtain ⟨rfl, rfl⟩ := q2
  refine zj_eq (off := 703) (tgt := 1803) (by decide +kernel) (by decide) ?_
  exact kk _ _ (CG.up hC1 (by omega)) hR1 (ok)
theorem zj_c_dearest {X : zz_X} {b L : Nat} {xs : Nat → Int32} {i : Nat} {σ : zz_M} {B : Int} {G : zz_J} (hi : i + 6 ≤ L) (hL : L ≤ 3072) (hC : CG σ X.b B G) (hR : RG σ (X.b + 1101) G) (ok : g_ok G) (hB : B ≤ 900000) (kk : ∀ σ' G', CG σ' X.b (B + 3) G' → RG σ' (X.b + 1101) G' → g_ok G' → zj_G X b L xs 1803 i [] σ') : zj_G X b L xs 1105 i [] σ := by
  refine zj_x (by decide +kernel) ?_
  refine zj_cv (n := 1) (idx := 137) (by decide +kernel) (List.mem_of_getElem? (i := 1126) (by decide +kernel)) rfl rfl (t_TQ_dearest (b := X.b) (B := B) hC ok) (by decide) (Nat.le_of_ble_eq_true rfl) (Nat.le_of_ble_eq_true rfl) (fun r1 σ1 q1 => ?_)
  obtain ⟨rfl, rfl⟩ := q1
  have hR1 := hR
  have hC1 := hC
  refine zj_m (by decide +kernel) ?_
  refine zj_cv (n := 1) (idx := 140) (by decide +kernel) (List.mem_of_getElem? (i := 1841) (by decide +kernel)) rfl rfl (t_Mo_dearest (m := X.b + 1101) hR1 ok) (by decide) (Nat.le_of_ble_eq_true rfl) (Nat.le_of_ble_eq_true rfl) (fun r2 σ2 q2 => ?_)
  obtain ⟨rfl, rfl⟩ := q2
  refine zj_eq (off := 690) (tgt := 1803) (by decide +kernel) (by decide) ?_
  exact kk _ _ (CG.up hC1 (by omega)) hR1 (ok)
theorem zj_c_overdue {X : zz_X} {b L : Nat} {xs : Nat → Int32} {i : Nat} {σ : zz_M} {B : Int} {G : zz_J} (hi : i + 6 ≤ L) (hL : L ≤ 3072) (hC : CG σ X.b B G) (hR : RG σ (X.b + 1101) G) (ok : g_ok G) (hB : B ≤ 900000) (kk : ∀ σ' G', CG σ' X.b (B + 3) G' → RG σ' (X.b + 1101) G' → g_ok G' → zj_G X b L xs 1803 i [] σ') : zj_G X b L xs 1118 i [] σ := by
  refine zj_x (by decide +kernel) ?_
  refine zj_cv (n := 1) (idx := 141) (by decide +kernel) (List.mem_of_getElem? (i := 1134) (by decide +kernel)) rfl rfl (t_TQ_overdue (b := X.b) (B := B) hC ok) (by decide) (Nat.le_of_ble_eq_true rfl) (Nat.le_of_ble_eq_true rfl) (fun r1 σ1 q1 => ?_)
  obtain ⟨rfl, rfl⟩ := q1
  have hR1 := hR
  have hC1 := hC
  refine zj_m (by decide +kernel) ?_
  refine zj_cv (n := 1) (idx := 144) (by decide +kernel) (List.mem_of_getElem? (i := 1845) (by decide +kernel)) rfl rfl (t_Mo_overdue (m := X.b + 1101) hR1 ok) (by decide) (Nat.le_of_ble_eq_true rfl) (Nat.le_of_ble_eq_true rfl) (fun r2 σ2 q2 => ?_)
  obtain ⟨rfl, rfl⟩ := q2
  refine zj_eq (off := 677) (tgt := 1803) (by decide +kernel) (by decide) ?_
  exact kk _ _ (CG.up hC1 (by omega)) hR1 (ok)
theorem zj_c_by {X : zz_X} {b L : Nat} {xs : Nat → Int32} {i : Nat} {σ : zz_M} {B : Int} {G : zz_J} (hi : i + 6 ≤ L) (hL : L ≤ 3072) (hC : CG σ X.b B G) (hR : RG σ (X.b + 1101) G) (ok : g_ok G) (hB : B ≤ 900000) (kk : ∀ σ' G', CG σ' X.b (B + 3) G' → RG σ' (X.b + 1101) G' → g_ok G' → zj_G X b L xs 1803 i [] σ') : zj_G X b L xs 1131 i [] σ := by
  refine zj_x (by decide +kernel) ?_
  refine zj_arg (q := 1) (j := 1) rfl (by decide +kernel) (by decide +kernel) (by decide +kernel) (by decide +kernel) (by decide +kernel) (by decide) hi hL ?_
  refine zj_cv (n := 2) (idx := 145) (by decide +kernel) (List.mem_of_getElem? (i := 1142) (by decide +kernel)) rfl rfl (t_TQ_by (b := X.b) (B := B) hC ok) (by decide) (Nat.le_of_ble_eq_true rfl) (Nat.le_of_ble_eq_true rfl) (fun r1 σ1 q1 => ?_)
  obtain ⟨rfl, g1, f1⟩ := q1
  have hR1 := hR.k ok f1
  have hC1 := g1
  refine zj_m (by decide +kernel) ?_
  refine zj_arg (q := 1) (j := 1) rfl (by decide +kernel) (by decide +kernel) (by decide +kernel) (by decide +kernel) (by decide +kernel) (by decide) hi hL ?_
  refine zj_cv (n := 2) (idx := 148) (by decide +kernel) (List.mem_of_getElem? (i := 1849) (by decide +kernel)) rfl rfl (t_Mo_by (m := X.b + 1101) hR1 ok) (by decide) (Nat.le_of_ble_eq_true rfl) (Nat.le_of_ble_eq_true rfl) (fun r2 σ2 q2 => ?_)
  obtain ⟨rfl, g2, f2⟩ := q2
  refine zj_eq (off := 654) (tgt := 1803) (by decide +kernel) (by decide) ?_
  exact kk _ _ (CG.up (hC1.k f2) (by omega)) g2 (ok)
theorem zj_c_peak {X : zz_X} {b L : Nat} {xs : Nat → Int32} {i : Nat} {σ : zz_M} {B : Int} {G : zz_J} (hi : i + 6 ≤ L) (hL : L ≤ 3072) (hC : CG σ X.b B G) (hR : RG σ (X.b + 1101) G) (ok : g_ok G) (hB : B ≤ 900000) (kk : ∀ σ' G', CG σ' X.b (B + 3) G' → RG σ' (X.b + 1101) G' → g_ok G' → zj_G X b L xs 1803 i [] σ') : zj_G X b L xs 1154 i [] σ := by
  refine zj_x (by decide +kernel) ?_
  refine zj_arg (q := 1) (j := 1) rfl (by decide +kernel) (by decide +kernel) (by decide +kernel) (by decide +kernel) (by decide +kernel) (by decide) hi hL ?_
  refine zj_cv (n := 2) (idx := 149) (by decide +kernel) (List.mem_of_getElem? (i := 1160) (by decide +kernel)) rfl rfl (t_TQ_peak (b := X.b) (B := B) hC ok) (by decide) (Nat.le_of_ble_eq_true rfl) (Nat.le_of_ble_eq_true rfl) (fun r1 σ1 q1 => ?_)
  obtain ⟨rfl, g1, f1⟩ := q1
  have hR1 := hR.k ok f1
  have hC1 := g1
  refine zj_m (by decide +kernel) ?_
  refine zj_arg (q := 1) (j := 1) rfl (by decide +kernel) (by decide +kernel) (by decide +kernel) (by decide +kernel) (by decide +kernel) (by decide) hi hL ?_
  refine zj_cv (n := 2) (idx := 152) (by decide +kernel) (List.mem_of_getElem? (i := 1865) (by decide +kernel)) rfl rfl (t_Mo_peak (m := X.b + 1101) hR1 ok) (by decide) (Nat.le_of_ble_eq_true rfl) (Nat.le_of_ble_eq_true rfl) (fun r2 σ2 q2 => ?_)
  obtain ⟨rfl, g2, f2⟩ := q2
  refine zj_eq (off := 631) (tgt := 1803) (by decide +kernel) (by decide) ?_
  exact kk _ _ (CG.up (hC1.k f2) (by omega)) g2 (ok)
