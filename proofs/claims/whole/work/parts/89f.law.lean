/-! THE LAW'S CASES 0 to 10; printed by program. -/
theorem zj_c_feed {X : zz_X} {b L : Nat} {xs : Nat → Int32} {i : Nat} {σ : zz_M} {B : Int} {G : zz_J} (hi : i + 6 ≤ L) (hL : L ≤ 3072) (hC : CG σ X.b B G) (hR : RG σ (X.b + 1101) G) (ok : g_ok G) (hB : B ≤ 900000) (kk : ∀ σ' G', CG σ' X.b (B + 3) G' → RG σ' (X.b + 1101) G' → g_ok G' → zj_G X b L xs 1803 i [] σ') : zj_G X b L xs 268 i [] σ := by
  refine zj_x (by decide +kernel) ?_
  refine zj_arg (q := 1) (j := 1) rfl (by decide +kernel) (by decide +kernel) (by decide +kernel) (by decide +kernel) (by decide +kernel) (by decide) hi hL ?_
  refine zj_arg (q := 2) (j := 2) rfl (by decide +kernel) (by decide +kernel) (by decide +kernel) (by decide +kernel) (by decide +kernel) (by decide) hi hL ?_
  refine zj_arg (q := 3) (j := 3) rfl (by decide +kernel) (by decide +kernel) (by decide +kernel) (by decide +kernel) (by decide +kernel) (by decide) hi hL ?_
  refine zj_arg (q := 4) (j := 4) rfl (by decide +kernel) (by decide +kernel) (by decide +kernel) (by decide +kernel) (by decide +kernel) (by decide) hi hL ?_
  refine zj_arg (q := 5) (j := 5) rfl (by decide +kernel) (by decide +kernel) (by decide +kernel) (by decide +kernel) (by decide +kernel) (by decide) hi hL ?_
  refine zj_cv (n := 6) (idx := 13) (by decide +kernel) (List.mem_of_getElem? (i := 567) (by decide +kernel)) rfl rfl (t_TQ_feed (b := X.b) (B := B) hC ok) (by decide) (Nat.le_of_ble_eq_true rfl) (Nat.le_of_ble_eq_true rfl) (fun r1 σ1 q1 => ?_)
  obtain ⟨rfl, g1, f1⟩ := q1
  have hR1 := hR.k ok f1
  have hC1 := g1
  refine zj_m (by decide +kernel) ?_
  refine zj_arg (q := 1) (j := 1) rfl (by decide +kernel) (by decide +kernel) (by decide +kernel) (by decide +kernel) (by decide +kernel) (by decide) hi hL ?_
  refine zj_arg (q := 2) (j := 2) rfl (by decide +kernel) (by decide +kernel) (by decide +kernel) (by decide +kernel) (by decide +kernel) (by decide) hi hL ?_
  refine zj_arg (q := 3) (j := 3) rfl (by decide +kernel) (by decide +kernel) (by decide +kernel) (by decide +kernel) (by decide +kernel) (by decide) hi hL ?_
  refine zj_arg (q := 4) (j := 4) rfl (by decide +kernel) (by decide +kernel) (by decide +kernel) (by decide +kernel) (by decide +kernel) (by decide) hi hL ?_
  refine zj_arg (q := 5) (j := 5) rfl (by decide +kernel) (by decide +kernel) (by decide +kernel) (by decide +kernel) (by decide +kernel) (by decide) hi hL ?_
  refine zj_cv (n := 6) (idx := 17) (by decide +kernel) (List.mem_of_getElem? (i := 1533) (by decide +kernel)) rfl rfl (t_Mo_feed (m := X.b + 1101) hR1 ok) (by decide) (Nat.le_of_ble_eq_true rfl) (Nat.le_of_ble_eq_true rfl) (fun r2 σ2 q2 => ?_)
  obtain ⟨rfl, g2, f2⟩ := q2
  refine zj_eq (off := 1477) (tgt := 1803) (by decide +kernel) (by decide) ?_
  exact kk _ _ (CG.up (hC1.k f2) (by omega)) g2 (ok_feed ok)
theorem zj_c_end {X : zz_X} {b L : Nat} {xs : Nat → Int32} {i : Nat} {σ : zz_M} {B : Int} {G : zz_J} (hi : i + 6 ≤ L) (hL : L ≤ 3072) (hC : CG σ X.b B G) (hR : RG σ (X.b + 1101) G) (ok : g_ok G) (hB : B ≤ 900000) (kk : ∀ σ' G', CG σ' X.b (B + 3) G' → RG σ' (X.b + 1101) G' → g_ok G' → zj_G X b L xs 1803 i [] σ') : zj_G X b L xs 331 i [] σ := by
  refine zj_x (by decide +kernel) ?_
  refine zj_arg (q := 1) (j := 1) rfl (by decide +kernel) (by decide +kernel) (by decide +kernel) (by decide +kernel) (by decide +kernel) (by decide) hi hL ?_
  refine zj_cv (n := 2) (idx := 18) (by decide +kernel) (List.mem_of_getElem? (i := 579) (by decide +kernel)) rfl rfl (t_TQ_end (b := X.b) (B := B) hC ok) (by decide) (Nat.le_of_ble_eq_true rfl) (Nat.le_of_ble_eq_true rfl) (fun r1 σ1 q1 => ?_)
  obtain ⟨rfl, g1, f1⟩ := q1
  have hR1 := hR.k ok f1
  have hC1 := g1
  refine zj_m (by decide +kernel) ?_
  refine zj_arg (q := 1) (j := 1) rfl (by decide +kernel) (by decide +kernel) (by decide +kernel) (by decide +kernel) (by decide +kernel) (by decide) hi hL ?_
  refine zj_cv (n := 2) (idx := 22) (by decide +kernel) (List.mem_of_getElem? (i := 1537) (by decide +kernel)) rfl rfl (t_Mo_end (m := X.b + 1101) hR1 ok) (by decide) (Nat.le_of_ble_eq_true rfl) (Nat.le_of_ble_eq_true rfl) (fun r2 σ2 q2 => ?_)
  obtain ⟨rfl, g2, f2⟩ := q2
  refine zj_eq (off := 1454) (tgt := 1803) (by decide +kernel) (by decide) ?_
  exact kk _ _ (CG.up (hC1.k f2) (by omega)) g2 (ok_end ok)
theorem zj_c_house {X : zz_X} {b L : Nat} {xs : Nat → Int32} {i : Nat} {σ : zz_M} {B : Int} {G : zz_J} (hi : i + 6 ≤ L) (hL : L ≤ 3072) (hC : CG σ X.b B G) (hR : RG σ (X.b + 1101) G) (ok : g_ok G) (hB : B ≤ 900000) (kk : ∀ σ' G', CG σ' X.b (B + 3) G' → RG σ' (X.b + 1101) G' → g_ok G' → zj_G X b L xs 1803 i [] σ') : zj_G X b L xs 354 i [] σ := by
  refine zj_x (by decide +kernel) ?_
  refine zj_cv (n := 1) (idx := 23) (by decide +kernel) (List.mem_of_getElem? (i := 583) (by decide +kernel)) rfl rfl (t_TQ_house (b := X.b) (B := B) hC ok) (by decide) (Nat.le_of_ble_eq_true rfl) (Nat.le_of_ble_eq_true rfl) (fun r1 σ1 q1 => ?_)
  obtain ⟨rfl, g1, f1⟩ := q1
  have hR1 := hR.k ok f1
  have hC1 := g1
  refine zj_m (by decide +kernel) ?_
  refine zj_cv (n := 1) (idx := 27) (by decide +kernel) (List.mem_of_getElem? (i := 1548) (by decide +kernel)) rfl rfl (t_Mo_house (m := X.b + 1101) hR1 ok) (by decide) (Nat.le_of_ble_eq_true rfl) (Nat.le_of_ble_eq_true rfl) (fun r2 σ2 q2 => ?_)
  obtain ⟨rfl, g2, f2⟩ := q2
  refine zj_eq (off := 1441) (tgt := 1803) (by decide +kernel) (by decide) ?_
  exact kk _ _ (CG.up (hC1.k f2) (by omega)) g2 (ok_house ok)
theorem zj_c_fault {X : zz_X} {b L : Nat} {xs : Nat → Int32} {i : Nat} {σ : zz_M} {B : Int} {G : zz_J} (hi : i + 6 ≤ L) (hL : L ≤ 3072) (hC : CG σ X.b B G) (hR : RG σ (X.b + 1101) G) (ok : g_ok G) (hB : B ≤ 900000) (kk : ∀ σ' G', CG σ' X.b (B + 3) G' → RG σ' (X.b + 1101) G' → g_ok G' → zj_G X b L xs 1803 i [] σ') : zj_G X b L xs 367 i [] σ := by
  refine zj_x (by decide +kernel) ?_
  refine zj_arg (q := 1) (j := 1) rfl (by decide +kernel) (by decide +kernel) (by decide +kernel) (by decide +kernel) (by decide +kernel) (by decide) hi hL ?_
  refine zj_cv (n := 2) (idx := 28) (by decide +kernel) (List.mem_of_getElem? (i := 866) (by decide +kernel)) rfl rfl (t_TQ_fault (b := X.b) (B := B) hC ok) (by decide) (Nat.le_of_ble_eq_true rfl) (Nat.le_of_ble_eq_true rfl) (fun r1 σ1 q1 => ?_)
  obtain ⟨rfl, rfl⟩ := q1
  have hR1 := hR
  have hC1 := hC
  refine zj_m (by decide +kernel) ?_
  refine zj_arg (q := 1) (j := 1) rfl (by decide +kernel) (by decide +kernel) (by decide +kernel) (by decide +kernel) (by decide +kernel) (by decide) hi hL ?_
  refine zj_cv (n := 2) (idx := 31) (by decide +kernel) (List.mem_of_getElem? (i := 1544) (by decide +kernel)) rfl rfl (t_Mo_fault (m := X.b + 1101) hR1 ok) (by decide) (Nat.le_of_ble_eq_true rfl) (Nat.le_of_ble_eq_true rfl) (fun r2 σ2 q2 => ?_)
  obtain ⟨rfl, rfl⟩ := q2
  refine zj_eq (off := 1418) (tgt := 1803) (by decide +kernel) (by decide) ?_
  exact kk _ _ (CG.up hC1 (by omega)) hR1 (ok)
theorem zj_c_count {X : zz_X} {b L : Nat} {xs : Nat → Int32} {i : Nat} {σ : zz_M} {B : Int} {G : zz_J} (hi : i + 6 ≤ L) (hL : L ≤ 3072) (hC : CG σ X.b B G) (hR : RG σ (X.b + 1101) G) (ok : g_ok G) (hB : B ≤ 900000) (kk : ∀ σ' G', CG σ' X.b (B + 3) G' → RG σ' (X.b + 1101) G' → g_ok G' → zj_G X b L xs 1803 i [] σ') : zj_G X b L xs 390 i [] σ := by
  refine zj_x (by decide +kernel) ?_
  refine zj_arg (q := 1) (j := 1) rfl (by decide +kernel) (by decide +kernel) (by decide +kernel) (by decide +kernel) (by decide +kernel) (by decide) hi hL ?_
  refine zj_cv (n := 2) (idx := 32) (by decide +kernel) (List.mem_of_getElem? (i := 870) (by decide +kernel)) rfl rfl (t_TQ_count (b := X.b) (B := B) hC ok) (by decide) (Nat.le_of_ble_eq_true rfl) (Nat.le_of_ble_eq_true rfl) (fun r1 σ1 q1 => ?_)
  obtain ⟨rfl, rfl⟩ := q1
  have hR1 := hR
  have hC1 := hC
  refine zj_m (by decide +kernel) ?_
  refine zj_arg (q := 1) (j := 1) rfl (by decide +kernel) (by decide +kernel) (by decide +kernel) (by decide +kernel) (by decide +kernel) (by decide) hi hL ?_
  refine zj_cv (n := 2) (idx := 35) (by decide +kernel) (List.mem_of_getElem? (i := 1687) (by decide +kernel)) rfl rfl (t_Mo_count (m := X.b + 1101) hR1 ok) (by decide) (Nat.le_of_ble_eq_true rfl) (Nat.le_of_ble_eq_true rfl) (fun r2 σ2 q2 => ?_)
  obtain ⟨rfl, rfl⟩ := q2
  refine zj_eq (off := 1395) (tgt := 1803) (by decide +kernel) (by decide) ?_
  exact kk _ _ (CG.up hC1 (by omega)) hR1 (ok)
theorem zj_c_version {X : zz_X} {b L : Nat} {xs : Nat → Int32} {i : Nat} {σ : zz_M} {B : Int} {G : zz_J} (hi : i + 6 ≤ L) (hL : L ≤ 3072) (hC : CG σ X.b B G) (hR : RG σ (X.b + 1101) G) (ok : g_ok G) (hB : B ≤ 900000) (kk : ∀ σ' G', CG σ' X.b (B + 3) G' → RG σ' (X.b + 1101) G' → g_ok G' → zj_G X b L xs 1803 i [] σ') : zj_G X b L xs 413 i [] σ := by
  refine zj_x (by decide +kernel) ?_
  refine zj_arg (q := 1) (j := 1) rfl (by decide +kernel) (by decide +kernel) (by decide +kernel) (by decide +kernel) (by decide +kernel) (by decide) hi hL ?_
  refine zj_arg (q := 2) (j := 2) rfl (by decide +kernel) (by decide +kernel) (by decide +kernel) (by decide +kernel) (by decide +kernel) (by decide) hi hL ?_
  refine zj_cv (n := 3) (idx := 36) (by decide +kernel) (List.mem_of_getElem? (i := 879) (by decide +kernel)) rfl rfl (t_TQ_version (b := X.b) (B := B) hC ok) (by decide) (Nat.le_of_ble_eq_true rfl) (Nat.le_of_ble_eq_true rfl) (fun r1 σ1 q1 => ?_)
  obtain ⟨rfl, rfl⟩ := q1
  have hR1 := hR
  have hC1 := hC
  refine zj_m (by decide +kernel) ?_
  refine zj_arg (q := 1) (j := 1) rfl (by decide +kernel) (by decide +kernel) (by decide +kernel) (by decide +kernel) (by decide +kernel) (by decide) hi hL ?_
  refine zj_arg (q := 2) (j := 2) rfl (by decide +kernel) (by decide +kernel) (by decide +kernel) (by decide +kernel) (by decide +kernel) (by decide) hi hL ?_
  refine zj_cv (n := 3) (idx := 40) (by decide +kernel) (List.mem_of_getElem? (i := 1700) (by decide +kernel)) rfl rfl (t_Mo_version (m := X.b + 1101) hR1 ok) (by decide) (Nat.le_of_ble_eq_true rfl) (Nat.le_of_ble_eq_true rfl) (fun r2 σ2 q2 => ?_)
  obtain ⟨rfl, rfl⟩ := q2
  refine zj_eq (off := 1362) (tgt := 1803) (by decide +kernel) (by decide) ?_
  exact kk _ _ (CG.up hC1 (by omega)) hR1 (ok)
theorem zj_c_size {X : zz_X} {b L : Nat} {xs : Nat → Int32} {i : Nat} {σ : zz_M} {B : Int} {G : zz_J} (hi : i + 6 ≤ L) (hL : L ≤ 3072) (hC : CG σ X.b B G) (hR : RG σ (X.b + 1101) G) (ok : g_ok G) (hB : B ≤ 900000) (kk : ∀ σ' G', CG σ' X.b (B + 3) G' → RG σ' (X.b + 1101) G' → g_ok G' → zj_G X b L xs 1803 i [] σ') : zj_G X b L xs 446 i [] σ := by
  refine zj_x (by decide +kernel) ?_
  refine zj_arg (q := 1) (j := 1) rfl (by decide +kernel) (by decide +kernel) (by decide +kernel) (by decide +kernel) (by decide +kernel) (by decide) hi hL ?_
  refine zj_cv (n := 2) (idx := 41) (by decide +kernel) (List.mem_of_getElem? (i := 885) (by decide +kernel)) rfl rfl (t_TQ_size (b := X.b) (B := B) hC ok) (by decide) (Nat.le_of_ble_eq_true rfl) (Nat.le_of_ble_eq_true rfl) (fun r1 σ1 q1 => ?_)
  obtain ⟨rfl, rfl⟩ := q1
  have hR1 := hR
  have hC1 := hC
  refine zj_m (by decide +kernel) ?_
  refine zj_arg (q := 1) (j := 1) rfl (by decide +kernel) (by decide +kernel) (by decide +kernel) (by decide +kernel) (by decide +kernel) (by decide) hi hL ?_
  refine zj_cv (n := 2) (idx := 44) (by decide +kernel) (List.mem_of_getElem? (i := 1709) (by decide +kernel)) rfl rfl (t_Mo_size (m := X.b + 1101) hR1 ok) (by decide) (Nat.le_of_ble_eq_true rfl) (Nat.le_of_ble_eq_true rfl) (fun r2 σ2 q2 => ?_)
  obtain ⟨rfl, rfl⟩ := q2
  refine zj_eq (off := 1339) (tgt := 1803) (by decide +kernel) (by decide) ?_
  exact kk _ _ (CG.up hC1 (by omega)) hR1 (ok)
theorem zj_c_at {X : zz_X} {b L : Nat} {xs : Nat → Int32} {i : Nat} {σ : zz_M} {B : Int} {G : zz_J} (hi : i + 6 ≤ L) (hL : L ≤ 3072) (hC : CG σ X.b B G) (hR : RG σ (X.b + 1101) G) (ok : g_ok G) (hB : B ≤ 900000) (kk : ∀ σ' G', CG σ' X.b (B + 3) G' → RG σ' (X.b + 1101) G' → g_ok G' → zj_G X b L xs 1803 i [] σ') : zj_G X b L xs 469 i [] σ := by
  refine zj_x (by decide +kernel) ?_
  refine zj_arg (q := 1) (j := 1) rfl (by decide +kernel) (by decide +kernel) (by decide +kernel) (by decide +kernel) (by decide +kernel) (by decide) hi hL ?_
  refine zj_arg (q := 2) (j := 2) rfl (by decide +kernel) (by decide +kernel) (by decide +kernel) (by decide +kernel) (by decide +kernel) (by decide) hi hL ?_
  refine zj_cv (n := 3) (idx := 45) (by decide +kernel) (List.mem_of_getElem? (i := 890) (by decide +kernel)) rfl rfl (t_TQ_at (b := X.b) (B := B) hC ok) (by decide) (Nat.le_of_ble_eq_true rfl) (Nat.le_of_ble_eq_true rfl) (fun r1 σ1 q1 => ?_)
  obtain ⟨rfl, rfl⟩ := q1
  have hR1 := hR
  have hC1 := hC
  refine zj_m (by decide +kernel) ?_
  refine zj_arg (q := 1) (j := 1) rfl (by decide +kernel) (by decide +kernel) (by decide +kernel) (by decide +kernel) (by decide +kernel) (by decide) hi hL ?_
  refine zj_arg (q := 2) (j := 2) rfl (by decide +kernel) (by decide +kernel) (by decide +kernel) (by decide +kernel) (by decide +kernel) (by decide) hi hL ?_
  refine zj_cv (n := 3) (idx := 48) (by decide +kernel) (List.mem_of_getElem? (i := 1713) (by decide +kernel)) rfl rfl (t_Mo_at (m := X.b + 1101) hR1 ok) (by decide) (Nat.le_of_ble_eq_true rfl) (Nat.le_of_ble_eq_true rfl) (fun r2 σ2 q2 => ?_)
  obtain ⟨rfl, rfl⟩ := q2
  refine zj_eq (off := 1306) (tgt := 1803) (by decide +kernel) (by decide) ?_
  exact kk _ _ (CG.up hC1 (by omega)) hR1 (ok)
theorem zj_c_first {X : zz_X} {b L : Nat} {xs : Nat → Int32} {i : Nat} {σ : zz_M} {B : Int} {G : zz_J} (hi : i + 6 ≤ L) (hL : L ≤ 3072) (hC : CG σ X.b B G) (hR : RG σ (X.b + 1101) G) (ok : g_ok G) (hB : B ≤ 900000) (kk : ∀ σ' G', CG σ' X.b (B + 3) G' → RG σ' (X.b + 1101) G' → g_ok G' → zj_G X b L xs 1803 i [] σ') : zj_G X b L xs 502 i [] σ := by
  refine zj_x (by decide +kernel) ?_
  refine zj_arg (q := 1) (j := 1) rfl (by decide +kernel) (by decide +kernel) (by decide +kernel) (by decide +kernel) (by decide +kernel) (by decide) hi hL ?_
  refine zj_cv (n := 2) (idx := 49) (by decide +kernel) (List.mem_of_getElem? (i := 895) (by decide +kernel)) rfl rfl (t_TQ_first (b := X.b) (B := B) hC ok) (by decide) (Nat.le_of_ble_eq_true rfl) (Nat.le_of_ble_eq_true rfl) (fun r1 σ1 q1 => ?_)
  obtain ⟨rfl, rfl⟩ := q1
  have hR1 := hR
  have hC1 := hC
  refine zj_m (by decide +kernel) ?_
  refine zj_arg (q := 1) (j := 1) rfl (by decide +kernel) (by decide +kernel) (by decide +kernel) (by decide +kernel) (by decide +kernel) (by decide) hi hL ?_
  refine zj_cv (n := 2) (idx := 52) (by decide +kernel) (List.mem_of_getElem? (i := 1717) (by decide +kernel)) rfl rfl (t_Mo_first (m := X.b + 1101) hR1 ok) (by decide) (Nat.le_of_ble_eq_true rfl) (Nat.le_of_ble_eq_true rfl) (fun r2 σ2 q2 => ?_)
  obtain ⟨rfl, rfl⟩ := q2
  refine zj_eq (off := 1283) (tgt := 1803) (by decide +kernel) (by decide) ?_
  exact kk _ _ (CG.up hC1 (by omega)) hR1 (ok)
theorem zj_c_tail {X : zz_X} {b L : Nat} {xs : Nat → Int32} {i : Nat} {σ : zz_M} {B : Int} {G : zz_J} (hi : i + 6 ≤ L) (hL : L ≤ 3072) (hC : CG σ X.b B G) (hR : RG σ (X.b + 1101) G) (ok : g_ok G) (hB : B ≤ 900000) (kk : ∀ σ' G', CG σ' X.b (B + 3) G' → RG σ' (X.b + 1101) G' → g_ok G' → zj_G X b L xs 1803 i [] σ') : zj_G X b L xs 525 i [] σ := by
  refine zj_x (by decide +kernel) ?_
  refine zj_arg (q := 1) (j := 1) rfl (by decide +kernel) (by decide +kernel) (by decide +kernel) (by decide +kernel) (by decide +kernel) (by decide) hi hL ?_
  refine zj_cv (n := 2) (idx := 53) (by decide +kernel) (List.mem_of_getElem? (i := 899) (by decide +kernel)) rfl rfl (t_TQ_tail (b := X.b) (B := B) hC ok) (by decide) (Nat.le_of_ble_eq_true rfl) (Nat.le_of_ble_eq_true rfl) (fun r1 σ1 q1 => ?_)
  obtain ⟨rfl, rfl⟩ := q1
  have hR1 := hR
  have hC1 := hC
  refine zj_m (by decide +kernel) ?_
  refine zj_arg (q := 1) (j := 1) rfl (by decide +kernel) (by decide +kernel) (by decide +kernel) (by decide +kernel) (by decide +kernel) (by decide) hi hL ?_
  refine zj_cv (n := 2) (idx := 56) (by decide +kernel) (List.mem_of_getElem? (i := 1722) (by decide +kernel)) rfl rfl (t_Mo_tail (m := X.b + 1101) hR1 ok) (by decide) (Nat.le_of_ble_eq_true rfl) (Nat.le_of_ble_eq_true rfl) (fun r2 σ2 q2 => ?_)
  obtain ⟨rfl, rfl⟩ := q2
  refine zj_eq (off := 1260) (tgt := 1803) (by decide +kernel) (by decide) ?_
  exact kk _ _ (CG.up hC1 (by omega)) hR1 (ok)
theorem zj_c_like {X : zz_X} {b L : Nat} {xs : Nat → Int32} {i : Nat} {σ : zz_M} {B : Int} {G : zz_J} (hi : i + 6 ≤ L) (hL : L ≤ 3072) (hC : CG σ X.b B G) (hR : RG σ (X.b + 1101) G) (ok : g_ok G) (hB : B ≤ 900000) (kk : ∀ σ' G', CG σ' X.b (B + 3) G' → RG σ' (X.b + 1101) G' → g_ok G' → zj_G X b L xs 1803 i [] σ') : zj_G X b L xs 548 i [] σ := by
  refine zj_x (by decide +kernel) ?_
  refine zj_arg (q := 1) (j := 1) rfl (by decide +kernel) (by decide +kernel) (by decide +kernel) (by decide +kernel) (by decide +kernel) (by decide) hi hL ?_
  refine zj_cv (n := 2) (idx := 57) (by decide +kernel) (List.mem_of_getElem? (i := 903) (by decide +kernel)) rfl rfl (t_TQ_like (b := X.b) (B := B) hC ok) (by decide) (Nat.le_of_ble_eq_true rfl) (Nat.le_of_ble_eq_true rfl) (fun r1 σ1 q1 => ?_)
  obtain ⟨rfl, rfl⟩ := q1
  have hR1 := hR
  have hC1 := hC
  refine zj_m (by decide +kernel) ?_
  refine zj_arg (q := 1) (j := 1) rfl (by decide +kernel) (by decide +kernel) (by decide +kernel) (by decide +kernel) (by decide +kernel) (by decide) hi hL ?_
  refine zj_cv (n := 2) (idx := 60) (by decide +kernel) (List.mem_of_getElem? (i := 1726) (by decide +kernel)) rfl rfl (t_Mo_like (m := X.b + 1101) hR1 ok) (by decide) (Nat.le_of_ble_eq_true rfl) (Nat.le_of_ble_eq_true rfl) (fun r2 σ2 q2 => ?_)
  obtain ⟨rfl, rfl⟩ := q2
  refine zj_eq (off := 1237) (tgt := 1803) (by decide +kernel) (by decide) ?_
  exact kk _ _ (CG.up hC1 (by omega)) hR1 (ok)
