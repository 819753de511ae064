/-! THE LAW'S CASES 11 to 21; printed by program. -/
theorem zj_c_forks {X : zz_X} {b L : Nat} {xs : Nat → Int32} {i : Nat} {σ : zz_M} {B : Int} {G : zz_J} (hi : i + 6 ≤ L) (hL : L ≤ 3072) (hC : CG σ X.b B G) (hR : RG σ (X.b + 1101) G) (ok : g_ok G) (hB : B ≤ 900000) (kk : ∀ σ' G', CG σ' X.b (B + 3) G' → RG σ' (X.b + 1101) G' → g_ok G' → zj_G X b L xs 1803 i [] σ') : zj_G X b L xs 571 i [] σ := by
  refine zj_x (by decide +kernel) ?_
  refine zj_arg (q := 1) (j := 1) rfl (by decide +kernel) (by decide +kernel) (by decide +kernel) (by decide +kernel) (by decide +kernel) (by decide) hi hL ?_
  refine zj_cv (n := 2) (idx := 61) (by decide +kernel) (List.mem_of_getElem? (i := 915) (by decide +kernel)) rfl rfl (t_TQ_forks (b := X.b) (B := B) hC ok) (by decide) (Nat.le_of_ble_eq_true rfl) (Nat.le_of_ble_eq_true rfl) (fun r1 σ1 q1 => ?_)
  obtain ⟨rfl, rfl⟩ := q1
  have hR1 := hR
  have hC1 := hC
  refine zj_m (by decide +kernel) ?_
  refine zj_arg (q := 1) (j := 1) rfl (by decide +kernel) (by decide +kernel) (by decide +kernel) (by decide +kernel) (by decide +kernel) (by decide) hi hL ?_
  refine zj_cv (n := 2) (idx := 64) (by decide +kernel) (List.mem_of_getElem? (i := 1734) (by decide +kernel)) rfl rfl (t_Mo_forks (m := X.b + 1101) hR1 ok) (by decide) (Nat.le_of_ble_eq_true rfl) (Nat.le_of_ble_eq_true rfl) (fun r2 σ2 q2 => ?_)
  obtain ⟨rfl, rfl⟩ := q2
  refine zj_eq (off := 1214) (tgt := 1803) (by decide +kernel) (by decide) ?_
  exact kk _ _ (CG.up hC1 (by omega)) hR1 (ok)
theorem zj_c_meet {X : zz_X} {b L : Nat} {xs : Nat → Int32} {i : Nat} {σ : zz_M} {B : Int} {G : zz_J} (hi : i + 6 ≤ L) (hL : L ≤ 3072) (hC : CG σ X.b B G) (hR : RG σ (X.b + 1101) G) (ok : g_ok G) (hB : B ≤ 900000) (kk : ∀ σ' G', CG σ' X.b (B + 3) G' → RG σ' (X.b + 1101) G' → g_ok G' → zj_G X b L xs 1803 i [] σ') : zj_G X b L xs 594 i [] σ := by
  refine zj_x (by decide +kernel) ?_
  refine zj_arg (q := 1) (j := 1) rfl (by decide +kernel) (by decide +kernel) (by decide +kernel) (by decide +kernel) (by decide +kernel) (by decide) hi hL ?_
  refine zj_arg (q := 2) (j := 2) rfl (by decide +kernel) (by decide +kernel) (by decide +kernel) (by decide +kernel) (by decide +kernel) (by decide) hi hL ?_
  refine zj_cv (n := 3) (idx := 65) (by decide +kernel) (List.mem_of_getElem? (i := 924) (by decide +kernel)) rfl rfl (t_TQ_meet (b := X.b) (B := B) hC ok) (by decide) (Nat.le_of_ble_eq_true rfl) (Nat.le_of_ble_eq_true rfl) (fun r1 σ1 q1 => ?_)
  obtain ⟨rfl, rfl⟩ := q1
  have hR1 := hR
  have hC1 := hC
  refine zj_m (by decide +kernel) ?_
  refine zj_arg (q := 1) (j := 1) rfl (by decide +kernel) (by decide +kernel) (by decide +kernel) (by decide +kernel) (by decide +kernel) (by decide) hi hL ?_
  refine zj_arg (q := 2) (j := 2) rfl (by decide +kernel) (by decide +kernel) (by decide +kernel) (by decide +kernel) (by decide +kernel) (by decide) hi hL ?_
  refine zj_cv (n := 3) (idx := 68) (by decide +kernel) (List.mem_of_getElem? (i := 1738) (by decide +kernel)) rfl rfl (t_Mo_meet (m := X.b + 1101) hR1 ok) (by decide) (Nat.le_of_ble_eq_true rfl) (Nat.le_of_ble_eq_true rfl) (fun r2 σ2 q2 => ?_)
  obtain ⟨rfl, rfl⟩ := q2
  refine zj_eq (off := 1181) (tgt := 1803) (by decide +kernel) (by decide) ?_
  exact kk _ _ (CG.up hC1 (by omega)) hR1 (ok)
theorem zj_c_apart {X : zz_X} {b L : Nat} {xs : Nat → Int32} {i : Nat} {σ : zz_M} {B : Int} {G : zz_J} (hi : i + 6 ≤ L) (hL : L ≤ 3072) (hC : CG σ X.b B G) (hR : RG σ (X.b + 1101) G) (ok : g_ok G) (hB : B ≤ 900000) (kk : ∀ σ' G', CG σ' X.b (B + 3) G' → RG σ' (X.b + 1101) G' → g_ok G' → zj_G X b L xs 1803 i [] σ') : zj_G X b L xs 627 i [] σ := by
  refine zj_x (by decide +kernel) ?_
  refine zj_arg (q := 1) (j := 1) rfl (by decide +kernel) (by decide +kernel) (by decide +kernel) (by decide +kernel) (by decide +kernel) (by decide) hi hL ?_
  refine zj_arg (q := 2) (j := 2) rfl (by decide +kernel) (by decide +kernel) (by decide +kernel) (by decide +kernel) (by decide +kernel) (by decide) hi hL ?_
  refine zj_cv (n := 3) (idx := 69) (by decide +kernel) (List.mem_of_getElem? (i := 936) (by decide +kernel)) rfl rfl (t_TQ_apart (b := X.b) (B := B) hC ok) (by decide) (Nat.le_of_ble_eq_true rfl) (Nat.le_of_ble_eq_true rfl) (fun r1 σ1 q1 => ?_)
  obtain ⟨rfl, rfl⟩ := q1
  have hR1 := hR
  have hC1 := hC
  refine zj_m (by decide +kernel) ?_
  refine zj_arg (q := 1) (j := 1) rfl (by decide +kernel) (by decide +kernel) (by decide +kernel) (by decide +kernel) (by decide +kernel) (by decide) hi hL ?_
  refine zj_arg (q := 2) (j := 2) rfl (by decide +kernel) (by decide +kernel) (by decide +kernel) (by decide +kernel) (by decide +kernel) (by decide) hi hL ?_
  refine zj_cv (n := 3) (idx := 72) (by decide +kernel) (List.mem_of_getElem? (i := 1746) (by decide +kernel)) rfl rfl (t_Mo_apart (m := X.b + 1101) hR1 ok) (by decide) (Nat.le_of_ble_eq_true rfl) (Nat.le_of_ble_eq_true rfl) (fun r2 σ2 q2 => ?_)
  obtain ⟨rfl, rfl⟩ := q2
  refine zj_eq (off := 1148) (tgt := 1803) (by decide +kernel) (by decide) ?_
  exact kk _ _ (CG.up hC1 (by omega)) hR1 (ok)
theorem zj_c_state {X : zz_X} {b L : Nat} {xs : Nat → Int32} {i : Nat} {σ : zz_M} {B : Int} {G : zz_J} (hi : i + 6 ≤ L) (hL : L ≤ 3072) (hC : CG σ X.b B G) (hR : RG σ (X.b + 1101) G) (ok : g_ok G) (hB : B ≤ 900000) (kk : ∀ σ' G', CG σ' X.b (B + 3) G' → RG σ' (X.b + 1101) G' → g_ok G' → zj_G X b L xs 1803 i [] σ') : zj_G X b L xs 660 i [] σ := by
  refine zj_x (by decide +kernel) ?_
  refine zj_arg (q := 1) (j := 1) rfl (by decide +kernel) (by decide +kernel) (by decide +kernel) (by decide +kernel) (by decide +kernel) (by decide) hi hL ?_
  refine zj_arg (q := 2) (j := 2) rfl (by decide +kernel) (by decide +kernel) (by decide +kernel) (by decide +kernel) (by decide +kernel) (by decide) hi hL ?_
  refine zj_cv (n := 3) (idx := 73) (by decide +kernel) (List.mem_of_getElem? (i := 944) (by decide +kernel)) rfl rfl (t_TQ_state (b := X.b) (B := B) hC ok) (by decide) (Nat.le_of_ble_eq_true rfl) (Nat.le_of_ble_eq_true rfl) (fun r1 σ1 q1 => ?_)
  obtain ⟨rfl, rfl⟩ := q1
  have hR1 := hR
  have hC1 := hC
  refine zj_m (by decide +kernel) ?_
  refine zj_arg (q := 1) (j := 1) rfl (by decide +kernel) (by decide +kernel) (by decide +kernel) (by decide +kernel) (by decide +kernel) (by decide) hi hL ?_
  refine zj_arg (q := 2) (j := 2) rfl (by decide +kernel) (by decide +kernel) (by decide +kernel) (by decide +kernel) (by decide +kernel) (by decide) hi hL ?_
  refine zj_cv (n := 3) (idx := 76) (by decide +kernel) (List.mem_of_getElem? (i := 1807) (by decide +kernel)) rfl rfl (t_Mo_state (m := X.b + 1101) hR1 ok) (by decide) (Nat.le_of_ble_eq_true rfl) (Nat.le_of_ble_eq_true rfl) (fun r2 σ2 q2 => ?_)
  obtain ⟨rfl, rfl⟩ := q2
  refine zj_eq (off := 1115) (tgt := 1803) (by decide +kernel) (by decide) ?_
  exact kk _ _ (CG.up hC1 (by omega)) hR1 (ok)
theorem zj_c_row {X : zz_X} {b L : Nat} {xs : Nat → Int32} {i : Nat} {σ : zz_M} {B : Int} {G : zz_J} (hi : i + 6 ≤ L) (hL : L ≤ 3072) (hC : CG σ X.b B G) (hR : RG σ (X.b + 1101) G) (ok : g_ok G) (hB : B ≤ 900000) (kk : ∀ σ' G', CG σ' X.b (B + 3) G' → RG σ' (X.b + 1101) G' → g_ok G' → zj_G X b L xs 1803 i [] σ') : zj_G X b L xs 693 i [] σ := by
  refine zj_x (by decide +kernel) ?_
  refine zj_arg (q := 1) (j := 1) rfl (by decide +kernel) (by decide +kernel) (by decide +kernel) (by decide +kernel) (by decide +kernel) (by decide) hi hL ?_
  refine zj_arg (q := 2) (j := 2) rfl (by decide +kernel) (by decide +kernel) (by decide +kernel) (by decide +kernel) (by decide +kernel) (by decide) hi hL ?_
  refine zj_cv (n := 3) (idx := 77) (by decide +kernel) (List.mem_of_getElem? (i := 949) (by decide +kernel)) rfl rfl (t_TQ_row (b := X.b) (B := B) hC ok) (by decide) (Nat.le_of_ble_eq_true rfl) (Nat.le_of_ble_eq_true rfl) (fun r1 σ1 q1 => ?_)
  obtain ⟨rfl, rfl⟩ := q1
  have hR1 := hR
  have hC1 := hC
  refine zj_m (by decide +kernel) ?_
  refine zj_arg (q := 1) (j := 1) rfl (by decide +kernel) (by decide +kernel) (by decide +kernel) (by decide +kernel) (by decide +kernel) (by decide) hi hL ?_
  refine zj_arg (q := 2) (j := 2) rfl (by decide +kernel) (by decide +kernel) (by decide +kernel) (by decide +kernel) (by decide +kernel) (by decide) hi hL ?_
  refine zj_cv (n := 3) (idx := 80) (by decide +kernel) (List.mem_of_getElem? (i := 1812) (by decide +kernel)) rfl rfl (t_Mo_row (m := X.b + 1101) hR1 ok) (by decide) (Nat.le_of_ble_eq_true rfl) (Nat.le_of_ble_eq_true rfl) (fun r2 σ2 q2 => ?_)
  obtain ⟨rfl, rfl⟩ := q2
  refine zj_eq (off := 1082) (tgt := 1803) (by decide +kernel) (by decide) ?_
  exact kk _ _ (CG.up hC1 (by omega)) hR1 (ok)
theorem zj_c_cell {X : zz_X} {b L : Nat} {xs : Nat → Int32} {i : Nat} {σ : zz_M} {B : Int} {G : zz_J} (hi : i + 6 ≤ L) (hL : L ≤ 3072) (hC : CG σ X.b B G) (hR : RG σ (X.b + 1101) G) (ok : g_ok G) (hB : B ≤ 900000) (kk : ∀ σ' G', CG σ' X.b (B + 3) G' → RG σ' (X.b + 1101) G' → g_ok G' → zj_G X b L xs 1803 i [] σ') : zj_G X b L xs 726 i [] σ := by
  refine zj_x (by decide +kernel) ?_
  refine zj_arg (q := 1) (j := 1) rfl (by decide +kernel) (by decide +kernel) (by decide +kernel) (by decide +kernel) (by decide +kernel) (by decide) hi hL ?_
  refine zj_arg (q := 2) (j := 2) rfl (by decide +kernel) (by decide +kernel) (by decide +kernel) (by decide +kernel) (by decide +kernel) (by decide) hi hL ?_
  refine zj_arg (q := 3) (j := 3) rfl (by decide +kernel) (by decide +kernel) (by decide +kernel) (by decide +kernel) (by decide +kernel) (by decide) hi hL ?_
  refine zj_cv (n := 4) (idx := 81) (by decide +kernel) (List.mem_of_getElem? (i := 961) (by decide +kernel)) rfl rfl (t_TQ_cell (b := X.b) (B := B) hC ok) (by decide) (Nat.le_of_ble_eq_true rfl) (Nat.le_of_ble_eq_true rfl) (fun r1 σ1 q1 => ?_)
  obtain ⟨rfl, rfl⟩ := q1
  have hR1 := hR
  have hC1 := hC
  refine zj_m (by decide +kernel) ?_
  refine zj_arg (q := 1) (j := 1) rfl (by decide +kernel) (by decide +kernel) (by decide +kernel) (by decide +kernel) (by decide +kernel) (by decide) hi hL ?_
  refine zj_arg (q := 2) (j := 2) rfl (by decide +kernel) (by decide +kernel) (by decide +kernel) (by decide +kernel) (by decide +kernel) (by decide) hi hL ?_
  refine zj_arg (q := 3) (j := 3) rfl (by decide +kernel) (by decide +kernel) (by decide +kernel) (by decide +kernel) (by decide +kernel) (by decide) hi hL ?_
  refine zj_cv (n := 4) (idx := 85) (by decide +kernel) (List.mem_of_getElem? (i := 1816) (by decide +kernel)) rfl rfl (t_Mo_cell (m := X.b + 1101) hR1 ok) (by decide) (Nat.le_of_ble_eq_true rfl) (Nat.le_of_ble_eq_true rfl) (fun r2 σ2 q2 => ?_)
  obtain ⟨rfl, rfl⟩ := q2
  refine zj_eq (off := 1039) (tgt := 1803) (by decide +kernel) (by decide) ?_
  exact kk _ _ (CG.up hC1 (by omega)) hR1 (ok)
theorem zj_c_twin {X : zz_X} {b L : Nat} {xs : Nat → Int32} {i : Nat} {σ : zz_M} {B : Int} {G : zz_J} (hi : i + 6 ≤ L) (hL : L ≤ 3072) (hC : CG σ X.b B G) (hR : RG σ (X.b + 1101) G) (ok : g_ok G) (hB : B ≤ 900000) (kk : ∀ σ' G', CG σ' X.b (B + 3) G' → RG σ' (X.b + 1101) G' → g_ok G' → zj_G X b L xs 1803 i [] σ') : zj_G X b L xs 769 i [] σ := by
  refine zj_x (by decide +kernel) ?_
  refine zj_arg (q := 1) (j := 1) rfl (by decide +kernel) (by decide +kernel) (by decide +kernel) (by decide +kernel) (by decide +kernel) (by decide) hi hL ?_
  refine zj_cv (n := 2) (idx := 86) (by decide +kernel) (List.mem_of_getElem? (i := 971) (by decide +kernel)) rfl rfl (t_TQ_twin (b := X.b) (B := B) hC ok) (by decide) (Nat.le_of_ble_eq_true rfl) (Nat.le_of_ble_eq_true rfl) (fun r1 σ1 q1 => ?_)
  obtain ⟨rfl, g1, f1⟩ := q1
  have hR1 := hR.k ok f1
  have hC1 := g1
  refine zj_m (by decide +kernel) ?_
  refine zj_arg (q := 1) (j := 1) rfl (by decide +kernel) (by decide +kernel) (by decide +kernel) (by decide +kernel) (by decide +kernel) (by decide) hi hL ?_
  refine zj_cv (n := 2) (idx := 89) (by decide +kernel) (List.mem_of_getElem? (i := 1750) (by decide +kernel)) rfl rfl (t_Mo_twin (m := X.b + 1101) hR1 ok) (by decide) (Nat.le_of_ble_eq_true rfl) (Nat.le_of_ble_eq_true rfl) (fun r2 σ2 q2 => ?_)
  obtain ⟨rfl, rfl⟩ := q2
  refine zj_eq (off := 1016) (tgt := 1803) (by decide +kernel) (by decide) ?_
  exact kk _ _ (CG.up hC1 (by omega)) hR1 (ok)
theorem zj_c_path {X : zz_X} {b L : Nat} {xs : Nat → Int32} {i : Nat} {σ : zz_M} {B : Int} {G : zz_J} (hi : i + 6 ≤ L) (hL : L ≤ 3072) (hC : CG σ X.b B G) (hR : RG σ (X.b + 1101) G) (ok : g_ok G) (hB : B ≤ 900000) (kk : ∀ σ' G', CG σ' X.b (B + 3) G' → RG σ' (X.b + 1101) G' → g_ok G' → zj_G X b L xs 1803 i [] σ') : zj_G X b L xs 792 i [] σ := by
  refine zj_x (by decide +kernel) ?_
  refine zj_arg (q := 1) (j := 1) rfl (by decide +kernel) (by decide +kernel) (by decide +kernel) (by decide +kernel) (by decide +kernel) (by decide) hi hL ?_
  refine zj_arg (q := 2) (j := 2) rfl (by decide +kernel) (by decide +kernel) (by decide +kernel) (by decide +kernel) (by decide +kernel) (by decide) hi hL ?_
  refine zj_cv (n := 3) (idx := 90) (by decide +kernel) (List.mem_of_getElem? (i := 1024) (by decide +kernel)) rfl rfl (t_TQ_path (b := X.b) (B := B) hC ok) (by decide) (Nat.le_of_ble_eq_true rfl) (Nat.le_of_ble_eq_true rfl) (fun r1 σ1 q1 => ?_)
  obtain ⟨rfl, g1, f1⟩ := q1
  have hR1 := hR.k ok f1
  have hC1 := g1
  refine zj_m (by decide +kernel) ?_
  refine zj_arg (q := 1) (j := 1) rfl (by decide +kernel) (by decide +kernel) (by decide +kernel) (by decide +kernel) (by decide +kernel) (by decide) hi hL ?_
  refine zj_arg (q := 2) (j := 2) rfl (by decide +kernel) (by decide +kernel) (by decide +kernel) (by decide +kernel) (by decide +kernel) (by decide) hi hL ?_
  refine zj_cv (n := 3) (idx := 93) (by decide +kernel) (List.mem_of_getElem? (i := 1762) (by decide +kernel)) rfl rfl (t_Mo_path (m := X.b + 1101) hR1 ok (by have := (zz_i32 (xs (i + 2))).2; omega)) (by decide) (Nat.le_of_ble_eq_true rfl) (Nat.le_of_ble_eq_true rfl) (fun r2 σ2 q2 => ?_)
  obtain ⟨rfl, rfl⟩ := q2
  refine zj_eq (off := 983) (tgt := 1803) (by decide +kernel) (by decide) ?_
  exact kk _ _ (CG.up hC1 (by omega)) hR1 (ok)
theorem zj_c_along {X : zz_X} {b L : Nat} {xs : Nat → Int32} {i : Nat} {σ : zz_M} {B : Int} {G : zz_J} (hi : i + 6 ≤ L) (hL : L ≤ 3072) (hC : CG σ X.b B G) (hR : RG σ (X.b + 1101) G) (ok : g_ok G) (hB : B ≤ 900000) (kk : ∀ σ' G', CG σ' X.b (B + 3) G' → RG σ' (X.b + 1101) G' → g_ok G' → zj_G X b L xs 1803 i [] σ') : zj_G X b L xs 825 i [] σ := by
  refine zj_x (by decide +kernel) ?_
  refine zj_arg (q := 1) (j := 1) rfl (by decide +kernel) (by decide +kernel) (by decide +kernel) (by decide +kernel) (by decide +kernel) (by decide) hi hL ?_
  refine zj_arg (q := 2) (j := 2) rfl (by decide +kernel) (by decide +kernel) (by decide +kernel) (by decide +kernel) (by decide +kernel) (by decide) hi hL ?_
  refine zj_cv (n := 3) (idx := 94) (by decide +kernel) (List.mem_of_getElem? (i := 1038) (by decide +kernel)) rfl rfl (t_TQ_along (b := X.b) (B := B) hC ok) (by decide) (Nat.le_of_ble_eq_true rfl) (Nat.le_of_ble_eq_true rfl) (fun r1 σ1 q1 => ?_)
  obtain ⟨rfl, g1, f1⟩ := q1
  have hR1 := hR.k ok f1
  have hC1 := g1
  refine zj_m (by decide +kernel) ?_
  refine zj_arg (q := 1) (j := 1) rfl (by decide +kernel) (by decide +kernel) (by decide +kernel) (by decide +kernel) (by decide +kernel) (by decide) hi hL ?_
  refine zj_arg (q := 2) (j := 2) rfl (by decide +kernel) (by decide +kernel) (by decide +kernel) (by decide +kernel) (by decide +kernel) (by decide) hi hL ?_
  refine zj_cv (n := 3) (idx := 97) (by decide +kernel) (List.mem_of_getElem? (i := 1770) (by decide +kernel)) rfl rfl (t_Mo_along (m := X.b + 1101) hR1 ok) (by decide) (Nat.le_of_ble_eq_true rfl) (Nat.le_of_ble_eq_true rfl) (fun r2 σ2 q2 => ?_)
  obtain ⟨rfl, rfl⟩ := q2
  refine zj_eq (off := 950) (tgt := 1803) (by decide +kernel) (by decide) ?_
  exact kk _ _ (CG.up hC1 (by omega)) hR1 (ok)
theorem zj_c_origin {X : zz_X} {b L : Nat} {xs : Nat → Int32} {i : Nat} {σ : zz_M} {B : Int} {G : zz_J} (hi : i + 6 ≤ L) (hL : L ≤ 3072) (hC : CG σ X.b B G) (hR : RG σ (X.b + 1101) G) (ok : g_ok G) (hB : B ≤ 900000) (kk : ∀ σ' G', CG σ' X.b (B + 3) G' → RG σ' (X.b + 1101) G' → g_ok G' → zj_G X b L xs 1803 i [] σ') : zj_G X b L xs 858 i [] σ := by
  refine zj_x (by decide +kernel) ?_
  refine zj_arg (q := 1) (j := 1) rfl (by decide +kernel) (by decide +kernel) (by decide +kernel) (by decide +kernel) (by decide +kernel) (by decide) hi hL ?_
  refine zj_arg (q := 2) (j := 2) rfl (by decide +kernel) (by decide +kernel) (by decide +kernel) (by decide +kernel) (by decide +kernel) (by decide) hi hL ?_
  refine zj_arg (q := 3) (j := 3) rfl (by decide +kernel) (by decide +kernel) (by decide +kernel) (by decide +kernel) (by decide +kernel) (by decide) hi hL ?_
  refine zj_cv (n := 4) (idx := 98) (by decide +kernel) (List.mem_of_getElem? (i := 1056) (by decide +kernel)) rfl rfl (t_TQ_origin (b := X.b) (B := B) hC ok) (by decide) (Nat.le_of_ble_eq_true rfl) (Nat.le_of_ble_eq_true rfl) (fun r1 σ1 q1 => ?_)
  obtain ⟨rfl, rfl⟩ := q1
  have hR1 := hR
  have hC1 := hC
  refine zj_m (by decide +kernel) ?_
  refine zj_arg (q := 1) (j := 1) rfl (by decide +kernel) (by decide +kernel) (by decide +kernel) (by decide +kernel) (by decide +kernel) (by decide) hi hL ?_
  refine zj_arg (q := 2) (j := 2) rfl (by decide +kernel) (by decide +kernel) (by decide +kernel) (by decide +kernel) (by decide +kernel) (by decide) hi hL ?_
  refine zj_arg (q := 3) (j := 3) rfl (by decide +kernel) (by decide +kernel) (by decide +kernel) (by decide +kernel) (by decide +kernel) (by decide) hi hL ?_
  refine zj_cv (n := 4) (idx := 101) (by decide +kernel) (List.mem_of_getElem? (i := 1775) (by decide +kernel)) rfl rfl (t_Mo_origin (m := X.b + 1101) hR1 ok) (by decide) (Nat.le_of_ble_eq_true rfl) (Nat.le_of_ble_eq_true rfl) (fun r2 σ2 q2 => ?_)
  obtain ⟨rfl, rfl⟩ := q2
  refine zj_eq (off := 907) (tgt := 1803) (by decide +kernel) (by decide) ?_
  exact kk _ _ (CG.up hC1 (by omega)) hR1 (ok)
theorem zj_c_from {X : zz_X} {b L : Nat} {xs : Nat → Int32} {i : Nat} {σ : zz_M} {B : Int} {G : zz_J} (hi : i + 6 ≤ L) (hL : L ≤ 3072) (hC : CG σ X.b B G) (hR : RG σ (X.b + 1101) G) (ok : g_ok G) (hB : B ≤ 900000) (kk : ∀ σ' G', CG σ' X.b (B + 3) G' → RG σ' (X.b + 1101) G' → g_ok G' → zj_G X b L xs 1803 i [] σ') : zj_G X b L xs 901 i [] σ := by
  refine zj_x (by decide +kernel) ?_
  refine zj_arg (q := 1) (j := 1) rfl (by decide +kernel) (by decide +kernel) (by decide +kernel) (by decide +kernel) (by decide +kernel) (by decide) hi hL ?_
  refine zj_arg (q := 2) (j := 2) rfl (by decide +kernel) (by decide +kernel) (by decide +kernel) (by decide +kernel) (by decide +kernel) (by decide) hi hL ?_
  refine zj_cv (n := 3) (idx := 102) (by decide +kernel) (List.mem_of_getElem? (i := 1064) (by decide +kernel)) rfl rfl (t_TQ_from (b := X.b) (B := B) hC ok (by omega)) (by decide) (Nat.le_of_ble_eq_true rfl) (Nat.le_of_ble_eq_true rfl) (fun r1 σ1 q1 => ?_)
  obtain ⟨rfl, g1, f1⟩ := q1
  have hR1 := hR.k ok f1
  have hC1 := g1
  refine zj_m (by decide +kernel) ?_
  refine zj_arg (q := 1) (j := 1) rfl (by decide +kernel) (by decide +kernel) (by decide +kernel) (by decide +kernel) (by decide +kernel) (by decide) hi hL ?_
  refine zj_arg (q := 2) (j := 2) rfl (by decide +kernel) (by decide +kernel) (by decide +kernel) (by decide +kernel) (by decide +kernel) (by decide) hi hL ?_
  refine zj_cv (n := 3) (idx := 105) (by decide +kernel) (List.mem_of_getElem? (i := 1783) (by decide +kernel)) rfl rfl (t_Mo_from (m := X.b + 1101) hR1 ok) (by decide) (Nat.le_of_ble_eq_true rfl) (Nat.le_of_ble_eq_true rfl) (fun r2 σ2 q2 => ?_)
  obtain ⟨rfl, g2, f2⟩ := q2
  refine zj_eq (off := 874) (tgt := 1803) (by decide +kernel) (by decide) ?_
  exact kk _ _ (CG.up (hC1.k f2) (by omega)) g2 (ok)
