/-! THE LAW'S CASES 44 to 54; printed by program. -/
theorem zj_c_grafting {X : zz_X} {b L : Nat} {xs : Nat → Int32} {i : Nat} {σ : zz_M} {B : Int} {G : zz_J} (hi : i + 6 ≤ L) (hL : L ≤ 3072) (hC : CG σ X.b B G) (hR : RG σ (X.b + 1101) G) (ok : g_ok G) (hB : B ≤ 900000) (kk : ∀ σ' G', CG σ' X.b (B + 3) G' → RG σ' (X.b + 1101) G' → g_ok G' → zj_G X b L xs 1803 i [] σ') : zj_G X b L xs 1470 i [] σ := by
  refine zj_x (by decide +kernel) ?_
  refine zj_arg (q := 1) (j := 1) rfl (by decide +kernel) (by decide +kernel) (by decide +kernel) (by decide +kernel) (by decide +kernel) (by decide) hi hL ?_
  refine zj_arg (q := 2) (j := 2) rfl (by decide +kernel) (by decide +kernel) (by decide +kernel) (by decide +kernel) (by decide +kernel) (by decide) hi hL ?_
  refine zj_arg (q := 3) (j := 3) rfl (by decide +kernel) (by decide +kernel) (by decide +kernel) (by decide +kernel) (by decide +kernel) (by decide) hi hL ?_
  refine zj_arg (q := 4) (j := 4) rfl (by decide +kernel) (by decide +kernel) (by decide +kernel) (by decide +kernel) (by decide +kernel) (by decide) hi hL ?_
  refine zj_cv (n := 5) (idx := 197) (by decide +kernel) (List.mem_of_getElem? (i := 1272) (by decide +kernel)) rfl rfl (t_TQ_grafting (b := X.b) (B := B) hC ok) (by decide) (Nat.le_of_ble_eq_true rfl) (Nat.le_of_ble_eq_true rfl) (fun r1 σ1 q1 => ?_)
  obtain ⟨rfl, g1, f1⟩ := q1
  have hR1 := hR.k ok f1
  have hC1 := g1
  refine zj_m (by decide +kernel) ?_
  refine zj_arg (q := 1) (j := 1) rfl (by decide +kernel) (by decide +kernel) (by decide +kernel) (by decide +kernel) (by decide +kernel) (by decide) hi hL ?_
  refine zj_arg (q := 2) (j := 2) rfl (by decide +kernel) (by decide +kernel) (by decide +kernel) (by decide +kernel) (by decide +kernel) (by decide) hi hL ?_
  refine zj_arg (q := 3) (j := 3) rfl (by decide +kernel) (by decide +kernel) (by decide +kernel) (by decide +kernel) (by decide +kernel) (by decide) hi hL ?_
  refine zj_arg (q := 4) (j := 4) rfl (by decide +kernel) (by decide +kernel) (by decide +kernel) (by decide +kernel) (by decide +kernel) (by decide) hi hL ?_
  refine zj_cv (n := 5) (idx := 201) (by decide +kernel) (List.mem_of_getElem? (i := 1914) (by decide +kernel)) rfl rfl (t_Mo_grafting (m := X.b + 1101) hR1 ok) (by decide) (Nat.le_of_ble_eq_true rfl) (Nat.le_of_ble_eq_true rfl) (fun r2 σ2 q2 => ?_)
  obtain ⟨rfl, g2, f2⟩ := q2
  refine zj_eq (off := 285) (tgt := 1803) (by decide +kernel) (by decide) ?_
  exact kk _ _ (CG.up (hC1.k f2) (by omega)) g2 (ok)
theorem zj_c_grafted {X : zz_X} {b L : Nat} {xs : Nat → Int32} {i : Nat} {σ : zz_M} {B : Int} {G : zz_J} (hi : i + 6 ≤ L) (hL : L ≤ 3072) (hC : CG σ X.b B G) (hR : RG σ (X.b + 1101) G) (ok : g_ok G) (hB : B ≤ 900000) (kk : ∀ σ' G', CG σ' X.b (B + 3) G' → RG σ' (X.b + 1101) G' → g_ok G' → zj_G X b L xs 1803 i [] σ') : zj_G X b L xs 1523 i [] σ := by
  refine zj_x (by decide +kernel) ?_
  refine zj_arg (q := 1) (j := 1) rfl (by decide +kernel) (by decide +kernel) (by decide +kernel) (by decide +kernel) (by decide +kernel) (by decide) hi hL ?_
  refine zj_arg (q := 2) (j := 2) rfl (by decide +kernel) (by decide +kernel) (by decide +kernel) (by decide +kernel) (by decide +kernel) (by decide) hi hL ?_
  refine zj_arg (q := 3) (j := 3) rfl (by decide +kernel) (by decide +kernel) (by decide +kernel) (by decide +kernel) (by decide +kernel) (by decide) hi hL ?_
  refine zj_arg (q := 4) (j := 4) rfl (by decide +kernel) (by decide +kernel) (by decide +kernel) (by decide +kernel) (by decide +kernel) (by decide) hi hL ?_
  refine zj_cv (n := 5) (idx := 202) (by decide +kernel) (List.mem_of_getElem? (i := 1294) (by decide +kernel)) rfl rfl (t_TQ_grafted (b := X.b) (B := B) hC ok) (by decide) (Nat.le_of_ble_eq_true rfl) (Nat.le_of_ble_eq_true rfl) (fun r1 σ1 q1 => ?_)
  obtain ⟨rfl, g1, f1⟩ := q1
  have hR1 := hR.k ok f1
  have hC1 := g1
  refine zj_m (by decide +kernel) ?_
  refine zj_arg (q := 1) (j := 1) rfl (by decide +kernel) (by decide +kernel) (by decide +kernel) (by decide +kernel) (by decide +kernel) (by decide) hi hL ?_
  refine zj_arg (q := 2) (j := 2) rfl (by decide +kernel) (by decide +kernel) (by decide +kernel) (by decide +kernel) (by decide +kernel) (by decide) hi hL ?_
  refine zj_arg (q := 3) (j := 3) rfl (by decide +kernel) (by decide +kernel) (by decide +kernel) (by decide +kernel) (by decide +kernel) (by decide) hi hL ?_
  refine zj_arg (q := 4) (j := 4) rfl (by decide +kernel) (by decide +kernel) (by decide +kernel) (by decide +kernel) (by decide +kernel) (by decide) hi hL ?_
  refine zj_cv (n := 5) (idx := 205) (by decide +kernel) (List.mem_of_getElem? (i := 1939) (by decide +kernel)) rfl rfl (t_Mo_grafted (m := X.b + 1101) hR1 ok) (by decide) (Nat.le_of_ble_eq_true rfl) (Nat.le_of_ble_eq_true rfl) (fun r2 σ2 q2 => ?_)
  obtain ⟨rfl, g2, f2⟩ := q2
  refine zj_eq (off := 232) (tgt := 1803) (by decide +kernel) (by decide) ?_
  exact kk _ _ (CG.up (hC1.k f2) (by omega)) g2 (ok)
theorem zj_c_graft {X : zz_X} {b L : Nat} {xs : Nat → Int32} {i : Nat} {σ : zz_M} {B : Int} {G : zz_J} (hi : i + 6 ≤ L) (hL : L ≤ 3072) (hC : CG σ X.b B G) (hR : RG σ (X.b + 1101) G) (ok : g_ok G) (hB : B ≤ 900000) (kk : ∀ σ' G', CG σ' X.b (B + 3) G' → RG σ' (X.b + 1101) G' → g_ok G' → zj_G X b L xs 1803 i [] σ') : zj_G X b L xs 1576 i [] σ := by
  refine zj_x (by decide +kernel) ?_
  refine zj_arg (q := 1) (j := 1) rfl (by decide +kernel) (by decide +kernel) (by decide +kernel) (by decide +kernel) (by decide +kernel) (by decide) hi hL ?_
  refine zj_arg (q := 2) (j := 2) rfl (by decide +kernel) (by decide +kernel) (by decide +kernel) (by decide +kernel) (by decide +kernel) (by decide) hi hL ?_
  refine zj_arg (q := 3) (j := 3) rfl (by decide +kernel) (by decide +kernel) (by decide +kernel) (by decide +kernel) (by decide +kernel) (by decide) hi hL ?_
  refine zj_cv (n := 4) (idx := 206) (by decide +kernel) (List.mem_of_getElem? (i := 1298) (by decide +kernel)) rfl rfl (t_TQ_graft (b := X.b) (B := B) hC ok) (by decide) (Nat.le_of_ble_eq_true rfl) (Nat.le_of_ble_eq_true rfl) (fun r1 σ1 q1 => ?_)
  obtain ⟨rfl, g1, f1⟩ := q1
  have hR1 := hR.k ok f1
  have hC1 := g1
  refine zj_m (by decide +kernel) ?_
  refine zj_arg (q := 1) (j := 1) rfl (by decide +kernel) (by decide +kernel) (by decide +kernel) (by decide +kernel) (by decide +kernel) (by decide) hi hL ?_
  refine zj_arg (q := 2) (j := 2) rfl (by decide +kernel) (by decide +kernel) (by decide +kernel) (by decide +kernel) (by decide +kernel) (by decide) hi hL ?_
  refine zj_arg (q := 3) (j := 3) rfl (by decide +kernel) (by decide +kernel) (by decide +kernel) (by decide +kernel) (by decide +kernel) (by decide) hi hL ?_
  refine zj_cv (n := 4) (idx := 209) (by decide +kernel) (List.mem_of_getElem? (i := 1943) (by decide +kernel)) rfl rfl (t_Mo_graft (m := X.b + 1101) hR1 ok) (by decide) (Nat.le_of_ble_eq_true rfl) (Nat.le_of_ble_eq_true rfl) (fun r2 σ2 q2 => ?_)
  obtain ⟨rfl, g2, f2⟩ := q2
  refine zj_eq (off := 189) (tgt := 1803) (by decide +kernel) (by decide) ?_
  exact kk _ _ (CG.up (hC1.k f2) (by omega)) g2 (ok_graft ok)
theorem zj_c_image {X : zz_X} {b L : Nat} {xs : Nat → Int32} {i : Nat} {σ : zz_M} {B : Int} {G : zz_J} (hi : i + 6 ≤ L) (hL : L ≤ 3072) (hC : CG σ X.b B G) (hR : RG σ (X.b + 1101) G) (ok : g_ok G) (hB : B ≤ 900000) (kk : ∀ σ' G', CG σ' X.b (B + 3) G' → RG σ' (X.b + 1101) G' → g_ok G' → zj_G X b L xs 1803 i [] σ') : zj_G X b L xs 1619 i [] σ := by
  refine zj_x (by decide +kernel) ?_
  refine zj_arg (q := 1) (j := 1) rfl (by decide +kernel) (by decide +kernel) (by decide +kernel) (by decide +kernel) (by decide +kernel) (by decide) hi hL ?_
  refine zj_cv (n := 2) (idx := 210) (by decide +kernel) (List.mem_of_getElem? (i := 1307) (by decide +kernel)) rfl rfl (t_TQ_image (b := X.b) (B := B) hC ok) (by decide) (Nat.le_of_ble_eq_true rfl) (Nat.le_of_ble_eq_true rfl) (fun r1 σ1 q1 => ?_)
  obtain ⟨rfl, g1, f1⟩ := q1
  have hR1 := hR.k ok f1
  have hC1 := g1
  refine zj_m (by decide +kernel) ?_
  refine zj_arg (q := 1) (j := 1) rfl (by decide +kernel) (by decide +kernel) (by decide +kernel) (by decide +kernel) (by decide +kernel) (by decide) hi hL ?_
  refine zj_cv (n := 2) (idx := 213) (by decide +kernel) (List.mem_of_getElem? (i := 2019) (by decide +kernel)) rfl rfl (t_Mo_image (m := X.b + 1101) hR1 ok) (by decide) (Nat.le_of_ble_eq_true rfl) (Nat.le_of_ble_eq_true rfl) (fun r2 σ2 q2 => ?_)
  obtain ⟨rfl, g2, f2⟩ := q2
  refine zj_eq (off := 166) (tgt := 1803) (by decide +kernel) (by decide) ?_
  exact kk _ _ (CG.up (hC1.k f2) (by omega)) g2 (ok_image ok)
theorem zj_c_back {X : zz_X} {b L : Nat} {xs : Nat → Int32} {i : Nat} {σ : zz_M} {B : Int} {G : zz_J} (hi : i + 6 ≤ L) (hL : L ≤ 3072) (hC : CG σ X.b B G) (hR : RG σ (X.b + 1101) G) (ok : g_ok G) (hB : B ≤ 900000) (kk : ∀ σ' G', CG σ' X.b (B + 3) G' → RG σ' (X.b + 1101) G' → g_ok G' → zj_G X b L xs 1803 i [] σ') : zj_G X b L xs 1642 i [] σ := by
  refine zj_x (by decide +kernel) ?_
  refine zj_arg (q := 1) (j := 1) rfl (by decide +kernel) (by decide +kernel) (by decide +kernel) (by decide +kernel) (by decide +kernel) (by decide) hi hL ?_
  refine zj_cv (n := 2) (idx := 214) (by decide +kernel) (List.mem_of_getElem? (i := 1312) (by decide +kernel)) rfl rfl (t_TQ_back (b := X.b) (B := B) hC ok) (by decide) (Nat.le_of_ble_eq_true rfl) (Nat.le_of_ble_eq_true rfl) (fun r1 σ1 q1 => ?_)
  obtain ⟨rfl, g1, f1⟩ := q1
  have hR1 := hR.k ok f1
  have hC1 := g1
  refine zj_m (by decide +kernel) ?_
  refine zj_arg (q := 1) (j := 1) rfl (by decide +kernel) (by decide +kernel) (by decide +kernel) (by decide +kernel) (by decide +kernel) (by decide) hi hL ?_
  refine zj_cv (n := 2) (idx := 217) (by decide +kernel) (List.mem_of_getElem? (i := 2023) (by decide +kernel)) rfl rfl (t_Mo_back (m := X.b + 1101) hR1 ok) (by decide) (Nat.le_of_ble_eq_true rfl) (Nat.le_of_ble_eq_true rfl) (fun r2 σ2 q2 => ?_)
  obtain ⟨rfl, g2, f2⟩ := q2
  refine zj_eq (off := 143) (tgt := 1803) (by decide +kernel) (by decide) ?_
  exact kk _ _ (CG.up (hC1.k f2) (by omega)) g2 (ok_back ok)
theorem zj_c_put {X : zz_X} {b L : Nat} {xs : Nat → Int32} {i : Nat} {σ : zz_M} {B : Int} {G : zz_J} (hi : i + 6 ≤ L) (hL : L ≤ 3072) (hC : CG σ X.b B G) (hR : RG σ (X.b + 1101) G) (ok : g_ok G) (hB : B ≤ 900000) (kk : ∀ σ' G', CG σ' X.b (B + 3) G' → RG σ' (X.b + 1101) G' → g_ok G' → zj_G X b L xs 1803 i [] σ') : zj_G X b L xs 1665 i [] σ := by
  refine zj_x (by decide +kernel) ?_
  refine zj_arg (q := 1) (j := 1) rfl (by decide +kernel) (by decide +kernel) (by decide +kernel) (by decide +kernel) (by decide +kernel) (by decide) hi hL ?_
  refine zj_arg (q := 2) (j := 2) rfl (by decide +kernel) (by decide +kernel) (by decide +kernel) (by decide +kernel) (by decide +kernel) (by decide) hi hL ?_
  refine zj_cv (n := 3) (idx := 218) (by decide +kernel) (List.mem_of_getElem? (i := 1316) (by decide +kernel)) rfl rfl (t_TQ_put (b := X.b) (B := B) hC ok) (by decide) (Nat.le_of_ble_eq_true rfl) (Nat.le_of_ble_eq_true rfl) (fun r1 σ1 q1 => ?_)
  obtain ⟨rfl, g1, f1⟩ := q1
  have hR1 := hR.k ok f1
  have hC1 := g1
  refine zj_m (by decide +kernel) ?_
  refine zj_arg (q := 1) (j := 1) rfl (by decide +kernel) (by decide +kernel) (by decide +kernel) (by decide +kernel) (by decide +kernel) (by decide) hi hL ?_
  refine zj_arg (q := 2) (j := 2) rfl (by decide +kernel) (by decide +kernel) (by decide +kernel) (by decide +kernel) (by decide +kernel) (by decide) hi hL ?_
  refine zj_cv (n := 3) (idx := 221) (by decide +kernel) (List.mem_of_getElem? (i := 1998) (by decide +kernel)) rfl rfl (t_Mo_put (m := X.b + 1101) hR1 ok) (by decide) (Nat.le_of_ble_eq_true rfl) (Nat.le_of_ble_eq_true rfl) (fun r2 σ2 q2 => ?_)
  obtain ⟨rfl, g2, f2⟩ := q2
  refine zj_eq (off := 110) (tgt := 1803) (by decide +kernel) (by decide) ?_
  exact kk _ _ (CG.up (hC1.k f2) (by omega)) g2 (ok_put ok (Or.inl rfl))
theorem zj_c_take {X : zz_X} {b L : Nat} {xs : Nat → Int32} {i : Nat} {σ : zz_M} {B : Int} {G : zz_J} (hi : i + 6 ≤ L) (hL : L ≤ 3072) (hC : CG σ X.b B G) (hR : RG σ (X.b + 1101) G) (ok : g_ok G) (hB : B ≤ 900000) (kk : ∀ σ' G', CG σ' X.b (B + 3) G' → RG σ' (X.b + 1101) G' → g_ok G' → zj_G X b L xs 1803 i [] σ') : zj_G X b L xs 1698 i [] σ := by
  refine zj_x (by decide +kernel) ?_
  refine zj_arg (q := 1) (j := 1) rfl (by decide +kernel) (by decide +kernel) (by decide +kernel) (by decide +kernel) (by decide +kernel) (by decide) hi hL ?_
  refine zj_cv (n := 2) (idx := 222) (by decide +kernel) (List.mem_of_getElem? (i := 1324) (by decide +kernel)) rfl rfl (t_TQ_take (b := X.b) (B := B) hC ok) (by decide) (Nat.le_of_ble_eq_true rfl) (Nat.le_of_ble_eq_true rfl) (fun r1 σ1 q1 => ?_)
  obtain ⟨rfl, g1, f1⟩ := q1
  have hR1 := hR.k ok f1
  have hC1 := g1
  refine zj_m (by decide +kernel) ?_
  refine zj_arg (q := 1) (j := 1) rfl (by decide +kernel) (by decide +kernel) (by decide +kernel) (by decide +kernel) (by decide +kernel) (by decide) hi hL ?_
  refine zj_cv (n := 2) (idx := 225) (by decide +kernel) (List.mem_of_getElem? (i := 2007) (by decide +kernel)) rfl rfl (t_Mo_take (m := X.b + 1101) hR1 ok) (by decide) (Nat.le_of_ble_eq_true rfl) (Nat.le_of_ble_eq_true rfl) (fun r2 σ2 q2 => ?_)
  obtain ⟨rfl, g2, f2⟩ := q2
  refine zj_eq (off := 87) (tgt := 1803) (by decide +kernel) (by decide) ?_
  exact kk _ _ (CG.up (hC1.k f2) (by omega)) g2 (ok_take ok (Or.inl rfl))
theorem zj_c_fore {X : zz_X} {b L : Nat} {xs : Nat → Int32} {i : Nat} {σ : zz_M} {B : Int} {G : zz_J} (hi : i + 6 ≤ L) (hL : L ≤ 3072) (hC : CG σ X.b B G) (hR : RG σ (X.b + 1101) G) (ok : g_ok G) (hB : B ≤ 900000) (kk : ∀ σ' G', CG σ' X.b (B + 3) G' → RG σ' (X.b + 1101) G' → g_ok G' → zj_G X b L xs 1803 i [] σ') : zj_G X b L xs 1721 i [] σ := by
  refine zj_x (by decide +kernel) ?_
  refine zj_arg (q := 1) (j := 1) rfl (by decide +kernel) (by decide +kernel) (by decide +kernel) (by decide +kernel) (by decide +kernel) (by decide) hi hL ?_
  refine zj_arg (q := 2) (j := 2) rfl (by decide +kernel) (by decide +kernel) (by decide +kernel) (by decide +kernel) (by decide +kernel) (by decide) hi hL ?_
  refine zj_cv (n := 3) (idx := 226) (by decide +kernel) (List.mem_of_getElem? (i := 1333) (by decide +kernel)) rfl rfl (t_TQ_fore (b := X.b) (B := B) hC ok) (by decide) (Nat.le_of_ble_eq_true rfl) (Nat.le_of_ble_eq_true rfl) (fun r1 σ1 q1 => ?_)
  obtain ⟨rfl, g1, f1⟩ := q1
  have hR1 := hR.k ok f1
  have hC1 := g1
  refine zj_m (by decide +kernel) ?_
  refine zj_arg (q := 1) (j := 1) rfl (by decide +kernel) (by decide +kernel) (by decide +kernel) (by decide +kernel) (by decide +kernel) (by decide) hi hL ?_
  refine zj_arg (q := 2) (j := 2) rfl (by decide +kernel) (by decide +kernel) (by decide +kernel) (by decide +kernel) (by decide +kernel) (by decide) hi hL ?_
  refine zj_cv (n := 3) (idx := 229) (by decide +kernel) (List.mem_of_getElem? (i := 2011) (by decide +kernel)) rfl rfl (t_Mo_fore (m := X.b + 1101) hR1 ok) (by decide) (Nat.le_of_ble_eq_true rfl) (Nat.le_of_ble_eq_true rfl) (fun r2 σ2 q2 => ?_)
  obtain ⟨rfl, g2, f2⟩ := q2
  refine zj_eq (off := 54) (tgt := 1803) (by decide +kernel) (by decide) ?_
  exact kk _ _ (CG.up (hC1.k f2) (by omega)) g2 (ok_fore ok)
theorem zj_c_last {X : zz_X} {b L : Nat} {xs : Nat → Int32} {i : Nat} {σ : zz_M} {B : Int} {G : zz_J} (hi : i + 6 ≤ L) (hL : L ≤ 3072) (hC : CG σ X.b B G) (hR : RG σ (X.b + 1101) G) (ok : g_ok G) (hB : B ≤ 900000) (kk : ∀ σ' G', CG σ' X.b (B + 3) G' → RG σ' (X.b + 1101) G' → g_ok G' → zj_G X b L xs 1803 i [] σ') : zj_G X b L xs 1754 i [] σ := by
  refine zj_x (by decide +kernel) ?_
  refine zj_arg (q := 1) (j := 1) rfl (by decide +kernel) (by decide +kernel) (by decide +kernel) (by decide +kernel) (by decide +kernel) (by decide) hi hL ?_
  refine zj_cv (n := 2) (idx := 230) (by decide +kernel) (List.mem_of_getElem? (i := 1337) (by decide +kernel)) rfl rfl (t_TQ_last (b := X.b) (B := B) hC ok) (by decide) (Nat.le_of_ble_eq_true rfl) (Nat.le_of_ble_eq_true rfl) (fun r1 σ1 q1 => ?_)
  obtain ⟨rfl, g1, f1⟩ := q1
  have hR1 := hR.k ok f1
  have hC1 := g1
  refine zj_m (by decide +kernel) ?_
  refine zj_arg (q := 1) (j := 1) rfl (by decide +kernel) (by decide +kernel) (by decide +kernel) (by decide +kernel) (by decide +kernel) (by decide) hi hL ?_
  refine zj_cv (n := 2) (idx := 233) (by decide +kernel) (List.mem_of_getElem? (i := 2015) (by decide +kernel)) rfl rfl (t_Mo_last (m := X.b + 1101) hR1 ok) (by decide) (Nat.le_of_ble_eq_true rfl) (Nat.le_of_ble_eq_true rfl) (fun r2 σ2 q2 => ?_)
  obtain ⟨rfl, g2, f2⟩ := q2
  refine zj_eq (off := 31) (tgt := 1803) (by decide +kernel) (by decide) ?_
  exact kk _ _ (CG.up (hC1.k f2) (by omega)) g2 (ok_last ok)
theorem zj_c_undo {X : zz_X} {b L : Nat} {xs : Nat → Int32} {i : Nat} {σ : zz_M} {B : Int} {G : zz_J} (hi : i + 6 ≤ L) (hL : L ≤ 3072) (hC : CG σ X.b B G) (hR : RG σ (X.b + 1101) G) (ok : g_ok G) (hB : B ≤ 900000) (kk : ∀ σ' G', CG σ' X.b (B + 3) G' → RG σ' (X.b + 1101) G' → g_ok G' → zj_G X b L xs 1803 i [] σ') : zj_G X b L xs 1777 i [] σ := by
  refine zj_x (by decide +kernel) ?_
  refine zj_cv (n := 1) (idx := 234) (by decide +kernel) (List.mem_of_getElem? (i := 1341) (by decide +kernel)) rfl rfl (t_TQ_undo (b := X.b) (B := B) hC ok) (by decide) (Nat.le_of_ble_eq_true rfl) (Nat.le_of_ble_eq_true rfl) (fun r1 σ1 q1 => ?_)
  obtain ⟨rfl, g1, f1⟩ := q1
  have hR1 := hR.k ok f1
  have hC1 := g1
  refine zj_m (by decide +kernel) ?_
  refine zj_cv (n := 1) (idx := 237) (by decide +kernel) (List.mem_of_getElem? (i := 2027) (by decide +kernel)) rfl rfl (t_Mo_undo (m := X.b + 1101) hR1 ok) (by decide) (Nat.le_of_ble_eq_true rfl) (Nat.le_of_ble_eq_true rfl) (fun r2 σ2 q2 => ?_)
  obtain ⟨rfl, g2, f2⟩ := q2
  refine zj_eq (off := 18) (tgt := 1803) (by decide +kernel) (by decide) ?_
  exact kk _ _ (CG.up (hC1.k f2) (by omega)) g2 (ok_undo ok)
theorem zj_c_anew {X : zz_X} {b L : Nat} {xs : Nat → Int32} {i : Nat} {σ : zz_M} {B : Int} {G : zz_J} (hi : i + 6 ≤ L) (hL : L ≤ 3072) (hC : CG σ X.b B G) (hR : RG σ (X.b + 1101) G) (ok : g_ok G) (hB : B ≤ 900000) (kk : ∀ σ' G', CG σ' X.b (B + 3) G' → RG σ' (X.b + 1101) G' → g_ok G' → zj_G X b L xs 1803 i [] σ') : zj_G X b L xs 1790 i [] σ := by
  refine zj_x (by decide +kernel) ?_
  refine zj_cv (n := 1) (idx := 238) (by decide +kernel) (List.mem_of_getElem? (i := 1349) (by decide +kernel)) rfl rfl (t_TQ_anew (b := X.b) (B := B) hC ok) (by decide) (Nat.le_of_ble_eq_true rfl) (Nat.le_of_ble_eq_true rfl) (fun r1 σ1 q1 => ?_)
  obtain ⟨rfl, g1, f1⟩ := q1
  have hR1 := hR.k ok f1
  have hC1 := g1
  refine zj_m (by decide +kernel) ?_
  refine zj_cv (n := 1) (idx := 241) (by decide +kernel) (List.mem_of_getElem? (i := 2035) (by decide +kernel)) rfl rfl (t_Mo_anew (m := X.b + 1101) hR1 ok) (by decide) (Nat.le_of_ble_eq_true rfl) (Nat.le_of_ble_eq_true rfl) (fun r2 σ2 q2 => ?_)
  obtain ⟨rfl, g2, f2⟩ := q2
  refine zj_eq (off := 5) (tgt := 1803) (by decide +kernel) (by decide) ?_
  exact kk _ _ (CG.up (hC1.k f2) (by omega)) g2 (ok_anew ok)
