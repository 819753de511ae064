/-! THE LAW'S LOOP. -/
def zj_offs : Array Int := #[235, 298, 321, 334, 357, 380, 413, 436, 469, 492, 515, 538, 561, 594, 627, 660, 693, 736, 759, 792, 825, 868, 901, 914, 937, 970, 1023, 1036, 1059, 1072, 1085, 1098, 1121, 1144, 1167, 1180, 1203, 1226, 1269, 1312, 1345, 1368, 1391, 1414, 1437, 1490, 1543, 1586, 1609, 1632, 1665, 1688, 1721, 1744, 1757]
theorem zj_d33 : decode code 33 = .ok (.tableswitch 1770 0 54 zj_offs, 235) := by decide +kernel
section ZW
variable {X : zz_X} {b L : Nat} {xs : Nat → Int32} {i : Nat} {σ : zz_M} {B : Int} {G : zz_J}
theorem zj_all (hi : i + 6 ≤ L) (hL : L ≤ 3072) (hC : CG σ X.b B G) (hR : RG σ (X.b + 1101) G) (ok : g_ok G) (hB : B ≤ 900000) (kk : ∀ σ' G', CG σ' X.b (B + 3) G' → RG σ' (X.b + 1101) G' → g_ok G' → zj_G X b L xs 1803 i [] σ') : ∀ k : Nat, k < 55 → ∃ (off : Int) (tgt : Nat), zj_offs[k]? = some off ∧ ((33 : Nat) : Int) + off = (tgt : Int) ∧ zj_G X b L xs tgt i [] σ := by
  intro k hk
  match k, hk with
  | 0, _ => exact ⟨235, 268, rfl, by decide, zj_c_feed hi hL hC hR ok hB kk⟩
  | 1, _ => exact ⟨298, 331, rfl, by decide, zj_c_end hi hL hC hR ok hB kk⟩
  | 2, _ => exact ⟨321, 354, rfl, by decide, zj_c_house hi hL hC hR ok hB kk⟩
  | 3, _ => exact ⟨334, 367, rfl, by decide, zj_c_fault hi hL hC hR ok hB kk⟩
  | 4, _ => exact ⟨357, 390, rfl, by decide, zj_c_count hi hL hC hR ok hB kk⟩
  | 5, _ => exact ⟨380, 413, rfl, by decide, zj_c_version hi hL hC hR ok hB kk⟩
  | 6, _ => exact ⟨413, 446, rfl, by decide, zj_c_size hi hL hC hR ok hB kk⟩
  | 7, _ => exact ⟨436, 469, rfl, by decide, zj_c_at hi hL hC hR ok hB kk⟩
  | 8, _ => exact ⟨469, 502, rfl, by decide, zj_c_first hi hL hC hR ok hB kk⟩
  | 9, _ => exact ⟨492, 525, rfl, by decide, zj_c_tail hi hL hC hR ok hB kk⟩
  | 10, _ => exact ⟨515, 548, rfl, by decide, zj_c_like hi hL hC hR ok hB kk⟩
  | 11, _ => exact ⟨538, 571, rfl, by decide, zj_c_forks hi hL hC hR ok hB kk⟩
  | 12, _ => exact ⟨561, 594, rfl, by decide, zj_c_meet hi hL hC hR ok hB kk⟩
  | 13, _ => exact ⟨594, 627, rfl, by decide, zj_c_apart hi hL hC hR ok hB kk⟩
  | 14, _ => exact ⟨627, 660, rfl, by decide, zj_c_state hi hL hC hR ok hB kk⟩
  | 15, _ => exact ⟨660, 693, rfl, by decide, zj_c_row hi hL hC hR ok hB kk⟩
  | 16, _ => exact ⟨693, 726, rfl, by decide, zj_c_cell hi hL hC hR ok hB kk⟩
  | 17, _ => exact ⟨736, 769, rfl, by decide, zj_c_twin hi hL hC hR ok hB kk⟩
  | 18, _ => exact ⟨759, 792, rfl, by decide, zj_c_path hi hL hC hR ok hB kk⟩
  | 19, _ => exact ⟨792, 825, rfl, by decide, zj_c_along hi hL hC hR ok hB kk⟩
  | 20, _ => exact ⟨825, 858, rfl, by decide, zj_c_origin hi hL hC hR ok hB kk⟩
  | 21, _ => exact ⟨868, 901, rfl, by decide, zj_c_from hi hL hC hR ok hB kk⟩
  | 22, _ => exact ⟨901, 934, rfl, by decide, zj_c_lost hi hL hC hR ok hB kk⟩
  | 23, _ => exact ⟨914, 947, rfl, by decide, zj_c_holds hi hL hC hR ok hB kk⟩
  | 24, _ => exact ⟨937, 970, rfl, by decide, zj_c_shares hi hL hC hR ok hB kk⟩
  | 25, _ => exact ⟨970, 1003, rfl, by decide, zj_c_held hi hL hC hR ok hB kk⟩
  | 26, _ => exact ⟨1023, 1056, rfl, by decide, zj_c_made hi hL hC hR ok hB kk⟩
  | 27, _ => exact ⟨1036, 1069, rfl, by decide, zj_c_spent hi hL hC hR ok hB kk⟩
  | 28, _ => exact ⟨1059, 1092, rfl, by decide, zj_c_ledger hi hL hC hR ok hB kk⟩
  | 29, _ => exact ⟨1072, 1105, rfl, by decide, zj_c_dearest hi hL hC hR ok hB kk⟩
  | 30, _ => exact ⟨1085, 1118, rfl, by decide, zj_c_overdue hi hL hC hR ok hB kk⟩
  | 31, _ => exact ⟨1098, 1131, rfl, by decide, zj_c_by hi hL hC hR ok hB kk⟩
  | 32, _ => exact ⟨1121, 1154, rfl, by decide, zj_c_peak hi hL hC hR ok hB kk⟩
  | 33, _ => exact ⟨1144, 1177, rfl, by decide, zj_c_balanced hi hL hC hR ok hB kk⟩
  | 34, _ => exact ⟨1167, 1200, rfl, by decide, zj_c_balance hi hL hC hR ok hB kk⟩
  | 35, _ => exact ⟨1180, 1213, rfl, by decide, zj_c_until hi hL hC hR ok hB kk⟩
  | 36, _ => exact ⟨1203, 1236, rfl, by decide, zj_c_rest hi hL hC hR ok hB kk⟩
  | 37, _ => exact ⟨1226, 1259, rfl, by decide, zj_c_worst hi hL hC hR ok hB kk⟩
  | 38, _ => exact ⟨1269, 1302, rfl, by decide, zj_c_worstAt hi hL hC hR ok hB kk⟩
  | 39, _ => exact ⟨1312, 1345, rfl, by decide, zj_c_spike hi hL hC hR ok hB kk⟩
  | 40, _ => exact ⟨1345, 1378, rfl, by decide, zj_c_drain hi hL hC hR ok hB kk⟩
  | 41, _ => exact ⟨1368, 1401, rfl, by decide, zj_c_tell hi hL hC hR ok hB kk⟩
  | 42, _ => exact ⟨1391, 1424, rfl, by decide, zj_c_octet hi hL hC hR ok hB kk⟩
  | 43, _ => exact ⟨1414, 1447, rfl, by decide, zj_c_walk hi hL hC hR ok hB kk⟩
  | 44, _ => exact ⟨1437, 1470, rfl, by decide, zj_c_grafting hi hL hC hR ok hB kk⟩
  | 45, _ => exact ⟨1490, 1523, rfl, by decide, zj_c_grafted hi hL hC hR ok hB kk⟩
  | 46, _ => exact ⟨1543, 1576, rfl, by decide, zj_c_graft hi hL hC hR ok hB kk⟩
  | 47, _ => exact ⟨1586, 1619, rfl, by decide, zj_c_image hi hL hC hR ok hB kk⟩
  | 48, _ => exact ⟨1609, 1642, rfl, by decide, zj_c_back hi hL hC hR ok hB kk⟩
  | 49, _ => exact ⟨1632, 1665, rfl, by decide, zj_c_put hi hL hC hR ok hB kk⟩
  | 50, _ => exact ⟨1665, 1698, rfl, by decide, zj_c_take hi hL hC hR ok hB kk⟩
  | 51, _ => exact ⟨1688, 1721, rfl, by decide, zj_c_fore hi hL hC hR ok hB kk⟩
  | 52, _ => exact ⟨1721, 1754, rfl, by decide, zj_c_last hi hL hC hR ok hB kk⟩
  | 53, _ => exact ⟨1744, 1777, rfl, by decide, zj_c_undo hi hL hC hR ok hB kk⟩
  | 54, _ => exact ⟨1757, 1790, rfl, by decide, zj_c_anew hi hL hC hR ok hB kk⟩
  | n + 55, h => omega
theorem zj_sw {st : List zz_V} {x : Int32} (hk : ∀ k : Nat, k < 55 → ∃ (off : Int) (tgt : Nat), zj_offs[k]? = some off ∧ ((33 : Nat) : Int) + off = (tgt : Int) ∧ zj_G X b L xs tgt i [] σ) (hd : zj_G X b L xs 1803 i [] σ) : zj_G X b L xs 33 i [zI x.toInt] σ := by
  intro p e s m below meth c C0 hb0 hE H locs lm hS hR hl hst
  have e0 : ([zI x.toInt] : List zz_V).map (zz_toV X) = [.int x] := by
    simp only [List.map_cons, List.map_nil, zz_toV, Int32.ofInt_toInt]
  rw [e0]
  have hno : ∀ v ∈ ([] : List zz_V), zz_ok X v := fun v hv => by cases hv
  by_cases h1 : x.toInt < 0 ∨ 54 < x.toInt
  · exact lv_tableOut C0.1 C0.2.1 zj_d33 h1 (tgt := 1803) (by decide) (hd p e s m below meth c C0 hb0 hE H locs lm hS hR hl hno)
  · obtain ⟨off, tgt, g1, g2, g3⟩ := hk x.toInt.toNat (by omega)
    exact lv_tableIn C0.1 C0.2.1 zj_d33 (by omega) (by omega) (off := off) (by rw [show (x.toInt - 0).toNat = x.toInt.toNat by omega]; exact g1) g2 (g3 p e s m below meth c C0 hb0 hE H locs lm hS hR hl hno)
theorem zj_next (hi : i ≤ 3072) (kk : zj_G X b L xs 18 (i + 6) [] σ) : zj_G X b L xs 1803 i [] σ := by
  intro p e s m below meth c C0 hb0 hE H locs lm hS hR hl hst
  refine lv_iinc C0.1 C0.2.1 (i := 3) (k := 0) (n := 6) (x := Int32.ofInt (i : Int)) (v := Int32.ofInt ((i + 6 : Nat) : Int)) (by decide +kernel) hl rfl (by rw [← Int32.ofInt_add]; rfl) (by decide) rfl (fun lm' hl' => ?_)
  refine lv_goto C0.1 C0.2.1 (off := -1788) (tgt := 18) (by decide +kernel) (by decide) ?_
  exact kk p e s m below meth c C0 hb0 hE H locs lm' hS hR hl' hst
theorem zj_end : zj_G X b L xs 1809 i [] σ := by
  intro p e s m below meth c C0 hb0 hE H locs lm hS hR hl hst
  obtain ⟨hx, hb, hr, hml, hown, hts, hX, hbl, hlocks, hgv⟩ := id C0
  refine lv_iconst (n := 1) (v := 1) hx hb (by decide +kernel) (by decide) ?_
  refine va_forget (fun q hq => ?_) (lw_ret hx hb hr hlocks (by decide +kernel))
  have : X.b ≤ q.base := hS.2.2 q hq
  omega
theorem zj_head (hL : L ≤ 3072) (hi : i ≤ 3078) (kt : L < i + 6 → zj_G X b L xs 1809 i [] σ) (kf : i + 6 ≤ L → zj_G X b L xs 33 i [zI ((xs i) &&& 63).toInt] σ) : zj_G X b L xs 18 i [] σ := by
  intro p e s m below meth c C0 hb0 hE H locs lm hS hR hl hst
  obtain ⟨hx, hb, hr, hml, hown, hts, hX, hbl, hlocks, hgv⟩ := id C0
  have hbA : ¬ zz_A X b := by
    show ¬ X.b ≤ b
    omega
  refine lv_iload_n (k := 3) hx hb (by decide +kernel) rfl (lv_at hl 0 rfl) ?_
  refine lv_aload_n (k := 0) hx hb (by decide +kernel) rfl (lv_at hl 3 rfl) ?_
  refine va_slen hx hb hX hbl hbA hS (by decide +kernel) ?_
  refine lv_bipush (n := 6) (v := Int32.ofInt 6) hx hb (by decide +kernel) (by decide +kernel) ?_
  refine lv_isub hx hb (by decide +kernel) ?_
  rw [zz_ofN (n := L) (by omega), ← Int32.ofInt_sub]
  have o1 : zz_in ((L : Nat) - 6 : Int) := by unfold zz_in; omega
  have o2 : zz_in ((i : Nat) : Int) := by unfold zz_in; omega
  refine lv_icmp_gt (off := 1785) (tgt := 1809) hx hb (by decide +kernel) (by decide) (fun z => ?_) (fun z => ?_)
  · exact kt (by have := (zz_lt0 o1 o2).mp z; omega) p e s m below meth c C0 hb0 hE H locs lm hS hR hl hst
  · have hi6 : i + 6 ≤ L := by
      have : ¬ ((L : Nat) - 6 : Int) < (i : Nat) := fun q => z ((zz_lt0 o1 o2).mpr q)
      omega
    refine lv_aload_n (k := 0) hx hb (by decide +kernel) rfl (lv_at hl 3 rfl) ?_
    refine lv_iload_n (k := 3) hx hb (by decide +kernel) rfl (lv_at hl 0 rfl) ?_
    obtain ⟨g1, g2⟩ := zj_in (k := i) hX (by omega) hL
    refine va_sld hx hb hX hbl hbA hS g1 (by decide +kernel) ?_
    rw [g2]
    refine lv_bipush (n := 63) (v := 63) hx hb (by decide +kernel) (by decide +kernel) ?_
    refine lv_iand hx hb (by decide +kernel) ?_
    have k2 := kf hi6 p e s m below meth c C0 hb0 hE H locs lm hS hR hl (zz_all1 (P := zz_ok X) (zz_i32 _) hst)
    simp only [List.map_cons, List.map_nil, zz_toV, Int32.ofInt_toInt] at k2
    exact k2
theorem zj_loop (hL : L ≤ 3072) : ∀ (n i : Nat) (σ : zz_M) (B : Int) (G : zz_J), L < i + n → i ≤ L → B ≤ i → CG σ X.b B G → RG σ (X.b + 1101) G → g_ok G → zj_G X b L xs 18 i [] σ := by
  intro n
  induction n with
  | zero => intro i σ B G h1 h2; omega
  | succ n ih =>
    intro i σ B G h1 h2 hB hC hR ok
    refine zj_head hL (by omega) (fun _ => zj_end) (fun hi => ?_)
    have go : ∀ σ' G', CG σ' X.b (B + 3) G' → RG σ' (X.b + 1101) G' → g_ok G' → zj_G X b L xs 1803 i [] σ' := fun σ' G' q1 q2 q3 => zj_next (by omega) (ih (i + 6) σ' (B + 3) G' (by omega) hi (by omega) q1 q2 q3)
    exact zj_sw (st := []) (zj_all hi hL hC hR ok (by omega) go) (go σ G (hC.up (by omega)) hR ok)
end ZW
