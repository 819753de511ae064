/-! Frames of one side over the other; a long made of two numbers. -/
theorem RG.k {σ σ' : zz_M} {b : Nat} {G : zz_J} (h : RG σ (b + 1101) G) (ok : g_ok G) (hF : zz_F (A_cl b) σ σ') : RG σ' (b + 1101) G := by
  refine Fr.RG h ok ⟨fun f _ => (hF (b + 1101) (fun z => by unfold A_cl at z; omega)).1 f, fun a i hp => ?_⟩
  rw [(hF a (fun z => by unfold A_cl at z; unfold pa at hp; omega)).2]
theorem CG.k {σ σ' : zz_M} {b : Nat} {B : Int} {G : zz_J} (h : CG σ b B G) (hF : zz_F (A_rf (b + 1101)) σ σ') : CG σ' b B G := h.f hF (fun a z => by unfold A_rf at z; omega)
section ZW
variable {X : zz_X} {b L : Nat} {xs : Nat → Int32} {pc i : Nat} {st : List zz_V} {σ : zz_M}
def zj_h (x : Int) : Int := ((Int32.ofInt x).toInt64 <<< ((Int32.ofInt 32).toInt64 &&& 63)).toInt
def zj_j (x y : Int) : Int := (Int64.ofInt x ||| ((Int32.ofInt y).toInt64 &&& 4294967295)).toInt
theorem zj_l1 {x : Int} (h1 : decode code pc = .ok (.i2l, 1)) (h2 : decode code (pc + 1) = .ok (.bipush 32, 2)) (h3 : decode code (pc + 3) = .ok (.lshl, 1)) (kk : zj_G X b L xs (pc + 4) i (zL (zj_h x) :: st) σ) : zj_G X b L xs pc i (zI x :: st) σ := by
  intro p e s m below meth c C0 hb0 hE H locs lm hS hR hl hst
  obtain ⟨hx, hb, hr, hml, hown, hts, hX, hbl, hlocks, hgv⟩ := id C0
  refine lv_i2l hx hb h1 rfl ?_
  refine lv_bipush hx hb h2 (v := Int32.ofInt 32) (by decide +kernel) ?_
  refine lv_lshl hx hb h3 rfl ?_
  have k2 := kk p e s m below meth c C0 hb0 hE H locs lm hS hR hl (zz_all1 (P := zz_ok X) (show zz_inL (zj_h x) from zz_i64 _) (fun v hv => hst v (List.mem_cons_of_mem _ hv)))
  unfold zj_h at k2
  simp only [List.map_cons, zz_toV, Int64.ofInt_toInt] at k2
  exact k2
theorem zj_l2 {x y : Int} {idx : Nat} (h1 : decode code pc = .ok (.i2l, 1)) (h2 : decode code (pc + 1) = .ok (.ldc2_w idx, 3)) (hw : Cond.constantLong R_law idx 4294967295 ∈ lw_tbl) (h3 : decode code (pc + 4) = .ok (.land, 1)) (h4 : decode code (pc + 5) = .ok (.lor, 1)) (kk : zj_G X b L xs (pc + 6) i (zL (zj_j x y) :: st) σ) : zj_G X b L xs pc i (zI y :: zL x :: st) σ := by
  intro p e s m below meth c C0 hb0 hE H locs lm hS hR hl hst
  obtain ⟨hx, hb, hr, hml, hown, hts, hX, hbl, hlocks, hgv⟩ := id C0
  refine lv_i2l hx hb h1 rfl ?_
  refine lv_ldc2 hx hb hown (hts _ hw) h2 ?_
  refine lv_land hx hb h3 ?_
  refine lv_lor hx hb h4 ?_
  have k2 := kk p e s m below meth c C0 hb0 hE H locs lm hS hR hl (zz_all1 (P := zz_ok X) (show zz_inL (zj_j x y) from zz_i64 _) (fun v hv => hst v (List.mem_cons_of_mem _ (List.mem_cons_of_mem _ hv))))
  unfold zj_j at k2
  simp only [List.map_cons, zz_toV, Int64.ofInt_toInt] at k2
  exact k2
end ZW
