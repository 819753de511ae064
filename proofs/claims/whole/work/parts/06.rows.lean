/-! THE ROWS over zz_G: a step, a jump, a branch, a switch, arrays, a call, an end. -/
theorem zz_row {P : zz_P} {j : Nat} {e : zz_C} (hok : zz_okP P) (h : P.code[j]? = some e) : decode P.bytes e.1 = .ok (e.2.1, e.2.2.1) ∧ (zz_end e.2.1 = false → zz_pc P (j + 1) = e.1 + e.2.2.1) ∧ zz_ck P.y.cls P.maxL P.code e.1 e.2.2.1 e.2.1 e.2.2.2 = true ∧ (∀ w ∈ zz_wd zz_mn P.y.cls e, w ∈ zz_tb) ∧ zz_pc P j = e.1 := by
  have h1 := List.all_eq_true.mp hok.1 (e, j) (List.mk_mem_zipIdx_iff_getElem?.mpr h)
  unfold zz_dc at h1
  simp only [Bool.and_eq_true] at h1
  obtain ⟨⟨h2, h3⟩, h4⟩ := h1
  refine ⟨of_decide_eq_true h2, fun he => ?_, h4, fun w hw => hok.2 w (List.mem_flatMap.mpr ⟨e, List.mem_of_getElem? h, hw⟩), by unfold zz_pc; rw [h]⟩
  unfold zz_pc
  cases hn : P.code[j + 1]? with
  | none =>
    rw [hn] at h3
    dsimp only at h3
    rw [he] at h3
    cases h3
  | some e' =>
    rw [hn] at h3
    exact of_decide_eq_true h3
theorem zz_tgt {P : zz_P} {pc t : Nat} {off : Int} (h : zz_tg P.code pc off t = true) : (pc : Int) + off = (zz_pc P t : Int) := by
  unfold zz_tg at h
  unfold zz_pc
  cases ht : P.code[t]? with
  | none => rw [ht] at h; cases h
  | some e => rw [ht] at h; exact of_decide_eq_true h
theorem zz_step_end {ins : Instr} {ts : List Nat} {ls st : List zz_V} {σ : zz_M} {r : List zz_V × List zz_V × zz_M} (h : zz_step ins ts ls st σ = some r) : zz_end ins = false := by
  cases ins <;> first | rfl | (cases h; done)
section ZR
variable {X : zz_X} {d : Nat} {P : zz_P} {j : Nat} {ls st : List zz_V} {σ : zz_M} {Post : Option zz_V → zz_M → Prop}
/-- a step -/
theorem zz_gs {j' : Nat} {ls' st' : List zz_V} {σ' : zz_M} (h : zz_s1 P.code j ls st σ = some (j', ls', st', σ')) (k : zz_G X d P j' ls' st' σ' Post) : zz_G X d P j ls st σ Post := by
  intro p e s m args below meth c H locs lm hok hx hb hml hr hlk hown hts hE hS hR hl hlen hls hst
  unfold zz_s1 at h
  cases he : P.code[j]? with
  | none => rw [he] at h; cases h
  | some en =>
    rw [he] at h
    dsimp only at h
    cases hs : zz_step en.2.1 en.2.2.2 ls st σ with
    | none => rw [hs] at h; cases h
    | some r =>
      obtain ⟨ls1, st1, σ1⟩ := r
      rw [hs] at h
      cases h
      obtain ⟨r1, r2, r3, r4, r5⟩ := zz_row hok he
      rw [r5]
      refine zz_step_ok (j := j) hs r1 r3 r4 hx hb hown hts hE hS hR hl hlen hls hst (fun H' locs' lm' hS' hR' hl' hlen' hls' hst' => ?_)
      rw [← r2 (zz_step_end hs)]
      exact k p e s m args below meth c H' locs' lm' hok hx hb hml hr hlk hown hts hE hS' hR' hl' hlen' hls' hst'
def zz_jc : Instr → List zz_V → Option (Bool × List zz_V)
  | .goto _, st => some (true, st)
  | .ifnull _, .inr (.inr (.inl _)) :: r => some (false, r)
  | .ifnull _, .inr (.inr (.inr 0)) :: r => some (true, r)
  | .ifnonnull _, .inr (.inr (.inl _)) :: r => some (true, r)
  | .ifnonnull _, .inr (.inr (.inr 0)) :: r => some (false, r)
  | _, _ => none
def zz_j1 (code : List zz_C) (j : Nat) (st : List zz_V) : Option (Nat × List zz_V) := match code[j]? with
  | some e => match zz_jc e.2.1 st with
    | some (true, r) => some (e.2.2.2.getD 0 0, r)
    | some (false, r) => some (j + 1, r)
    | none => none
  | none => none
/-- a jump: goto; null or not -/
theorem zz_jp {j' : Nat} {st' : List zz_V} (h : zz_j1 P.code j st = some (j', st')) (k : zz_G X d P j' ls st' σ Post) : zz_G X d P j ls st σ Post := by
  intro p e s m args below meth c H locs lm hok hx hb hml hr hlk hown hts hE hS hR hl hlen hls hst
  unfold zz_j1 at h
  cases he : P.code[j]? with
  | none => rw [he] at h; cases h
  | some en =>
    rw [he] at h
    dsimp only at h
    obtain ⟨pc, ins, len, ts⟩ := en
    obtain ⟨r1, r2, r3, r4, r5⟩ := zz_row hok he
    rw [r5]
    dsimp only at h r1 r2 r3 r4 ⊢
    have go := fun st2 (hst2 : ∀ v ∈ st2, zz_ok X v) (hst' : st' = st2) => k p e s m args below meth c H locs lm hok hx hb hml hr hlk hown hts hE hS hR hl hlen hls (by rw [hst']; exact hst2)
    unfold zz_jc at h
    split at h
    · rename_i b r hj
      split at hj
      · cases hj
        cases h
        simp only [zz_ck, Bool.and_eq_true, decide_eq_true_eq] at r3
        obtain ⟨rfl, h2⟩ := r3
        exact lv_goto hx hb r1 (zz_tgt h2) (go _ hst rfl)
      · cases hj
      · cases hj
        cases h
        simp only [zz_ck, Bool.and_eq_true, decide_eq_true_eq] at r3
        obtain ⟨rfl, h2⟩ := r3
        exact lv_ifnullN hx hb r1 (zz_tgt h2) (go _ (List.forall_mem_cons.mp hst).2 rfl)
      · cases hj
        cases h
        simp only [zz_ck, Bool.and_eq_true, decide_eq_true_eq] at r3
        obtain ⟨rfl, h2⟩ := r3
        exact lv_ifnonnull hx hb r1 (zz_tgt h2) (go _ (List.forall_mem_cons.mp hst).2 rfl)
      · cases hj
      · cases hj
    · rename_i r hj
      split at hj
      · cases hj
      · cases hj
        cases h
        simp only [zz_ck, Bool.and_eq_true, decide_eq_true_eq] at r3
        obtain ⟨rfl, h2⟩ := r3
        refine lv_ifnull hx hb r1 ?_
        rw [← r2 rfl]
        exact go _ (List.forall_mem_cons.mp hst).2 rfl
      · cases hj
      · cases hj
      · cases hj
        cases h
        simp only [zz_ck, Bool.and_eq_true, decide_eq_true_eq] at r3
        obtain ⟨rfl, h2⟩ := r3
        refine lv_ifnonnullN hx hb r1 ?_
        rw [← r2 rfl]
        exact go _ (List.forall_mem_cons.mp hst).2 rfl
      · cases hj
    · cases h
def zz_bc : Instr → List zz_V → Option (Prop × Prop × List zz_V)
  | .ifCond .eq _, .inl x :: r => some (x = 0, x ≠ 0, r)
  | .ifCond .ne _, .inl x :: r => some (x ≠ 0, x = 0, r)
  | .ifCond .lt _, .inl x :: r => some (x < 0, 0 ≤ x, r)
  | .ifCond .ge _, .inl x :: r => some (0 ≤ x, x < 0, r)
  | .ifCond .gt _, .inl x :: r => some (0 < x, x ≤ 0, r)
  | .ifCond .le _, .inl x :: r => some (x ≤ 0, 0 < x, r)
  | .if_icmp .eq _, .inl y :: .inl x :: r => some (x = y, x ≠ y, r)
  | .if_icmp .ne _, .inl y :: .inl x :: r => some (x ≠ y, x = y, r)
  | .if_icmp .lt _, .inl y :: .inl x :: r => some (x < y, y ≤ x, r)
  | .if_icmp .ge _, .inl y :: .inl x :: r => some (y ≤ x, x < y, r)
  | .if_icmp .gt _, .inl y :: .inl x :: r => some (y < x, x ≤ y, r)
  | .if_icmp .le _, .inl y :: .inl x :: r => some (x ≤ y, y < x, r)
  | _, _ => none
def zz_b1 (code : List zz_C) (j : Nat) (st : List zz_V) : Option (Prop × Prop × Nat × List zz_V) := match code[j]? with
  | some e => match zz_bc e.2.1 st with
    | some (ct, cf, r) => some (ct, cf, e.2.2.2.getD 0 0, r)
    | none => none
  | none => none
theorem zz_iz : zz_in 0 := ⟨by omega, by omega⟩
theorem zz_z0 : Int32.ofInt 0 = 0 := by decide
/-- a branch -/
theorem zz_br {ct cf : Prop} {t : Nat} {r : List zz_V} (h : zz_b1 P.code j st = some (ct, cf, t, r)) (kt : ct → zz_G X d P t ls r σ Post) (kf : cf → zz_G X d P (j + 1) ls r σ Post) : zz_G X d P j ls st σ Post := by
  intro p e s m args below meth c H locs lm hok hx hb hml hr hlk hown hts hE hS hR hl hlen hls hst
  unfold zz_b1 at h
  cases he : P.code[j]? with
  | none => rw [he] at h; cases h
  | some en =>
    rw [he] at h
    dsimp only at h
    obtain ⟨pc, ins, len, ts⟩ := en
    obtain ⟨r1, r2, r3, r4, r5⟩ := zz_row hok he
    rw [r5]
    dsimp only at h r1 r2 r3 r4 ⊢
    have go := fun (ht : ct) (hst2 : ∀ v ∈ r, zz_ok X v) => kt ht p e s m args below meth c H locs lm hok hx hb hml hr hlk hown hts hE hS hR hl hlen hls hst2
    have gf := fun (hf : cf) (hst2 : ∀ v ∈ r, zz_ok X v) => kf hf p e s m args below meth c H locs lm hok hx hb hml hr hlk hown hts hE hS hR hl hlen hls hst2
    unfold zz_bc at h
    split at h
    · rename_i ct' cf' r' hj
      cases h
      split at hj
      · cases hj
        simp only [zz_ck, Bool.and_eq_true, decide_eq_true_eq] at r3
        obtain ⟨rfl, h2⟩ := r3
        obtain ⟨o1, o2⟩ := List.forall_mem_cons.mp hst
        refine lv_if_eq hx hb r1 (zz_tgt h2) (fun z => go ((zz_eq0 o1 zz_iz).mp (by rw [zz_z0]; exact z)) o2) (fun z => ?_)
        rw [← r2 rfl]
        exact gf (fun q => z ((zz_eq0 o1 zz_iz).mpr q |>.trans zz_z0)) o2
      · cases hj
        simp only [zz_ck, Bool.and_eq_true, decide_eq_true_eq] at r3
        obtain ⟨rfl, h2⟩ := r3
        obtain ⟨o1, o2⟩ := List.forall_mem_cons.mp hst
        refine lv_if_ne hx hb r1 (zz_tgt h2) (fun z => go (fun q => z ((zz_eq0 o1 zz_iz).mpr q |>.trans zz_z0)) o2) (fun z => ?_)
        rw [← r2 rfl]
        exact gf ((zz_eq0 o1 zz_iz).mp (by rw [zz_z0]; exact z)) o2
      · cases hj
        simp only [zz_ck, Bool.and_eq_true, decide_eq_true_eq] at r3
        obtain ⟨rfl, h2⟩ := r3
        obtain ⟨o1, o2⟩ := List.forall_mem_cons.mp hst
        refine lv_if_lt hx hb r1 (zz_tgt h2) (fun z => go ((zz_lt0 o1 zz_iz).mp (by rw [zz_z0]; exact z)) o2) (fun z => ?_)
        rw [← r2 rfl]
        exact gf (Int.not_lt.mp (fun q => z (by have := (zz_lt0 o1 zz_iz).mpr q; rw [zz_z0] at this; exact this))) o2
      · cases hj
        simp only [zz_ck, Bool.and_eq_true, decide_eq_true_eq] at r3
        obtain ⟨rfl, h2⟩ := r3
        obtain ⟨o1, o2⟩ := List.forall_mem_cons.mp hst
        refine lv_if_ge hx hb r1 (zz_tgt h2) (fun z => go ((zz_le0 zz_iz o1).mp (by rw [zz_z0]; exact z)) o2) (fun z => ?_)
        rw [← r2 rfl]
        exact gf (Int.not_le.mp (fun q => z (by have := (zz_le0 zz_iz o1).mpr q; rw [zz_z0] at this; exact this))) o2
      · cases hj
        simp only [zz_ck, Bool.and_eq_true, decide_eq_true_eq] at r3
        obtain ⟨rfl, h2⟩ := r3
        obtain ⟨o1, o2⟩ := List.forall_mem_cons.mp hst
        refine lv_if_gt hx hb r1 (zz_tgt h2) (fun z => go ((zz_lt0 zz_iz o1).mp (by rw [zz_z0]; exact z)) o2) (fun z => ?_)
        rw [← r2 rfl]
        exact gf (Int.not_lt.mp (fun q => z (by have := (zz_lt0 zz_iz o1).mpr q; rw [zz_z0] at this; exact this))) o2
      · cases hj
        simp only [zz_ck, Bool.and_eq_true, decide_eq_true_eq] at r3
        obtain ⟨rfl, h2⟩ := r3
        obtain ⟨o1, o2⟩ := List.forall_mem_cons.mp hst
        refine lv_if_le hx hb r1 (zz_tgt h2) (fun z => go ((zz_le0 o1 zz_iz).mp (by rw [zz_z0]; exact z)) o2) (fun z => ?_)
        rw [← r2 rfl]
        exact gf (Int.not_le.mp (fun q => z (by have := (zz_le0 o1 zz_iz).mpr q; rw [zz_z0] at this; exact this))) o2
      · cases hj
        simp only [zz_ck, Bool.and_eq_true, decide_eq_true_eq] at r3
        obtain ⟨rfl, h2⟩ := r3
        obtain ⟨o1, o2, o3⟩ := zz_fm2 hst
        refine lv_icmp_eq hx hb r1 (zz_tgt h2) (fun z => go ((zz_eq0 o2 o1).mp z) o3) (fun z => ?_)
        rw [← r2 rfl]
        exact gf (fun q => z ((zz_eq0 o2 o1).mpr q)) o3
      · cases hj
        simp only [zz_ck, Bool.and_eq_true, decide_eq_true_eq] at r3
        obtain ⟨rfl, h2⟩ := r3
        obtain ⟨o1, o2, o3⟩ := zz_fm2 hst
        refine lv_icmp_ne hx hb r1 (zz_tgt h2) (fun z => go (fun q => z ((zz_eq0 o2 o1).mpr q)) o3) (fun z => ?_)
        rw [← r2 rfl]
        exact gf ((zz_eq0 o2 o1).mp z) o3
      · cases hj
        simp only [zz_ck, Bool.and_eq_true, decide_eq_true_eq] at r3
        obtain ⟨rfl, h2⟩ := r3
        obtain ⟨o1, o2, o3⟩ := zz_fm2 hst
        refine lv_icmp_lt hx hb r1 (zz_tgt h2) (fun z => go ((zz_lt0 o2 o1).mp z) o3) (fun z => ?_)
        rw [← r2 rfl]
        exact gf (Int.not_lt.mp (fun q => z ((zz_lt0 o2 o1).mpr q))) o3
      · cases hj
        simp only [zz_ck, Bool.and_eq_true, decide_eq_true_eq] at r3
        obtain ⟨rfl, h2⟩ := r3
        obtain ⟨o1, o2, o3⟩ := zz_fm2 hst
        refine lv_icmp_ge hx hb r1 (zz_tgt h2) (fun z => go ((zz_le0 o1 o2).mp z) o3) (fun z => ?_)
        rw [← r2 rfl]
        exact gf (Int.not_le.mp (fun q => z ((zz_le0 o1 o2).mpr q))) o3
      · cases hj
        simp only [zz_ck, Bool.and_eq_true, decide_eq_true_eq] at r3
        obtain ⟨rfl, h2⟩ := r3
        obtain ⟨o1, o2, o3⟩ := zz_fm2 hst
        refine lv_icmp_gt hx hb r1 (zz_tgt h2) (fun z => go ((zz_lt0 o1 o2).mp z) o3) (fun z => ?_)
        rw [← r2 rfl]
        exact gf (Int.not_lt.mp (fun q => z ((zz_lt0 o1 o2).mpr q))) o3
      · cases hj
        simp only [zz_ck, Bool.and_eq_true, decide_eq_true_eq] at r3
        obtain ⟨rfl, h2⟩ := r3
        obtain ⟨o1, o2, o3⟩ := zz_fm2 hst
        refine lv_icmp_le hx hb r1 (zz_tgt h2) (fun z => go ((zz_le0 o2 o1).mp z) o3) (fun z => ?_)
        rw [← r2 rfl]
        exact gf (Int.not_le.mp (fun q => z ((zz_le0 o2 o1).mpr q))) o3
      · cases hj
    · cases h
/-- a switch by a table: the place in it is known -/
def zz_w1 (code : List zz_C) (j : Nat) (st : List zz_V) : Option (Int × Int × List Nat × List zz_V) := match code[j]? with
  | some e => match e.2.1, st with
    | .tableswitch _ lo _ _, .inl x :: r => some (x, lo, e.2.2.2, r)
    | _, _ => none
  | none => none
theorem zz_w1_of {x lo : Int} {ts : List Nat} {r : List zz_V} (h : zz_w1 P.code j st = some (x, lo, ts, r)) : ∃ pc len dflt hi offs, P.code[j]? = some (pc, .tableswitch dflt lo hi offs, len, ts) ∧ st = .inl x :: r := by
  unfold zz_w1 at h
  cases he : P.code[j]? with
  | none => rw [he] at h; cases h
  | some en =>
    obtain ⟨pc, ins, len, ts'⟩ := en
    rw [he] at h
    dsimp only at h
    split at h
    · cases h
      exact ⟨_, _, _, _, _, rfl, rfl⟩
    · cases h
theorem zz_swI {x lo : Int} {ts : List Nat} {r : List zz_V} (k t : Nat) (h : zz_w1 P.code j st = some (x, lo, ts, r)) (hx0 : x = lo + k) (ht : ts[k + 1]? = some t) (kk : zz_G X d P t ls r σ Post) : zz_G X d P j ls st σ Post := by
  intro p e s m args below meth c H locs lm hok hx hb hml hr hlk hown hts hE hS hR hl hlen hls hst
  obtain ⟨pc, len, dflt, hi, offs, he, rfl⟩ := zz_w1_of h
  obtain ⟨r1, r2, r3, r4, r5⟩ := zz_row hok he
  rw [r5]
  simp only [zz_ck, Bool.and_eq_true, decide_eq_true_eq] at r3
  obtain ⟨⟨⟨h1, h2⟩, h3⟩, h4⟩ := r3
  obtain ⟨o1, o2⟩ := List.forall_mem_cons.mp hst
  have hk : k < offs.size := by
    have := (List.getElem?_eq_some_iff.mp ht).1
    omega
  have h5 := List.all_eq_true.mp h4 k (List.mem_range.mpr hk)
  have e1 : ts.getD (k + 1) 0 = t := by rw [List.getD_eq_getElem?_getD, ht]; rfl
  rw [e1] at h5
  have hxi : (Int32.ofInt x).toInt = x := zz_tid o1
  have e2 : (x - lo).toNat = k := by omega
  refine lv_tableIn hx hb r1 (by rw [hxi]; omega) (by rw [hxi]; omega) (off := offs.getD k 0) ?_ (zz_tgt h5) (kk p e s m args below meth c H locs lm hok hx hb hml hr hlk hown hts hE hS hR hl hlen hls o2)
  rw [hxi, e2, Array.getD_eq_getD_getElem?, Array.getElem?_eq_getElem hk]
  rfl
theorem zz_swO {x lo : Int} {ts : List Nat} {r : List zz_V} (t : Nat) (h : zz_w1 P.code j st = some (x, lo, ts, r)) (hx0 : x < lo ∨ lo + ts.length ≤ x + 1) (ht : ts[0]? = some t) (kk : zz_G X d P t ls r σ Post) : zz_G X d P j ls st σ Post := by
  intro p e s m args below meth c H locs lm hok hx hb hml hr hlk hown hts hE hS hR hl hlen hls hst
  obtain ⟨pc, len, dflt, hi, offs, he, rfl⟩ := zz_w1_of h
  obtain ⟨r1, r2, r3, r4, r5⟩ := zz_row hok he
  rw [r5]
  simp only [zz_ck, Bool.and_eq_true, decide_eq_true_eq] at r3
  obtain ⟨⟨⟨h1, h2⟩, h3⟩, h4⟩ := r3
  obtain ⟨o1, o2⟩ := List.forall_mem_cons.mp hst
  have e1 : ts.getD 0 0 = t := by rw [List.getD_eq_getElem?_getD, ht]; rfl
  rw [e1] at h3
  have hxi : (Int32.ofInt x).toInt = x := zz_tid o1
  exact lv_tableOut hx hb r1 (by rw [hxi]; omega) (zz_tgt h3) (kk p e s m args below meth c H locs lm hok hx hb hml hr hlk hown hts hE hS hR hl hlen hls o2)
/-- a switch by a list -/
theorem zz_lu {x : Int} {r : List zz_V} {pc len : Nat} {dflt : Int} {ps : Array (Int × Int)} {ts : List Nat} (off : Int) (t : Nat) (he : P.code[j]? = some (pc, .lookupswitch dflt ps, len, ts)) (ho : Op.lookupswitch.offset ps.toList dflt x = off) (ht : zz_tg P.code pc off t = true) (kk : zz_G X d P t ls r σ Post) : zz_G X d P j ls (zI x :: r) σ Post := by
  intro p e s m args below meth c H locs lm hok hx hb hml hr hlk hown hts hE hS hR hl hlen hls hst
  obtain ⟨r1, r2, r3, r4, r5⟩ := zz_row hok he
  rw [r5]
  simp only [zz_ck, Bool.and_eq_true] at r3
  obtain ⟨⟨h1, h2⟩, h3⟩ := r3
  obtain ⟨o1, o2⟩ := List.forall_mem_cons.mp hst
  have hxi : (Int32.ofInt x).toInt = x := zz_tid o1
  exact lv_lookup hx hb r1 h1 (by rw [hxi]; exact ho) (zz_tgt ht) (kk p e s m args below meth c H locs lm hok hx hb hml hr hlk hown hts hE hS hR hl hlen hls o2)
end ZR
