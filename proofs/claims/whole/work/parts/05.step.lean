/-! ONE STEP of the pure machine is a step of the real one. -/
theorem zz_fm2 {P : zz_V → Prop} {a b : zz_V} {r : List zz_V} (h : ∀ v ∈ a :: b :: r, P v) : P a ∧ P b ∧ ∀ v ∈ r, P v := by
  obtain ⟨h1, h2⟩ := List.forall_mem_cons.mp h
  obtain ⟨h3, h4⟩ := List.forall_mem_cons.mp h2
  exact ⟨h1, h3, h4⟩
theorem zz_cl_at {t : Nat} (h : t < 13) : ∃ (C : String) (T : u_T) (ty : Nat → FieldType), zz_cl[t]? = some (C, T, zz_nf t) ∧ (∀ w ∈ u_ws C T (zz_nf t), w ∈ zz_tb) ∧ (∀ k, k < zz_nf t → parseFieldDescriptor (T k).2.2.1 = some (ty k)) ∧ (∀ a, a < zz_nf t → ∀ b, b < zz_nf t → a ≠ b → (T a).2.1 ≠ (T b).2.1) := by
  match t, h with
  | 0, _ => exact ⟨zz_R0, zz_T0, zz_t0, rfl, zz_in0, zz_to0, zz_nm0⟩
  | 1, _ => exact ⟨zz_R1, zz_T1, zz_t1, rfl, zz_in1, zz_to1, zz_nm1⟩
  | 2, _ => exact ⟨zz_R2, zz_T2, zz_t2, rfl, zz_in2, zz_to2, zz_nm2⟩
  | 3, _ => exact ⟨zz_R3, zz_T3, zz_t3, rfl, zz_in3, zz_to3, zz_nm3⟩
  | 4, _ => exact ⟨zz_R4, zz_T4, zz_t4, rfl, zz_in4, zz_to4, zz_nm4⟩
  | 5, _ => exact ⟨zz_R5, zz_T5, zz_t5, rfl, zz_in5, zz_to5, zz_nm5⟩
  | 6, _ => exact ⟨zz_R6, zz_T6, zz_t6, rfl, zz_in6, zz_to6, zz_nm6⟩
  | 7, _ => exact ⟨zz_R7, zz_T7, zz_t7, rfl, zz_in7, zz_to7, zz_nm7⟩
  | 8, _ => exact ⟨zz_R8, zz_T8, zz_t8, rfl, zz_in8, zz_to8, zz_nm8⟩
  | 9, _ => exact ⟨zz_R9, zz_T9, zz_t9, rfl, zz_in9, zz_to9, zz_nm9⟩
  | 10, _ => exact ⟨zz_R10, zz_T10, zz_t10, rfl, zz_in10, zz_to10, zz_nm10⟩
  | 11, _ => exact ⟨zz_R11, zz_T11, zz_t11, rfl, zz_in11, zz_to11, zz_nm11⟩
  | 12, _ => exact ⟨zz_R12, zz_T12, zz_t12, rfl, zz_in12, zz_to12, zz_nm12⟩
  | n + 13, h => omega
theorem zz_fT_at {f : Nat} {C : String} {T : u_T} {n : Nat} (h : zz_cl[f / 100]? = some (C, T, n)) : zz_fT f = T (f % 100) := by
  unfold zz_fT
  rw [h]
theorem zz_rf_none_ty {f : Nat} (h : f / 100 < 13) (h2 : f % 100 < zz_nf (f / 100)) : True := trivial
theorem zz_fs_at {t p q : Nat} {σ : zz_M} {a k : Nat} (h : k < zz_nf t) : (zz_fs t p q σ a)[k]? = some (match zz_rf (100 * t + k) p q with
    | some r => .ref (a + r.2.2.2)
    | none => .int (Int32.ofInt (σ.1 (100 * t + k) a))) := by
  unfold zz_fs
  rw [List.getElem?_map, List.getElem?_range h]
  rfl
theorem zz_fs_len (t p q : Nat) (σ : zz_M) (a : Nat) : (zz_fs t p q σ a).length = zz_nf t := by
  unfold zz_fs
  rw [List.length_map, List.length_range]
theorem zz_ce_o {X : zz_X} {σ : zz_M} {a t p q : Nat} (h : t < 13) : zz_ce X σ a (t, p, q) = .inr (t, zz_fs t p q σ a) := by
  unfold zz_ce
  rw [if_pos (by omega)]
theorem zz_fs_sf_ne {t p q : Nat} {σ : zz_M} {f a b : Nat} {v : Int} (h : b ≠ a) : zz_fs t p q (zz_sf σ f a v) b = zz_fs t p q σ b := by
  unfold zz_fs
  refine List.map_congr_left fun k _ => ?_
  have e : (zz_sf σ f a v).1 (100 * t + k) b = σ.1 (100 * t + k) b := by
    unfold zz_sf
    simp [h]
  rw [e]
theorem zz_fs_sf {t p q : Nat} {σ : zz_M} {f a : Nat} {v : Int} (ht : f / 100 = t) (hr : zz_rf f p q = none) : zz_fs t p q (zz_sf σ f a v) a = (zz_fs t p q σ a).set (f % 100) (.int (Int32.ofInt v)) := by
  have hf : 100 * t + f % 100 = f := by omega
  refine List.ext_getElem? fun j => ?_
  by_cases hj : j < zz_nf t
  · by_cases e : j = f % 100
    · subst e
      rw [List.getElem?_set_self (by rw [zz_fs_len]; exact hj), zz_fs_at hj, hf, hr]
      unfold zz_sf
      simp
    · rw [List.getElem?_set_ne (Ne.symm e), zz_fs_at hj, zz_fs_at hj]
      have e2 : (zz_sf σ f a v).1 (100 * t + j) a = σ.1 (100 * t + j) a := by
        unfold zz_sf
        have : 100 * t + j ≠ f := by omega
        simp [this]
      rw [e2]
  · rw [List.getElem?_eq_none (by rw [zz_fs_len]; omega), List.getElem?_eq_none (by rw [List.length_set, zz_fs_len]; omega)]
theorem zz_ws_len (X : zz_X) (σ : zz_M) : (zz_ws X σ).length = zz_n := by
  unfold zz_ws
  rw [List.length_map, List.length_range]
theorem zz_ce_sf_ne {X : zz_X} {σ : zz_M} {f a b : Nat} {v : Int} {K : Nat × Nat × Nat} (h : b ≠ a) : zz_ce X (zz_sf σ f a v) b K = zz_ce X σ b K := by
  unfold zz_ce
  rw [zz_fs_sf_ne h]
  rfl
theorem zz_ws_sf {X : zz_X} {σ : zz_M} {i t p q f : Nat} {v : Int} (hi : i < zz_n) (hK : zz_K i = (t, p, q)) (ht : t < 13) (hf : f / 100 = t) (hr : zz_rf f p q = none) :
    (zz_ws X σ).set i (X.b + i, .inr (t, (zz_fs t p q σ (X.b + i)).set (f % 100) (.int (Int32.ofInt v)))) = zz_ws X (zz_sf σ f (X.b + i) v) := by
  refine List.ext_getElem? fun j => ?_
  by_cases hj : j < zz_n
  · by_cases e : j = i
    · subst e
      rw [List.getElem?_set_self (by rw [zz_ws_len]; exact hj), zz_ws_at X _ hj, hK, zz_ce_o ht, zz_fs_sf hf hr]
    · rw [List.getElem?_set_ne (Ne.symm e), zz_ws_at X _ hj, zz_ws_at X _ hj, zz_ce_sf_ne (by omega)]
  · rw [List.getElem?_eq_none (by rw [List.length_set, zz_ws_len]; omega), List.getElem?_eq_none (by rw [zz_ws_len]; omega)]
theorem zz_i2l {x : Int} (h : zz_in x) : (Int32.ofInt x).toInt64 = Int64.ofInt x := by
  apply Int64.toInt_inj.mp
  have h2 : zz_inL x := by unfold zz_in at h; unfold zz_inL; omega
  rw [Jvm.Kit.i64_of_i32, zz_tid h, zz_Lbm h2]
theorem zz_lcmp_of {x y : Int} (hx : zz_inL x) (hy : zz_inL y) : lg_cmp (Int64.ofInt x) (Int64.ofInt y) = Int32.ofInt (zz_lcmp x y) := by
  have e1 : (Int64.ofInt y < Int64.ofInt x) ↔ y < x := by rw [Int64.lt_iff_toInt_lt, zz_Lbm hx, zz_Lbm hy]
  have e2 : (Int64.ofInt x = Int64.ofInt y) ↔ x = y := by rw [← Int64.toInt_inj, zz_Lbm hx, zz_Lbm hy]
  unfold lg_cmp zz_lcmp
  by_cases h1 : y < x
  · have h2 : ¬ x < y := by omega
    have h3 : ¬ x = y := by omega
    simp [e1, e2, h1, h2, h3]
  · by_cases h2 : x = y
    · subst h2
      simp
    · have h3 : x < y := by omega
      simp [e1, e2, h1, h2, h3]
theorem zz_lcmp_in (x y : Int) : zz_in (zz_lcmp x y) := by
  unfold zz_lcmp zz_in
  split
  · omega
  · split <;> omega
theorem zz_c1_ok {X : zz_X} {v : zz_V} (h : zz_c1 v = true) : (zz_toV X v).category = 1 := by
  rcases v with i | i | q | n
  · rfl
  · cases h
  · rfl
  · match n with
    | 0 => rfl
    | 1 => rfl
    | n + 2 => rfl
theorem zz_okI {X : zz_X} {x : Int} (h : zz_ok X (.inl x)) : zz_in x := h
theorem zz_all1 {P : zz_V → Prop} {a : zz_V} {r : List zz_V} (h1 : P a) (h2 : ∀ v ∈ r, P v) : ∀ v ∈ a :: r, P v := List.forall_mem_cons.mpr ⟨h1, h2⟩
/-- the kinds: what the fields and the places of arrays hold lies there, too -/
def zz_cb (i : Nat) : Bool := (List.range (zz_nf (zz_K i).1)).all (fun k => match zz_rf (100 * (zz_K i).1 + k) (zz_K i).2.1 (zz_K i).2.2 with
  | some r => decide (i + r.2.2.2 < zz_n) && decide (zz_K (i + r.2.2.2) = (r.1, r.2.1, r.2.2.1))
  | none => true)
theorem zz_cb0 : (List.range 150).all (fun i => !decide (i + 0 < zz_n) || zz_cb (i + 0)) = true := by decide +kernel
theorem zz_cb1 : (List.range 150).all (fun i => !decide (i + 150 < zz_n) || zz_cb (i + 150)) = true := by decide +kernel
theorem zz_cb2 : (List.range 150).all (fun i => !decide (i + 300 < zz_n) || zz_cb (i + 300)) = true := by decide +kernel
theorem zz_cb3 : (List.range 150).all (fun i => !decide (i + 450 < zz_n) || zz_cb (i + 450)) = true := by decide +kernel
theorem zz_cb4 : (List.range 150).all (fun i => !decide (i + 600 < zz_n) || zz_cb (i + 600)) = true := by decide +kernel
theorem zz_cb5 : (List.range 150).all (fun i => !decide (i + 750 < zz_n) || zz_cb (i + 750)) = true := by decide +kernel
theorem zz_cb6 : (List.range 150).all (fun i => !decide (i + 900 < zz_n) || zz_cb (i + 900)) = true := by decide +kernel
theorem zz_cb7 : (List.range 150).all (fun i => !decide (i + 1050 < zz_n) || zz_cb (i + 1050)) = true := by decide +kernel
theorem zz_cb_at {i : Nat} (hi : i < zz_n) : zz_cb i = true := by
  have key : ∀ (c : Nat), (List.range 150).all (fun i => !decide (i + c < zz_n) || zz_cb (i + c)) = true → c ≤ i → i < c + 150 → zz_cb i = true := by
    intro c h h1 h2
    have h3 := List.all_eq_true.mp h (i - c) (List.mem_range.mpr (by omega))
    have e : i - c + c = i := by omega
    rw [e] at h3
    simpa [hi] using h3
  have hi2 : i < 1127 := hi
  by_cases h0 : i < 150
  · exact key 0 zz_cb0 (by omega) (by omega)
  by_cases h1 : i < 300
  · exact key 150 zz_cb1 (by omega) (by omega)
  by_cases h2 : i < 450
  · exact key 300 zz_cb2 (by omega) (by omega)
  by_cases h3 : i < 600
  · exact key 450 zz_cb3 (by omega) (by omega)
  by_cases h4 : i < 750
  · exact key 600 zz_cb4 (by omega) (by omega)
  by_cases h5 : i < 900
  · exact key 750 zz_cb5 (by omega) (by omega)
  by_cases h6 : i < 1050
  · exact key 900 zz_cb6 (by omega) (by omega)
  exact key 1050 zz_cb7 (by omega) (by omega)
theorem zz_kinds_b : (List.range zz_n).all (fun i => (decide ((zz_K i).1 < 13) || (decide (50 ≤ (zz_K i).1) && decide ((zz_K i).1 < 56))) && decide ((zz_K i).2.1 < 100000)) = true := by decide +kernel
theorem zz_field_b : (List.range 13).all (fun t => (List.range (zz_nf t)).all (fun k => (zz_rf (100 * t + k) 0 0).isSome || decide (parseFieldDescriptor (zz_fT (100 * t + k)).2.2.1 = some (if zz_isZ (100 * t + k) = true then .boolean else .int)))) = true := by decide +kernel
theorem zz_rf_none {f p q : Nat} (h : zz_rf f p q = none) : zz_rf f 0 0 = none := by
  unfold zz_rf at h ⊢
  split at h <;> first | (cases h; done) | rfl
theorem zz_closed {i f t p q : Nat} {r : Nat × Nat × Nat × Nat} (hi : i < zz_n) (hK : zz_K i = (t, p, q)) (hf : f / 100 = t) (hk : f % 100 < zz_nf t) (hr : zz_rf f p q = some r) : i + r.2.2.2 < zz_n ∧ zz_K (i + r.2.2.2) = (r.1, r.2.1, r.2.2.1) := by
  have h1 := zz_cb_at hi
  unfold zz_cb at h1
  rw [hK] at h1
  have h2 := List.all_eq_true.mp h1 (f % 100) (List.mem_range.mpr hk)
  have e : 100 * t + f % 100 = f := by omega
  dsimp only at h2
  rw [e, hr] at h2
  simpa using h2
theorem zz_kindsOk {i t p q : Nat} (hi : i < zz_n) (hK : zz_K i = (t, p, q)) : (t < 13 ∨ (50 ≤ t ∧ t < 56)) ∧ p < 100000 := by
  have h1 := List.all_eq_true.mp zz_kinds_b i (List.mem_range.mpr hi)
  rw [hK] at h1
  simpa using h1
theorem zz_fieldTy {f : Nat} {p q : Nat} (h13 : f / 100 < 13) (hk : f % 100 < zz_nf (f / 100)) (hr : zz_rf f p q = none) : parseFieldDescriptor (zz_fT f).2.2.1 = some (if zz_isZ f = true then .boolean else .int) := by
  have h1 := List.all_eq_true.mp zz_field_b (f / 100) (List.mem_range.mpr h13)
  have h2 := List.all_eq_true.mp h1 (f % 100) (List.mem_range.mpr hk)
  have e : 100 * (f / 100) + f % 100 = f := by omega
  rw [e, zz_rf_none hr] at h2
  simpa using h2
theorem zz_gf_ok {f : Nat} {st st' : List zz_V} {σ σ' : zz_M} (h : zz_gf f st σ = some (st', σ')) : ∃ t p q a r v, st = zP t p q a :: r ∧ f / 100 = t ∧ σ = σ' ∧ st' = v :: r ∧ ((∃ w : Nat × Nat × Nat × Nat, zz_rf f p q = some w ∧ v = zP w.1 w.2.1 w.2.2.1 (a + w.2.2.2)) ∨ (zz_rf f p q = none ∧ v = zI (σ.1 f a))) := by
  unfold zz_gf at h
  split at h
  · rename_i t p q a r
    split at h
    · rename_i hb
      split at h
      · rename_i t' p' q' o hr
        cases h
        exact ⟨t, p, q, a, r, _, rfl, Nat.eq_of_beq_eq_true hb, rfl, rfl, Or.inl ⟨_, hr, rfl⟩⟩
      · rename_i hr
        cases h
        exact ⟨t, p, q, a, r, _, rfl, Nat.eq_of_beq_eq_true hb, rfl, rfl, Or.inr ⟨hr, rfl⟩⟩
    · cases h
  · cases h
theorem zz_pf_ok {f : Nat} {st st' : List zz_V} {σ σ' : zz_M} (h : zz_pf f st σ = some (st', σ')) : ∃ x t p q a, st = zI x :: zP t p q a :: st' ∧ f / 100 = t ∧ σ' = zz_sf σ f a x ∧ zz_rf f p q = none ∧ zz_isZ f = false := by
  unfold zz_pf at h
  split at h
  · rename_i x t p q a r
    split at h
    · rename_i hb
      split at h
      · cases h
      · rename_i hr
        split at h
        · cases h
        · rename_i hz
          cases h
          exact ⟨x, t, p, q, a, rfl, Nat.eq_of_beq_eq_true hb, rfl, hr, hz⟩
    · cases h
  · cases h
theorem zz_ofN {n : Nat} (h : n < 2147483648) : Int32.ofNat n = Int32.ofInt (n : Nat) := by
  apply Int32.toInt_inj.mp
  rw [show Int32.ofNat n = nI n from rfl, nI_toInt h, zz_tid (by unfold zz_in; omega)]
theorem zz_R_sf {X : zz_X} {σ : zz_M} {H H1 : Heap} {f a : Nat} {v : Int} (hR : zz_R X σ H) (hv : zz_in v) (hP : va_P X.D zz_cl (zz_ws X (zz_sf σ f a v)) H1) : zz_R X (zz_sf σ f a v) H1 := by
  refine ⟨hP, fun f' a' => ?_, hR.2.2⟩
  unfold zz_sf
  dsimp only
  split
  · exact hv
  · exact hR.2.1 f' a'
theorem zz_S_sf {X : zz_X} {σ : zz_M} {H : Heap} (h : zz_R X σ H) : va_D (zz_A X) (zz_ws X σ) := zz_ws_D X σ
section ZL
variable {p : Program} {l : Launch} {e : Env} {R : Room} {s : State} {m : MethodId} {args : Array Value} {below : List Frame} {meth : Method} {c : Code} {H : Heap} {locs : List Loc} {cells slots : Nat} {Q : State → Prop}
variable {cc : ByteArray} {pc : Nat} {ls : Array Slot} {rest : List Value}
theorem zz_ldcSW (hexec : p.tables.exec = Jvm.exec) (hb : c.code = cc) {own tx : String} {index q : Nat} (hown : s.vm.findClass own = some m.cls) (hZ : vk_R own index tx q s) (hdg : decode cc pc = .ok (.ldc_w index, 3))
    (k : W p l e R s m args below meth c H locs cells slots Q (F0 m (pc + 3) ls (.ref q :: rest))) : W p l e R s m args below meth c H locs cells slots Q (F0 m pc ls rest) := by
  intro T hT X
  obtain ⟨t, a1, b1⟩ := k T hT X
  exact ⟨t, X.ldcStringW hexec hown (text := tx) (a := q) hZ.1 hZ.2 (g := F0 m pc ls rest) rfl (by rw [hb]; exact hdg) t a1, b1⟩
end ZL
theorem zz_sr_at {X : zz_X} {s : State} {own : String} {i k : Nat} (h : zz_SR X s) (h1 : (zz_sr.getD k ("", 0, "")).1 = own) (h2 : (zz_sr.getD k ("", 0, "")).2.1 = i) (hk : k < zz_nS) : ∃ tx, vk_R own i tx (X.sa k) s := by
  have hl : k < zz_sr.length := hk
  have e : zz_sr[k]? = some (zz_sr.getD k ("", 0, "")) := by
    rw [List.getD_eq_getElem?_getD, List.getElem?_eq_getElem hl]
    rfl
  have := h.1 k _ e
  rw [h1, h2] at this
  exact ⟨_, this⟩
set_option maxHeartbeats 4000000 in
/-- the step, over the real machine -/
theorem zz_step_ok {X : zz_X} {d : Nat} {P : zz_P} {Z : State → Prop} {p : Program} {e : Env} {s : State} {m : MethodId} {args : Array Value} {below : List Frame} {meth : Method} {c : Code} {H : Heap} {locs : List Loc} {lm : Array Slot} {pc len j : Nat} {ins : Instr} {ts : List Nat} {ls st ls1 st1 : List zz_V} {σ σ1 : zz_M}
    (hs : zz_step ins ts ls st σ = some (ls1, st1, σ1)) (hdec : decode P.bytes pc = .ok (ins, len)) (hchk : zz_ck P.y.cls P.maxL P.code pc len ins ts = true) (hw : ∀ w ∈ zz_wd zz_mn P.y.cls (pc, ins, len, ts), w ∈ zz_tb)
    (hx : p.tables.exec = Jvm.exec) (hb : c.code = P.bytes) (hown : s.vm.findClass P.y.cls = some m.cls) (hts : ∀ w ∈ zz_tb, w.before args s = true) (hE : zz_E X s s.heap) (hS : va_S (zz_A X) s.heap H locs) (hR : zz_R X σ H) (hl : lv_has lm P.maxL (zz_lv X ls)) (hlen : ls.length = P.maxL) (hls : ∀ v ∈ ls, zz_ok X v) (hst : ∀ v ∈ st, zz_ok X v)
    (kk : ∀ (H' : Heap) (locs' : List Loc) (lm' : Array Slot), va_S (zz_A X) s.heap H' locs' → zz_R X σ1 H' → lv_has lm' P.maxL (zz_lv X ls1) → ls1.length = P.maxL → (∀ v ∈ ls1, zz_ok X v) → (∀ v ∈ st1, zz_ok X v) → W p X.l e (zz_room d) s m args below meth c H' locs' 0 0 Z (F0 m (pc + len) lm' (st1.map (zz_toV X)))) :
    W p X.l e (zz_room d) s m args below meth c H locs 0 0 Z (F0 m pc lm (st.map (zz_toV X))) := by
  cases ins
  case iadd =>
    dsimp only [zz_ck] at hchk
    have el := of_decide_eq_true hchk
    subst el
    simp only [zz_step] at hs
    split at hs
    · rename_i y x r
      cases hs
      obtain ⟨o1, o2, o3⟩ := zz_fm2 hst
      refine lv_iadd hx hb hdec ?_
      have k2 := kk H locs lm hS hR hl hlen hls (zz_all1 (P := zz_ok X) (zw_in _) o3)
      have ev : Int32.ofInt (zw (x + y)) = Int32.ofInt x + Int32.ofInt y := by rw [zw_of, Int32.ofInt_add]
      simp only [List.map_cons, zz_toV, ev] at k2
      exact k2
    · cases hs
  case isub =>
    dsimp only [zz_ck] at hchk
    have el := of_decide_eq_true hchk
    subst el
    simp only [zz_step] at hs
    split at hs
    · rename_i y x r
      cases hs
      obtain ⟨o1, o2, o3⟩ := zz_fm2 hst
      refine lv_isub hx hb hdec ?_
      have k2 := kk H locs lm hS hR hl hlen hls (zz_all1 (P := zz_ok X) (zw_in _) o3)
      have ev : Int32.ofInt (zw (x - y)) = Int32.ofInt x - Int32.ofInt y := by rw [zw_of, Int32.ofInt_sub]
      simp only [List.map_cons, zz_toV, ev] at k2
      exact k2
    · cases hs
  case imul =>
    dsimp only [zz_ck] at hchk
    have el := of_decide_eq_true hchk
    subst el
    simp only [zz_step] at hs
    split at hs
    · rename_i y x r
      cases hs
      obtain ⟨o1, o2, o3⟩ := zz_fm2 hst
      refine lv_imul hx hb hdec ?_
      have k2 := kk H locs lm hS hR hl hlen hls (zz_all1 (P := zz_ok X) (zw_in _) o3)
      have ev : Int32.ofInt (zw (x * y)) = Int32.ofInt x * Int32.ofInt y := by rw [zw_of, Int32.ofInt_mul]
      simp only [List.map_cons, zz_toV, ev] at k2
      exact k2
    · cases hs
  case iand =>
    dsimp only [zz_ck] at hchk
    have el := of_decide_eq_true hchk
    subst el
    simp only [zz_step] at hs
    split at hs
    · rename_i y x r
      cases hs
      obtain ⟨o1, o2, o3⟩ := zz_fm2 hst
      refine lv_iand hx hb hdec ?_
      have k2 := kk H locs lm hS hR hl hlen hls (zz_all1 (P := zz_ok X) (zz_i32 _) o3)
      have ev : Int32.ofInt (zz_and x y) = Int32.ofInt x &&& Int32.ofInt y := zz_b_of _ x y
      simp only [List.map_cons, zz_toV, ev] at k2
      exact k2
    · cases hs
  case ior =>
    dsimp only [zz_ck] at hchk
    have el := of_decide_eq_true hchk
    subst el
    simp only [zz_step] at hs
    split at hs
    · rename_i y x r
      cases hs
      obtain ⟨o1, o2, o3⟩ := zz_fm2 hst
      refine lv_ior hx hb hdec ?_
      have k2 := kk H locs lm hS hR hl hlen hls (zz_all1 (P := zz_ok X) (zz_i32 _) o3)
      have ev : Int32.ofInt (zz_or x y) = Int32.ofInt x ||| Int32.ofInt y := zz_b_of _ x y
      simp only [List.map_cons, zz_toV, ev] at k2
      exact k2
    · cases hs
  case ishr =>
    dsimp only [zz_ck] at hchk
    have el := of_decide_eq_true hchk
    subst el
    simp only [zz_step] at hs
    split at hs
    · rename_i y x r
      cases hs
      obtain ⟨o1, o2, o3⟩ := zz_fm2 hst
      refine lv_ishr hx hb hdec ?_
      have k2 := kk H locs lm hS hR hl hlen hls (zz_all1 (P := zz_ok X) (zz_i32 _) o3)
      have ev : Int32.ofInt (zz_shr x y) = Int32.ofInt x >>> (Int32.ofInt y &&& 31) := zz_b_of _ x y
      simp only [List.map_cons, zz_toV, ev] at k2
      exact k2
    · cases hs
  case iushr =>
    dsimp only [zz_ck] at hchk
    have el := of_decide_eq_true hchk
    subst el
    simp only [zz_step] at hs
    split at hs
    · rename_i y x r
      cases hs
      obtain ⟨o1, o2, o3⟩ := zz_fm2 hst
      refine lv_iushr hx hb hdec (v := Int32.ofInt (zz_ushr x y)) (by unfold zz_ushr; rw [zz_b_of]) ?_
      have k2 := kk H locs lm hS hR hl hlen hls (zz_all1 (P := zz_ok X) (zz_i32 _) o3)
      have ev : True := trivial
      simp only [List.map_cons, zz_toV, ev] at k2
      exact k2
    · cases hs
  case lsub =>
    dsimp only [zz_ck] at hchk
    have el := of_decide_eq_true hchk
    subst el
    simp only [zz_step] at hs
    split at hs
    · rename_i y x r
      cases hs
      obtain ⟨o1, o2, o3⟩ := zz_fm2 hst
      refine lv_lsub hx hb hdec ?_
      have k2 := kk H locs lm hS hR hl hlen hls (zz_all1 (P := zz_ok X) (zz_i64 _) o3)
      have ev : Int64.ofInt (zz_lsub x y) = Int64.ofInt x - Int64.ofInt y := zz_l_of _ x y
      simp only [List.map_cons, zz_toV, ev] at k2
      exact k2
    · cases hs
  case land =>
    dsimp only [zz_ck] at hchk
    have el := of_decide_eq_true hchk
    subst el
    simp only [zz_step] at hs
    split at hs
    · rename_i y x r
      cases hs
      obtain ⟨o1, o2, o3⟩ := zz_fm2 hst
      refine lv_land hx hb hdec ?_
      have k2 := kk H locs lm hS hR hl hlen hls (zz_all1 (P := zz_ok X) (zz_i64 _) o3)
      have ev : Int64.ofInt (zz_land x y) = Int64.ofInt x &&& Int64.ofInt y := zz_l_of _ x y
      simp only [List.map_cons, zz_toV, ev] at k2
      exact k2
    · cases hs
  case lshl =>
    dsimp only [zz_ck] at hchk
    have el := of_decide_eq_true hchk
    subst el
    simp only [zz_step] at hs
    split at hs
    · rename_i y x r
      cases hs
      obtain ⟨o1, o2, o3⟩ := zz_fm2 hst
      refine lv_lshl hx hb hdec (v := Int64.ofInt (zz_lshl x y)) (by unfold zz_lshl; rw [Int64.ofInt_toInt]) ?_
      have k2 := kk H locs lm hS hR hl hlen hls (zz_all1 (P := zz_ok X) (zz_i64 _) o3)
      have ev : True := trivial
      simp only [List.map_cons, zz_toV, ev] at k2
      exact k2
    · cases hs
  case lshr =>
    dsimp only [zz_ck] at hchk
    have el := of_decide_eq_true hchk
    subst el
    simp only [zz_step] at hs
    split at hs
    · rename_i y x r
      cases hs
      obtain ⟨o1, o2, o3⟩ := zz_fm2 hst
      refine lv_lshr hx hb hdec (v := Int64.ofInt (zz_lshr x y)) (by unfold zz_lshr; rw [Int64.ofInt_toInt]) ?_
      have k2 := kk H locs lm hS hR hl hlen hls (zz_all1 (P := zz_ok X) (zz_i64 _) o3)
      have ev : True := trivial
      simp only [List.map_cons, zz_toV, ev] at k2
      exact k2
    · cases hs
  case lushr =>
    dsimp only [zz_ck] at hchk
    have el := of_decide_eq_true hchk
    subst el
    simp only [zz_step] at hs
    split at hs
    · rename_i y x r
      cases hs
      obtain ⟨o1, o2, o3⟩ := zz_fm2 hst
      refine lv_lushr hx hb hdec (v := Int64.ofInt (zz_lushr x y)) (by unfold zz_lushr; rw [Int64.ofInt_toInt]) ?_
      have k2 := kk H locs lm hS hR hl hlen hls (zz_all1 (P := zz_ok X) (zz_i64 _) o3)
      have ev : True := trivial
      simp only [List.map_cons, zz_toV, ev] at k2
      exact k2
    · cases hs
  case lcmp =>
    dsimp only [zz_ck] at hchk
    have el := of_decide_eq_true hchk
    subst el
    simp only [zz_step] at hs
    split at hs
    · rename_i y x r
      cases hs
      obtain ⟨o1, o2, o3⟩ := zz_fm2 hst
      refine W.lcmp hx hb hdec ?_
      have k2 := kk H locs lm hS hR hl hlen hls (zz_all1 (P := zz_ok X) (zz_lcmp_in _ _) o3)
      have ev : Int32.ofInt (zz_lcmp x y) = lg_cmp (Int64.ofInt x) (Int64.ofInt y) := (zz_lcmp_of o2 o1).symm
      simp only [List.map_cons, zz_toV, ev] at k2
      exact k2
    · cases hs
  case i2b =>
    dsimp only [zz_ck] at hchk
    have el := of_decide_eq_true hchk
    subst el
    simp only [zz_step] at hs
    split at hs
    · rename_i x r
      cases hs
      obtain ⟨o1, o3⟩ := List.forall_mem_cons.mp hst
      refine lv_i2b hx hb hdec (v := Int32.ofInt (zz_i2b x)) (by unfold zz_i2b; rw [Int32.ofInt_toInt]) ?_
      exact kk H locs lm hS hR hl hlen hls (zz_all1 (P := zz_ok X) (zz_i32 _) o3)
    · cases hs
  case i2l =>
    dsimp only [zz_ck] at hchk
    have el := of_decide_eq_true hchk
    subst el
    simp only [zz_step] at hs
    split at hs
    · rename_i x r
      cases hs
      obtain ⟨o1, o3⟩ := List.forall_mem_cons.mp hst
      refine lv_i2l hx hb hdec (v := Int64.ofInt x) (zz_i2l o1) ?_
      exact kk H locs lm hS hR hl hlen hls (zz_all1 (P := zz_ok X) (show zz_inL x by have := zz_okI o1; unfold zz_in at this; unfold zz_inL; omega) o3)
    · cases hs
  case iload_n k =>
    dsimp only [zz_ck] at hchk
    have el := of_decide_eq_true hchk
    subst el
    simp only [zz_step, zz_ldI] at hs
    split at hs
    · rename_i i hk
      cases hs
      refine lv_iload_n hx hb hdec rfl (zz_lv_at hl hk (by intro z; cases z)) ?_
      exact kk H locs lm hS hR hl hlen hls (zz_all1 (P := zz_ok X) (hls _ (List.mem_of_getElem? hk)) hst)
    · cases hs
  case iload k =>
    dsimp only [zz_ck] at hchk
    have el := of_decide_eq_true hchk
    subst el
    simp only [zz_step, zz_ldI] at hs
    split at hs
    · rename_i i hk
      cases hs
      refine lv_iload hx hb hdec (zz_lv_at hl hk (by intro z; cases z)) ?_
      exact kk H locs lm hS hR hl hlen hls (zz_all1 (P := zz_ok X) (hls _ (List.mem_of_getElem? hk)) hst)
    · cases hs
  case lload_n k =>
    dsimp only [zz_ck] at hchk
    have el := of_decide_eq_true hchk
    subst el
    simp only [zz_step, zz_ldL] at hs
    split at hs
    · rename_i i hk
      cases hs
      refine lv_lload_n hx hb hdec rfl (zz_lv_at hl hk (by intro z; cases z)) ?_
      exact kk H locs lm hS hR hl hlen hls (zz_all1 (P := zz_ok X) (hls _ (List.mem_of_getElem? hk)) hst)
    · cases hs
  case lload k =>
    dsimp only [zz_ck] at hchk
    have el := of_decide_eq_true hchk
    subst el
    simp only [zz_step, zz_ldL] at hs
    split at hs
    · rename_i i hk
      cases hs
      refine lv_lload hx hb hdec (zz_lv_at hl hk (by intro z; cases z)) ?_
      exact kk H locs lm hS hR hl hlen hls (zz_all1 (P := zz_ok X) (hls _ (List.mem_of_getElem? hk)) hst)
    · cases hs
  case aload_n k =>
    dsimp only [zz_ck] at hchk
    have el := of_decide_eq_true hchk
    subst el
    simp only [zz_step, zz_ldA] at hs
    split at hs
    · rename_i i hk
      cases hs
      refine lv_aload_n hx hb hdec rfl (zz_lv_at hl hk (by intro z; cases z)) ?_
      exact kk H locs lm hS hR hl hlen hls (zz_all1 (P := zz_ok X) (hls _ (List.mem_of_getElem? hk)) hst)
    · rename_i hk
      cases hs
      refine lv_aload_nN hx hb hdec rfl (zz_lv_at hl hk (by intro z; cases z)) ?_
      exact kk H locs lm hS hR hl hlen hls (zz_all1 (P := zz_ok X) (hls _ (List.mem_of_getElem? hk)) hst)
    · rename_i i hk
      cases hs
      refine lv_aload_n hx hb hdec rfl (zz_lv_at hl hk (by intro z; cases z)) ?_
      exact kk H locs lm hS hR hl hlen hls (zz_all1 (P := zz_ok X) (hls _ (List.mem_of_getElem? hk)) hst)
    · cases hs
  case aload k =>
    dsimp only [zz_ck] at hchk
    have el := of_decide_eq_true hchk
    subst el
    simp only [zz_step, zz_ldA] at hs
    split at hs
    · rename_i i hk
      cases hs
      refine lv_aload hx hb hdec (zz_lv_at hl hk (by intro z; cases z)) ?_
      exact kk H locs lm hS hR hl hlen hls (zz_all1 (P := zz_ok X) (hls _ (List.mem_of_getElem? hk)) hst)
    · rename_i hk
      cases hs
      refine lv_aloadN hx hb hdec (zz_lv_at hl hk (by intro z; cases z)) ?_
      exact kk H locs lm hS hR hl hlen hls (zz_all1 (P := zz_ok X) (hls _ (List.mem_of_getElem? hk)) hst)
    · rename_i i hk
      cases hs
      refine lv_aload hx hb hdec (zz_lv_at hl hk (by intro z; cases z)) ?_
      exact kk H locs lm hS hR hl hlen hls (zz_all1 (P := zz_ok X) (hls _ (List.mem_of_getElem? hk)) hst)
    · cases hs
  case istore_n k =>
    dsimp only [zz_ck] at hchk
    have el := of_decide_eq_true hchk
    subst el
    simp only [zz_step, zz_stI] at hs
    split at hs
    · rename_i i r
      split at hs
      · rename_i ls' hk
        cases hs
        obtain ⟨o1, o3⟩ := List.forall_mem_cons.mp hst
        have hkl : (k : Nat) < ls.length := by
          unfold zz_st at hk
          by_cases h : (k : Nat) < ls.length
          · exact h
          · rw [decide_eq_false h] at hk; cases hk
        refine lv_istore_n hx hb hdec rfl hl (by rw [← hlen]; exact hkl) rfl (fun lm' hl' => ?_)
        obtain ⟨q1, q2, -, q4⟩ := zz_lv_set hk hl'
        exact kk H locs lm' hS hR q1 (q2.trans hlen) (fun w hw => (q4 w hw).elim (fun z => by rw [z]; exact o1) (hls w)) o3
      · cases hs
    · cases hs
  case istore k =>
    dsimp only [zz_ck] at hchk
    have el := of_decide_eq_true hchk
    subst el
    simp only [zz_step, zz_stI] at hs
    split at hs
    · rename_i i r
      split at hs
      · rename_i ls' hk
        cases hs
        obtain ⟨o1, o3⟩ := List.forall_mem_cons.mp hst
        have hkl : (k : Nat) < ls.length := by
          unfold zz_st at hk
          by_cases h : (k : Nat) < ls.length
          · exact h
          · rw [decide_eq_false h] at hk; cases hk
        refine lv_istore hx hb hdec hl (by rw [← hlen]; exact hkl) rfl (fun lm' hl' => ?_)
        obtain ⟨q1, q2, -, q4⟩ := zz_lv_set hk hl'
        exact kk H locs lm' hS hR q1 (q2.trans hlen) (fun w hw => (q4 w hw).elim (fun z => by rw [z]; exact o1) (hls w)) o3
      · cases hs
    · cases hs
  case astore_n k =>
    dsimp only [zz_ck] at hchk
    have el := of_decide_eq_true hchk
    subst el
    simp only [zz_step, zz_stA] at hs
    split at hs
    · rename_i i r
      split at hs
      · rename_i ls' hk
        cases hs
        obtain ⟨o1, o3⟩ := List.forall_mem_cons.mp hst
        have hkl : (k : Nat) < ls.length := by
          unfold zz_st at hk
          by_cases h : (k : Nat) < ls.length
          · exact h
          · rw [decide_eq_false h] at hk; cases hk
        refine lv_astore_n hx hb hdec rfl hl (by rw [← hlen]; exact hkl) rfl (fun lm' hl' => ?_)
        obtain ⟨q1, q2, -, q4⟩ := zz_lv_set hk hl'
        exact kk H locs lm' hS hR q1 (q2.trans hlen) (fun w hw => (q4 w hw).elim (fun z => by rw [z]; exact o1) (hls w)) o3
      · cases hs
    · rename_i r
      split at hs
      · rename_i ls' hk
        cases hs
        obtain ⟨o1, o3⟩ := List.forall_mem_cons.mp hst
        have hkl : (k : Nat) < ls.length := by
          unfold zz_st at hk
          by_cases h : (k : Nat) < ls.length
          · exact h
          · rw [decide_eq_false h] at hk; cases hk
        refine lv_astore_nN hx hb hdec rfl hl (by rw [← hlen]; exact hkl) rfl (fun lm' hl' => ?_)
        obtain ⟨q1, q2, -, q4⟩ := zz_lv_set hk hl'
        exact kk H locs lm' hS hR q1 (q2.trans hlen) (fun w hw => (q4 w hw).elim (fun z => by rw [z]; exact o1) (hls w)) o3
      · cases hs
    · cases hs
  case astore k =>
    dsimp only [zz_ck] at hchk
    have el := of_decide_eq_true hchk
    subst el
    simp only [zz_step, zz_stA] at hs
    split at hs
    · rename_i i r
      split at hs
      · rename_i ls' hk
        cases hs
        obtain ⟨o1, o3⟩ := List.forall_mem_cons.mp hst
        have hkl : (k : Nat) < ls.length := by
          unfold zz_st at hk
          by_cases h : (k : Nat) < ls.length
          · exact h
          · rw [decide_eq_false h] at hk; cases hk
        refine lv_astore hx hb hdec hl (by rw [← hlen]; exact hkl) rfl (fun lm' hl' => ?_)
        obtain ⟨q1, q2, -, q4⟩ := zz_lv_set hk hl'
        exact kk H locs lm' hS hR q1 (q2.trans hlen) (fun w hw => (q4 w hw).elim (fun z => by rw [z]; exact o1) (hls w)) o3
      · cases hs
    · rename_i r
      split at hs
      · rename_i ls' hk
        cases hs
        obtain ⟨o1, o3⟩ := List.forall_mem_cons.mp hst
        have hkl : (k : Nat) < ls.length := by
          unfold zz_st at hk
          by_cases h : (k : Nat) < ls.length
          · exact h
          · rw [decide_eq_false h] at hk; cases hk
        refine lv_astoreN hx hb hdec hl (by rw [← hlen]; exact hkl) rfl (fun lm' hl' => ?_)
        obtain ⟨q1, q2, -, q4⟩ := zz_lv_set hk hl'
        exact kk H locs lm' hS hR q1 (q2.trans hlen) (fun w hw => (q4 w hw).elim (fun z => by rw [z]; exact o1) (hls w)) o3
      · cases hs
    · cases hs
  case iconst n =>
    simp only [zz_ck, Bool.and_eq_true, decide_eq_true_eq] at hchk
    obtain ⟨⟨el, e1⟩, e2⟩ := hchk
    subst el
    cases hs
    refine lv_iconst hx hb hdec rfl ?_
    exact kk H locs lm hS hR hl hlen hls (zz_all1 (P := zz_ok X) (show zz_in n by unfold zz_in; omega) hst)
  case bipush n =>
    simp only [zz_ck, Bool.and_eq_true, decide_eq_true_eq] at hchk
    obtain ⟨⟨⟨el, e0⟩, e1⟩, e2⟩ := hchk
    subst el
    cases hs
    refine lv_bipush hx hb hdec e0 ?_
    exact kk H locs lm hS hR hl hlen hls (zz_all1 (P := zz_ok X) (show zz_in n by unfold zz_in; omega) hst)
  case sipush n =>
    simp only [zz_ck, Bool.and_eq_true, decide_eq_true_eq] at hchk
    obtain ⟨⟨⟨el, e0⟩, e1⟩, e2⟩ := hchk
    subst el
    cases hs
    refine lv_sipush hx hb hdec e0 ?_
    exact kk H locs lm hS hR hl hlen hls (zz_all1 (P := zz_ok X) (show zz_in n by unfold zz_in; omega) hst)
  case lconst n =>
    dsimp only [zz_ck] at hchk
    have el := of_decide_eq_true hchk
    subst el
    cases hs
    refine lv_lconst hx hb hdec (v := Int64.ofInt (n : Nat)) (match n with | 0 => rfl | 1 => rfl) ?_
    exact kk H locs lm hS hR hl hlen hls (zz_all1 (P := zz_ok X) (show zz_inL ((n : Nat) : Int) by have := n.isLt; unfold zz_inL; omega) hst)
  case aconst_null =>
    dsimp only [zz_ck] at hchk
    have el := of_decide_eq_true hchk
    subst el
    cases hs
    refine lv_null hx hb hdec ?_
    exact kk H locs lm hS hR hl hlen hls (zz_all1 (P := zz_ok X) (Or.inl (by omega)) hst)
  case iinc k n =>
    simp only [zz_ck, Bool.and_eq_true, decide_eq_true_eq] at hchk
    obtain ⟨⟨⟨el, e0⟩, e1⟩, e2⟩ := hchk
    subst el
    simp only [zz_step] at hs
    split at hs
    · rename_i x hk
      split at hs
      · rename_i ls' hk2
        cases hs
        obtain ⟨kx, hkx⟩ := List.getElem?_of_mem (zz_lv_mem (X := X) hk (by intro z; cases z))
        refine lv_iinc hx hb hdec hl (v := Int32.ofInt (zw (x + n))) hkx (by rw [zw_of, Int32.ofInt_add]) e0 rfl (fun lm' hl' => ?_)
        obtain ⟨q1, q2, -, q4⟩ := zz_lv_set hk2 hl'
        exact kk H locs lm' hS hR q1 (q2.trans hlen) (fun w hw => (q4 w hw).elim (fun z => by rw [z]; exact zw_in _) (hls w)) hst
      · cases hs
    · cases hs
  case dup =>
    dsimp only [zz_ck] at hchk
    have el := of_decide_eq_true hchk
    subst el
    simp only [zz_step] at hs
    split at hs
    · rename_i v r
      split at hs
      · rename_i hc
        cases hs
        obtain ⟨o1, o3⟩ := List.forall_mem_cons.mp hst
        refine lv_dup hx hb hdec (zz_c1_ok hc) ?_
        exact kk H locs lm hS hR hl hlen hls (zz_all1 (P := zz_ok X) o1 hst)
      · cases hs
    · cases hs
  case dup2 =>
    dsimp only [zz_ck] at hchk
    have el := of_decide_eq_true hchk
    subst el
    simp only [zz_step] at hs
    split at hs
    · rename_i v w r
      split at hs
      · rename_i hc hd
        cases hs
        obtain ⟨o1, o2, o3⟩ := zz_fm2 hst
        refine lv_dup2_11 hx hb hdec (zz_c1_ok hc) (zz_c1_ok hd) ?_
        exact kk H locs lm hS hR hl hlen hls (zz_all1 (P := zz_ok X) o1 (zz_all1 (P := zz_ok X) o2 hst))
      · cases hs
    · cases hs
  case pop =>
    dsimp only [zz_ck] at hchk
    have el := of_decide_eq_true hchk
    subst el
    simp only [zz_step] at hs
    split at hs
    · rename_i v r
      split at hs
      · rename_i hc
        cases hs
        obtain ⟨o1, o3⟩ := List.forall_mem_cons.mp hst
        refine lv_pop hx hb hdec (zz_c1_ok hc) ?_
        exact kk H locs lm hS hR hl hlen hls o3
      · cases hs
    · cases hs
  case getfield i =>
    simp only [zz_ck, Bool.and_eq_true, decide_eq_true_eq] at hchk
    obtain ⟨⟨el, h13⟩, hnf⟩ := hchk
    subst el
    simp only [zz_step] at hs
    split at hs
    · rename_i f ts'
      have h13 : f / 100 < 13 := h13
      have hnf : f % 100 < zz_nf (f / 100) := hnf
      split at hs
      · rename_i st' σ' hg
        cases hs
        obtain ⟨t, p1, q1, a, r, v, rfl, ht, rfl, rfl, hv⟩ := zz_gf_ok hg
        obtain ⟨o1, o3⟩ := List.forall_mem_cons.mp hst
        obtain ⟨i0, hi0, ha, hK⟩ := o1
        dsimp only at ha hK
        subst ha
        subst ht
        obtain ⟨C, T, ty, hc, hin, hty, hnm⟩ := zz_cl_at h13
        have hlink := hts _ (hw (.fieldLink P.y.cls i (zz_fT f).1 (zz_fT f).2.1 (zz_fT f).2.2.1) List.mem_cons_self)
        rw [zz_fT_at hc] at hlink
        have hat := zz_ws_at X σ hi0
        rw [hK, zz_ce_o h13] at hat
        have hf : 100 * (f / 100) + f % 100 = f := by omega
        have hv2 : (zz_fs (f / 100) p1 q1 σ (X.b + i0))[f % 100]? = some (zz_toV X v) := by
          rw [zz_fs_at hnf, hf]
          rcases hv with ⟨w, h1, rfl⟩ | ⟨h1, rfl⟩
          · rw [h1]; rfl
          · rw [h1]; rfl
        refine va_get (D := X.D) (cl := zz_cl) (ws := zz_ws X σ) (ci := f / 100) (v := zz_toV X v) hx hb hts hin hown hE.1 hR.1 i0 hat hc (f % 100) hnf hlink (fun _ h => h) hv2 hdec ?_
        refine kk H locs lm hS hR hl hlen hls (zz_all1 (P := zz_ok X) ?_ o3)
        rcases hv with ⟨w, h1, rfl⟩ | ⟨h1, rfl⟩
        · obtain ⟨g1, g2⟩ := zz_closed hi0 hK rfl hnf h1
          exact ⟨i0 + w.2.2.2, g1, by dsimp only; omega, g2⟩
        · exact hR.2.1 _ _
      · cases hs
    · cases hs
  case putfield i =>
    simp only [zz_ck, Bool.and_eq_true, decide_eq_true_eq] at hchk
    obtain ⟨⟨⟨el, h13⟩, hnf⟩, hfin⟩ := hchk
    subst el
    simp only [zz_step] at hs
    split at hs
    · rename_i f ts'
      have h13 : f / 100 < 13 := h13
      have hnf : f % 100 < zz_nf (f / 100) := hnf
      have hfin : (zz_fT f).2.2.2 = false := hfin
      split at hs
      · rename_i st' σ' hg
        cases hs
        obtain ⟨x, t, p1, q1, a, rfl, ht, rfl, hr, hz⟩ := zz_pf_ok hg
        obtain ⟨o0, o1, o3⟩ := zz_fm2 hst
        obtain ⟨i0, hi0, ha, hK⟩ := o1
        dsimp only at ha hK
        subst ha
        subst ht
        obtain ⟨C, T, ty, hc, hin, hty, hnm⟩ := zz_cl_at h13
        have hlink := hts _ (hw (.fieldLink P.y.cls i (zz_fT f).1 (zz_fT f).2.1 (zz_fT f).2.2.1) List.mem_cons_self)
        have hpty := zz_fieldTy h13 hnf hr
        rw [hz] at hpty
        rw [zz_fT_at hc] at hlink hfin hpty
        have hat := zz_ws_at X σ hi0
        rw [hK, zz_ce_o h13] at hat
        refine va_put (D := X.D) (cl := zz_cl) (ws := zz_ws X σ) (ci := f / 100) (v := .int (Int32.ofInt x)) (ty := .int) hx hb hts hin ty hty hnm hown hE.1 hR.1 (zz_ws_D X σ) hS i0 hat hc (f % 100) hnf hlink (fun _ h => h) hfin hpty (vp_nar_int _) rfl (by rw [zz_fs_len]; exact hnf) hdec (fun H1 locs1 hP1 hD1 hS1 => ?_)
        rw [zz_ws_sf hi0 hK h13 rfl hr] at hP1
        exact kk H1 locs1 lm hS1 (zz_R_sf hR o0 hP1) hl hlen hls o3
      · cases hs
    · cases hs
  case arraylength =>
    dsimp only [zz_ck] at hchk
    have el := of_decide_eq_true hchk
    subst el
    simp only [zz_step] at hs
    split at hs
    · rename_i t p1 q1 a r
      split at hs
      · rename_i hb50
        cases hs
        obtain ⟨o1, o3⟩ := List.forall_mem_cons.mp hst
        obtain ⟨i0, hi0, ha, hK⟩ := o1
        dsimp only at ha hK
        subst ha
        obtain ⟨ht, hp⟩ := zz_kindsOk hi0 hK
        have h50 : 50 ≤ t := Nat.le_of_ble_eq_true hb50
        have hat := zz_ws_at X σ hi0
        rw [hK] at hat
        have hce : ∃ x : vp_A, zz_ce X σ (X.b + i0) (t, p1, q1) = .inl (X.dA (t - 50), x) ∧ x.1 = p1 := by
          unfold zz_ce
          rw [if_neg (by dsimp only; omega)]
          split
          · exact ⟨_, rfl, rfl⟩
          · exact ⟨_, rfl, rfl⟩
        obtain ⟨xa, e1, e2⟩ := hce
        rw [e1] at hat
        have hty : ∃ ty, (zz_tys X)[t - 50]? = some (X.dA (t - 50), ty) := by
          have ht2 : t - 50 < 6 := by omega
          generalize t - 50 = k at ht2
          match k, ht2 with
          | 0, _ => exact ⟨_, rfl⟩
          | 1, _ => exact ⟨_, rfl⟩
          | 2, _ => exact ⟨_, rfl⟩
          | 3, _ => exact ⟨_, rfl⟩
          | 4, _ => exact ⟨_, rfl⟩
          | 5, _ => exact ⟨_, rfl⟩
          | n + 6, h => omega
        obtain ⟨ty, hty⟩ := hty
        refine va_alen (D := X.D) (cl := zz_cl) (ws := zz_ws X σ) hx hb hE.1 hR.1 i0 (t - 50) hat hty (v := Int32.ofInt (p1 : Nat)) (by rw [e2]; exact zz_ofN (by omega)) hdec ?_
        exact kk H locs lm hS hR hl hlen hls (zz_all1 (P := zz_ok X) (show zz_in ((p1 : Nat) : Int) by unfold zz_in; omega) o3)
      · cases hs
    · cases hs
  case ldc i =>
    dsimp only [zz_ck] at hchk
    rw [Bool.and_eq_true] at hchk
    obtain ⟨el, hchk⟩ := hchk
    have el := of_decide_eq_true el
    subst el
    split at hchk
    · rename_i k
      simp only [Bool.and_eq_true, decide_eq_true_eq] at hchk
      obtain ⟨⟨h1, h2⟩, h3⟩ := hchk
      cases hs
      obtain ⟨tx, hZ⟩ := zz_sr_at hE.2.2.1 h1 h2 h3
      refine va_ldcS hx hb hown hZ hdec ?_
      exact kk H locs lm hS hR hl hlen hls (zz_all1 (P := zz_ok X) (Or.inr (by omega)) hst)
    · rename_i v
      have hv := of_decide_eq_true hchk
      cases hs
      have hcon := hts _ (hw (.constant P.y.cls i (Int32.ofInt (v : Nat))) List.mem_cons_self)
      refine lv_ldc hx hb hown hcon hdec ?_
      exact kk H locs lm hS hR hl hlen hls (zz_all1 (P := zz_ok X) (show zz_in ((v : Nat) : Int) by unfold zz_in; omega) hst)
    · cases hchk
  case ldc_w i =>
    dsimp only [zz_ck] at hchk
    rw [Bool.and_eq_true] at hchk
    obtain ⟨el, hchk⟩ := hchk
    have el := of_decide_eq_true el
    subst el
    split at hchk
    · rename_i k
      simp only [Bool.and_eq_true, decide_eq_true_eq] at hchk
      obtain ⟨⟨h1, h2⟩, h3⟩ := hchk
      cases hs
      obtain ⟨tx, hZ⟩ := zz_sr_at hE.2.2.1 h1 h2 h3
      refine zz_ldcSW hx hb hown hZ hdec ?_
      exact kk H locs lm hS hR hl hlen hls (zz_all1 (P := zz_ok X) (Or.inr (by omega)) hst)
    · rename_i v
      have hv := of_decide_eq_true hchk
      cases hs
      have hcon := hts _ (hw (.constant P.y.cls i (Int32.ofInt (v : Nat))) List.mem_cons_self)
      refine lv_ldcw hx hb hown hcon hdec ?_
      exact kk H locs lm hS hR hl hlen hls (zz_all1 (P := zz_ok X) (show zz_in ((v : Nat) : Int) by unfold zz_in; omega) hst)
    · cases hchk
  case ldc2_w i =>
    simp only [zz_ck, Bool.and_eq_true, decide_eq_true_eq] at hchk
    obtain ⟨el, hv⟩ := hchk
    subst el
    simp only [zz_step] at hs
    split at hs
    · rename_i v ts'
      cases hs
      have hv : v < 1000000 := hv
      have hcon := hts _ (hw (.constantLong P.y.cls i (Int64.ofInt (v : Nat))) List.mem_cons_self)
      refine lv_ldc2 hx hb hown hcon hdec ?_
      exact kk H locs lm hS hR hl hlen hls (zz_all1 (P := zz_ok X) (show zz_inL ((v : Nat) : Int) by unfold zz_inL; omega) hst)
    · cases hs
  all_goals (cases hs)
