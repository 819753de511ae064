/-! CONSTRUCTORS with loops; printed by program. -/
def p_Scout_init : zz_P := (0, ⟨"TurnQueues$Scout", "<init>", "()V"⟩, prog_10_method_1_code, 2, none, [])
set_option maxRecDepth 100000 in
theorem ow_Scout_init : ∀ w ∈ [Cond.code p_Scout_init.y p_Scout_init.bytes p_Scout_init.maxL none, Cond.initialized p_Scout_init.y.cls, Cond.instanceMethod p_Scout_init.y], w ∈ zz_tb := zz_mem_r [505, 108, 504] rfl (by decide +kernel)
theorem o_Scout_init : zk_okC p_Scout_init 0 := ⟨ow_Scout_init _ (List.mem_of_getElem? (i := 0) rfl), ow_Scout_init _ (List.mem_of_getElem? (i := 1) rfl), ow_Scout_init _ (List.mem_of_getElem? (i := 2) rfl), rfl, by decide +kernel, by decide +kernel, by decide +kernel⟩
set_option maxRecDepth 100000 in
theorem u_Scout_init_o : ∀ w ∈ [Cond.methodLink p_Scout_init.y.cls 3 Lib.objectInit, Cond.instanceMethod Lib.objectInit, Cond.code Lib.objectInit ⟨#[0xb1]⟩ 1 none], w ∈ zz_tb := zz_mem_r [506, 120, 121] rfl (by decide +kernel)
set_option maxRecDepth 100000 in
theorem u_Scout_init_a0 : ∀ w ∈ [Cond.arrayClass .int], w ∈ zz_tb := zz_mem_r [206] rfl (by decide +kernel)
set_option maxRecDepth 100000 in
theorem u_Scout_init_f9 : ∀ w ∈ [Cond.fieldLink p_Scout_init.y.cls 9 (zz_fT (100 * 8 + 4)).1 (zz_fT (100 * 8 + 4)).2.1 (zz_fT (100 * 8 + 4)).2.2.1], w ∈ zz_tb := zz_mem_r [518] rfl (by decide +kernel)
set_option maxRecDepth 100000 in
theorem u_Scout_init_f15 : ∀ w ∈ [Cond.fieldLink p_Scout_init.y.cls 15 (zz_fT (100 * 8 + 5)).1 (zz_fT (100 * 8 + 5)).2.1 (zz_fT (100 * 8 + 5)).2.2.1], w ∈ zz_tb := zz_mem_r [519] rfl (by decide +kernel)
set_option maxRecDepth 100000 in
theorem u_Scout_init_f18 : ∀ w ∈ [Cond.fieldLink p_Scout_init.y.cls 18 (zz_fT (100 * 8 + 6)).1 (zz_fT (100 * 8 + 6)).2.1 (zz_fT (100 * 8 + 6)).2.2.1], w ∈ zz_tb := zz_mem_r [520] rfl (by decide +kernel)
set_option maxRecDepth 100000 in
theorem u_Scout_init_n21 : ∀ w ∈ [Cond.classLink p_Scout_init.y.cls 21 (zk_R 4), Cond.instantiable (zk_R 4) (zz_nf 4), Cond.initialized (zk_R 4)], w ∈ zz_tb := zz_mem_r [507, 244, 102] rfl (by decide +kernel)
set_option maxRecDepth 100000 in
theorem u_Scout_init_l23 : ∀ w ∈ [Cond.methodLink p_Scout_init.y.cls 23 p_Mill_init.y], w ∈ zz_tb := zz_mem_r [508] rfl (by decide +kernel)
set_option maxRecDepth 100000 in
theorem u_Scout_init_f26 : ∀ w ∈ [Cond.fieldLink p_Scout_init.y.cls 26 (zz_fT (100 * 8 + 7)).1 (zz_fT (100 * 8 + 7)).2.1 (zz_fT (100 * 8 + 7)).2.2.1], w ∈ zz_tb := zz_mem_r [521] rfl (by decide +kernel)
set_option maxRecDepth 100000 in
theorem u_Scout_init_c30 : ∀ w ∈ [Cond.classLink p_Scout_init.y.cls 30 "TurnQueues$State"], w ∈ zz_tb := zz_mem_r [509] rfl (by decide +kernel)
set_option maxRecDepth 100000 in
theorem u_Scout_init_f32 : ∀ w ∈ [Cond.fieldLink p_Scout_init.y.cls 32 (zz_fT (100 * 8 + 8)).1 (zz_fT (100 * 8 + 8)).2.1 (zz_fT (100 * 8 + 8)).2.2.1], w ∈ zz_tb := zz_mem_r [522] rfl (by decide +kernel)
set_option maxRecDepth 100000 in
theorem u_Scout_init_n30 : ∀ w ∈ [Cond.classLink p_Scout_init.y.cls 30 (zk_R 9), Cond.instantiable (zk_R 9) (zz_nf 9), Cond.initialized (zk_R 9)], w ∈ zz_tb := zz_mem_r [509, 312, 104] rfl (by decide +kernel)
def kT_DScout : List (Nat × Nat × Nat) := [(50, 6, 0), (50, 6, 0), (50, 6, 0), (4, 0, 0), (1, 0, 0), (50, 0, 0), (50, 0, 0), (50, 0, 0), (50, 0, 0), (50, 0, 0), (53, 7, 107)]
theorem kT_Scout : kT_DScout.length = 11 := by decide
def kB_DScout : List (Nat × Nat × Nat) := [(9, 0, 0), (7, 0, 0), (7, 0, 0), (7, 0, 0), (7, 0, 0), (7, 0, 0), (7, 0, 0)]
theorem kB_Scout : kB_DScout.length = 7 := rfl
def kF_Scout : List (Nat × Nat × Nat) := (8, 0, 0) :: (kT_DScout ++ (List.replicate 7 kB_DScout).flatten)
theorem kL_Scout : kF_Scout.length = 61 := by decide +kernel
set_option maxRecDepth 100000 in
theorem lp_Scout_init (X : zz_X) (L0 : List va_E) {fs : List Value} (hv8 : fs[8]? = some (zz_toV X (zP 53 7 107 (X.b + L0.length + 11)))) (hfs : fs = zz_fs 8 0 0 zs0 (X.b + L0.length)) : ∀ n k : Nat, k + n = 7 → zk_G X (zk_room 3 60 207) p_Scout_init L0 8 (zk_m X (X.b + L0.length) kF_Scout) 52 [zP 8 0 0 (X.b + L0.length), .inl (k : Int)] [] fs (zk_x X (X.b + L0.length + 1) (zk_up zk_no 10 (zk_pe X 3 7 (X.b + L0.length + 12) 7 k)) (kT_DScout ++ (List.replicate k kB_DScout).flatten)) (11 + 7 * k) (39 + 24 * k) := by
  intro n
  induction n with
  | zero =>
    intro k hk
    have hk : k = 7 := by omega
    subst hk
    unfold kF_Scout
    refine zk_iload (k := 1) (i := ((7 : Nat) : Int)) (by decide +kernel) rfl ?_
    refine zk_bi (n := 6) (by decide +kernel) (by decide +kernel) ?_
    refine zk_gt (off := 22) (tgt := 77) (by decide +kernel) (by decide) (by unfold zz_in; omega) (by unfold zz_in; omega) (fun _ => ?_) (fun h => absurd h (by decide))
    refine zk_done (j := 0) (N := 7) (q := 107) (r := 10) (base := X.b + L0.length + 12) (step := 7) (zk_apl rfl) (by decide) rfl (by omega) rfl ?_
    exact zk_retx (K := (8, 0, 0)) (by decide +kernel) (by decide) rfl hfs (by first | exact Nat.le_of_ble_eq_true rfl | (simp only [zk_room, zz_nf, List.length_append, List.length_cons, List.length_nil]; omega) | omega) (by first | exact Nat.le_of_ble_eq_true rfl | (simp only [zk_room, zz_nf, List.length_append, List.length_cons, List.length_nil]; omega) | omega)
  | succ n ih =>
    intro k hk
    refine zk_iload (k := 1) (i := (k : Int)) (by decide +kernel) rfl ?_
    refine zk_bi (n := 6) (by decide +kernel) (by decide +kernel) ?_
    refine zk_gt (off := 22) (tgt := 77) (by decide +kernel) (by decide) (by unfold zz_in; omega) (zk_nin (by omega)) (fun h => absurd h (by omega)) (fun _ => ?_)
    refine zk_aload (k := 0) (q := (8, 0, 0, X.b + L0.length)) (by decide +kernel) rfl ?_
    refine zk_get0 (k := 8) (idx := 32) (v := zP 53 7 107 (X.b + L0.length + 11)) (by decide +kernel) (by decide) (by decide) (u_Scout_init_f32 _ List.mem_cons_self) hv8 ?_
    refine zk_iload (k := 1) (i := (k : Int)) (by decide +kernel) rfl ?_
    refine zk_newx (t' := 9) (r := 11 + 7 * k + 1) (idx := 30) (by decide +kernel) (by decide) u_Scout_init_n30 (by first | (simp only [List.length_append, List.length_cons, List.length_nil, zk_flen, kT_Scout, kB_Scout]; omega) | simp only [List.length_append, List.length_cons, List.length_nil, zk_flen, kT_Scout, kB_Scout]) (by first | exact Nat.le_of_ble_eq_true rfl | (simp only [zk_room, zz_nf, List.length_append, List.length_cons, List.length_nil]; omega) | omega) (by first | exact Nat.le_of_ble_eq_true rfl | (simp only [zk_room, zz_nf, List.length_append, List.length_cons, List.length_nil]; omega) | omega) ?_
    refine zk_dup (by decide +kernel) ?_
    refine zk_callx (P' := p_State_init) (t' := 9) (idx := 36) (r := 11 + 7 * k + 1) (d := 3) (d' := 2) (mc := 6) (ms := 12) (as := []) (Ks' := [(9, 0, 0), (7, 0, 0), (7, 0, 0), (7, 0, 0), (7, 0, 0), (7, 0, 0), (7, 0, 0)]) (by decide +kernel) o_State_init rfl (fun L => t_State_init X L) (Or.inr (List.mem_of_getElem? (i := 6) rfl)) ⟨rfl, rfl⟩ (by decide) (by decide) (by first | exact Nat.le_of_ble_eq_true rfl | (simp only [zk_room, zz_nf, List.length_append, List.length_cons, List.length_nil]; omega) | omega) (by first | (simp only [List.length_append, List.length_cons, List.length_nil, zk_flen, kT_Scout, kB_Scout]; omega) | simp only [List.length_append, List.length_cons, List.length_nil, zk_flen, kT_Scout, kB_Scout]) (fun j hj => ((zk_up_ne _ _ (by omega)).trans rfl)) (by first | exact Nat.le_of_ble_eq_true rfl | (simp only [zk_room, zz_nf, List.length_append, List.length_cons, List.length_nil]; omega) | omega) (by first | exact Nat.le_of_ble_eq_true rfl | (simp only [zk_room, zz_nf, List.length_append, List.length_cons, List.length_nil]; omega) | omega) ?_
    refine zk_aastx (j := 3) (N := 7) (r := 10) (r' := 11 + 7 * k + 0) (base := X.b + L0.length + 12) (step := 7) (C := "TurnQueues$State") (k := k) (K := (9, 0, 0)) (by decide +kernel) rfl (by decide) rfl ⟨_, (zk_apl (zk_apl rfl))⟩ (zk_apr (by simp only [List.length_append, List.length_cons, List.length_nil, zk_flen, kT_Scout, kB_Scout]; omega)) rfl (zk_up_ne _ _ (by omega)) (by omega) (by decide) (by omega) ?_
    refine zk_inc (k := 1) (n := 1) (x := (k : Int)) (ls' := [zP 8 0 0 (X.b + L0.length), .inl ((k + 1 : Nat) : Int)]) (by decide +kernel) rfl (by rw [zw_S (by omega)]; rfl) (by first | exact Nat.le_of_ble_eq_true rfl | (simp only [zk_room, zz_nf, List.length_append, List.length_cons, List.length_nil]; omega) | omega) ?_
    refine zk_goto (off := -22) (tgt := 52) (by decide +kernel) (by decide) ?_
    refine zk_wid (c' := 11 + 7 * (k + 1)) (s' := 39 + 24 * (k + 1)) (by first | exact Nat.le_of_ble_eq_true rfl | (simp only [zk_room, zz_nf, List.length_append, List.length_cons, List.length_nil]; omega) | omega) (by first | exact Nat.le_of_ble_eq_true rfl | (simp only [zk_room, zz_nf, List.length_append, List.length_cons, List.length_nil]; omega) | omega) ?_
    have h2 := ih (k + 1) (by omega)
    rw [zk_flat, ← List.append_assoc] at h2
    exact h2
set_option maxRecDepth 100000 in
theorem t_Scout_init (X : zz_X) (L0 : List va_E) : zk_T X 3 60 207 p_Scout_init 8 [] L0 (zk_m X (X.b + L0.length) kF_Scout) := by
  refine zk_mk (by decide +kernel) rfl (Nat.le_of_ble_eq_true rfl) ?_
  show zk_G X _ p_Scout_init L0 8 _ 0 _ [] (zk_fs 8) (zk_x X (X.b + L0.length + 1) zk_no []) 0 0
  refine zk_aload (k := 0) (q := (8, 0, 0, X.b + L0.length)) (by decide +kernel) rfl ?_
  refine zk_obj (idx := 3) (q := (8, 0, 0, X.b + L0.length)) (by decide +kernel) u_Scout_init_o (by first | exact Nat.le_of_ble_eq_true rfl | (simp only [zk_room, zz_nf, List.length_append, List.length_cons, List.length_nil]; omega) | omega) (by first | exact Nat.le_of_ble_eq_true rfl | (simp only [zk_room, zz_nf, List.length_append, List.length_cons, List.length_nil]; omega) | omega) ?_
  refine zk_aload (k := 0) (q := (8, 0, 0, X.b + L0.length)) (by decide +kernel) rfl ?_
  refine zk_bi (n := 6) (by decide +kernel) (by decide +kernel) ?_
  refine zk_newax (aty := .int) (k := 0) (N := 6) (r := 1) (by decide +kernel) (u_Scout_init_a0 _ List.mem_cons_self) (by decide) rfl rfl (fun C h => by cases h) (by decide) (by decide) (by first | (simp only [List.length_append, List.length_cons, List.length_nil, zk_flen]; omega) | simp only [List.length_append, List.length_cons, List.length_nil, zk_flen]) (fun _ _ => rfl) (by first | exact Nat.le_of_ble_eq_true rfl | (simp only [zk_room, zz_nf, List.length_append, List.length_cons, List.length_nil]; omega) | omega) (by first | exact Nat.le_of_ble_eq_true rfl | (simp only [zk_room, zz_nf, List.length_append, List.length_cons, List.length_nil]; omega) | omega) ?_
  refine zk_put (k := 4) (idx := 9) (v := zP 50 6 0 (X.b + L0.length + 1)) (fty := (.array .int)) (by decide +kernel) (by decide) (by decide) (u_Scout_init_f9 _ List.mem_cons_self) rfl rfl rfl rfl (by simp only [List.length_set, zk_fs_len]) 0 0 ?_
  refine zk_aload (k := 0) (q := (8, 0, 0, X.b + L0.length)) (by decide +kernel) rfl ?_
  refine zk_bi (n := 6) (by decide +kernel) (by decide +kernel) ?_
  refine zk_newax (aty := .int) (k := 0) (N := 6) (r := 2) (by decide +kernel) (u_Scout_init_a0 _ List.mem_cons_self) (by decide) rfl rfl (fun C h => by cases h) (by decide) (by decide) (by first | (simp only [List.length_append, List.length_cons, List.length_nil, zk_flen]; omega) | simp only [List.length_append, List.length_cons, List.length_nil, zk_flen]) (fun _ _ => rfl) (by first | exact Nat.le_of_ble_eq_true rfl | (simp only [zk_room, zz_nf, List.length_append, List.length_cons, List.length_nil]; omega) | omega) (by first | exact Nat.le_of_ble_eq_true rfl | (simp only [zk_room, zz_nf, List.length_append, List.length_cons, List.length_nil]; omega) | omega) ?_
  refine zk_put (k := 5) (idx := 15) (v := zP 50 6 0 (X.b + L0.length + 2)) (fty := (.array .int)) (by decide +kernel) (by decide) (by decide) (u_Scout_init_f15 _ List.mem_cons_self) rfl rfl rfl rfl (by simp only [List.length_set, zk_fs_len]) 0 0 ?_
  refine zk_aload (k := 0) (q := (8, 0, 0, X.b + L0.length)) (by decide +kernel) rfl ?_
  refine zk_bi (n := 6) (by decide +kernel) (by decide +kernel) ?_
  refine zk_newax (aty := .int) (k := 0) (N := 6) (r := 3) (by decide +kernel) (u_Scout_init_a0 _ List.mem_cons_self) (by decide) rfl rfl (fun C h => by cases h) (by decide) (by decide) (by first | (simp only [List.length_append, List.length_cons, List.length_nil, zk_flen]; omega) | simp only [List.length_append, List.length_cons, List.length_nil, zk_flen]) (fun _ _ => rfl) (by first | exact Nat.le_of_ble_eq_true rfl | (simp only [zk_room, zz_nf, List.length_append, List.length_cons, List.length_nil]; omega) | omega) (by first | exact Nat.le_of_ble_eq_true rfl | (simp only [zk_room, zz_nf, List.length_append, List.length_cons, List.length_nil]; omega) | omega) ?_
  refine zk_put (k := 6) (idx := 18) (v := zP 50 6 0 (X.b + L0.length + 3)) (fty := (.array .int)) (by decide +kernel) (by decide) (by decide) (u_Scout_init_f18 _ List.mem_cons_self) rfl rfl rfl rfl (by simp only [List.length_set, zk_fs_len]) 0 0 ?_
  refine zk_aload (k := 0) (q := (8, 0, 0, X.b + L0.length)) (by decide +kernel) rfl ?_
  refine zk_newx (t' := 4) (r := 4) (idx := 21) (by decide +kernel) (by decide) u_Scout_init_n21 (by first | (simp only [List.length_append, List.length_cons, List.length_nil, zk_flen]; omega) | simp only [List.length_append, List.length_cons, List.length_nil, zk_flen]) (by first | exact Nat.le_of_ble_eq_true rfl | (simp only [zk_room, zz_nf, List.length_append, List.length_cons, List.length_nil]; omega) | omega) (by first | exact Nat.le_of_ble_eq_true rfl | (simp only [zk_room, zz_nf, List.length_append, List.length_cons, List.length_nil]; omega) | omega) ?_
  refine zk_dup (by decide +kernel) ?_
  refine zk_ic (n := 0) (by decide +kernel) ?_
  refine zk_ic (n := 0) (by decide +kernel) ?_
  refine zk_callx (P' := p_Mill_init) (t' := 4) (idx := 23) (r := 4) (d := 3) (d' := 2) (mc := 6) (ms := (6 + 4 * 0 + 0)) (as := [.inl (0 : Int), .inl (0 : Int)]) (Ks' := [(4, 0, 0), (1, 0, 0), (50, 0, 0), (50, 0, 0), (50, 0, 0), (50, 0, 0), (50, 0, 0)]) (by decide +kernel) o_Mill_init rfl (fun L => t_Mill_init X 0 (by decide) 0 (by decide) L) (Or.inl (u_Scout_init_l23 _ List.mem_cons_self)) ⟨rfl, rfl⟩ (by decide) (by decide) (by first | exact Nat.le_of_ble_eq_true rfl | (simp only [zk_room, zz_nf, List.length_append, List.length_cons, List.length_nil]; omega) | omega) (by first | (simp only [List.length_append, List.length_cons, List.length_nil, zk_flen]; omega) | simp only [List.length_append, List.length_cons, List.length_nil, zk_flen]) (fun _ _ => rfl) (by first | exact Nat.le_of_ble_eq_true rfl | (simp only [zk_room, zz_nf, List.length_append, List.length_cons, List.length_nil]; omega) | omega) (by first | exact Nat.le_of_ble_eq_true rfl | (simp only [zk_room, zz_nf, List.length_append, List.length_cons, List.length_nil]; omega) | omega) ?_
  refine zk_put (k := 7) (idx := 26) (v := zP 4 0 0 (X.b + L0.length + 4)) (fty := (.object "TurnQueues$Mill")) (by decide +kernel) (by decide) (by decide) (u_Scout_init_f26 _ List.mem_cons_self) rfl rfl rfl rfl (by simp only [List.length_set, zk_fs_len]) 0 0 ?_
  refine zk_aload (k := 0) (q := (8, 0, 0, X.b + L0.length)) (by decide +kernel) rfl ?_
  refine zk_bi (n := 7) (by decide +kernel) (by decide +kernel) ?_
  refine zk_newqp (k := 3) (N := 7) (n := 10) (idx := 30) (53, 7, 107) 107 (X.b + L0.length + 12) 7 (by decide +kernel) (u_Scout_init_c30 _ List.mem_cons_self) (by decide) rfl (by decide) (by first | (simp only [List.length_append, List.length_cons, List.length_nil, zk_flen]; omega) | simp only [List.length_append, List.length_cons, List.length_nil, zk_flen]) (by first | exact Nat.le_of_ble_eq_true rfl | (simp only [zk_room, zz_nf, List.length_append, List.length_cons, List.length_nil]; omega) | omega) (by first | exact Nat.le_of_ble_eq_true rfl | (simp only [zk_room, zz_nf, List.length_append, List.length_cons, List.length_nil]; omega) | omega) ?_
  refine zk_put (k := 8) (idx := 32) (v := zP 53 7 107 (X.b + L0.length + 11)) (fty := (.array (.object "TurnQueues$State"))) (by decide +kernel) (by decide) (by decide) (u_Scout_init_f32 _ List.mem_cons_self) rfl rfl rfl rfl (by simp only [List.length_set, zk_fs_len]) 0 0 ?_
  refine zk_ic (n := 0) (by decide +kernel) ?_
  refine zk_ist (k := 1) (i := 0) (ls' := [zP 8 0 0 (X.b + L0.length), .inl 0]) (by decide +kernel) rfl (by first | exact Nat.le_of_ble_eq_true rfl | (simp only [zk_room, zz_nf, List.length_append, List.length_cons, List.length_nil]; omega) | omega) ?_
  refine zk_wid (c' := 11 + 7 * 0) (s' := 39 + 24 * 0) (by first | exact Nat.le_of_ble_eq_true rfl | (simp only [zk_room, zz_nf, List.length_append, List.length_cons, List.length_nil]; omega) | omega) (by first | exact Nat.le_of_ble_eq_true rfl | (simp only [zk_room, zz_nf, List.length_append, List.length_cons, List.length_nil]; omega) | omega) ?_
  exact lp_Scout_init X L0 rfl rfl 7 0 rfl
def p_Trial_init : zz_P := (0, ⟨"TurnQueues$Trial", "<init>", "()V"⟩, prog_12_method_1_code, 2, none, [])
set_option maxRecDepth 100000 in
theorem ow_Trial_init : ∀ w ∈ [Cond.code p_Trial_init.y p_Trial_init.bytes p_Trial_init.maxL none, Cond.initialized p_Trial_init.y.cls, Cond.instanceMethod p_Trial_init.y], w ∈ zz_tb := zz_mem_r [467, 107, 466] rfl (by decide +kernel)
theorem o_Trial_init : zk_okC p_Trial_init 0 := ⟨ow_Trial_init _ (List.mem_of_getElem? (i := 0) rfl), ow_Trial_init _ (List.mem_of_getElem? (i := 1) rfl), ow_Trial_init _ (List.mem_of_getElem? (i := 2) rfl), rfl, by decide +kernel, by decide +kernel, by decide +kernel⟩
set_option maxRecDepth 100000 in
theorem u_Trial_init_o : ∀ w ∈ [Cond.methodLink p_Trial_init.y.cls 3 Lib.objectInit, Cond.instanceMethod Lib.objectInit, Cond.code Lib.objectInit ⟨#[0xb1]⟩ 1 none], w ∈ zz_tb := zz_mem_r [468, 120, 121] rfl (by decide +kernel)
set_option maxRecDepth 100000 in
theorem u_Trial_init_n9 : ∀ w ∈ [Cond.classLink p_Trial_init.y.cls 9 (zk_R 5), Cond.instantiable (zk_R 5) (zz_nf 5), Cond.initialized (zk_R 5)], w ∈ zz_tb := zz_mem_r [469, 411, 106] rfl (by decide +kernel)
set_option maxRecDepth 100000 in
theorem u_Trial_init_l11 : ∀ w ∈ [Cond.methodLink p_Trial_init.y.cls 11 p_Numbers_init.y], w ∈ zz_tb := zz_mem_r [470] rfl (by decide +kernel)
set_option maxRecDepth 100000 in
theorem u_Trial_init_f14 : ∀ w ∈ [Cond.fieldLink p_Trial_init.y.cls 14 (zz_fT (100 * 10 + 3)).1 (zz_fT (100 * 10 + 3)).2.1 (zz_fT (100 * 10 + 3)).2.2.1], w ∈ zz_tb := zz_mem_r [481] rfl (by decide +kernel)
set_option maxRecDepth 100000 in
theorem u_Trial_init_n20 : ∀ w ∈ [Cond.classLink p_Trial_init.y.cls 20 (zk_R 4), Cond.instantiable (zk_R 4) (zz_nf 4), Cond.initialized (zk_R 4)], w ∈ zz_tb := zz_mem_r [471, 244, 102] rfl (by decide +kernel)
set_option maxRecDepth 100000 in
theorem u_Trial_init_l22 : ∀ w ∈ [Cond.methodLink p_Trial_init.y.cls 22 p_Mill_init.y], w ∈ zz_tb := zz_mem_r [472] rfl (by decide +kernel)
set_option maxRecDepth 100000 in
theorem u_Trial_init_f25 : ∀ w ∈ [Cond.fieldLink p_Trial_init.y.cls 25 (zz_fT (100 * 10 + 4)).1 (zz_fT (100 * 10 + 4)).2.1 (zz_fT (100 * 10 + 4)).2.2.1], w ∈ zz_tb := zz_mem_r [483] rfl (by decide +kernel)
set_option maxRecDepth 100000 in
theorem u_Trial_init_n29 : ∀ w ∈ [Cond.classLink p_Trial_init.y.cls 29 (zk_R 9), Cond.instantiable (zk_R 9) (zz_nf 9), Cond.initialized (zk_R 9)], w ∈ zz_tb := zz_mem_r [473, 312, 104] rfl (by decide +kernel)
set_option maxRecDepth 100000 in
theorem u_Trial_init_f32 : ∀ w ∈ [Cond.fieldLink p_Trial_init.y.cls 32 (zz_fT (100 * 10 + 5)).1 (zz_fT (100 * 10 + 5)).2.1 (zz_fT (100 * 10 + 5)).2.2.1], w ∈ zz_tb := zz_mem_r [484] rfl (by decide +kernel)
set_option maxRecDepth 100000 in
theorem u_Trial_init_c29 : ∀ w ∈ [Cond.classLink p_Trial_init.y.cls 29 "TurnQueues$State"], w ∈ zz_tb := zz_mem_r [473] rfl (by decide +kernel)
set_option maxRecDepth 100000 in
theorem u_Trial_init_f36 : ∀ w ∈ [Cond.fieldLink p_Trial_init.y.cls 36 (zz_fT (100 * 10 + 6)).1 (zz_fT (100 * 10 + 6)).2.1 (zz_fT (100 * 10 + 6)).2.2.1], w ∈ zz_tb := zz_mem_r [485] rfl (by decide +kernel)
def kT_DTrial : List (Nat × Nat × Nat) := [(5, 120, 0), (50, 120, 0), (4, 0, 0), (1, 0, 0), (50, 0, 0), (50, 0, 0), (50, 0, 0), (50, 0, 0), (50, 0, 0), (9, 0, 0), (7, 0, 0), (7, 0, 0), (7, 0, 0), (7, 0, 0), (7, 0, 0), (7, 0, 0), (53, 61, 107)]
theorem kT_Trial : kT_DTrial.length = 17 := by decide
def kB_DTrial : List (Nat × Nat × Nat) := [(9, 0, 0), (7, 0, 0), (7, 0, 0), (7, 0, 0), (7, 0, 0), (7, 0, 0), (7, 0, 0)]
theorem kB_Trial : kB_DTrial.length = 7 := rfl
def kF_Trial : List (Nat × Nat × Nat) := (10, 0, 0) :: (kT_DTrial ++ (List.replicate 61 kB_DTrial).flatten)
theorem kL_Trial : kF_Trial.length = 445 := by decide +kernel
set_option maxRecDepth 100000 in
theorem lp_Trial_init (X : zz_X) (L0 : List va_E) {fs : List Value} (hv6 : fs[6]? = some (zz_toV X (zP 53 61 107 (X.b + L0.length + 17)))) (hfs : fs = zz_fs 10 0 0 zs0 (X.b + L0.length)) : ∀ n k : Nat, k + n = 61 → zk_G X (zk_room 3 444 1685) p_Trial_init L0 10 (zk_m X (X.b + L0.length) kF_Trial) 52 [zP 10 0 0 (X.b + L0.length), .inl (k : Int)] [] fs (zk_x X (X.b + L0.length + 1) (zk_up zk_no 16 (zk_pe X 3 61 (X.b + L0.length + 18) 7 k)) (kT_DTrial ++ (List.replicate k kB_DTrial).flatten)) (17 + 7 * k) (221 + 24 * k) := by
  intro n
  induction n with
  | zero =>
    intro k hk
    have hk : k = 61 := by omega
    subst hk
    unfold kF_Trial
    refine zk_iload (k := 1) (i := ((61 : Nat) : Int)) (by decide +kernel) rfl ?_
    refine zk_bi (n := 61) (by decide +kernel) (by decide +kernel) ?_
    refine zk_ge (off := 22) (tgt := 77) (by decide +kernel) (by decide) (by unfold zz_in; omega) (by unfold zz_in; omega) (fun _ => ?_) (fun h => absurd h (by decide))
    refine zk_done (j := 0) (N := 61) (q := 107) (r := 16) (base := X.b + L0.length + 18) (step := 7) (zk_apl rfl) (by decide) rfl (by omega) rfl ?_
    exact zk_retx (K := (10, 0, 0)) (by decide +kernel) (by decide) rfl hfs (by first | exact Nat.le_of_ble_eq_true rfl | (simp only [zk_room, zz_nf, List.length_append, List.length_cons, List.length_nil]; omega) | omega) (by first | exact Nat.le_of_ble_eq_true rfl | (simp only [zk_room, zz_nf, List.length_append, List.length_cons, List.length_nil]; omega) | omega)
  | succ n ih =>
    intro k hk
    refine zk_iload (k := 1) (i := (k : Int)) (by decide +kernel) rfl ?_
    refine zk_bi (n := 61) (by decide +kernel) (by decide +kernel) ?_
    refine zk_ge (off := 22) (tgt := 77) (by decide +kernel) (by decide) (by unfold zz_in; omega) (zk_nin (by omega)) (fun h => absurd h (by omega)) (fun _ => ?_)
    refine zk_aload (k := 0) (q := (10, 0, 0, X.b + L0.length)) (by decide +kernel) rfl ?_
    refine zk_get0 (k := 6) (idx := 36) (v := zP 53 61 107 (X.b + L0.length + 17)) (by decide +kernel) (by decide) (by decide) (u_Trial_init_f36 _ List.mem_cons_self) hv6 ?_
    refine zk_iload (k := 1) (i := (k : Int)) (by decide +kernel) rfl ?_
    refine zk_newx (t' := 9) (r := 17 + 7 * k + 1) (idx := 29) (by decide +kernel) (by decide) u_Trial_init_n29 (by first | (simp only [List.length_append, List.length_cons, List.length_nil, zk_flen, kT_Scout, kB_Scout, kL_Scout, kT_Trial, kB_Trial]; omega) | simp only [List.length_append, List.length_cons, List.length_nil, zk_flen, kT_Scout, kB_Scout, kL_Scout, kT_Trial, kB_Trial]) (by first | exact Nat.le_of_ble_eq_true rfl | (simp only [zk_room, zz_nf, List.length_append, List.length_cons, List.length_nil]; omega) | omega) (by first | exact Nat.le_of_ble_eq_true rfl | (simp only [zk_room, zz_nf, List.length_append, List.length_cons, List.length_nil]; omega) | omega) ?_
    refine zk_dup (by decide +kernel) ?_
    refine zk_callx (P' := p_State_init) (t' := 9) (idx := 31) (r := 17 + 7 * k + 1) (d := 3) (d' := 2) (mc := 6) (ms := 12) (as := []) (Ks' := [(9, 0, 0), (7, 0, 0), (7, 0, 0), (7, 0, 0), (7, 0, 0), (7, 0, 0), (7, 0, 0)]) (by decide +kernel) o_State_init rfl (fun L => t_State_init X L) (Or.inr (List.mem_of_getElem? (i := 5) rfl)) ⟨rfl, rfl⟩ (by decide) (by decide) (by first | exact Nat.le_of_ble_eq_true rfl | (simp only [zk_room, zz_nf, List.length_append, List.length_cons, List.length_nil]; omega) | omega) (by first | (simp only [List.length_append, List.length_cons, List.length_nil, zk_flen, kT_Scout, kB_Scout, kL_Scout, kT_Trial, kB_Trial]; omega) | simp only [List.length_append, List.length_cons, List.length_nil, zk_flen, kT_Scout, kB_Scout, kL_Scout, kT_Trial, kB_Trial]) (fun j hj => ((zk_up_ne _ _ (by omega)).trans rfl)) (by first | exact Nat.le_of_ble_eq_true rfl | (simp only [zk_room, zz_nf, List.length_append, List.length_cons, List.length_nil]; omega) | omega) (by first | exact Nat.le_of_ble_eq_true rfl | (simp only [zk_room, zz_nf, List.length_append, List.length_cons, List.length_nil]; omega) | omega) ?_
    refine zk_aastx (j := 3) (N := 61) (r := 16) (r' := 17 + 7 * k + 0) (base := X.b + L0.length + 18) (step := 7) (C := "TurnQueues$State") (k := k) (K := (9, 0, 0)) (by decide +kernel) rfl (by decide) rfl ⟨_, (zk_apl (zk_apl rfl))⟩ (zk_apr (by simp only [List.length_append, List.length_cons, List.length_nil, zk_flen, kT_Scout, kB_Scout, kL_Scout, kT_Trial, kB_Trial]; omega)) rfl (zk_up_ne _ _ (by omega)) (by omega) (by decide) (by omega) ?_
    refine zk_inc (k := 1) (n := 1) (x := (k : Int)) (ls' := [zP 10 0 0 (X.b + L0.length), .inl ((k + 1 : Nat) : Int)]) (by decide +kernel) rfl (by rw [zw_S (by omega)]; rfl) (by first | exact Nat.le_of_ble_eq_true rfl | (simp only [zk_room, zz_nf, List.length_append, List.length_cons, List.length_nil]; omega) | omega) ?_
    refine zk_goto (off := -22) (tgt := 52) (by decide +kernel) (by decide) ?_
    refine zk_wid (c' := 17 + 7 * (k + 1)) (s' := 221 + 24 * (k + 1)) (by first | exact Nat.le_of_ble_eq_true rfl | (simp only [zk_room, zz_nf, List.length_append, List.length_cons, List.length_nil]; omega) | omega) (by first | exact Nat.le_of_ble_eq_true rfl | (simp only [zk_room, zz_nf, List.length_append, List.length_cons, List.length_nil]; omega) | omega) ?_
    have h2 := ih (k + 1) (by omega)
    rw [zk_flat, ← List.append_assoc] at h2
    exact h2
set_option maxRecDepth 100000 in
theorem t_Trial_init (X : zz_X) (L0 : List va_E) : zk_T X 3 444 1685 p_Trial_init 10 [] L0 (zk_m X (X.b + L0.length) kF_Trial) := by
  refine zk_mk (by decide +kernel) rfl (Nat.le_of_ble_eq_true rfl) ?_
  show zk_G X _ p_Trial_init L0 10 _ 0 _ [] (zk_fs 10) (zk_x X (X.b + L0.length + 1) zk_no []) 0 0
  refine zk_aload (k := 0) (q := (10, 0, 0, X.b + L0.length)) (by decide +kernel) rfl ?_
  refine zk_obj (idx := 3) (q := (10, 0, 0, X.b + L0.length)) (by decide +kernel) u_Trial_init_o (by first | exact Nat.le_of_ble_eq_true rfl | (simp only [zk_room, zz_nf, List.length_append, List.length_cons, List.length_nil]; omega) | omega) (by first | exact Nat.le_of_ble_eq_true rfl | (simp only [zk_room, zz_nf, List.length_append, List.length_cons, List.length_nil]; omega) | omega) ?_
  refine zk_aload (k := 0) (q := (10, 0, 0, X.b + L0.length)) (by decide +kernel) rfl ?_
  refine zk_newx (t' := 5) (r := 1) (idx := 9) (by decide +kernel) (by decide) u_Trial_init_n9 (by first | (simp only [List.length_append, List.length_cons, List.length_nil, zk_flen, kT_Scout, kB_Scout, kL_Scout]; omega) | simp only [List.length_append, List.length_cons, List.length_nil, zk_flen, kT_Scout, kB_Scout, kL_Scout]) (by first | exact Nat.le_of_ble_eq_true rfl | (simp only [zk_room, zz_nf, List.length_append, List.length_cons, List.length_nil]; omega) | omega) (by first | exact Nat.le_of_ble_eq_true rfl | (simp only [zk_room, zz_nf, List.length_append, List.length_cons, List.length_nil]; omega) | omega) ?_
  refine zk_dup (by decide +kernel) ?_
  refine zk_bi (n := 120) (by decide +kernel) (by decide +kernel) ?_
  refine zk_callx (P' := p_Numbers_init) (t' := 5) (idx := 11) (r := 1) (d := 3) (d' := 1) (mc := 1) (ms := 120) (as := [.inl (120 : Int)]) (Ks' := [(5, 120, 0), (50, 120, 0)]) (by decide +kernel) o_Numbers_init rfl (fun L => t_Numbers_init X 120 (by decide) L) (Or.inl (u_Trial_init_l11 _ List.mem_cons_self)) ⟨rfl, rfl⟩ (by decide) (by decide) (by first | exact Nat.le_of_ble_eq_true rfl | (simp only [zk_room, zz_nf, List.length_append, List.length_cons, List.length_nil]; omega) | omega) (by first | (simp only [List.length_append, List.length_cons, List.length_nil, zk_flen, kT_Scout, kB_Scout, kL_Scout]; omega) | simp only [List.length_append, List.length_cons, List.length_nil, zk_flen, kT_Scout, kB_Scout, kL_Scout]) (fun _ _ => rfl) (by first | exact Nat.le_of_ble_eq_true rfl | (simp only [zk_room, zz_nf, List.length_append, List.length_cons, List.length_nil]; omega) | omega) (by first | exact Nat.le_of_ble_eq_true rfl | (simp only [zk_room, zz_nf, List.length_append, List.length_cons, List.length_nil]; omega) | omega) ?_
  refine zk_put (k := 3) (idx := 14) (v := zP 5 0 0 (X.b + L0.length + 1)) (fty := (.object "TurnQueues$Numbers")) (by decide +kernel) (by decide) (by decide) (u_Trial_init_f14 _ List.mem_cons_self) rfl rfl rfl rfl (by simp only [List.length_set, zk_fs_len]) 0 0 ?_
  refine zk_aload (k := 0) (q := (10, 0, 0, X.b + L0.length)) (by decide +kernel) rfl ?_
  refine zk_newx (t' := 4) (r := 3) (idx := 20) (by decide +kernel) (by decide) u_Trial_init_n20 (by first | (simp only [List.length_append, List.length_cons, List.length_nil, zk_flen, kT_Scout, kB_Scout, kL_Scout]; omega) | simp only [List.length_append, List.length_cons, List.length_nil, zk_flen, kT_Scout, kB_Scout, kL_Scout]) (by first | exact Nat.le_of_ble_eq_true rfl | (simp only [zk_room, zz_nf, List.length_append, List.length_cons, List.length_nil]; omega) | omega) (by first | exact Nat.le_of_ble_eq_true rfl | (simp only [zk_room, zz_nf, List.length_append, List.length_cons, List.length_nil]; omega) | omega) ?_
  refine zk_dup (by decide +kernel) ?_
  refine zk_ic (n := 0) (by decide +kernel) ?_
  refine zk_ic (n := 0) (by decide +kernel) ?_
  refine zk_callx (P' := p_Mill_init) (t' := 4) (idx := 22) (r := 3) (d := 3) (d' := 2) (mc := 6) (ms := (6 + 4 * 0 + 0)) (as := [.inl (0 : Int), .inl (0 : Int)]) (Ks' := [(4, 0, 0), (1, 0, 0), (50, 0, 0), (50, 0, 0), (50, 0, 0), (50, 0, 0), (50, 0, 0)]) (by decide +kernel) o_Mill_init rfl (fun L => t_Mill_init X 0 (by decide) 0 (by decide) L) (Or.inl (u_Trial_init_l22 _ List.mem_cons_self)) ⟨rfl, rfl⟩ (by decide) (by decide) (by first | exact Nat.le_of_ble_eq_true rfl | (simp only [zk_room, zz_nf, List.length_append, List.length_cons, List.length_nil]; omega) | omega) (by first | (simp only [List.length_append, List.length_cons, List.length_nil, zk_flen, kT_Scout, kB_Scout, kL_Scout]; omega) | simp only [List.length_append, List.length_cons, List.length_nil, zk_flen, kT_Scout, kB_Scout, kL_Scout]) (fun _ _ => rfl) (by first | exact Nat.le_of_ble_eq_true rfl | (simp only [zk_room, zz_nf, List.length_append, List.length_cons, List.length_nil]; omega) | omega) (by first | exact Nat.le_of_ble_eq_true rfl | (simp only [zk_room, zz_nf, List.length_append, List.length_cons, List.length_nil]; omega) | omega) ?_
  refine zk_put (k := 4) (idx := 25) (v := zP 4 0 0 (X.b + L0.length + 3)) (fty := (.object "TurnQueues$Mill")) (by decide +kernel) (by decide) (by decide) (u_Trial_init_f25 _ List.mem_cons_self) rfl rfl rfl rfl (by simp only [List.length_set, zk_fs_len]) 0 0 ?_
  refine zk_aload (k := 0) (q := (10, 0, 0, X.b + L0.length)) (by decide +kernel) rfl ?_
  refine zk_newx (t' := 9) (r := 10) (idx := 29) (by decide +kernel) (by decide) u_Trial_init_n29 (by first | (simp only [List.length_append, List.length_cons, List.length_nil, zk_flen, kT_Scout, kB_Scout, kL_Scout]; omega) | simp only [List.length_append, List.length_cons, List.length_nil, zk_flen, kT_Scout, kB_Scout, kL_Scout]) (by first | exact Nat.le_of_ble_eq_true rfl | (simp only [zk_room, zz_nf, List.length_append, List.length_cons, List.length_nil]; omega) | omega) (by first | exact Nat.le_of_ble_eq_true rfl | (simp only [zk_room, zz_nf, List.length_append, List.length_cons, List.length_nil]; omega) | omega) ?_
  refine zk_dup (by decide +kernel) ?_
  refine zk_callx (P' := p_State_init) (t' := 9) (idx := 31) (r := 10) (d := 3) (d' := 2) (mc := 6) (ms := 12) (as := []) (Ks' := [(9, 0, 0), (7, 0, 0), (7, 0, 0), (7, 0, 0), (7, 0, 0), (7, 0, 0), (7, 0, 0)]) (by decide +kernel) o_State_init rfl (fun L => t_State_init X L) (Or.inr (List.mem_of_getElem? (i := 5) rfl)) ⟨rfl, rfl⟩ (by decide) (by decide) (by first | exact Nat.le_of_ble_eq_true rfl | (simp only [zk_room, zz_nf, List.length_append, List.length_cons, List.length_nil]; omega) | omega) (by first | (simp only [List.length_append, List.length_cons, List.length_nil, zk_flen, kT_Scout, kB_Scout, kL_Scout]; omega) | simp only [List.length_append, List.length_cons, List.length_nil, zk_flen, kT_Scout, kB_Scout, kL_Scout]) (fun _ _ => rfl) (by first | exact Nat.le_of_ble_eq_true rfl | (simp only [zk_room, zz_nf, List.length_append, List.length_cons, List.length_nil]; omega) | omega) (by first | exact Nat.le_of_ble_eq_true rfl | (simp only [zk_room, zz_nf, List.length_append, List.length_cons, List.length_nil]; omega) | omega) ?_
  refine zk_put (k := 5) (idx := 32) (v := zP 9 0 0 (X.b + L0.length + 10)) (fty := (.object "TurnQueues$State")) (by decide +kernel) (by decide) (by decide) (u_Trial_init_f32 _ List.mem_cons_self) rfl rfl rfl rfl (by simp only [List.length_set, zk_fs_len]) 0 0 ?_
  refine zk_aload (k := 0) (q := (10, 0, 0, X.b + L0.length)) (by decide +kernel) rfl ?_
  refine zk_bi (n := 61) (by decide +kernel) (by decide +kernel) ?_
  refine zk_newqp (k := 3) (N := 61) (n := 16) (idx := 29) (53, 61, 107) 107 (X.b + L0.length + 18) 7 (by decide +kernel) (u_Trial_init_c29 _ List.mem_cons_self) (by decide) rfl (by decide) (by first | (simp only [List.length_append, List.length_cons, List.length_nil, zk_flen, kT_Scout, kB_Scout, kL_Scout]; omega) | simp only [List.length_append, List.length_cons, List.length_nil, zk_flen, kT_Scout, kB_Scout, kL_Scout]) (by first | exact Nat.le_of_ble_eq_true rfl | (simp only [zk_room, zz_nf, List.length_append, List.length_cons, List.length_nil]; omega) | omega) (by first | exact Nat.le_of_ble_eq_true rfl | (simp only [zk_room, zz_nf, List.length_append, List.length_cons, List.length_nil]; omega) | omega) ?_
  refine zk_put (k := 6) (idx := 36) (v := zP 53 61 107 (X.b + L0.length + 17)) (fty := (.array (.object "TurnQueues$State"))) (by decide +kernel) (by decide) (by decide) (u_Trial_init_f36 _ List.mem_cons_self) rfl rfl rfl rfl (by simp only [List.length_set, zk_fs_len]) 0 0 ?_
  refine zk_ic (n := 0) (by decide +kernel) ?_
  refine zk_ist (k := 1) (i := 0) (ls' := [zP 10 0 0 (X.b + L0.length), .inl 0]) (by decide +kernel) rfl (by first | exact Nat.le_of_ble_eq_true rfl | (simp only [zk_room, zz_nf, List.length_append, List.length_cons, List.length_nil]; omega) | omega) ?_
  refine zk_wid (c' := 17 + 7 * 0) (s' := 221 + 24 * 0) (by first | exact Nat.le_of_ble_eq_true rfl | (simp only [zk_room, zz_nf, List.length_append, List.length_cons, List.length_nil]; omega) | omega) (by first | exact Nat.le_of_ble_eq_true rfl | (simp only [zk_room, zz_nf, List.length_append, List.length_cons, List.length_nil]; omega) | omega) ?_
  exact lp_Trial_init X L0 rfl rfl 61 0 rfl
