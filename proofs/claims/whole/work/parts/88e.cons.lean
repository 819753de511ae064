/-! CONSTRUCTORS without loops; printed by program. -/
def p_Row_init : zz_P := (0, ⟨"TurnQueues$Row", "<init>", "()V"⟩, prog_9_method_1_code, 1, none, [])
set_option maxRecDepth 100000 in
theorem ow_Row_init : ∀ w ∈ [Cond.code p_Row_init.y p_Row_init.bytes p_Row_init.maxL none, Cond.initialized p_Row_init.y.cls, Cond.instanceMethod p_Row_init.y], w ∈ zz_tb := zz_mem_r [321, 105, 320] rfl (by decide +kernel)
theorem o_Row_init : zk_okC p_Row_init 0 := ⟨ow_Row_init _ (List.mem_of_getElem? (i := 0) rfl), ow_Row_init _ (List.mem_of_getElem? (i := 1) rfl), ow_Row_init _ (List.mem_of_getElem? (i := 2) rfl), rfl, by decide +kernel, by decide +kernel, by decide +kernel⟩
set_option maxRecDepth 100000 in
theorem u_Row_init_o : ∀ w ∈ [Cond.methodLink p_Row_init.y.cls 3 Lib.objectInit, Cond.instanceMethod Lib.objectInit, Cond.code Lib.objectInit ⟨#[0xb1]⟩ 1 none], w ∈ zz_tb := zz_mem_r [322, 120, 121] rfl (by decide +kernel)
set_option maxRecDepth 100000 in
theorem u_Row_init_f9 : ∀ w ∈ [Cond.fieldLink p_Row_init.y.cls 9 (zz_fT (100 * 7 + 0)).1 (zz_fT (100 * 7 + 0)).2.1 (zz_fT (100 * 7 + 0)).2.2.1], w ∈ zz_tb := zz_mem_r [323] rfl (by decide +kernel)
set_option maxRecDepth 100000 in
theorem t_Row_init (X : zz_X) (L0 : List va_E) : zk_T X 1 0 (0) p_Row_init 7 [] L0 (zk_m X (X.b + L0.length) [(7, 0, 0)]) := by
  refine zk_mk (by decide +kernel) rfl (Nat.le_of_ble_eq_true rfl) ?_
  show zk_G X _ p_Row_init L0 7 _ 0 _ [] (zk_fs 7) (zk_x X (X.b + L0.length + 1) zk_no []) 0 0
  refine zk_aload (k := 0) (q := (7, 0, 0, X.b + L0.length)) (by decide +kernel) rfl ?_
  refine zk_obj (idx := 3) (q := (7, 0, 0, X.b + L0.length)) (by decide +kernel) u_Row_init_o (by first | exact Nat.le_of_ble_eq_true rfl | (simp only [zk_room, zz_nf, List.length_append, List.length_cons, List.length_nil]; omega) | omega) (by first | exact Nat.le_of_ble_eq_true rfl | (simp only [zk_room, zz_nf, List.length_append, List.length_cons, List.length_nil]; omega) | omega) ?_
  refine zk_aload (k := 0) (q := (7, 0, 0, X.b + L0.length)) (by decide +kernel) rfl ?_
  refine zk_ic (n := -1) (by decide +kernel) ?_
  refine zk_put (k := 0) (idx := 9) (v := .inl (-1)) (fty := .int) (by decide +kernel) (by decide) (by decide) (u_Row_init_f9 _ List.mem_cons_self) rfl rfl rfl rfl (by simp only [List.length_set, zk_fs_len]) 0 0 ?_
  exact zk_retx (K := (7, 0, 0)) (by decide +kernel) (by decide) rfl rfl (by first | exact Nat.le_of_ble_eq_true rfl | (simp only [zk_room, zz_nf, List.length_append, List.length_cons, List.length_nil]; omega) | omega) (by first | exact Nat.le_of_ble_eq_true rfl | (simp only [zk_room, zz_nf, List.length_append, List.length_cons, List.length_nil]; omega) | omega)
def p_Bytes_init : zz_P := (0, ⟨"TurnQueues$Bytes", "<init>", "(I)V"⟩, prog_2_method_1_code, 2, none, [])
set_option maxRecDepth 100000 in
theorem ow_Bytes_init : ∀ w ∈ [Cond.code p_Bytes_init.y p_Bytes_init.bytes p_Bytes_init.maxL none, Cond.initialized p_Bytes_init.y.cls, Cond.instanceMethod p_Bytes_init.y], w ∈ zz_tb := zz_mem_r [126, 97, 125] rfl (by decide +kernel)
theorem o_Bytes_init : zk_okC p_Bytes_init 1 := ⟨ow_Bytes_init _ (List.mem_of_getElem? (i := 0) rfl), ow_Bytes_init _ (List.mem_of_getElem? (i := 1) rfl), ow_Bytes_init _ (List.mem_of_getElem? (i := 2) rfl), rfl, by decide +kernel, by decide +kernel, by decide +kernel⟩
set_option maxRecDepth 100000 in
theorem u_Bytes_init_o : ∀ w ∈ [Cond.methodLink p_Bytes_init.y.cls 3 Lib.objectInit, Cond.instanceMethod Lib.objectInit, Cond.code Lib.objectInit ⟨#[0xb1]⟩ 1 none], w ∈ zz_tb := zz_mem_r [127, 120, 121] rfl (by decide +kernel)
set_option maxRecDepth 100000 in
theorem u_Bytes_init_m9 : ∀ w ∈ [Cond.methodLink p_Bytes_init.y.cls 9 Lib.Math.max.name], w ∈ zz_tb := zz_mem_r [128] rfl (by decide +kernel)
set_option maxRecDepth 100000 in
theorem u_Bytes_init_a1 : ∀ w ∈ [Cond.arrayClass .byte], w ∈ zz_tb := zz_mem_r [142] rfl (by decide +kernel)
set_option maxRecDepth 100000 in
theorem u_Bytes_init_f15 : ∀ w ∈ [Cond.fieldLink p_Bytes_init.y.cls 15 (zz_fT (100 * 0 + 1)).1 (zz_fT (100 * 0 + 1)).2.1 (zz_fT (100 * 0 + 1)).2.2.1], w ∈ zz_tb := zz_mem_r [136] rfl (by decide +kernel)
set_option maxRecDepth 100000 in
theorem t_Bytes_init (X : zz_X) (N : Nat) (hN : N < 100000) (L0 : List va_E) : zk_T X 1 1 (N) p_Bytes_init 0 [.inl (N : Int)] L0 (zk_m X (X.b + L0.length) [(0, N, 0), (51, N, 0)]) := by
  refine zk_mk (by decide +kernel) rfl (Nat.le_of_ble_eq_true rfl) ?_
  show zk_G X _ p_Bytes_init L0 0 _ 0 _ [] (zk_fs 0) (zk_x X (X.b + L0.length + 1) zk_no []) 0 0
  refine zk_aload (k := 0) (q := (0, 0, 0, X.b + L0.length)) (by decide +kernel) rfl ?_
  refine zk_obj (idx := 3) (q := (0, 0, 0, X.b + L0.length)) (by decide +kernel) u_Bytes_init_o (by first | exact Nat.le_of_ble_eq_true rfl | (simp only [zk_room, zz_nf, List.length_append, List.length_cons, List.length_nil]; omega) | omega) (by first | exact Nat.le_of_ble_eq_true rfl | (simp only [zk_room, zz_nf, List.length_append, List.length_cons, List.length_nil]; omega) | omega) ?_
  refine zk_aload (k := 0) (q := (0, 0, 0, X.b + L0.length)) (by decide +kernel) rfl ?_
  refine zk_iload (k := 1) (i := N) (by decide +kernel) rfl ?_
  refine zk_ic (n := 0) (by decide +kernel) ?_
  refine zk_max0 (N := N) (idx := 9) (by decide +kernel) (u_Bytes_init_m9 _ List.mem_cons_self) hN (by first | exact Nat.le_of_ble_eq_true rfl | (simp only [zk_room, zz_nf, List.length_append, List.length_cons, List.length_nil]; omega) | omega) (by first | exact Nat.le_of_ble_eq_true rfl | (simp only [zk_room, zz_nf, List.length_append, List.length_cons, List.length_nil]; omega) | omega) (by first | exact Nat.le_of_ble_eq_true rfl | (simp only [zk_room, zz_nf, List.length_append, List.length_cons, List.length_nil]; omega) | omega) (by first | exact Nat.le_of_ble_eq_true rfl | (simp only [zk_room, zz_nf, List.length_append, List.length_cons, List.length_nil]; omega) | omega) ?_
  refine zk_newax (aty := .byte) (k := 1) (N := N) (r := 1) (by decide +kernel) (u_Bytes_init_a1 _ List.mem_cons_self) (by decide) rfl rfl (fun C h => by cases h) (by decide) hN (by first | rfl | (simp only [List.length_append, List.length_cons, List.length_nil]; omega)) (fun _ _ => rfl) (by first | exact Nat.le_of_ble_eq_true rfl | (simp only [zk_room, zz_nf, List.length_append, List.length_cons, List.length_nil]; omega) | omega) (by first | exact Nat.le_of_ble_eq_true rfl | (simp only [zk_room, zz_nf, List.length_append, List.length_cons, List.length_nil]; omega) | omega) ?_
  refine zk_put (k := 1) (idx := 15) (v := zP 51 N 0 (X.b + L0.length + 1)) (fty := (.array .byte)) (by decide +kernel) (by decide) (by decide) (u_Bytes_init_f15 _ List.mem_cons_self) rfl rfl rfl rfl (by simp only [List.length_set, zk_fs_len]) 0 0 ?_
  exact zk_retx (K := (0, N, 0)) (by decide +kernel) (by decide) rfl rfl (by first | exact Nat.le_of_ble_eq_true rfl | (simp only [zk_room, zz_nf, List.length_append, List.length_cons, List.length_nil]; omega) | omega) (by first | exact Nat.le_of_ble_eq_true rfl | (simp only [zk_room, zz_nf, List.length_append, List.length_cons, List.length_nil]; omega) | omega)
def p_Numbers_init : zz_P := (0, ⟨"TurnQueues$Numbers", "<init>", "(I)V"⟩, prog_7_method_1_code, 2, none, [])
set_option maxRecDepth 100000 in
theorem ow_Numbers_init : ∀ w ∈ [Cond.code p_Numbers_init.y p_Numbers_init.bytes p_Numbers_init.maxL none, Cond.initialized p_Numbers_init.y.cls, Cond.instanceMethod p_Numbers_init.y], w ∈ zz_tb := zz_mem_r [414, 106, 413] rfl (by decide +kernel)
theorem o_Numbers_init : zk_okC p_Numbers_init 1 := ⟨ow_Numbers_init _ (List.mem_of_getElem? (i := 0) rfl), ow_Numbers_init _ (List.mem_of_getElem? (i := 1) rfl), ow_Numbers_init _ (List.mem_of_getElem? (i := 2) rfl), rfl, by decide +kernel, by decide +kernel, by decide +kernel⟩
set_option maxRecDepth 100000 in
theorem u_Numbers_init_o : ∀ w ∈ [Cond.methodLink p_Numbers_init.y.cls 3 Lib.objectInit, Cond.instanceMethod Lib.objectInit, Cond.code Lib.objectInit ⟨#[0xb1]⟩ 1 none], w ∈ zz_tb := zz_mem_r [415, 120, 121] rfl (by decide +kernel)
set_option maxRecDepth 100000 in
theorem u_Numbers_init_m9 : ∀ w ∈ [Cond.methodLink p_Numbers_init.y.cls 9 Lib.Math.max.name], w ∈ zz_tb := zz_mem_r [416] rfl (by decide +kernel)
set_option maxRecDepth 100000 in
theorem u_Numbers_init_a0 : ∀ w ∈ [Cond.arrayClass .int], w ∈ zz_tb := zz_mem_r [206] rfl (by decide +kernel)
set_option maxRecDepth 100000 in
theorem u_Numbers_init_f15 : ∀ w ∈ [Cond.fieldLink p_Numbers_init.y.cls 15 (zz_fT (100 * 5 + 1)).1 (zz_fT (100 * 5 + 1)).2.1 (zz_fT (100 * 5 + 1)).2.2.1], w ∈ zz_tb := zz_mem_r [420] rfl (by decide +kernel)
set_option maxRecDepth 100000 in
theorem t_Numbers_init (X : zz_X) (N : Nat) (hN : N < 100000) (L0 : List va_E) : zk_T X 1 1 (N) p_Numbers_init 5 [.inl (N : Int)] L0 (zk_m X (X.b + L0.length) [(5, N, 0), (50, N, 0)]) := by
  refine zk_mk (by decide +kernel) rfl (Nat.le_of_ble_eq_true rfl) ?_
  show zk_G X _ p_Numbers_init L0 5 _ 0 _ [] (zk_fs 5) (zk_x X (X.b + L0.length + 1) zk_no []) 0 0
  refine zk_aload (k := 0) (q := (5, 0, 0, X.b + L0.length)) (by decide +kernel) rfl ?_
  refine zk_obj (idx := 3) (q := (5, 0, 0, X.b + L0.length)) (by decide +kernel) u_Numbers_init_o (by first | exact Nat.le_of_ble_eq_true rfl | (simp only [zk_room, zz_nf, List.length_append, List.length_cons, List.length_nil]; omega) | omega) (by first | exact Nat.le_of_ble_eq_true rfl | (simp only [zk_room, zz_nf, List.length_append, List.length_cons, List.length_nil]; omega) | omega) ?_
  refine zk_aload (k := 0) (q := (5, 0, 0, X.b + L0.length)) (by decide +kernel) rfl ?_
  refine zk_iload (k := 1) (i := N) (by decide +kernel) rfl ?_
  refine zk_ic (n := 0) (by decide +kernel) ?_
  refine zk_max0 (N := N) (idx := 9) (by decide +kernel) (u_Numbers_init_m9 _ List.mem_cons_self) hN (by first | exact Nat.le_of_ble_eq_true rfl | (simp only [zk_room, zz_nf, List.length_append, List.length_cons, List.length_nil]; omega) | omega) (by first | exact Nat.le_of_ble_eq_true rfl | (simp only [zk_room, zz_nf, List.length_append, List.length_cons, List.length_nil]; omega) | omega) (by first | exact Nat.le_of_ble_eq_true rfl | (simp only [zk_room, zz_nf, List.length_append, List.length_cons, List.length_nil]; omega) | omega) (by first | exact Nat.le_of_ble_eq_true rfl | (simp only [zk_room, zz_nf, List.length_append, List.length_cons, List.length_nil]; omega) | omega) ?_
  refine zk_newax (aty := .int) (k := 0) (N := N) (r := 1) (by decide +kernel) (u_Numbers_init_a0 _ List.mem_cons_self) (by decide) rfl rfl (fun C h => by cases h) (by decide) hN (by first | rfl | (simp only [List.length_append, List.length_cons, List.length_nil]; omega)) (fun _ _ => rfl) (by first | exact Nat.le_of_ble_eq_true rfl | (simp only [zk_room, zz_nf, List.length_append, List.length_cons, List.length_nil]; omega) | omega) (by first | exact Nat.le_of_ble_eq_true rfl | (simp only [zk_room, zz_nf, List.length_append, List.length_cons, List.length_nil]; omega) | omega) ?_
  refine zk_put (k := 1) (idx := 15) (v := zP 50 N 0 (X.b + L0.length + 1)) (fty := (.array .int)) (by decide +kernel) (by decide) (by decide) (u_Numbers_init_f15 _ List.mem_cons_self) rfl rfl rfl rfl (by simp only [List.length_set, zk_fs_len]) 0 0 ?_
  exact zk_retx (K := (5, N, 0)) (by decide +kernel) (by decide) rfl rfl (by first | exact Nat.le_of_ble_eq_true rfl | (simp only [zk_room, zz_nf, List.length_append, List.length_cons, List.length_nil]; omega) | omega) (by first | exact Nat.le_of_ble_eq_true rfl | (simp only [zk_room, zz_nf, List.length_append, List.length_cons, List.length_nil]; omega) | omega)
def p_Deeds_init : zz_P := (0, ⟨"TurnQueues$Deeds", "<init>", "()V"⟩, prog_4_method_1_code, 1, none, [])
set_option maxRecDepth 100000 in
theorem ow_Deeds_init : ∀ w ∈ [Cond.code p_Deeds_init.y p_Deeds_init.bytes p_Deeds_init.maxL none, Cond.initialized p_Deeds_init.y.cls, Cond.instanceMethod p_Deeds_init.y], w ∈ zz_tb := zz_mem_r [153, 100, 152] rfl (by decide +kernel)
theorem o_Deeds_init : zk_okC p_Deeds_init 0 := ⟨ow_Deeds_init _ (List.mem_of_getElem? (i := 0) rfl), ow_Deeds_init _ (List.mem_of_getElem? (i := 1) rfl), ow_Deeds_init _ (List.mem_of_getElem? (i := 2) rfl), rfl, by decide +kernel, by decide +kernel, by decide +kernel⟩
set_option maxRecDepth 100000 in
theorem u_Deeds_init_o : ∀ w ∈ [Cond.methodLink p_Deeds_init.y.cls 3 Lib.objectInit, Cond.instanceMethod Lib.objectInit, Cond.code Lib.objectInit ⟨#[0xb1]⟩ 1 none], w ∈ zz_tb := zz_mem_r [154, 120, 121] rfl (by decide +kernel)
set_option maxRecDepth 100000 in
theorem u_Deeds_init_a0 : ∀ w ∈ [Cond.arrayClass .int], w ∈ zz_tb := zz_mem_r [206] rfl (by decide +kernel)
set_option maxRecDepth 100000 in
theorem u_Deeds_init_f9 : ∀ w ∈ [Cond.fieldLink p_Deeds_init.y.cls 9 (zz_fT (100 * 2 + 5)).1 (zz_fT (100 * 2 + 5)).2.1 (zz_fT (100 * 2 + 5)).2.2.1], w ∈ zz_tb := zz_mem_r [177] rfl (by decide +kernel)
set_option maxRecDepth 100000 in
theorem u_Deeds_init_f15 : ∀ w ∈ [Cond.fieldLink p_Deeds_init.y.cls 15 (zz_fT (100 * 2 + 6)).1 (zz_fT (100 * 2 + 6)).2.1 (zz_fT (100 * 2 + 6)).2.2.1], w ∈ zz_tb := zz_mem_r [181] rfl (by decide +kernel)
set_option maxRecDepth 100000 in
theorem u_Deeds_init_f18 : ∀ w ∈ [Cond.fieldLink p_Deeds_init.y.cls 18 (zz_fT (100 * 2 + 7)).1 (zz_fT (100 * 2 + 7)).2.1 (zz_fT (100 * 2 + 7)).2.2.1], w ∈ zz_tb := zz_mem_r [185] rfl (by decide +kernel)
set_option maxRecDepth 100000 in
theorem t_Deeds_init (X : zz_X) (L0 : List va_E) : zk_T X 1 3 (180) p_Deeds_init 2 [] L0 (zk_m X (X.b + L0.length) [(2, 0, 0), (50, 60, 0), (50, 60, 0), (50, 60, 0)]) := by
  refine zk_mk (by decide +kernel) rfl (Nat.le_of_ble_eq_true rfl) ?_
  show zk_G X _ p_Deeds_init L0 2 _ 0 _ [] (zk_fs 2) (zk_x X (X.b + L0.length + 1) zk_no []) 0 0
  refine zk_aload (k := 0) (q := (2, 0, 0, X.b + L0.length)) (by decide +kernel) rfl ?_
  refine zk_obj (idx := 3) (q := (2, 0, 0, X.b + L0.length)) (by decide +kernel) u_Deeds_init_o (by first | exact Nat.le_of_ble_eq_true rfl | (simp only [zk_room, zz_nf, List.length_append, List.length_cons, List.length_nil]; omega) | omega) (by first | exact Nat.le_of_ble_eq_true rfl | (simp only [zk_room, zz_nf, List.length_append, List.length_cons, List.length_nil]; omega) | omega) ?_
  refine zk_aload (k := 0) (q := (2, 0, 0, X.b + L0.length)) (by decide +kernel) rfl ?_
  refine zk_bi (n := 60) (by decide +kernel) (by decide +kernel) ?_
  refine zk_newax (aty := .int) (k := 0) (N := 60) (r := 1) (by decide +kernel) (u_Deeds_init_a0 _ List.mem_cons_self) (by decide) rfl rfl (fun C h => by cases h) (by decide) (by decide) (by first | rfl | (simp only [List.length_append, List.length_cons, List.length_nil]; omega)) (fun _ _ => rfl) (by first | exact Nat.le_of_ble_eq_true rfl | (simp only [zk_room, zz_nf, List.length_append, List.length_cons, List.length_nil]; omega) | omega) (by first | exact Nat.le_of_ble_eq_true rfl | (simp only [zk_room, zz_nf, List.length_append, List.length_cons, List.length_nil]; omega) | omega) ?_
  refine zk_put (k := 5) (idx := 9) (v := zP 50 60 0 (X.b + L0.length + 1)) (fty := (.array .int)) (by decide +kernel) (by decide) (by decide) (u_Deeds_init_f9 _ List.mem_cons_self) rfl rfl rfl rfl (by simp only [List.length_set, zk_fs_len]) 0 0 ?_
  refine zk_aload (k := 0) (q := (2, 0, 0, X.b + L0.length)) (by decide +kernel) rfl ?_
  refine zk_bi (n := 60) (by decide +kernel) (by decide +kernel) ?_
  refine zk_newax (aty := .int) (k := 0) (N := 60) (r := 2) (by decide +kernel) (u_Deeds_init_a0 _ List.mem_cons_self) (by decide) rfl rfl (fun C h => by cases h) (by decide) (by decide) (by first | rfl | (simp only [List.length_append, List.length_cons, List.length_nil]; omega)) (fun _ _ => rfl) (by first | exact Nat.le_of_ble_eq_true rfl | (simp only [zk_room, zz_nf, List.length_append, List.length_cons, List.length_nil]; omega) | omega) (by first | exact Nat.le_of_ble_eq_true rfl | (simp only [zk_room, zz_nf, List.length_append, List.length_cons, List.length_nil]; omega) | omega) ?_
  refine zk_put (k := 6) (idx := 15) (v := zP 50 60 0 (X.b + L0.length + 2)) (fty := (.array .int)) (by decide +kernel) (by decide) (by decide) (u_Deeds_init_f15 _ List.mem_cons_self) rfl rfl rfl rfl (by simp only [List.length_set, zk_fs_len]) 0 0 ?_
  refine zk_aload (k := 0) (q := (2, 0, 0, X.b + L0.length)) (by decide +kernel) rfl ?_
  refine zk_bi (n := 60) (by decide +kernel) (by decide +kernel) ?_
  refine zk_newax (aty := .int) (k := 0) (N := 60) (r := 3) (by decide +kernel) (u_Deeds_init_a0 _ List.mem_cons_self) (by decide) rfl rfl (fun C h => by cases h) (by decide) (by decide) (by first | rfl | (simp only [List.length_append, List.length_cons, List.length_nil]; omega)) (fun _ _ => rfl) (by first | exact Nat.le_of_ble_eq_true rfl | (simp only [zk_room, zz_nf, List.length_append, List.length_cons, List.length_nil]; omega) | omega) (by first | exact Nat.le_of_ble_eq_true rfl | (simp only [zk_room, zz_nf, List.length_append, List.length_cons, List.length_nil]; omega) | omega) ?_
  refine zk_put (k := 7) (idx := 18) (v := zP 50 60 0 (X.b + L0.length + 3)) (fty := (.array .int)) (by decide +kernel) (by decide) (by decide) (u_Deeds_init_f18 _ List.mem_cons_self) rfl rfl rfl rfl (by simp only [List.length_set, zk_fs_len]) 0 0 ?_
  exact zk_retx (K := (2, 0, 0)) (by decide +kernel) (by decide) rfl rfl (by first | exact Nat.le_of_ble_eq_true rfl | (simp only [zk_room, zz_nf, List.length_append, List.length_cons, List.length_nil]; omega) | omega) (by first | exact Nat.le_of_ble_eq_true rfl | (simp only [zk_room, zz_nf, List.length_append, List.length_cons, List.length_nil]; omega) | omega)
