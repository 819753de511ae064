/-! the code of the methods, printed by program -/
def q_Row_become : List zz_C := [(0, .aload_n 0, 1, []), (1, .aload_n 1, 1, []), (2, .getfield 9, 3, [700]), (5, .putfield 9, 3, [700]), (8, .aload_n 0, 1, []), (9, .aload_n 1, 1, []), (10, .getfield 15, 3, [701]), (13, .putfield 15, 3, [701]), (16, .return_, 1, [])]
def p_Row_become : zz_P := (97, ⟨"TurnQueues$Row", "become", "(LTurnQueues$Row;)V"⟩, prog_9_method_2_code, 2, none, q_Row_become)
set_option maxRecDepth 100000 in
theorem k_Row_become : zz_okP p_Row_become := ⟨by decide +kernel, zz_mem_r [323, 323, 327, 327] rfl (by decide +kernel)⟩
set_option maxRecDepth 100000 in
theorem o_Row_become : zz_okC p_Row_become false 7 2 := zz_okV (zz_mem_r (ws := [Cond.code p_Row_become.y p_Row_become.bytes p_Row_become.maxL p_Row_become.ret, Cond.initialized p_Row_become.y.cls, Cond.instanceMethod p_Row_become.y, Cond.selects p_Row_become.y.cls p_Row_become.y p_Row_become.y]) [785, 105, 783, 784] rfl (by decide +kernel)) rfl rfl (by decide +kernel) (by decide +kernel) rfl (by decide +kernel) rfl
def q_Row_clear : List zz_C := [(0, .aload_n 0, 1, []), (1, .iconst (-1), 1, []), (2, .putfield 9, 3, [700]), (5, .aload_n 0, 1, []), (6, .iconst 0, 1, []), (7, .putfield 15, 3, [701]), (10, .return_, 1, [])]
def p_Row_clear : zz_P := (98, ⟨"TurnQueues$Row", "clear", "()V"⟩, prog_9_method_3_code, 1, none, q_Row_clear)
set_option maxRecDepth 100000 in
theorem k_Row_clear : zz_okP p_Row_clear := ⟨by decide +kernel, zz_mem_r [323, 327] rfl (by decide +kernel)⟩
set_option maxRecDepth 100000 in
theorem o_Row_clear : zz_okC p_Row_clear false 7 1 := zz_okV (zz_mem_r (ws := [Cond.code p_Row_clear.y p_Row_clear.bytes p_Row_clear.maxL p_Row_clear.ret, Cond.initialized p_Row_clear.y.cls, Cond.instanceMethod p_Row_clear.y, Cond.selects p_Row_clear.y.cls p_Row_clear.y p_Row_clear.y]) [834, 105, 832, 833] rfl (by decide +kernel)) rfl rfl (by decide +kernel) (by decide +kernel) rfl (by decide +kernel) rfl
