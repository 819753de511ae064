/-! MEMBERS OF THE JDK: length, charAt of the texts; max, min, abs. -/
def zz_Q0 (v : Option Value) : Array Value → State → Outcome → State → Prop := fun _ st o t => o = .returned v ∧ t.heap = st.heap
def zz_no : Nat → Prop := fun _ => False
section ZJ
variable {p : Program} {l : Launch} {e : Env} {R : Room} {s : State} {m : MethodId} {args : Array Value} {below : List Frame} {meth : Method} {c : Code} {H : Heap} {locs : List Loc} {cells slots : Nat} {Q : State → Prop}
theorem zz_pcall {pc : Nat} {lm : Array Slot} {st0 rest : List Value} {v : Option Value} {a : Array Value} (hr : va_Run p l e R s m args below meth c H locs cells slots 0 0 (F0 m pc lm st0) rest (zz_Q0 v a) zz_no) (kk : W p l e R s m args below meth c H locs cells slots Q (F0 m (pc + 3) lm (v.toList ++ rest))) : W p l e R s m args below meth c H locs cells slots Q (F0 m pc lm st0) := by
  intro T hT X0
  obtain ⟨v', st₀, t, T', L, h0, X', hL, e1, e2, ⟨hv, hh⟩, st⟩ := hr T hT X0
  have hv : v' = v := by injection hv
  subst hv
  have hL0 : L = [] := by
    cases L with
    | nil => rfl
    | cons q r => exact (hL q List.mem_cons_self).elim
  subst hL0
  rw [List.append_nil] at X'
  obtain ⟨t2, a1, b1⟩ := kk T' (by rw [e1, hh, h0]) X'
  exact ⟨t2, st t2 a1, b1⟩
end ZJ
def zz_P0 (X : zz_X) (as : List Value) : Array Value → State → Prop := fun v U => v = as.toArray ∧ zz_E X U U.heap
theorem zz_P0_blind {X : zz_X} {as : List Value} : FrameBlind (zz_P0 X as) := fun a U g mk h => ⟨h.1, zz_E.same (u := U) (U := U.calling g mk a) rfl h.2⟩
theorem zz_P0_pre {X : zz_X} {s U : State} {H : Heap} {locs : List Loc} {as : List Value} (hE : zz_E X s s.heap) (hS : va_S (zz_A X) s.heap H locs) (hU : U.heap = H) (hW : s.WarmedH U.vm) : zz_P0 X as as.toArray U := by
  refine ⟨rfl, ?_⟩
  rw [hU]
  exact zz_E.warm hW (zz_E.kept hE hS.1 hS.2.1)
def zy_coder : MethodName := ⟨"java/lang/String", "coder", "()B"⟩
theorem zd_coder_0 : decode prog_16_method_152_code 0 = .ok (.getstatic 38, 3) := by decide +kernel
theorem zd_coder_3 : decode prog_16_method_152_code 3 = .ok (.ifCond .eq 10, 3) := by decide +kernel
theorem zd_coder_6 : decode prog_16_method_152_code 6 = .ok (.aload_n 0, 1) := by decide +kernel
theorem zd_coder_7 : decode prog_16_method_152_code 7 = .ok (.getfield 15, 3) := by decide +kernel
theorem zd_coder_10 : decode prog_16_method_152_code 10 = .ok (.goto 4, 3) := by decide +kernel
theorem zd_coder_14 : decode prog_16_method_152_code 14 = .ok (.ireturn, 1) := by decide +kernel
def zy_len : MethodName := ⟨"java/lang/String", "length", "()I"⟩
theorem zd_len_0 : decode prog_16_method_54_code 0 = .ok (.aload_n 0, 1) := by decide +kernel
theorem zd_len_1 : decode prog_16_method_54_code 1 = .ok (.getfield 9, 3) := by decide +kernel
theorem zd_len_4 : decode prog_16_method_54_code 4 = .ok (.arraylength, 1) := by decide +kernel
theorem zd_len_5 : decode prog_16_method_54_code 5 = .ok (.aload_n 0, 1) := by decide +kernel
theorem zd_len_6 : decode prog_16_method_54_code 6 = .ok (.invokevirtual 335, 3) := by decide +kernel
theorem zd_len_9 : decode prog_16_method_54_code 9 = .ok (.ishr, 1) := by decide +kernel
theorem zd_len_10 : decode prog_16_method_54_code 10 = .ok (.ireturn, 1) := by decide +kernel
def zy_lat : MethodName := ⟨"java/lang/String", "isLatin1", "()Z"⟩
theorem zd_lat_0 : decode prog_16_method_154_code 0 = .ok (.getstatic 38, 3) := by decide +kernel
theorem zd_lat_3 : decode prog_16_method_154_code 3 = .ok (.ifCond .eq 14, 3) := by decide +kernel
theorem zd_lat_6 : decode prog_16_method_154_code 6 = .ok (.aload_n 0, 1) := by decide +kernel
theorem zd_lat_7 : decode prog_16_method_154_code 7 = .ok (.getfield 15, 3) := by decide +kernel
theorem zd_lat_10 : decode prog_16_method_154_code 10 = .ok (.ifCond .ne 7, 3) := by decide +kernel
theorem zd_lat_13 : decode prog_16_method_154_code 13 = .ok (.iconst 1, 1) := by decide +kernel
theorem zd_lat_14 : decode prog_16_method_154_code 14 = .ok (.goto 4, 3) := by decide +kernel
theorem zd_lat_18 : decode prog_16_method_154_code 18 = .ok (.ireturn, 1) := by decide +kernel
def zy_chk : MethodName := ⟨"jdk/internal/util/Preconditions", "checkIndex", "(IILjava/util/function/BiFunction;)I"⟩
theorem zd_chk_0 : decode prog_19_method_11_code 0 = .ok (.iload_n 0, 1) := by decide +kernel
theorem zd_chk_1 : decode prog_19_method_11_code 1 = .ok (.ifCond .lt 8, 3) := by decide +kernel
theorem zd_chk_4 : decode prog_19_method_11_code 4 = .ok (.iload_n 0, 1) := by decide +kernel
theorem zd_chk_5 : decode prog_19_method_11_code 5 = .ok (.iload_n 1, 1) := by decide +kernel
theorem zd_chk_6 : decode prog_19_method_11_code 6 = .ok (.if_icmp .lt 10, 3) := by decide +kernel
theorem zd_chk_16 : decode prog_19_method_11_code 16 = .ok (.iload_n 0, 1) := by decide +kernel
theorem zd_chk_17 : decode prog_19_method_11_code 17 = .ok (.ireturn, 1) := by decide +kernel
def zy_sck : MethodName := ⟨"java/lang/String", "checkIndex", "(II)V"⟩
theorem zd_sck_0 : decode prog_16_method_155_code 0 = .ok (.iload_n 0, 1) := by decide +kernel
theorem zd_sck_1 : decode prog_16_method_155_code 1 = .ok (.iload_n 1, 1) := by decide +kernel
theorem zd_sck_2 : decode prog_16_method_155_code 2 = .ok (.getstatic 1053, 3) := by decide +kernel
theorem zd_sck_5 : decode prog_16_method_155_code 5 = .ok (.invokestatic 1059, 3) := by decide +kernel
theorem zd_sck_8 : decode prog_16_method_155_code 8 = .ok (.pop, 1) := by decide +kernel
theorem zd_sck_9 : decode prog_16_method_155_code 9 = .ok (.return_, 1) := by decide +kernel
def zy_lch : MethodName := ⟨"java/lang/StringLatin1", "charAt", "([BI)C"⟩
theorem zd_lch_0 : decode prog_17_method_2_code 0 = .ok (.iload_n 1, 1) := by decide +kernel
theorem zd_lch_1 : decode prog_17_method_2_code 1 = .ok (.aload_n 0, 1) := by decide +kernel
theorem zd_lch_2 : decode prog_17_method_2_code 2 = .ok (.arraylength, 1) := by decide +kernel
theorem zd_lch_3 : decode prog_17_method_2_code 3 = .ok (.invokestatic 9, 3) := by decide +kernel
theorem zd_lch_6 : decode prog_17_method_2_code 6 = .ok (.aload_n 0, 1) := by decide +kernel
theorem zd_lch_7 : decode prog_17_method_2_code 7 = .ok (.iload_n 1, 1) := by decide +kernel
theorem zd_lch_8 : decode prog_17_method_2_code 8 = .ok (.baload, 1) := by decide +kernel
theorem zd_lch_9 : decode prog_17_method_2_code 9 = .ok (.sipush 255, 3) := by decide +kernel
theorem zd_lch_12 : decode prog_17_method_2_code 12 = .ok (.iand, 1) := by decide +kernel
theorem zd_lch_13 : decode prog_17_method_2_code 13 = .ok (.i2c, 1) := by decide +kernel
theorem zd_lch_14 : decode prog_17_method_2_code 14 = .ok (.ireturn, 1) := by decide +kernel
def zy_chr : MethodName := ⟨"java/lang/String", "charAt", "(I)C"⟩
theorem zd_chr_0 : decode prog_16_method_56_code 0 = .ok (.aload_n 0, 1) := by decide +kernel
theorem zd_chr_1 : decode prog_16_method_56_code 1 = .ok (.invokevirtual 492, 3) := by decide +kernel
theorem zd_chr_4 : decode prog_16_method_56_code 4 = .ok (.ifCond .eq 12, 3) := by decide +kernel
theorem zd_chr_7 : decode prog_16_method_56_code 7 = .ok (.aload_n 0, 1) := by decide +kernel
theorem zd_chr_8 : decode prog_16_method_56_code 8 = .ok (.getfield 9, 3) := by decide +kernel
theorem zd_chr_11 : decode prog_16_method_56_code 11 = .ok (.iload_n 1, 1) := by decide +kernel
theorem zd_chr_12 : decode prog_16_method_56_code 12 = .ok (.invokestatic 495, 3) := by decide +kernel
theorem zd_chr_15 : decode prog_16_method_56_code 15 = .ok (.ireturn, 1) := by decide +kernel
set_option maxRecDepth 100000 in
theorem zv_c_coder : Cond.code zy_coder prog_16_method_152_code 1 (some .byte) ∈ zz_tb := zz_mem_r (ws := [Cond.code zy_coder prog_16_method_152_code 1 (some .byte)]) [643] rfl (by decide +kernel) _ List.mem_cons_self
set_option maxRecDepth 100000 in
theorem zv_c_len : Cond.code zy_len prog_16_method_54_code 1 (some .int) ∈ zz_tb := zz_mem_r (ws := [Cond.code zy_len prog_16_method_54_code 1 (some .int)]) [639] rfl (by decide +kernel) _ List.mem_cons_self
set_option maxRecDepth 100000 in
theorem zv_c_lat : Cond.code zy_lat prog_16_method_154_code 1 (some .boolean) ∈ zz_tb := zz_mem_r (ws := [Cond.code zy_lat prog_16_method_154_code 1 (some .boolean)]) [653] rfl (by decide +kernel) _ List.mem_cons_self
set_option maxRecDepth 100000 in
theorem zv_c_chk : Cond.code zy_chk prog_19_method_11_code 3 (some .int) ∈ zz_tb := zz_mem_r (ws := [Cond.code zy_chk prog_19_method_11_code 3 (some .int)]) [664] rfl (by decide +kernel) _ List.mem_cons_self
set_option maxRecDepth 100000 in
theorem zv_c_sck : Cond.code zy_sck prog_16_method_155_code 2 none ∈ zz_tb := zz_mem_r (ws := [Cond.code zy_sck prog_16_method_155_code 2 none]) [659] rfl (by decide +kernel) _ List.mem_cons_self
set_option maxRecDepth 100000 in
theorem zv_c_lch : Cond.code zy_lch prog_17_method_2_code 2 (some .char) ∈ zz_tb := zz_mem_r (ws := [Cond.code zy_lch prog_17_method_2_code 2 (some .char)]) [656] rfl (by decide +kernel) _ List.mem_cons_self
set_option maxRecDepth 100000 in
theorem zv_c_chr : Cond.code zy_chr prog_16_method_56_code 2 (some .char) ∈ zz_tb := zz_mem_r (ws := [Cond.code zy_chr prog_16_method_56_code 2 (some .char)]) [649] rfl (by decide +kernel) _ List.mem_cons_self
set_option maxRecDepth 100000 in
theorem zv_i_str : Cond.initialized "java/lang/String" ∈ zz_tb := zz_mem_r (ws := [Cond.initialized "java/lang/String"]) [110] rfl (by decide +kernel) _ List.mem_cons_self
set_option maxRecDepth 100000 in
theorem zv_i_lat : Cond.initialized "java/lang/StringLatin1" ∈ zz_tb := zz_mem_r (ws := [Cond.initialized "java/lang/StringLatin1"]) [111] rfl (by decide +kernel) _ List.mem_cons_self
set_option maxRecDepth 100000 in
theorem zv_i_pre : Cond.initialized "jdk/internal/util/Preconditions" ∈ zz_tb := zz_mem_r (ws := [Cond.initialized "jdk/internal/util/Preconditions"]) [112] rfl (by decide +kernel) _ List.mem_cons_self
set_option maxRecDepth 100000 in
theorem zv_i_mat : Cond.initialized "java/lang/Math" ∈ zz_tb := zz_mem_r (ws := [Cond.initialized "java/lang/Math"]) [98] rfl (by decide +kernel) _ List.mem_cons_self
set_option maxRecDepth 100000 in
theorem zv_m_len : Cond.instanceMethod zy_len ∈ zz_tb := zz_mem_r (ws := [Cond.instanceMethod zy_len]) [637] rfl (by decide +kernel) _ List.mem_cons_self
set_option maxRecDepth 100000 in
theorem zv_s_len : Cond.selects "java/lang/String" zy_len zy_len ∈ zz_tb := zz_mem_r (ws := [Cond.selects "java/lang/String" zy_len zy_len]) [638] rfl (by decide +kernel) _ List.mem_cons_self
set_option maxRecDepth 100000 in
theorem zv_l_coder : Cond.methodLink "java/lang/String" 335 zy_coder ∈ zz_tb := zz_mem_r (ws := [Cond.methodLink "java/lang/String" 335 zy_coder]) [640] rfl (by decide +kernel) _ List.mem_cons_self
set_option maxRecDepth 100000 in
theorem zv_m_coder : Cond.instanceMethod zy_coder ∈ zz_tb := zz_mem_r (ws := [Cond.instanceMethod zy_coder]) [641] rfl (by decide +kernel) _ List.mem_cons_self
set_option maxRecDepth 100000 in
theorem zv_s_coder : Cond.selects "java/lang/String" zy_coder zy_coder ∈ zz_tb := zz_mem_r (ws := [Cond.selects "java/lang/String" zy_coder zy_coder]) [642] rfl (by decide +kernel) _ List.mem_cons_self
set_option maxRecDepth 100000 in
theorem zv_f_comp : Cond.fieldLink "java/lang/String" 38 "java/lang/String" "COMPACT_STRINGS" "Z" ∈ zz_tb := zz_mem_r (ws := [Cond.fieldLink "java/lang/String" 38 "java/lang/String" "COMPACT_STRINGS" "Z"]) [644] rfl (by decide +kernel) _ List.mem_cons_self
set_option maxRecDepth 100000 in
theorem zv_m_chr : Cond.instanceMethod zy_chr ∈ zz_tb := zz_mem_r (ws := [Cond.instanceMethod zy_chr]) [647] rfl (by decide +kernel) _ List.mem_cons_self
set_option maxRecDepth 100000 in
theorem zv_s_chr : Cond.selects "java/lang/String" zy_chr zy_chr ∈ zz_tb := zz_mem_r (ws := [Cond.selects "java/lang/String" zy_chr zy_chr]) [648] rfl (by decide +kernel) _ List.mem_cons_self
set_option maxRecDepth 100000 in
theorem zv_l_lat : Cond.methodLink "java/lang/String" 492 zy_lat ∈ zz_tb := zz_mem_r (ws := [Cond.methodLink "java/lang/String" 492 zy_lat]) [650] rfl (by decide +kernel) _ List.mem_cons_self
set_option maxRecDepth 100000 in
theorem zv_m_lat : Cond.instanceMethod zy_lat ∈ zz_tb := zz_mem_r (ws := [Cond.instanceMethod zy_lat]) [651] rfl (by decide +kernel) _ List.mem_cons_self
set_option maxRecDepth 100000 in
theorem zv_s_lat : Cond.selects "java/lang/String" zy_lat zy_lat ∈ zz_tb := zz_mem_r (ws := [Cond.selects "java/lang/String" zy_lat zy_lat]) [652] rfl (by decide +kernel) _ List.mem_cons_self
set_option maxRecDepth 100000 in
theorem zv_l_lch : Cond.methodLink "java/lang/String" 495 zy_lch ∈ zz_tb := zz_mem_r (ws := [Cond.methodLink "java/lang/String" 495 zy_lch]) [654] rfl (by decide +kernel) _ List.mem_cons_self
set_option maxRecDepth 100000 in
theorem zv_t_lch : Cond.static zy_lch ∈ zz_tb := zz_mem_r (ws := [Cond.static zy_lch]) [655] rfl (by decide +kernel) _ List.mem_cons_self
set_option maxRecDepth 100000 in
theorem zv_l_sck : Cond.methodLink "java/lang/StringLatin1" 9 zy_sck ∈ zz_tb := zz_mem_r (ws := [Cond.methodLink "java/lang/StringLatin1" 9 zy_sck]) [657] rfl (by decide +kernel) _ List.mem_cons_self
set_option maxRecDepth 100000 in
theorem zv_t_sck : Cond.static zy_sck ∈ zz_tb := zz_mem_r (ws := [Cond.static zy_sck]) [658] rfl (by decide +kernel) _ List.mem_cons_self
set_option maxRecDepth 100000 in
theorem zv_f_pre : Cond.fieldLink "java/lang/String" 1053 "jdk/internal/util/Preconditions" "SIOOBE_FORMATTER" "Ljava/util/function/BiFunction;" ∈ zz_tb := zz_mem_r (ws := [Cond.fieldLink "java/lang/String" 1053 "jdk/internal/util/Preconditions" "SIOOBE_FORMATTER" "Ljava/util/function/BiFunction;"]) [660] rfl (by decide +kernel) _ List.mem_cons_self
set_option maxRecDepth 100000 in
theorem zv_l_chk : Cond.methodLink "java/lang/String" 1059 zy_chk ∈ zz_tb := zz_mem_r (ws := [Cond.methodLink "java/lang/String" 1059 zy_chk]) [662] rfl (by decide +kernel) _ List.mem_cons_self
set_option maxRecDepth 100000 in
theorem zv_t_chk : Cond.static zy_chk ∈ zz_tb := zz_mem_r (ws := [Cond.static zy_chk]) [663] rfl (by decide +kernel) _ List.mem_cons_self
set_option maxRecDepth 100000 in
theorem zv_f_val : Cond.fieldLink "java/lang/String" 9 "java/lang/String" "value" "[B" ∈ zz_tb := zz_mem_r (ws := [Cond.fieldLink "java/lang/String" 9 "java/lang/String" "value" "[B"]) [2040] rfl (by decide +kernel) _ List.mem_cons_self
set_option maxRecDepth 100000 in
theorem zv_f_cod : Cond.fieldLink "java/lang/String" 15 "java/lang/String" "coder" "B" ∈ zz_tb := zz_mem_r (ws := [Cond.fieldLink "java/lang/String" 15 "java/lang/String" "coder" "B"]) [2041] rfl (by decide +kernel) _ List.mem_cons_self
set_option maxRecDepth 100000 in
theorem zv_t_max : Cond.static Lib.Math.max.name ∈ zz_tb := zz_mem_r (ws := [Cond.static Lib.Math.max.name]) [129] rfl (by decide +kernel) _ List.mem_cons_self
set_option maxRecDepth 100000 in
theorem zv_c_max : Cond.code Lib.Math.max.name Lib.Math.max.code 2 (some .int) ∈ zz_tb := zz_mem_r (ws := [Cond.code Lib.Math.max.name Lib.Math.max.code 2 (some .int)]) [130] rfl (by decide +kernel) _ List.mem_cons_self
set_option maxRecDepth 100000 in
theorem zv_t_min : Cond.static Lib.Math.min.name ∈ zz_tb := zz_mem_r (ws := [Cond.static Lib.Math.min.name]) [621] rfl (by decide +kernel) _ List.mem_cons_self
set_option maxRecDepth 100000 in
theorem zv_c_min : Cond.code Lib.Math.min.name Lib.Math.min.code 2 (some .int) ∈ zz_tb := zz_mem_r (ws := [Cond.code Lib.Math.min.name Lib.Math.min.code 2 (some .int)]) [622] rfl (by decide +kernel) _ List.mem_cons_self
set_option maxRecDepth 100000 in
theorem zv_t_abs : Cond.static Lib.Math.abs.name ∈ zz_tb := zz_mem_r (ws := [Cond.static Lib.Math.abs.name]) [1967] rfl (by decide +kernel) _ List.mem_cons_self
set_option maxRecDepth 100000 in
theorem zv_c_abs : Cond.code Lib.Math.abs.name Lib.Math.abs.code 1 (some .int) ∈ zz_tb := zz_mem_r (ws := [Cond.code Lib.Math.abs.name Lib.Math.abs.code 1 (some .int)]) [1968] rfl (by decide +kernel) _ List.mem_cons_self
theorem zz_tx_b : (List.range zz_nS).all (fun i => decide ((zz_tx i).length < 100) && decide (Int32.ofNat (zz_tx i).length >>> ((0 : Int32) &&& 31) = Int32.ofNat (zz_tx i).length) && (List.range (zz_tx i).length).all (fun k => decide (((nI ((zz_tx i).getD k 0) &&& 255).toUInt32 % 65536).toInt32 = nI ((zz_tx i).getD k 0)) && decide (narrow .char (.int (nI ((zz_tx i).getD k 0))) = .int (nI ((zz_tx i).getD k 0))) && decide ((zz_tx i).getD k 0 < 128))) = true := by decide +kernel
theorem zz_shr0 {i : Nat} (hi : i < zz_nS) : Int32.ofNat (zz_tx i).length >>> ((0 : Int32) &&& 31) = Int32.ofNat (zz_tx i).length := by
  have h := List.all_eq_true.mp zz_tx_b i (List.mem_range.mpr hi)
  simp only [Bool.and_eq_true, decide_eq_true_eq] at h
  exact h.1.2
theorem zz_txOk {i : Nat} (hi : i < zz_nS) : (zz_tx i).length < 100 ∧ ∀ k, k < (zz_tx i).length → ((nI ((zz_tx i).getD k 0) &&& 255).toUInt32 % 65536).toInt32 = nI ((zz_tx i).getD k 0) ∧ narrow .char (.int (nI ((zz_tx i).getD k 0))) = .int (nI ((zz_tx i).getD k 0)) ∧ (zz_tx i).getD k 0 < 128 := by
  have h := List.all_eq_true.mp zz_tx_b i (List.mem_range.mpr hi)
  simp only [Bool.and_eq_true, decide_eq_true_eq] at h
  refine ⟨h.1.1, fun k hk => ?_⟩
  have h2 := List.all_eq_true.mp h.2 k (List.mem_range.mpr hk)
  simp only [Bool.and_eq_true, decide_eq_true_eq] at h2
  exact ⟨h2.1.1, h2.1.2, h2.2⟩
set_option maxHeartbeats 2000000 in
theorem zm_coder (X : zz_X) {i : Nat} (hi : i < zz_nS) : Met X.l zy_coder (Cond.code zy_coder prog_16_method_152_code 1 (some .byte) :: zz_tb) (zz_room 1) (zz_P0 X [.ref (X.sa i)]) (zz_Q0 (some (.int 0))) 0 0 zz_no := by
  refine Met.ofW (cc := prog_16_method_152_code) (maxL := 1) (ret := some .byte) (by decide) rfl ?_
  intro p e s m args below meth c s₁ B hml hv
  obtain ⟨rfl, hE⟩ := hv
  have hx := B.exec
  have hb := B.bytes
  have hr := B.returns
  have hts0 := atoms_spec (ws := Cond.code zy_coder prog_16_method_152_code 1 (some .byte) :: zz_tb) B.pre
  have hts : ∀ w ∈ zz_tb, w.before ([.ref (X.sa i)] : List Value).toArray s = true := fun w hw => hts0 w (List.mem_cons_of_mem _ hw)
  have hown : s.vm.findClass zy_coder.cls = some m.cls := findClass_of_methodNamed B.named
  have hlocks := B.notSynchronized
  have hS : va_S (zz_A X) s.heap s.heap [] := va_S.rf
  have hl := lv_entry ([.ref (X.sa i)]) (n := 1) (Nat.le_of_ble_eq_true rfl)
  rw [lg_entry_eq]
  generalize (lg_sl ([.ref (X.sa i)]) ++ List.replicate (1 - (lg_sl ([.ref (X.sa i)])).length) Slot.unset).toArray = ls at hl ⊢
  have hl : lv_has ls 1 [(0, .ref (X.sa i))] := hl
  obtain ⟨t1, t2, t3, t4⟩ := hE.2.1 i hi
  refine va_gets hx hb hE.2.2.2.1 hS hown (hts _ zv_f_comp) (fun _ h => h) zd_coder_0 ?_
  refine lv_if_eq (tgt := 13) hx hb zd_coder_3 (by decide) (fun z => absurd z (by decide)) (fun _ => ?_)
  refine lv_aload_n hx hb zd_coder_6 rfl (lv_at hl 0 rfl) ?_
  refine vk_getf hx hb t2 hS hown (hts _ zv_f_cod) (fun _ h => h) zd_coder_7 ?_
  refine lv_goto (tgt := 14) hx hb zd_coder_10 (by decide) ?_
  exact W.zret hx hb hr (by decide) (fun t ht _ => ⟨rfl, ht⟩) (fun q h => by cases h) zd_coder_14 hlocks
set_option maxHeartbeats 2000000 in
theorem zm_len (X : zz_X) {i : Nat} (hi : i < zz_nS) : Met X.l zy_len (Cond.code zy_len prog_16_method_54_code 1 (some .int) :: zz_tb) (zz_room 2) (zz_P0 X [.ref (X.sa i)]) (zz_Q0 (some (.int (Int32.ofNat (zz_tx i).length)))) 0 0 zz_no := by
  refine Met.ofW (cc := prog_16_method_54_code) (maxL := 1) (ret := some .int) (by decide) rfl ?_
  intro p e s m args below meth c s₁ B hml hv
  obtain ⟨rfl, hE⟩ := hv
  have hx := B.exec
  have hb := B.bytes
  have hr := B.returns
  have hts0 := atoms_spec (ws := Cond.code zy_len prog_16_method_54_code 1 (some .int) :: zz_tb) B.pre
  have hts : ∀ w ∈ zz_tb, w.before ([.ref (X.sa i)] : List Value).toArray s = true := fun w hw => hts0 w (List.mem_cons_of_mem _ hw)
  have hown : s.vm.findClass zy_len.cls = some m.cls := findClass_of_methodNamed B.named
  have hlocks := B.notSynchronized
  have hS : va_S (zz_A X) s.heap s.heap [] := va_S.rf
  have hl := lv_entry ([.ref (X.sa i)]) (n := 1) (Nat.le_of_ble_eq_true rfl)
  rw [lg_entry_eq]
  generalize (lg_sl ([.ref (X.sa i)]) ++ List.replicate (1 - (lg_sl ([.ref (X.sa i)])).length) Slot.unset).toArray = ls at hl ⊢
  have hl : lv_has ls 1 [(0, .ref (X.sa i))] := hl
  obtain ⟨t1, t2, t3, t4⟩ := hE.2.1 i hi
  refine lv_aload_n hx hb zd_len_0 rfl (lv_at hl 0 rfl) ?_
  refine vk_getf hx hb t3 hS hown (hts _ zv_f_val) (fun _ h => h) zd_len_1 ?_
  refine va_tlen hx hb t4 hS (v := Int32.ofNat (zz_tx i).length) rfl zd_len_4 ?_
  refine lv_aload_n hx hb zd_len_5 rfl (lv_at hl 0 rfl) ?_
  obtain ⟨cell, k1, k2, k3, -⟩ := t1
  refine zz_pcall (va_runV (nL := 1) (n := 0) (As := []) (rest := [.int (Int32.ofNat (zz_tx i).length)]) (C := "java/lang/String") (b := X.sa i) (own := "java/lang/String") ⟨hx, hb, hml, hown, hts⟩ (zm_coder X hi) ⟨⟨rfl, rfl, Nat.le_of_ble_eq_true rfl, Nat.le_of_ble_eq_true rfl, pay_in hts (zz_good zv_c_coder), List.mem_cons_self, hts _ zv_c_coder, hts _ zv_i_str, (by decide), (fun sig h => by cases h; rfl), hts _ zv_l_coder⟩, hts _ zv_m_coder, hts _ zv_s_coder⟩ ⟨zz_P0_blind, ⟨cell, k1, k2, k3⟩, fun U hU hW => zz_P0_pre (as := [.ref (X.sa i)]) hE hS hU hW⟩ rfl rfl hl.1 rfl (lv_room (Nat.le_of_ble_eq_true rfl)) zd_len_6 ⟨Nat.zero_le _, Nat.zero_le _⟩) ?_
  refine lv_ishr hx hb zd_len_9 ?_
  have e0 : Int32.ofNat (zz_tx i).length >>> ((0 : Int32) &&& 31) = Int32.ofNat (zz_tx i).length := zz_shr0 hi
  rw [e0]
  exact W.iret hx hb hr (fun t ht _ => ⟨rfl, ht⟩) (fun q h => by cases h) zd_len_10 hlocks
set_option maxHeartbeats 2000000 in
theorem zm_lat (X : zz_X) {i : Nat} (hi : i < zz_nS) : Met X.l zy_lat (Cond.code zy_lat prog_16_method_154_code 1 (some .boolean) :: zz_tb) (zz_room 1) (zz_P0 X [.ref (X.sa i)]) (zz_Q0 (some (.int 1))) 0 0 zz_no := by
  refine Met.ofW (cc := prog_16_method_154_code) (maxL := 1) (ret := some .boolean) (by decide) rfl ?_
  intro p e s m args below meth c s₁ B hml hv
  obtain ⟨rfl, hE⟩ := hv
  have hx := B.exec
  have hb := B.bytes
  have hr := B.returns
  have hts0 := atoms_spec (ws := Cond.code zy_lat prog_16_method_154_code 1 (some .boolean) :: zz_tb) B.pre
  have hts : ∀ w ∈ zz_tb, w.before ([.ref (X.sa i)] : List Value).toArray s = true := fun w hw => hts0 w (List.mem_cons_of_mem _ hw)
  have hown : s.vm.findClass zy_lat.cls = some m.cls := findClass_of_methodNamed B.named
  have hlocks := B.notSynchronized
  have hS : va_S (zz_A X) s.heap s.heap [] := va_S.rf
  have hl := lv_entry ([.ref (X.sa i)]) (n := 1) (Nat.le_of_ble_eq_true rfl)
  rw [lg_entry_eq]
  generalize (lg_sl ([.ref (X.sa i)]) ++ List.replicate (1 - (lg_sl ([.ref (X.sa i)])).length) Slot.unset).toArray = ls at hl ⊢
  have hl : lv_has ls 1 [(0, .ref (X.sa i))] := hl
  obtain ⟨t1, t2, t3, t4⟩ := hE.2.1 i hi
  refine va_gets hx hb hE.2.2.2.1 hS hown (hts _ zv_f_comp) (fun _ h => h) zd_lat_0 ?_
  refine lv_if_eq (tgt := 17) hx hb zd_lat_3 (by decide) (fun z => absurd z (by decide)) (fun _ => ?_)
  refine lv_aload_n hx hb zd_lat_6 rfl (lv_at hl 0 rfl) ?_
  refine vk_getf hx hb t2 hS hown (hts _ zv_f_cod) (fun _ h => h) zd_lat_7 ?_
  refine lv_if_ne (tgt := 17) hx hb zd_lat_10 (by decide) (fun z => absurd rfl z) (fun _ => ?_)
  refine lv_iconst hx hb zd_lat_13 (v := 1) (by decide) ?_
  refine lv_goto (tgt := 18) hx hb zd_lat_14 (by decide) ?_
  exact W.zret hx hb hr (by decide) (fun t ht _ => ⟨rfl, ht⟩) (fun q h => by cases h) zd_lat_18 hlocks
set_option maxHeartbeats 2000000 in
theorem zm_chkN (X : zz_X) {k n : Int32} (h1 : ¬ k < 0) (h2 : k < n) : Met X.l zy_chk (Cond.code zy_chk prog_19_method_11_code 3 (some .int) :: zz_tb) (zz_room 1) (zz_P0 X [.int k, .int n, .null]) (zz_Q0 (some (.int k))) 0 0 zz_no := by
  refine Met.ofW (cc := prog_19_method_11_code) (maxL := 3) (ret := some .int) (by decide) rfl ?_
  intro p e s m args below meth c s₁ B hml hv
  obtain ⟨rfl, hE⟩ := hv
  have hx := B.exec
  have hb := B.bytes
  have hr := B.returns
  have hts0 := atoms_spec (ws := Cond.code zy_chk prog_19_method_11_code 3 (some .int) :: zz_tb) B.pre
  have hts : ∀ w ∈ zz_tb, w.before ([.int k, .int n, .null] : List Value).toArray s = true := fun w hw => hts0 w (List.mem_cons_of_mem _ hw)
  have hown : s.vm.findClass zy_chk.cls = some m.cls := findClass_of_methodNamed B.named
  have hlocks := B.notSynchronized
  have hS : va_S (zz_A X) s.heap s.heap [] := va_S.rf
  have hl := lv_entry ([.int k, .int n, .null]) (n := 3) (Nat.le_of_ble_eq_true rfl)
  rw [lg_entry_eq]
  generalize (lg_sl ([.int k, .int n, .null]) ++ List.replicate (3 - (lg_sl ([.int k, .int n, .null])).length) Slot.unset).toArray = ls at hl ⊢
  have hl : lv_has ls 3 [(0, .int k), (1, .int n), (2, .null)] := hl
  refine lv_iload_n hx hb zd_chk_0 rfl (lv_at hl 0 rfl) ?_
  refine lv_if_lt (tgt := 9) hx hb zd_chk_1 (by decide) (fun z => absurd z h1) (fun _ => ?_)
  refine lv_iload_n hx hb zd_chk_4 rfl (lv_at hl 0 rfl) ?_
  refine lv_iload_n hx hb zd_chk_5 rfl (lv_at hl 1 rfl) ?_
  refine lv_icmp_lt (tgt := 16) hx hb zd_chk_6 (by decide) (fun _ => ?_) (fun z => absurd h2 z)
  refine lv_iload_n hx hb zd_chk_16 rfl (lv_at hl 0 rfl) ?_
  exact W.iret hx hb hr (fun t ht _ => ⟨rfl, ht⟩) (fun q h => by cases h) zd_chk_17 hlocks
set_option maxHeartbeats 2000000 in
theorem zm_chkR (X : zz_X) {k n : Int32} {t : Nat} (h1 : ¬ k < 0) (h2 : k < n) : Met X.l zy_chk (Cond.code zy_chk prog_19_method_11_code 3 (some .int) :: zz_tb) (zz_room 1) (zz_P0 X [.int k, .int n, .ref t]) (zz_Q0 (some (.int k))) 0 0 zz_no := by
  refine Met.ofW (cc := prog_19_method_11_code) (maxL := 3) (ret := some .int) (by decide) rfl ?_
  intro p e s m args below meth c s₁ B hml hv
  obtain ⟨rfl, hE⟩ := hv
  have hx := B.exec
  have hb := B.bytes
  have hr := B.returns
  have hts0 := atoms_spec (ws := Cond.code zy_chk prog_19_method_11_code 3 (some .int) :: zz_tb) B.pre
  have hts : ∀ w ∈ zz_tb, w.before ([.int k, .int n, .ref t] : List Value).toArray s = true := fun w hw => hts0 w (List.mem_cons_of_mem _ hw)
  have hown : s.vm.findClass zy_chk.cls = some m.cls := findClass_of_methodNamed B.named
  have hlocks := B.notSynchronized
  have hS : va_S (zz_A X) s.heap s.heap [] := va_S.rf
  have hl := lv_entry ([.int k, .int n, .ref t]) (n := 3) (Nat.le_of_ble_eq_true rfl)
  rw [lg_entry_eq]
  generalize (lg_sl ([.int k, .int n, .ref t]) ++ List.replicate (3 - (lg_sl ([.int k, .int n, .ref t])).length) Slot.unset).toArray = ls at hl ⊢
  have hl : lv_has ls 3 [(0, .int k), (1, .int n), (2, .ref t)] := hl
  refine lv_iload_n hx hb zd_chk_0 rfl (lv_at hl 0 rfl) ?_
  refine lv_if_lt (tgt := 9) hx hb zd_chk_1 (by decide) (fun z => absurd z h1) (fun _ => ?_)
  refine lv_iload_n hx hb zd_chk_4 rfl (lv_at hl 0 rfl) ?_
  refine lv_iload_n hx hb zd_chk_5 rfl (lv_at hl 1 rfl) ?_
  refine lv_icmp_lt (tgt := 16) hx hb zd_chk_6 (by decide) (fun _ => ?_) (fun z => absurd h2 z)
  refine lv_iload_n hx hb zd_chk_16 rfl (lv_at hl 0 rfl) ?_
  exact W.iret hx hb hr (fun t ht _ => ⟨rfl, ht⟩) (fun q h => by cases h) zd_chk_17 hlocks
set_option maxHeartbeats 2000000 in
theorem zm_sck (X : zz_X) {k n : Int32} (h1 : ¬ k < 0) (h2 : k < n) : Met X.l zy_sck (Cond.code zy_sck prog_16_method_155_code 2 (none) :: zz_tb) (zz_room 2) (zz_P0 X [.int k, .int n]) (zz_Q0 (none)) 0 0 zz_no := by
  refine Met.ofW (cc := prog_16_method_155_code) (maxL := 2) (ret := none) (by decide) rfl ?_
  intro p e s m args below meth c s₁ B hml hv
  obtain ⟨rfl, hE⟩ := hv
  have hx := B.exec
  have hb := B.bytes
  have hr := B.returns
  have hts0 := atoms_spec (ws := Cond.code zy_sck prog_16_method_155_code 2 (none) :: zz_tb) B.pre
  have hts : ∀ w ∈ zz_tb, w.before ([.int k, .int n] : List Value).toArray s = true := fun w hw => hts0 w (List.mem_cons_of_mem _ hw)
  have hown : s.vm.findClass zy_sck.cls = some m.cls := findClass_of_methodNamed B.named
  have hlocks := B.notSynchronized
  have hS : va_S (zz_A X) s.heap s.heap [] := va_S.rf
  have hl := lv_entry ([.int k, .int n]) (n := 2) (Nat.le_of_ble_eq_true rfl)
  rw [lg_entry_eq]
  generalize (lg_sl ([.int k, .int n]) ++ List.replicate (2 - (lg_sl ([.int k, .int n])).length) Slot.unset).toArray = ls at hl ⊢
  have hl : lv_has ls 2 [(0, .int k), (1, .int n)] := hl
  have key : ∀ fv : Value, fv.category = 1 → Met X.l zy_chk (Cond.code zy_chk prog_19_method_11_code 3 (some .int) :: zz_tb) (zz_room 1) (zz_P0 X [.int k, .int n, fv]) (zz_Q0 (some (.int k))) 0 0 zz_no → W p X.l e (headSpec (Cond.code zy_sck prog_16_method_155_code 2 none :: zz_tb) (zz_room 2)).room s m ([.int k, .int n] : List Value).toArray below meth c s.heap [] 0 0 (MQ below (zz_Q0 none) ([.int k, .int n] : List Value).toArray s 0 0 zz_no) (F0 m 5 ls [fv, .int n, .int k]) := by
    intro fv hfv hM
    refine zz_pcall (va_runS (nL := 2) (n := 3) (As := [.int k, .int n, fv]) (rest := []) (own := "java/lang/String") ⟨hx, hb, hml, hown, hts⟩ hM ⟨⟨rfl, rfl, Nat.le_of_ble_eq_true rfl, Nat.le_of_ble_eq_true rfl, pay_in hts (zz_good zv_c_chk), List.mem_cons_self, hts _ zv_c_chk, hts _ zv_i_pre, (by decide), (fun sig h => by cases h; rfl), hts _ zv_l_chk⟩, hts _ zv_t_chk⟩ ⟨zz_P0_blind, fun U hU hW => zz_P0_pre (as := [.int k, .int n, fv]) hE hS hU hW⟩ rfl rfl hl.1 rfl (lv_room (Nat.le_of_ble_eq_true rfl)) zd_sck_5 ⟨Nat.zero_le _, Nat.zero_le _⟩) ?_
    refine lv_pop hx hb zd_sck_8 rfl ?_
    exact W.vret hx hb hr (fun t ht _ => ⟨rfl, ht⟩) (fun q h => by cases h) zd_sck_9 hlocks
  refine lv_iload_n hx hb zd_sck_0 rfl (lv_at hl 0 rfl) ?_
  refine lv_iload_n hx hb zd_sck_1 rfl (lv_at hl 1 rfl) ?_
  rcases hE.2.2.2.2.1 with hz | ⟨t, hz⟩
  · exact va_gets hx hb hz hS hown (hts _ zv_f_pre) (fun _ h => h) zd_sck_2 (key .null rfl (zm_chkN X h1 h2))
  · exact va_gets hx hb hz hS hown (hts _ zv_f_pre) (fun _ h => h) zd_sck_2 (key (.ref t) rfl (zm_chkR X h1 h2))
set_option maxHeartbeats 2000000 in
theorem zm_lch (X : zz_X) {i k : Nat} (hi : i < zz_nS) (hk : k < (zz_tx i).length) : Met X.l zy_lch (Cond.code zy_lch prog_17_method_2_code 2 (some .char) :: zz_tb) (zz_room 3) (zz_P0 X [.ref (X.sv i), .int (nI k)]) (zz_Q0 (some (.int (nI ((zz_tx i).getD k 0))))) 0 0 zz_no := by
  refine Met.ofW (cc := prog_17_method_2_code) (maxL := 2) (ret := some .char) (by decide) rfl ?_
  intro p e s m args below meth c s₁ B hml hv
  obtain ⟨rfl, hE⟩ := hv
  have hx := B.exec
  have hb := B.bytes
  have hr := B.returns
  have hts0 := atoms_spec (ws := Cond.code zy_lch prog_17_method_2_code 2 (some .char) :: zz_tb) B.pre
  have hts : ∀ w ∈ zz_tb, w.before ([.ref (X.sv i), .int (nI k)] : List Value).toArray s = true := fun w hw => hts0 w (List.mem_cons_of_mem _ hw)
  have hown : s.vm.findClass zy_lch.cls = some m.cls := findClass_of_methodNamed B.named
  have hlocks := B.notSynchronized
  have hS : va_S (zz_A X) s.heap s.heap [] := va_S.rf
  have hl := lv_entry ([.ref (X.sv i), .int (nI k)]) (n := 2) (Nat.le_of_ble_eq_true rfl)
  rw [lg_entry_eq]
  generalize (lg_sl ([.ref (X.sv i), .int (nI k)]) ++ List.replicate (2 - (lg_sl ([.ref (X.sv i), .int (nI k)])).length) Slot.unset).toArray = ls at hl ⊢
  have hl : lv_has ls 2 [(0, .ref (X.sv i)), (1, .int (nI k))] := hl
  obtain ⟨t1, t2, t3, t4⟩ := hE.2.1 i hi
  obtain ⟨b1, b2⟩ := zz_txOk hi
  have h1 : ¬ nI k < 0 := nI_pos (by omega)
  have h2 : nI k < Int32.ofNat (zz_tx i).length := nI_lt hk (by omega)
  have hc : (nI k).toNatClampNeg = k := nI_clamp (by omega)
  refine lv_iload_n hx hb zd_lch_0 rfl (lv_at hl 1 rfl) ?_
  refine lv_aload_n hx hb zd_lch_1 rfl (lv_at hl 0 rfl) ?_
  refine va_tlen hx hb t4 hS (v := Int32.ofNat (zz_tx i).length) rfl zd_lch_2 ?_
  refine zz_pcall (va_runS (nL := 2) (n := 2) (As := [.int (nI k), .int (Int32.ofNat (zz_tx i).length)]) (rest := []) (own := "java/lang/StringLatin1") ⟨hx, hb, hml, hown, hts⟩ (zm_sck X h1 h2) ⟨⟨rfl, rfl, Nat.le_of_ble_eq_true rfl, Nat.le_of_ble_eq_true rfl, pay_in hts (zz_good zv_c_sck), List.mem_cons_self, hts _ zv_c_sck, hts _ zv_i_str, (by decide), (fun sig h => by cases h; rfl), hts _ zv_l_sck⟩, hts _ zv_t_sck⟩ ⟨zz_P0_blind, fun U hU hW => zz_P0_pre (as := [.int (nI k), .int (Int32.ofNat (zz_tx i).length)]) hE hS hU hW⟩ rfl rfl hl.1 rfl (lv_room (Nat.le_of_ble_eq_true rfl)) zd_lch_3 ⟨Nat.zero_le _, Nat.zero_le _⟩) ?_
  refine lv_aload_n hx hb zd_lch_6 rfl (lv_at hl 0 rfl) ?_
  refine lv_iload_n hx hb zd_lch_7 rfl (lv_at hl 1 rfl) ?_
  refine va_tb hx hb t4 hS (i := nI k) (vp_in_nI hk (by omega)) (v := .int (nI ((zz_tx i).getD k 0))) (by rw [hc]) zd_lch_8 ?_
  refine lv_sipush hx hb zd_lch_9 (v := 255) (by decide) ?_
  refine lv_iand hx hb zd_lch_12 ?_
  obtain ⟨q1, q2, q3⟩ := b2 k hk
  refine lv_i2c hx hb zd_lch_13 (v := nI ((zz_tx i).getD k 0)) q1 ?_
  exact W.zret hx hb hr q2 (fun t ht _ => ⟨rfl, ht⟩) (fun q h => by cases h) zd_lch_14 hlocks
set_option maxHeartbeats 2000000 in
theorem zm_chr (X : zz_X) {i k : Nat} (hi : i < zz_nS) (hk : k < (zz_tx i).length) : Met X.l zy_chr (Cond.code zy_chr prog_16_method_56_code 2 (some .char) :: zz_tb) (zz_room 4) (zz_P0 X [.ref (X.sa i), .int (nI k)]) (zz_Q0 (some (.int (nI ((zz_tx i).getD k 0))))) 0 0 zz_no := by
  refine Met.ofW (cc := prog_16_method_56_code) (maxL := 2) (ret := some .char) (by decide) rfl ?_
  intro p e s m args below meth c s₁ B hml hv
  obtain ⟨rfl, hE⟩ := hv
  have hx := B.exec
  have hb := B.bytes
  have hr := B.returns
  have hts0 := atoms_spec (ws := Cond.code zy_chr prog_16_method_56_code 2 (some .char) :: zz_tb) B.pre
  have hts : ∀ w ∈ zz_tb, w.before ([.ref (X.sa i), .int (nI k)] : List Value).toArray s = true := fun w hw => hts0 w (List.mem_cons_of_mem _ hw)
  have hown : s.vm.findClass zy_chr.cls = some m.cls := findClass_of_methodNamed B.named
  have hlocks := B.notSynchronized
  have hS : va_S (zz_A X) s.heap s.heap [] := va_S.rf
  have hl := lv_entry ([.ref (X.sa i), .int (nI k)]) (n := 2) (Nat.le_of_ble_eq_true rfl)
  rw [lg_entry_eq]
  generalize (lg_sl ([.ref (X.sa i), .int (nI k)]) ++ List.replicate (2 - (lg_sl ([.ref (X.sa i), .int (nI k)])).length) Slot.unset).toArray = ls at hl ⊢
  have hl : lv_has ls 2 [(0, .ref (X.sa i)), (1, .int (nI k))] := hl
  obtain ⟨t1, t2, t3, t4⟩ := hE.2.1 i hi
  obtain ⟨b1, b2⟩ := zz_txOk hi
  obtain ⟨q1, q2, q3⟩ := b2 k hk
  obtain ⟨cell, k1, k2, k3, -⟩ := t1
  refine lv_aload_n hx hb zd_chr_0 rfl (lv_at hl 0 rfl) ?_
  refine zz_pcall (va_runV (nL := 2) (n := 0) (As := []) (rest := []) (C := "java/lang/String") (b := X.sa i) (own := "java/lang/String") ⟨hx, hb, hml, hown, hts⟩ (zm_lat X hi) ⟨⟨rfl, rfl, Nat.le_of_ble_eq_true rfl, Nat.le_of_ble_eq_true rfl, pay_in hts (zz_good zv_c_lat), List.mem_cons_self, hts _ zv_c_lat, hts _ zv_i_str, (by decide), (fun sig h => by cases h; rfl), hts _ zv_l_lat⟩, hts _ zv_m_lat, hts _ zv_s_lat⟩ ⟨zz_P0_blind, ⟨cell, k1, k2, k3⟩, fun U hU hW => zz_P0_pre (as := [.ref (X.sa i)]) hE hS hU hW⟩ rfl rfl hl.1 rfl (lv_room (Nat.le_of_ble_eq_true rfl)) zd_chr_1 ⟨Nat.zero_le _, Nat.zero_le _⟩) ?_
  refine lv_if_eq (tgt := 16) hx hb zd_chr_4 (by decide) (fun z => absurd z (by decide)) (fun _ => ?_)
  refine lv_aload_n hx hb zd_chr_7 rfl (lv_at hl 0 rfl) ?_
  refine vk_getf hx hb t3 hS hown (hts _ zv_f_val) (fun _ h => h) zd_chr_8 ?_
  refine lv_iload_n hx hb zd_chr_11 rfl (lv_at hl 1 rfl) ?_
  refine zz_pcall (va_runS (nL := 2) (n := 2) (As := [.ref (X.sv i), .int (nI k)]) (rest := []) (own := "java/lang/String") ⟨hx, hb, hml, hown, hts⟩ (zm_lch X hi hk) ⟨⟨rfl, rfl, Nat.le_of_ble_eq_true rfl, Nat.le_of_ble_eq_true rfl, pay_in hts (zz_good zv_c_lch), List.mem_cons_self, hts _ zv_c_lch, hts _ zv_i_lat, (by decide), (fun sig h => by cases h; rfl), hts _ zv_l_lch⟩, hts _ zv_t_lch⟩ ⟨zz_P0_blind, fun U hU hW => zz_P0_pre (as := [.ref (X.sv i), .int (nI k)]) hE hS hU hW⟩ rfl rfl hl.1 rfl (lv_room (Nat.le_of_ble_eq_true rfl)) zd_chr_12 ⟨Nat.zero_le _, Nat.zero_le _⟩) ?_
  exact W.zret hx hb hr q2 (fun t ht _ => ⟨rfl, ht⟩) (fun q h => by cases h) zd_chr_15 hlocks
section ZX
variable {X : zz_X} {d : Nat} {P : zz_P} {j : Nat} {ls st : List zz_V} {σ : zz_M} {Post : Option zz_V → zz_M → Prop}
def zz_x1 (code : List zz_C) (j : Nat) (st : List zz_V) : Option (Int × List zz_V) := match code[j]? with
  | some e => match e.2.1, e.2.2.2, st with
    | .invokevirtual _, [297], .inr (.inr (.inr (k + 2))) :: r => some (((zz_tx k).length : Nat), r)
    | _, _, _ => none
  | none => none
theorem zz_cst {z : Int} {r : List zz_V} (h : zz_x1 P.code j st = some (z, r)) (hd : 2 < d) (hcat : zz_cat r ≤ 8) (k : zz_G X d P (j + 1) ls (zI z :: r) σ Post) : zz_G X d P j ls st σ Post := by
  intro p e s m args below meth c H locs lm hok hx hb hml hr hlk hown hts hE hS hR hl hlen hls hst
  unfold zz_x1 at h
  cases he : P.code[j]? with
  | none => rw [he] at h; cases h
  | some en =>
    rw [he] at h
    dsimp only at h
    obtain ⟨pc, ins, len, ts⟩ := en
    obtain ⟨r1, r2, r3, r4, r5⟩ := zz_row hok he
    rw [r5]
    dsimp only at h r1 r2 r3 r4 ⊢
    split at h
    · rename_i idx i r'
      cases h
      dsimp only [zz_ck] at r3
      have el := of_decide_eq_true r3
      subst el
      have hlink := hts _ (r4 (.methodLink P.y.cls idx (zz_mn 297)) List.mem_cons_self)
      obtain ⟨o1, o2⟩ := List.forall_mem_cons.mp hst
      have hi : i < zz_nS := by
        rcases o1 with o1 | o1
        · omega
        · omega
      obtain ⟨cell, k1, k2, k3, -⟩ := (hE.2.1 i hi).1.kept hS.2.1
      have r2' : zz_pc P (j + 1) = pc + 3 := r2 rfl
      have hrm : (2 : Nat) + 1 ≤ d ∧ 8 + (1 + 11) + 40 * 2 ≤ 40 * d := by omega
      refine zz_pcall (va_runV (nL := P.maxL) (n := 0) (As := []) (rest := r.map (zz_toV X)) (C := "java/lang/String") (b := X.sa i) ⟨hx, hb, hml, hown, hts⟩ (zm_len X hi) ⟨⟨rfl, rfl, hrm.1, hrm.2, pay_in hts (zz_good zv_c_len), List.mem_cons_self, hts _ zv_c_len, hts _ zv_i_str, (by decide), (fun sig h => by cases h; rfl), hlink⟩, hts _ zv_m_len, hts _ zv_s_len⟩ ⟨zz_P0_blind, ⟨cell, k1, k2, k3⟩, fun U hU hW => zz_P0_pre (as := [.ref (X.sa i)]) hE hS hU hW⟩ rfl rfl hl.1 rfl (lv_room (by rw [zz_cat_of]; exact hcat)) r1 ⟨Nat.zero_le _, Nat.zero_le _⟩) ?_
      have hb1 := (zz_txOk hi).1
      have k2 := k p e s m args below meth c H locs lm hok hx hb hml hr hlk hown hts hE hS hR hl hlen hls (zz_all1 (P := zz_ok X) (show zz_in (((zz_tx i).length : Nat) : Int) by unfold zz_in; omega) o2)
      rw [r2'] at k2
      have ev : Int32.ofInt (((zz_tx i).length : Nat) : Int) = Int32.ofNat (zz_tx i).length := (zz_ofN (by omega)).symm
      simp only [List.map_cons, zz_toV, ev] at k2
      exact k2
    · cases h
def zz_x2 (code : List zz_C) (j : Nat) (st : List zz_V) : Option (Int × List Nat × List zz_V) := match code[j]? with
  | some e => match e.2.1, e.2.2.2, st with
    | .invokevirtual _, [298], .inl x :: .inr (.inr (.inr (k + 2))) :: r => some (x, zz_tx k, r)
    | _, _, _ => none
  | none => none
theorem zz_csc {x : Int} {tx : List Nat} {r : List zz_V} (h : zz_x2 P.code j st = some (x, tx, r)) (hd : 4 < d) (hcat : zz_cat r ≤ 8) (hx0 : 0 ≤ x ∧ x < tx.length) (k : zz_G X d P (j + 1) ls (zI ((tx.getD x.toNat 0 : Nat) : Int) :: r) σ Post) : zz_G X d P j ls st σ Post := by
  intro p e s m args below meth c H locs lm hok hx hb hml hr hlk hown hts hE hS hR hl hlen hls hst
  unfold zz_x2 at h
  cases he : P.code[j]? with
  | none => rw [he] at h; cases h
  | some en =>
    rw [he] at h
    dsimp only at h
    obtain ⟨pc, ins, len, ts⟩ := en
    obtain ⟨r1, r2, r3, r4, r5⟩ := zz_row hok he
    rw [r5]
    dsimp only at h r1 r2 r3 r4 ⊢
    split at h
    · rename_i idx x' i r'
      cases h
      dsimp only [zz_ck] at r3
      have el := of_decide_eq_true r3
      subst el
      have hlink := hts _ (r4 (.methodLink P.y.cls idx (zz_mn 298)) List.mem_cons_self)
      obtain ⟨o0, o1, o2⟩ := zz_fm2 hst
      have hi : i < zz_nS := by
        rcases o1 with o1 | o1
        · omega
        · omega
      obtain ⟨cell, k1, k2, k3, -⟩ := (hE.2.1 i hi).1.kept hS.2.1
      have hb1 := (zz_txOk hi).1
      have r2' : zz_pc P (j + 1) = pc + 3 := r2 rfl
      have hrm : (4 : Nat) + 1 ≤ d ∧ 8 + (2 + 11) + 40 * 4 ≤ 40 * d := by omega
      have hxn : Int32.ofInt x = nI x.toNat := by
        rw [show nI x.toNat = Int32.ofNat x.toNat from rfl, zz_ofN (by omega)]
        congr 1
        omega
      have hk : x.toNat < (zz_tx i).length := by omega
      have hstk : (zI x :: .inr (.inr (.inr (i + 2))) :: r).map (zz_toV X) = .int (nI x.toNat) :: .ref (X.sa i) :: r.map (zz_toV X) := by
        simp only [List.map_cons, zz_toV, hxn]
      rw [hstk]
      refine zz_pcall (va_runV (nL := P.maxL) (n := 1) (As := [.int (nI x.toNat)]) (rest := r.map (zz_toV X)) (C := "java/lang/String") (b := X.sa i) ⟨hx, hb, hml, hown, hts⟩ (zm_chr X hi hk) ⟨⟨rfl, rfl, hrm.1, hrm.2, pay_in hts (zz_good zv_c_chr), List.mem_cons_self, hts _ zv_c_chr, hts _ zv_i_str, (by decide), (fun sig h => by cases h; rfl), hlink⟩, hts _ zv_m_chr, hts _ zv_s_chr⟩ ⟨zz_P0_blind, ⟨cell, k1, k2, k3⟩, fun U hU hW => zz_P0_pre (as := [.ref (X.sa i), .int (nI x.toNat)]) hE hS hU hW⟩ rfl rfl hl.1 rfl (lv_room (by rw [zz_cat_of]; exact hcat)) r1 ⟨Nat.zero_le _, Nat.zero_le _⟩) ?_
      have hb2 := ((zz_txOk hi).2 x.toNat hk).2.2
      have k2 := k p e s m args below meth c H locs lm hok hx hb hml hr hlk hown hts hE hS hR hl hlen hls (zz_all1 (P := zz_ok X) (show zz_in (((zz_tx i).getD x.toNat 0 : Nat) : Int) by unfold zz_in; omega) o2)
      rw [r2'] at k2
      have ev : Int32.ofInt (((zz_tx i).getD x.toNat 0 : Nat) : Int) = nI ((zz_tx i).getD x.toNat 0) := (zz_ofN (by omega)).symm
      simp only [List.map_cons, zz_toV, ev] at k2
      exact k2
    · cases h
def zz_m1 (code : List zz_C) (j : Nat) (st : List zz_V) : Option (Int × List zz_V) := match code[j]? with
  | some e => match e.2.1, e.2.2.2, st with
    | .invokestatic _, [299], .inl y :: .inl x :: r => some (max x y, r)
    | .invokestatic _, [300], .inl y :: .inl x :: r => some (min x y, r)
    | .invokestatic _, [301], .inl x :: r => some (zz_b (fun a _ => if 0 ≤ a then a else 0 - a) x 0, r)
    | _, _, _ => none
  | none => none
theorem zz_mth {z : Int} {r : List zz_V} (h : zz_m1 P.code j st = some (z, r)) (hd : 0 < d) (hcat : zz_cat r ≤ 8) (k : zz_G X d P (j + 1) ls (zI z :: r) σ Post) : zz_G X d P j ls st σ Post := by
  intro p e s m args below meth c H locs lm hok hx hb hml hr hlk hown hts hE hS hR hl hlen hls hst
  unfold zz_m1 at h
  cases he : P.code[j]? with
  | none => rw [he] at h; cases h
  | some en =>
    rw [he] at h
    dsimp only at h
    obtain ⟨pc, ins, len, ts⟩ := en
    obtain ⟨r1, r2, r3, r4, r5⟩ := zz_row hok he
    rw [r5]
    dsimp only at h r1 r2 r3 r4 ⊢
    have hrm : 1 ≤ d ∧ ((r.map (zz_toV X)).map fun v => v.category).sum + 13 ≤ 40 * d := by
      rw [zz_cat_of]
      omega
    split at h
    · rename_i idx y x r'
      cases h
      simp only [zz_ck, Bool.and_eq_true, decide_eq_true_eq] at r3
      obtain ⟨el, r3⟩ := r3
      subst el
      have hlink := hts _ (r4 (.methodLink P.y.cls idx (zz_mn 299)) List.mem_cons_self)
      obtain ⟨o1, o2, o3⟩ := zz_fm2 hst
      have r2' : zz_pc P (j + 1) = pc + 3 := r2 rfl
      have hin : zz_in (max x y) := by
        rcases Int.le_total x y with q | q
        · rw [Int.max_eq_right q]; exact o1
        · rw [Int.max_eq_left q]; exact o2
      refine va_mmax hx hb (hml.trans hl.1.symm) hown hlink (hts _ zv_t_max) (hts _ zv_i_mat) (hts _ zv_c_max) hrm.1 hrm.2 (Nat.zero_le _) (Nat.zero_le _) r1 ?_
      have k2 := k p e s m args below meth c H locs lm hok hx hb hml hr hlk hown hts hE hS hR hl hlen hls (zz_all1 (P := zz_ok X) hin o3)
      rw [r2'] at k2
      have ev : Int32.ofInt (max x y) = if Int32.ofInt x < Int32.ofInt y then Int32.ofInt y else Int32.ofInt x := by
        by_cases q : x < y
        · rw [if_pos ((zz_lt0 o2 o1).mpr q), Int.max_eq_right (by omega)]
        · rw [if_neg (fun z => q ((zz_lt0 o2 o1).mp z)), Int.max_eq_left (by omega)]
      simp only [List.map_cons, zz_toV, ev] at k2
      exact k2
    · rename_i idx y x r'
      cases h
      simp only [zz_ck, Bool.and_eq_true, decide_eq_true_eq] at r3
      obtain ⟨el, r3⟩ := r3
      subst el
      have hlink := hts _ (r4 (.methodLink P.y.cls idx (zz_mn 300)) List.mem_cons_self)
      obtain ⟨o1, o2, o3⟩ := zz_fm2 hst
      have r2' : zz_pc P (j + 1) = pc + 3 := r2 rfl
      have hin : zz_in (min x y) := by
        rcases Int.le_total x y with q | q
        · rw [Int.min_eq_left q]; exact o2
        · rw [Int.min_eq_right q]; exact o1
      refine va_mmin hx hb (hml.trans hl.1.symm) hown hlink (hts _ zv_t_min) (hts _ zv_i_mat) (hts _ zv_c_min) hrm.1 hrm.2 (Nat.zero_le _) (Nat.zero_le _) r1 ?_
      have k2 := k p e s m args below meth c H locs lm hok hx hb hml hr hlk hown hts hE hS hR hl hlen hls (zz_all1 (P := zz_ok X) hin o3)
      rw [r2'] at k2
      have ev : Int32.ofInt (min x y) = if Int32.ofInt y < Int32.ofInt x then Int32.ofInt y else Int32.ofInt x := by
        by_cases q : y < x
        · rw [if_pos ((zz_lt0 o1 o2).mpr q), Int.min_eq_right (by omega)]
        · rw [if_neg (fun z => q ((zz_lt0 o1 o2).mp z)), Int.min_eq_left (by omega)]
      simp only [List.map_cons, zz_toV, ev] at k2
      exact k2
    · rename_i idx x r'
      cases h
      simp only [zz_ck, Bool.and_eq_true, decide_eq_true_eq] at r3
      obtain ⟨el, r3⟩ := r3
      subst el
      have hlink := hts _ (r4 (.methodLink P.y.cls idx (zz_mn 301)) List.mem_cons_self)
      obtain ⟨o1, o3⟩ := List.forall_mem_cons.mp hst
      have r2' : zz_pc P (j + 1) = pc + 3 := r2 rfl
      refine va_mabs hx hb (hml.trans hl.1.symm) hown hlink (hts _ zv_t_abs) (hts _ zv_i_mat) (hts _ zv_c_abs) hrm.1 hrm.2 (Nat.zero_le _) (Nat.zero_le _) r1 ?_
      have k2 := k p e s m args below meth c H locs lm hok hx hb hml hr hlk hown hts hE hS hR hl hlen hls (zz_all1 (P := zz_ok X) (zz_i32 _) o3)
      rw [r2'] at k2
      have ev := zz_b_of (fun a _ => if 0 ≤ a then a else 0 - a) x 0
      simp only [List.map_cons, zz_toV, ev] at k2
      exact k2
    · cases h
end ZX
