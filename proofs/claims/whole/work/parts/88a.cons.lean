/-! CONSTRUCTORS on the real machine: the own cells as a list of entries, from X.b on. -/
def zs0 : zz_M := (fun f _ => if f = 700 ∨ f = 602 ∨ f = 1233 then -1 else 0, fun _ _ => 0)
def zk_w (X : zz_X) (L : List va_E) : va_W := L.mapIdx (fun i e => (X.b + i, e))
theorem zk_w_at (X : zz_X) {L : List va_E} {i : Nat} {e : va_E} (h : L[i]? = some e) : (zk_w X L)[i]? = some (X.b + i, e) := by
  unfold zk_w
  rw [List.getElem?_mapIdx, h]
  rfl
theorem zk_w_of (X : zz_X) {L : List va_E} {k : Nat} {q : Nat × va_E} (h : (zk_w X L)[k]? = some q) : ∃ e, L[k]? = some e ∧ q = (X.b + k, e) := by
  unfold zk_w at h
  rw [List.getElem?_mapIdx] at h
  cases hk : L[k]? with
  | none => rw [hk] at h; cases h
  | some e => rw [hk] at h; cases h; exact ⟨e, rfl, rfl⟩
theorem zk_D (X : zz_X) (L : List va_E) : va_D (zz_A X) (zk_w X L) := by
  refine ⟨fun i j p q hp hq e => ?_, fun k q h => ?_⟩
  · obtain ⟨e1, -, rfl⟩ := zk_w_of X hp
    obtain ⟨e2, -, rfl⟩ := zk_w_of X hq
    dsimp only at e
    omega
  · obtain ⟨e1, -, rfl⟩ := zk_w_of X h
    show X.b ≤ X.b + k
    omega
def zk_H (X : zz_X) (L : List va_E) (H : Heap) : Prop := va_P X.D zz_cl (zk_w X L) H ∧ H.size = X.b + L.length
theorem zk_H.at {X : zz_X} {L : List va_E} {H : Heap} {i : Nat} {e : va_E} (h : zk_H X L H) (hi : L[i]? = some e) : va_at X.D zz_cl (X.b + i, e) H := h.1 i _ (zk_w_at X hi)
theorem zk_H.push {X : zz_X} {L : List va_E} {H H1 : Heap} {e : va_E} (h : zk_H X L H) (z : H1.size = H.size + 1) (o : ∀ q : Nat, q < H.size → H1[q]? = H[q]?) (he : va_at X.D zz_cl (X.b + L.length, e) H1) : zk_H X (L ++ [e]) H1 := by
  refine ⟨fun k q hk => ?_, by rw [z, h.2, List.length_append]; rfl⟩
  obtain ⟨e1, h1, rfl⟩ := zk_w_of X hk
  by_cases hl : k < L.length
  · rw [List.getElem?_append_left hl] at h1
    exact (h.at h1).kept (o _ (by rw [h.2]; show X.b + k < _; omega))
  · rw [List.getElem?_append_right (by omega)] at h1
    have hz : k - L.length < 1 := (List.getElem?_eq_some_iff.mp h1).1
    have ek : k = L.length := by omega
    subst ek
    rw [Nat.sub_self] at h1
    cases h1
    exact he
theorem zk_H.set {X : zz_X} {L : List va_E} {H H1 : Heap} {i : Nat} {e0 e : va_E} (h : zk_H X L H) (hi : L[i]? = some e0) (z : H1.size = H.size) (o : ∀ q : Nat, q ≠ X.b + i → H1[q]? = H[q]?) (he : va_at X.D zz_cl (X.b + i, e) H1) : zk_H X (L.set i e) H1 := by
  refine ⟨fun k q hk => ?_, by rw [z, h.2, List.length_set]⟩
  obtain ⟨e1, h1, rfl⟩ := zk_w_of X hk
  by_cases hki : k = i
  · subst hki
    rw [List.getElem?_set_self (List.getElem?_eq_some_iff.mp hi).1] at h1
    cases h1
    exact he
  · rw [List.getElem?_set_ne (Ne.symm hki)] at h1
    exact (h.at h1).kept (o _ (by dsimp only; omega))
/-- the constructors that a nest mate calls -/
def zk_nl : List (String × Nat × MethodName) := [("TurnQueues", 23, ⟨"TurnQueues$Reader", "<init>", "()V"⟩), ("TurnQueues$Reader", 11, ⟨"TurnQueues$Deeds", "<init>", "()V"⟩), ("TurnQueues$History", 11, ⟨"TurnQueues$Deeds", "<init>", "()V"⟩), ("TurnQueues$History", 70, ⟨"TurnQueues$State", "<init>", "()V"⟩), ("TurnQueues$State", 11, ⟨"TurnQueues$Row", "<init>", "()V"⟩), ("TurnQueues$Trial", 31, ⟨"TurnQueues$State", "<init>", "()V"⟩), ("TurnQueues$Scout", 36, ⟨"TurnQueues$State", "<init>", "()V"⟩), ("TurnQueues", 55, ⟨"TurnQueues$Deeds", "<init>", "()V"⟩)]
def zk_E (X : zz_X) (U : State) : Prop := va_K X.D zz_cl (zz_tys X) U ∧ (∀ q ∈ zk_nl, va_Nw (.methodLinkNest q.1 q.2.1 q.2.2 "TurnQueues") U) ∧ ∀ C ∈ ["TurnQueues$State", "TurnQueues$Numbers", "TurnQueues$Deeds"], va_AO C U
theorem zk_E.warm {X : zz_X} {s U : State} (hW : s.WarmedH U.vm) (h : zk_E X s) : zk_E X U := ⟨va_K.moved hW.alike h.1, fun q hq => va_Nw.warmM hW (h.2.1 q hq), fun C hC => va_AO.moved hW.alike (h.2.2 C hC)⟩
theorem zk_E.same {X : zz_X} {u U : State} (hv : U.vm = u.vm) (h : zk_E X u) : zk_E X U := by
  have ha : u.vm.Alike U.vm := by rw [hv]; exact Vm.Alike.refl u.vm
  exact ⟨va_K.moved ha h.1, fun q hq => va_Nw.same rfl hv.symm (h.2.1 q hq), fun C hC => va_AO.moved ha (h.2.2 C hC)⟩
def zk_ty (t : Nat) : Nat → FieldType := match t with
  | 0 => zz_t0
  | 1 => zz_t1
  | 2 => zz_t2
  | 3 => zz_t3
  | 4 => zz_t4
  | 5 => zz_t5
  | 6 => zz_t6
  | 7 => zz_t7
  | 8 => zz_t8
  | 9 => zz_t9
  | 10 => zz_t10
  | 11 => zz_t11
  | _ => zz_t12
def zk_R (t : Nat) : String := match t with
  | 0 => zz_R0
  | 1 => zz_R1
  | 2 => zz_R2
  | 3 => zz_R3
  | 4 => zz_R4
  | 5 => zz_R5
  | 6 => zz_R6
  | 7 => zz_R7
  | 8 => zz_R8
  | 9 => zz_R9
  | 10 => zz_R10
  | 11 => zz_R11
  | _ => zz_R12
def zk_fs (t : Nat) : List Value := (List.range (zz_nf t)).map (fun k => defaultValue (zk_ty t k))
theorem zk_fs_len (t : Nat) : (zk_fs t).length = zz_nf t := by unfold zk_fs; rw [List.length_map, List.length_range]
theorem zk_cl {t : Nat} (h : t < 13) : ∃ T : u_T, zz_cl[t]? = some (zk_R t, T, zz_nf t) ∧ (∀ w ∈ u_ws (zk_R t) T (zz_nf t), w ∈ zz_tb) ∧ (∀ k, k < zz_nf t → parseFieldDescriptor (T k).2.2.1 = some (zk_ty t k)) ∧ (∀ a, a < zz_nf t → ∀ b, b < zz_nf t → a ≠ b → (T a).2.1 ≠ (T b).2.1) := by
  match t, h with
  | 0, _ => exact ⟨zz_T0, rfl, zz_in0, zz_to0, zz_nm0⟩
  | 1, _ => exact ⟨zz_T1, rfl, zz_in1, zz_to1, zz_nm1⟩
  | 2, _ => exact ⟨zz_T2, rfl, zz_in2, zz_to2, zz_nm2⟩
  | 3, _ => exact ⟨zz_T3, rfl, zz_in3, zz_to3, zz_nm3⟩
  | 4, _ => exact ⟨zz_T4, rfl, zz_in4, zz_to4, zz_nm4⟩
  | 5, _ => exact ⟨zz_T5, rfl, zz_in5, zz_to5, zz_nm5⟩
  | 6, _ => exact ⟨zz_T6, rfl, zz_in6, zz_to6, zz_nm6⟩
  | 7, _ => exact ⟨zz_T7, rfl, zz_in7, zz_to7, zz_nm7⟩
  | 8, _ => exact ⟨zz_T8, rfl, zz_in8, zz_to8, zz_nm8⟩
  | 9, _ => exact ⟨zz_T9, rfl, zz_in9, zz_to9, zz_nm9⟩
  | 10, _ => exact ⟨zz_T10, rfl, zz_in10, zz_to10, zz_nm10⟩
  | 11, _ => exact ⟨zz_T11, rfl, zz_in11, zz_to11, zz_nm11⟩
  | 12, _ => exact ⟨zz_T12, rfl, zz_in12, zz_to12, zz_nm12⟩
  | n + 13, h => omega
/-- finished cells -/
def zk_m (X : zz_X) (a : Nat) (Ks : List (Nat × Nat × Nat)) : List va_E := Ks.mapIdx (fun r K => zz_ce X zs0 (a + r) K)
theorem zk_m_len (X : zz_X) (a : Nat) (Ks : List (Nat × Nat × Nat)) : (zk_m X a Ks).length = Ks.length := List.length_mapIdx
theorem zk_m_app (X : zz_X) (a : Nat) (Ks Ks' : List (Nat × Nat × Nat)) {n : Nat} (h : Ks.length = n) : zk_m X a Ks ++ zk_m X (a + n) Ks' = zk_m X a (Ks ++ Ks') := by
  subst h
  unfold zk_m
  rw [List.mapIdx_append]
  congr 1
  refine List.ext_getElem? fun i => ?_
  rw [List.getElem?_mapIdx, List.getElem?_mapIdx, show a + Ks.length + i = a + (i + Ks.length) by omega]
def zk_Q (X : zz_X) (L : List va_E) : Array Value → State → Outcome → State → Prop := va_Qv (S := Unit) (fun _ => True) (fun _ t => zk_H X L t.heap) (zz_A X)
/-- a place in a constructor comes to its end: the object (cell L0.length) has the fields fs, behind it M; at the end there is B1 -/
def zk_G (X : zz_X) (R : Room) (P : zz_P) (L0 : List va_E) (t : Nat) (B1 : List va_E) (pc : Nat) (ls st : List zz_V) (fs : List Value) (M : List va_E) (cells slots : Nat) : Prop :=
  ∀ (p : Program) (e : Env) (s : State) (m : MethodId) (args : Array Value) (below : List Frame) (meth : Method) (c : Code) (H : Heap) (locs : List Loc) (lm : Array Slot),
    p.tables.exec = Jvm.exec → c.code = P.bytes → c.maxLocals = P.maxL → meth.sig.returnType = none → meth.locks = false → meth.name = "<init>" → s.vm.findClass P.y.cls = some m.cls → (∀ w ∈ zz_tb, w.before args s = true) → zk_E X s → X.b ≤ s.heap.size → va_S (zz_A X) s.heap H locs → zk_H X (L0 ++ .inr (t, fs) :: M) H → lv_has lm P.maxL (zz_lv X ls) → ls.length = P.maxL →
    W p X.l e R s m args below meth c H locs cells slots (MQ below (zk_Q X (L0 ++ B1)) args s R.cells R.slots (zz_A X)) (F0 m pc lm (st.map (zz_toV X)))
section ZK
variable {X : zz_X} {R : Room} {P : zz_P} {L0 : List va_E} {t : Nat} {B1 : List va_E} {pc : Nat} {ls st : List zz_V} {fs : List Value} {M : List va_E} {cells slots : Nat}
theorem zk_L (L0 : List va_E) (t : Nat) (fs : List Value) (M : List va_E) {r : Nat} (hr : M.length + 1 = r) : (L0 ++ .inr (t, fs) :: M).length = L0.length + r := by
  rw [List.length_append, List.length_cons, hr]
theorem zk_aload {k : Fin 4} {q : Nat × Nat × Nat × Nat} (hd : decode P.bytes pc = .ok (.aload_n k, 1)) (h : ls[(k : Nat)]? = some (.inr (.inr (.inl q)))) (kk : zk_G X R P L0 t B1 (pc + 1) ls (.inr (.inr (.inl q)) :: st) fs M cells slots) : zk_G X R P L0 t B1 pc ls st fs M cells slots := by
  intro p e s m args below meth c H locs lm hx hb hml hr hlk hin hown hts hE hs0 hS hH hl hlen
  exact lv_aload_n hx hb hd rfl (zz_lv_at hl h (by intro z; cases z)) (kk p e s m args below meth c H locs lm hx hb hml hr hlk hin hown hts hE hs0 hS hH hl hlen)
theorem zk_iload {k : Fin 4} {i : Int} (hd : decode P.bytes pc = .ok (.iload_n k, 1)) (h : ls[(k : Nat)]? = some (.inl i)) (kk : zk_G X R P L0 t B1 (pc + 1) ls (.inl i :: st) fs M cells slots) : zk_G X R P L0 t B1 pc ls st fs M cells slots := by
  intro p e s m args below meth c H locs lm hx hb hml hr hlk hin hown hts hE hs0 hS hH hl hlen
  exact lv_iload_n hx hb hd rfl (zz_lv_at hl h (by intro z; cases z)) (kk p e s m args below meth c H locs lm hx hb hml hr hlk hin hown hts hE hs0 hS hH hl hlen)
theorem zk_ic {n : Int} (hd : decode P.bytes pc = .ok (.iconst n, 1)) (kk : zk_G X R P L0 t B1 (pc + 1) ls (.inl n :: st) fs M cells slots) : zk_G X R P L0 t B1 pc ls st fs M cells slots := by
  intro p e s m args below meth c H locs lm hx hb hml hr hlk hin hown hts hE hs0 hS hH hl hlen
  exact lv_iconst hx hb hd rfl (kk p e s m args below meth c H locs lm hx hb hml hr hlk hin hown hts hE hs0 hS hH hl hlen)
theorem zk_bi {n : Int} (hd : decode P.bytes pc = .ok (.bipush n, 2)) (hn : (Int8.ofInt n).toInt32 = Int32.ofInt n) (kk : zk_G X R P L0 t B1 (pc + 2) ls (.inl n :: st) fs M cells slots) : zk_G X R P L0 t B1 pc ls st fs M cells slots := by
  intro p e s m args below meth c H locs lm hx hb hml hr hlk hin hown hts hE hs0 hS hH hl hlen
  exact lv_bipush hx hb hd hn (kk p e s m args below meth c H locs lm hx hb hml hr hlk hin hown hts hE hs0 hS hH hl hlen)
theorem zk_si {n : Int} (hd : decode P.bytes pc = .ok (.sipush n, 3)) (hn : (Int16.ofInt n).toInt32 = Int32.ofInt n) (kk : zk_G X R P L0 t B1 (pc + 3) ls (.inl n :: st) fs M cells slots) : zk_G X R P L0 t B1 pc ls st fs M cells slots := by
  intro p e s m args below meth c H locs lm hx hb hml hr hlk hin hown hts hE hs0 hS hH hl hlen
  exact lv_sipush hx hb hd hn (kk p e s m args below meth c H locs lm hx hb hml hr hlk hin hown hts hE hs0 hS hH hl hlen)
theorem zk_dup {q : Nat × Nat × Nat × Nat} (hd : decode P.bytes pc = .ok (.dup, 1)) (kk : zk_G X R P L0 t B1 (pc + 1) ls (.inr (.inr (.inl q)) :: .inr (.inr (.inl q)) :: st) fs M cells slots) : zk_G X R P L0 t B1 pc ls (.inr (.inr (.inl q)) :: st) fs M cells slots := by
  intro p e s m args below meth c H locs lm hx hb hml hr hlk hin hown hts hE hs0 hS hH hl hlen
  exact lv_dup hx hb hd rfl (kk p e s m args below meth c H locs lm hx hb hml hr hlk hin hown hts hE hs0 hS hH hl hlen)
theorem zk_ist {k : Fin 4} {i : Int} {ls' : List zz_V} (hd : decode P.bytes pc = .ok (.istore_n k, 1)) (h : zz_st ls (k : Nat) (.inl i) = some ls') (hk : (k : Nat) < P.maxL) (kk : zk_G X R P L0 t B1 (pc + 1) ls' st fs M cells slots) : zk_G X R P L0 t B1 pc ls (.inl i :: st) fs M cells slots := by
  intro p e s m args below meth c H locs lm hx hb hml hr hlk hin hown hts hE hs0 hS hH hl hlen
  refine lv_istore_n hx hb hd rfl hl hk rfl (fun lm' hl' => ?_)
  obtain ⟨q1, q2, -, q4⟩ := zz_lv_set h hl'
  exact kk p e s m args below meth c H locs lm' hx hb hml hr hlk hin hown hts hE hs0 hS hH q1 (q2.trans hlen)
theorem zk_inc {k : Nat} {n x : Int} {ls' : List zz_V} (hd : decode P.bytes pc = .ok (.iinc k n, 3)) (h0 : ls[k]? = some (.inl x)) (h : zz_st ls k (.inl (zw (x + n))) = some ls') (hk : k < P.maxL) (kk : zk_G X R P L0 t B1 (pc + 3) ls' st fs M cells slots) : zk_G X R P L0 t B1 pc ls st fs M cells slots := by
  intro p e s m args below meth c H locs lm hx hb hml hr hlk hin hown hts hE hs0 hS hH hl hlen
  obtain ⟨kx, hkx⟩ := List.getElem?_of_mem (zz_lv_mem (X := X) h0 (by intro z; cases z))
  refine lv_iinc hx hb hd hl (v := Int32.ofInt (zw (x + n))) hkx (by rw [zw_of, Int32.ofInt_add]) hk rfl (fun lm' hl' => ?_)
  obtain ⟨q1, q2, -, q4⟩ := zz_lv_set h hl'
  exact kk p e s m args below meth c H locs lm' hx hb hml hr hlk hin hown hts hE hs0 hS hH q1 (q2.trans hlen)
theorem zk_goto {off : Int} {tgt : Nat} (hd : decode P.bytes pc = .ok (.goto off, 3)) (ht : (pc : Int) + off = (tgt : Int)) (kk : zk_G X R P L0 t B1 tgt ls st fs M cells slots) : zk_G X R P L0 t B1 pc ls st fs M cells slots := by
  intro p e s m args below meth c H locs lm hx hb hml hr hlk hin hown hts hE hs0 hS hH hl hlen
  exact lv_goto hx hb hd ht (kk p e s m args below meth c H locs lm hx hb hml hr hlk hin hown hts hE hs0 hS hH hl hlen)
theorem zk_ge {x y : Int} {off : Int} {tgt : Nat} (hd : decode P.bytes pc = .ok (.if_icmp .ge off, 3)) (ht : (pc : Int) + off = (tgt : Int)) (o1 : zz_in y) (o2 : zz_in x) (kt : y ≤ x → zk_G X R P L0 t B1 tgt ls st fs M cells slots) (kf : x < y → zk_G X R P L0 t B1 (pc + 3) ls st fs M cells slots) : zk_G X R P L0 t B1 pc ls (.inl y :: .inl x :: st) fs M cells slots := by
  intro p e s m args below meth c H locs lm hx hb hml hr hlk hin hown hts hE hs0 hS hH hl hlen
  exact lv_icmp_ge hx hb hd ht (fun z => kt ((zz_le0 o1 o2).mp z) p e s m args below meth c H locs lm hx hb hml hr hlk hin hown hts hE hs0 hS hH hl hlen) (fun z => kf (Int.not_le.mp (fun q => z ((zz_le0 o1 o2).mpr q))) p e s m args below meth c H locs lm hx hb hml hr hlk hin hown hts hE hs0 hS hH hl hlen)
theorem zk_gt {x y : Int} {off : Int} {tgt : Nat} (hd : decode P.bytes pc = .ok (.if_icmp .gt off, 3)) (ht : (pc : Int) + off = (tgt : Int)) (o1 : zz_in y) (o2 : zz_in x) (kt : y < x → zk_G X R P L0 t B1 tgt ls st fs M cells slots) (kf : x ≤ y → zk_G X R P L0 t B1 (pc + 3) ls st fs M cells slots) : zk_G X R P L0 t B1 pc ls (.inl y :: .inl x :: st) fs M cells slots := by
  intro p e s m args below meth c H locs lm hx hb hml hr hlk hin hown hts hE hs0 hS hH hl hlen
  exact lv_icmp_gt hx hb hd ht (fun z => kt ((zz_lt0 o1 o2).mp z) p e s m args below meth c H locs lm hx hb hml hr hlk hin hown hts hE hs0 hS hH hl hlen) (fun z => kf (Int.not_lt.mp (fun q => z ((zz_lt0 o1 o2).mpr q))) p e s m args below meth c H locs lm hx hb hml hr hlk hin hown hts hE hs0 hS hH hl hlen)
theorem zk_max {x y : Int} {idx : Nat} (hd : decode P.bytes pc = .ok (.invokestatic idx, 3)) (hw : Cond.methodLink P.y.cls idx Lib.Math.max.name ∈ zz_tb) (o1 : zz_in y) (o2 : zz_in x) (hf : 1 ≤ R.frames) (hlo : zz_cat st + 13 ≤ R.locals) (hc : cells ≤ R.cells) (hs : slots ≤ R.slots) (kk : zk_G X R P L0 t B1 (pc + 3) ls (.inl (max x y) :: st) fs M cells slots) : zk_G X R P L0 t B1 pc ls (.inl y :: .inl x :: st) fs M cells slots := by
  intro p e s m args below meth c H locs lm hx hb hml hr hlk hin hown hts hE hs0 hS hH hl hlen
  refine va_mmax hx hb (hml.trans hl.1.symm) hown (hts _ hw) (hts _ zv_t_max) (hts _ zv_i_mat) (hts _ zv_c_max) hf (by rw [zz_cat_of]; exact hlo) hc hs hd ?_
  have k2 := kk p e s m args below meth c H locs lm hx hb hml hr hlk hin hown hts hE hs0 hS hH hl hlen
  have ev : Int32.ofInt (max x y) = if Int32.ofInt x < Int32.ofInt y then Int32.ofInt y else Int32.ofInt x := by
    by_cases q : x < y
    · rw [if_pos ((zz_lt0 o2 o1).mpr q), Int.max_eq_right (by omega)]
    · rw [if_neg (fun z => q ((zz_lt0 o2 o1).mp z)), Int.max_eq_left (by omega)]
  simp only [List.map_cons, zz_toV, ev] at k2
  exact k2
theorem zk_obj {idx : Nat} {q : Nat × Nat × Nat × Nat} (hd : decode P.bytes pc = .ok (.invokespecial idx, 3)) (hw : ∀ w ∈ [Cond.methodLink P.y.cls idx Lib.objectInit, Cond.instanceMethod Lib.objectInit, Cond.code Lib.objectInit ⟨#[0xb1]⟩ 1 none], w ∈ zz_tb) (hf : 1 ≤ R.frames) (hlo : zz_cat st + 12 ≤ R.locals) (kk : zk_G X R P L0 t B1 (pc + 3) ls st fs M cells slots) : zk_G X R P L0 t B1 pc ls (.inr (.inr (.inl q)) :: st) fs M cells slots := by
  intro p e s m args below meth c H locs lm hx hb hml hr hlk hin hown hts hE hs0 hS hH hl hlen
  exact W.objInit hx hb hown (hts _ (hw _ List.mem_cons_self)) (hts _ (hw _ (List.mem_cons_of_mem _ List.mem_cons_self))) (hts _ (hw _ (List.mem_cons_of_mem _ (List.mem_cons_of_mem _ List.mem_cons_self)))) rfl (hl.1.trans hml.symm) rfl hd hf (by show 2 * 0 + ((st.map (zz_toV X)).map fun v => v.category).sum + 12 ≤ _; rw [zz_cat_of]; omega) (kk p e s m args below meth c H locs lm hx hb hml hr hlk hin hown hts hE hs0 hS hH hl hlen)
/-- the end -/
theorem zk_ret (hd : decode P.bytes pc = .ok (.return_, 1)) (hB : .inr (t, fs) :: M = B1) (hc : cells ≤ R.cells) (hs : slots ≤ R.slots) : zk_G X R P L0 t B1 pc ls [] fs M cells slots := by
  intro p e s m args below meth c H locs lm hx hb hml hr hlk hin hown hts hE hs0 hS hH hl hlen
  subst hB
  exact W.widen hc hs (W.vret hx hb hr (fun u hu _ => ⟨⟨(), rfl, trivial, by show zk_H X _ u.heap; rw [hu]; exact hH⟩, hS.F hu⟩) hS.2.2 hd)
theorem zk_S {A : Nat → Prop} {H0 H H1 : Heap} {locs : List Loc} (hS : va_S A H0 H locs) (z : H1.size = H.size + 1) (o : ∀ q : Nat, q < H.size → H1[q]? = H[q]?) : va_S A H0 H1 locs := ⟨Nat.le_trans hS.1 (by omega), fun x h1 h2 => (o x (Nat.lt_of_lt_of_le h1 hS.1)).trans (hS.2.1 x h1 h2), hS.2.2⟩
/-- a new object -/
theorem zk_new {t' r idx : Nat} (hd : decode P.bytes pc = .ok (.new idx, 3)) (ht : t' < 13) (hw : ∀ w ∈ [Cond.classLink P.y.cls idx (zk_R t'), Cond.instantiable (zk_R t') (zz_nf t'), Cond.initialized (zk_R t')], w ∈ zz_tb) (hr : M.length + 1 = r) (hc : cells + 1 ≤ R.cells) (hs : slots + zz_nf t' ≤ R.slots) (kk : zk_G X R P L0 t B1 (pc + 3) ls (zP t' 0 0 (X.b + L0.length + r) :: st) fs (M ++ [.inr (t', zk_fs t')]) (cells + 1) (slots + zz_nf t')) : zk_G X R P L0 t B1 pc ls st fs M cells slots := by
  intro p e s m args below meth c H locs lm hx hb hml hrt hlk hin hown hts hE hs0 hS hH hl hlen
  obtain ⟨T, hcc, hiw, hty, hnm⟩ := zk_cl ht
  have hKn := hE.1.1 t' _ hcc
  have hsz : H.size = X.b + L0.length + r := by rw [hH.2, zk_L L0 t fs M hr]; omega
  refine W.newcK hx hb hown (hts _ (hw _ List.mem_cons_self)) (hts _ (hw _ (List.mem_cons_of_mem _ List.mem_cons_self))) (hts _ (hw _ (List.mem_cons_of_mem _ (List.mem_cons_of_mem _ List.mem_cons_self)))) rfl hd hc hs hKn.2.1 hsz fun H1 kC hkC e1 z1 o1 => ?_
  rw [← hsz] at e1 z1 o1
  have hH1 := zk_H.push (e := .inr (t', zk_fs t')) hH z1 o1 (by
    rw [← hH.2]
    refine ⟨_, hcc, (u_born (zk_ty t') hts hiw hKn hkC e1 hty).to (fun j hj => ?_)⟩
    unfold vp_V zk_fs
    rw [List.getD_eq_getElem?_getD, List.getElem?_map, List.getElem?_range hj]
    rfl)
  exact kk p e s m args below meth c H1 locs lm hx hb hml hrt hlk hin hown hts hE hs0 (zk_S hS z1 o1) (by rw [List.append_assoc] at hH1; exact hH1) hl hlen
end ZK
