/-! JUDGEMENTS over the pure machine: zz_G (a place in a method comes to its end), zz_T (a method's contract). -/
def zz_len : Instr → Nat
  | .iload_n _ | .lload_n _ | .aload_n _ | .istore_n _ | .astore_n _ | .iconst _ | .lconst _ | .aconst_null | .iadd | .isub | .imul | .idiv | .irem | .iand | .ior | .ishr | .iushr | .i2b | .i2l | .lsub | .land | .lcmp | .lshl | .lshr | .lushr | .dup | .dup2 | .pop | .arraylength | .iaload | .baload | .aaload | .iastore | .bastore | .ireturn | .areturn | .return_ => 1
  | .iload _ | .lload _ | .aload _ | .istore _ | .astore _ | .bipush _ | .ldc _ => 2
  | .sipush _ | .iinc _ _ | .getfield _ | .putfield _ | .ldc_w _ | .ldc2_w _ | .goto _ | .ifCond _ _ | .if_icmp _ _ | .ifnull _ | .ifnonnull _ | .invokevirtual _ | .invokestatic _ => 3
  | _ => 0
def zz_tg (code : List zz_C) (pc : Nat) (off : Int) (t : Nat) : Bool := match code[t]? with
  | some e => decide ((pc : Int) + off = (e.1 : Int))
  | none => false
def zz_end : Instr → Bool
  | .ireturn | .areturn | .return_ | .goto _ => true
  | _ => false
def zz_fT (f : Nat) : String × String × String × Bool := match zz_cl[f / 100]? with
  | some c => c.2.1 (f % 100)
  | none => ("", "", "", false)
/-- what else is asked of a row of code, by its instruction -/
def zz_ck (own : String) (maxL : Nat) (code : List zz_C) (pc len : Nat) (ins : Instr) (ts : List Nat) : Bool := match ins, ts with
  | .goto o, ts => decide (len = 3) && zz_tg code pc o (ts.getD 0 0)
  | .ifCond _ o, ts => decide (len = 3) && zz_tg code pc o (ts.getD 0 0)
  | .if_icmp _ o, ts => decide (len = 3) && zz_tg code pc o (ts.getD 0 0)
  | .ifnull o, ts => decide (len = 3) && zz_tg code pc o (ts.getD 0 0)
  | .ifnonnull o, ts => decide (len = 3) && zz_tg code pc o (ts.getD 0 0)
  | .tableswitch d lo hi offs, ts => decide (hi = lo + offs.size - 1) && decide (ts.length = offs.size + 1) && zz_tg code pc d (ts.getD 0 0) && (List.range offs.size).all (fun k => zz_tg code pc (offs.getD k 0) (ts.getD (k + 1) 0))
  | .lookupswitch d ps, ts => (ps.toList.zip (ps.toList.drop 1)).all (fun (a, next) => decide (a.1 < next.1)) && zz_tg code pc d (ts.getD 0 0) && (List.range ps.size).all (fun k => zz_tg code pc (ps.getD k (0, 0)).2 (ts.getD (k + 1) 0))
  | .iconst n, _ => decide (len = 1) && decide (-10 < n) && decide (n < 10)
  | .bipush n, _ => decide (len = 2) && decide ((Int8.ofInt n).toInt32 = Int32.ofInt n) && decide (-200 < n) && decide (n < 200)
  | .sipush n, _ => decide (len = 3) && decide ((Int16.ofInt n).toInt32 = Int32.ofInt n) && decide (-40000 < n) && decide (n < 40000)
  | .getfield _, ts => decide (len = 3) && decide (ts.getD 0 0 / 100 < 13) && decide (ts.getD 0 0 % 100 < zz_nf (ts.getD 0 0 / 100))
  | .putfield _, ts => decide (len = 3) && decide (ts.getD 0 0 / 100 < 13) && decide (ts.getD 0 0 % 100 < zz_nf (ts.getD 0 0 / 100)) && decide ((zz_fT (ts.getD 0 0)).2.2.2 = false)
  | .iinc k n, _ => decide (len = 3) && decide (k < maxL) && decide (-1000 < n) && decide (n < 1000)
  | .ldc i, ts => decide (len = 2) && (match ts with
    | [0, k] => decide ((zz_sr.getD k ("", 0, "")).1 = own) && decide ((zz_sr.getD k ("", 0, "")).2.1 = i) && decide (k < zz_nS)
    | [1, v] => decide (v < 1000000)
    | _ => false)
  | .ldc_w i, ts => decide (len = 3) && (match ts with
    | [0, k] => decide ((zz_sr.getD k ("", 0, "")).1 = own) && decide ((zz_sr.getD k ("", 0, "")).2.1 = i) && decide (k < zz_nS)
    | [1, v] => decide (v < 1000000)
    | _ => false)
  | .invokestatic i, ts => decide (len = 3) && (match ts with
    | [n, k] => decide (zz_nl[k]? = some (own, i, zz_mn n))
    | _ => true)
  | .ldc2_w _, ts => decide (len = 3) && decide (ts.getD 0 0 < 1000000)
  | ins, _ => decide (len = zz_len ins)
/-- a row of code is what the bytes say; its targets are rows -/
def zz_dc (own : String) (bytes : ByteArray) (maxL : Nat) (code : List zz_C) (e : zz_C) (j : Nat) : Bool :=
  decide (decode bytes e.1 = .ok (e.2.1, e.2.2.1)) &&
  (match code[j + 1]? with
    | some e' => decide (e'.1 = e.1 + e.2.2.1)
    | none => zz_end e.2.1) && zz_ck own maxL code e.1 e.2.2.1 e.2.1 e.2.2.2
/-- the tables' words that a row of code wants -/
def zz_wd (mn : Nat → MethodName) (own : String) (e : zz_C) : List Cond := match e.2.1, e.2.2.2 with
  | .getfield i, f :: _ => [.fieldLink own i (zz_fT f).1 (zz_fT f).2.1 (zz_fT f).2.2.1]
  | .putfield i, f :: _ => [.fieldLink own i (zz_fT f).1 (zz_fT f).2.1 (zz_fT f).2.2.1]
  | .invokevirtual i, n :: _ => [.methodLink own i (mn n)]
  | .invokestatic i, [n] => [.methodLink own i (mn n)]
  | .ldc i, [1, v] => [.constant own i (Int32.ofInt (v : Nat))]
  | .ldc_w i, [1, v] => [.constant own i (Int32.ofInt (v : Nat))]
  | .ldc2_w i, v :: _ => [.constantLong own i (Int64.ofInt (v : Nat))]
  | _, _ => []
def zz_pc (P : zz_P) (j : Nat) : Nat := match P.code[j]? with
  | some e => e.1
  | none => 0
/-- the static ones -/
def zz_isS (n : Nat) : Bool := [93, 94, 95, 101, 119, 178, 180].contains n
def zz_okP (P : zz_P) : Prop := (P.code.zipIdx.all (fun q => zz_dc P.y.cls P.bytes P.maxL P.code q.1 q.2)) = true ∧ ∀ w ∈ P.code.flatMap (zz_wd zz_mn P.y.cls), w ∈ zz_tb
def zz_room (d : Nat) : Room := { frames := d, cells := 0, slots := 0, locals := 40 * d }
def zz_Q (X : zz_X) (Post : Option zz_V → zz_M → Prop) : Array Value → State → Outcome → State → Prop := fun _ st o t => (∃ (r : Option zz_V) (σ : zz_M), o = .returned (r.map (zz_toV X)) ∧ (∀ v, r = some v → zz_ok X v) ∧ Post r σ ∧ zz_R X σ t.heap) ∧ va_F (zz_A X) st t
def zz_G (X : zz_X) (d : Nat) (P : zz_P) (j : Nat) (ls st : List zz_V) (σ : zz_M) (Post : Option zz_V → zz_M → Prop) : Prop :=
  ∀ (p : Program) (e : Env) (s : State) (m : MethodId) (args : Array Value) (below : List Frame) (meth : Method) (c : Code) (H : Heap) (locs : List Loc) (lm : Array Slot),
    zz_okP P → p.tables.exec = Jvm.exec → c.code = P.bytes → c.maxLocals = P.maxL → meth.sig.returnType = P.ret → meth.locks = false → s.vm.findClass P.y.cls = some m.cls → (∀ w ∈ zz_tb, w.before args s = true) → zz_E X s s.heap → va_S (zz_A X) s.heap H locs → zz_R X σ H → lv_has lm P.maxL (zz_lv X ls) → ls.length = P.maxL → (∀ v ∈ ls, zz_ok X v) → (∀ v ∈ st, zz_ok X v) →
    W p X.l e (zz_room d) s m args below meth c H locs 0 0 (MQ below (zz_Q X Post) args s 0 0 (zz_A X)) (F0 m (zz_pc P j) lm (st.map (zz_toV X)))
theorem zw_in (x : Int) : zz_in (zw x) := by
  unfold zz_in zw
  omega
theorem zw_id {x : Int} (h1 : -2147483648 ≤ x) (h2 : x < 2147483648) : zw x = x := by
  unfold zw
  omega
theorem zw_bm (x : Int) : x.bmod (2 ^ 32) = zw x := by
  have e : ((2 ^ 32 : Nat) : Int) = 4294967296 := rfl
  rw [Int.bmod_def, e]
  unfold zw
  split <;> omega
theorem zz_ti (x : Int) : (Int32.ofInt x).toInt = zw x := by
  rw [Int32.toInt_ofInt, zw_bm]
theorem zz_tid {x : Int} (h : zz_in x) : (Int32.ofInt x).toInt = x := by
  rw [zz_ti]
  exact zw_id h.1 h.2
theorem zw_of (x : Int) : Int32.ofInt (zw x) = Int32.ofInt x := by
  rw [← zz_ti, Int32.ofInt_toInt]
theorem zz_i32 (v : Int32) : zz_in v.toInt := ⟨v.le_toInt, v.toInt_lt⟩
theorem zz_b_of (f : Int32 → Int32 → Int32) (x y : Int) : Int32.ofInt (zz_b f x y) = f (Int32.ofInt x) (Int32.ofInt y) := by
  unfold zz_b
  rw [Int32.ofInt_toInt]
theorem zz_l_of (f : Int64 → Int64 → Int64) (x y : Int) : Int64.ofInt (zz_l f x y) = f (Int64.ofInt x) (Int64.ofInt y) := by
  unfold zz_l
  rw [Int64.ofInt_toInt]
theorem zz_i64 (v : Int64) : zz_inL v.toInt := ⟨v.le_toInt, v.toInt_lt⟩
theorem zz_Lbm {x : Int} (h : zz_inL x) : (Int64.ofInt x).toInt = x := by
  obtain ⟨h1, h2⟩ := h
  have e : ((2 ^ 64 : Nat) : Int) = 18446744073709551616 := rfl
  rw [Int64.toInt_ofInt, Int.bmod_def, e]
  split <;> omega
theorem zz_eq0 {x y : Int} (hx : zz_in x) (hy : zz_in y) : Int32.ofInt x = Int32.ofInt y ↔ x = y := by
  rw [← Int32.toInt_inj, zz_tid hx, zz_tid hy]
theorem zz_lt0 {x y : Int} (hx : zz_in x) (hy : zz_in y) : Int32.ofInt x < Int32.ofInt y ↔ x < y := by
  rw [Int32.lt_iff_toInt_lt, zz_tid hx, zz_tid hy]
theorem zz_le0 {x y : Int} (hx : zz_in x) (hy : zz_in y) : Int32.ofInt x ≤ Int32.ofInt y ↔ x ≤ y := by
  rw [Int32.le_iff_toInt_le, zz_tid hx, zz_tid hy]

theorem zz_ws_at (X : zz_X) (σ : zz_M) {i : Nat} (h : i < zz_n) : (zz_ws X σ)[i]? = some (X.b + i, zz_ce X σ (X.b + i) (zz_K i)) := by
  unfold zz_ws
  rw [List.getElem?_map, List.getElem?_range h]
  rfl
theorem zz_ws_D (X : zz_X) (σ : zz_M) : va_D (zz_A X) (zz_ws X σ) := by
  have key : ∀ (k : Nat) (q : Nat × va_E), (zz_ws X σ)[k]? = some q → q.1 = X.b + k := by
    intro k q h
    have hl := (List.getElem?_eq_some_iff.mp h).1
    unfold zz_ws at hl
    rw [List.length_map, List.length_range] at hl
    rw [zz_ws_at X σ hl] at h
    cases h
    rfl
  refine ⟨fun i j p q hp hq e => ?_, fun k q h => ?_⟩
  · rw [key i p hp, key j q hq] at e
    omega
  · show X.b ≤ q.1
    rw [key k q h]
    omega
theorem zz_lv_mem {X : zz_X} {ls : List zz_V} {k : Nat} {v : zz_V} (h : ls[k]? = some v) (hv : v ≠ zU) : (k, zz_toV X v) ∈ zz_lv X ls := by
  refine List.mem_filterMap.mpr ⟨k, List.mem_range.mpr (List.getElem?_eq_some_iff.mp h).1, ?_⟩
  rw [h]
  rcases v with i | i | q | n
  · rfl
  · rfl
  · rfl
  · match n, hv with
    | 0, _ => rfl
    | 1, hv => exact absurd rfl hv
    | n + 2, _ => rfl
theorem zz_lv_of {X : zz_X} {ls : List zz_V} {q : Nat × Value} (h : q ∈ zz_lv X ls) : ∃ v, ls[q.1]? = some v ∧ v ≠ zU ∧ q.2 = zz_toV X v := by
  obtain ⟨k, -, h2⟩ := List.mem_filterMap.mp h
  cases hv : ls[k]? with
  | none => rw [hv] at h2; cases h2
  | some v =>
    rw [hv] at h2
    rcases v with i | i | r | n
    · cases h2; exact ⟨_, hv, (by intro z; cases z), rfl⟩
    · cases h2; exact ⟨_, hv, (by intro z; cases z), rfl⟩
    · cases h2; exact ⟨_, hv, (by intro z; cases z), rfl⟩
    · match n, hv, h2 with
      | 0, hv, h2 => cases h2; exact ⟨_, hv, (by intro z; cases z), rfl⟩
      | 1, hv, h2 => cases h2
      | n + 2, hv, h2 => cases h2; exact ⟨_, hv, (by intro z; cases z), rfl⟩
theorem zz_lv_at {X : zz_X} {lm : Array Slot} {n : Nat} {ls : List zz_V} {k : Nat} {v : zz_V} (hl : lv_has lm n (zz_lv X ls)) (h : ls[k]? = some v) (hv : v ≠ zU) : lm[k]? = some (.val (zz_toV X v)) := hl.2.2 _ (zz_lv_mem h hv)
theorem zz_lv_set {X : zz_X} {lm : Array Slot} {n : Nat} {ls ls' : List zz_V} {k : Nat} {v : zz_V} (hst : zz_st ls k v = some ls') (hl : lv_has lm n ((k, zz_toV X v) :: (zz_lv X ls).filter (fun q => !(q.1 == k) && !(q.1 + 1 == k && q.2.category == 2)))) : lv_has lm n (zz_lv X ls') ∧ ls'.length = ls.length ∧ k < ls.length ∧ ∀ w ∈ ls', w = v ∨ w ∈ ls := by
  have hk : k < ls.length := by
    unfold zz_st at hst
    by_cases h : k < ls.length
    · exact h
    · rw [decide_eq_false h] at hst; cases hst
  have hset : ls' = ls.set k v ∧ ∀ k' i, k = k' + 1 → ls[k']? ≠ some (zL i) := by
    unfold zz_st at hst
    rw [decide_eq_true hk] at hst
    cases k with
    | zero => cases hst; exact ⟨rfl, fun k' i h => by omega⟩
    | succ k =>
      dsimp only at hst
      cases hq : ls[k]? with
      | none =>
        rw [hq] at hst
        cases hst
        exact ⟨rfl, fun k' i h z => by
          have : k' = k := by omega
          subst this
          rw [hq] at z; cases z⟩
      | some w =>
        rw [hq] at hst
        rcases w with i | i | q | m
        · cases hst; exact ⟨rfl, fun k' i h z => by
            have : k' = k := by omega
            subst this
            rw [hq] at z; cases z⟩
        · cases hst
        · cases hst; exact ⟨rfl, fun k' i h z => by
            have : k' = k := by omega
            subst this
            rw [hq] at z; cases z⟩
        · cases hst; exact ⟨rfl, fun k' i h z => by
            have : k' = k := by omega
            subst this
            rw [hq] at z; cases z⟩
  obtain ⟨rfl, hlong⟩ := hset
  refine ⟨⟨hl.1, hl.2.1, fun q hq => hl.2.2 q ?_⟩, by simp, hk, fun w hw => ?_⟩
  · obtain ⟨w, h1, h2, h3⟩ := zz_lv_of hq
    by_cases e : q.1 = k
    · rw [e, List.getElem?_set_self hk] at h1
      cases h1
      rw [show q = (k, zz_toV X v) from Prod.ext e h3]
      exact List.mem_cons_self
    · rw [List.getElem?_set_ne (Ne.symm e)] at h1
      refine List.mem_cons_of_mem _ (List.mem_filter.mpr ⟨?_, ?_⟩)
      · rw [show q = (q.1, zz_toV X w) from Prod.ext rfl h3]
        exact zz_lv_mem h1 h2
      · simp only [Bool.and_eq_true, Bool.not_eq_true', beq_eq_false_iff_ne, Bool.and_eq_false_iff]
        refine ⟨e, ?_⟩
        by_cases e2 : q.1 + 1 = k
        · right
          rw [h3]
          rcases w with i | i | r | m
          · intro z; cases z
          · exact absurd h1 (hlong q.1 i e2.symm)
          · intro z; cases z
          · match m with
            | 0 => intro z; cases z
            | 1 => intro z; cases z
            | m + 2 => intro z; cases z
        · left; exact e2
  · obtain ⟨i, hi, e⟩ := List.mem_iff_getElem.mp hw
    rw [List.getElem_set] at e
    split at e
    · exact Or.inl e.symm
    · right; rw [← e]; exact List.getElem_mem _
