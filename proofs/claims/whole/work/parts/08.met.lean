/-! ENDS, CONTRACTS, CALLS. -/
section ZE
variable {X : zz_X} {d : Nat} {P : zz_P} {j : Nat} {ls st : List zz_V} {σ : zz_M} {Post : Option zz_V → zz_M → Prop}
def zz_i1 (code : List zz_C) (j : Nat) (st : List zz_V) : Option Int := match code[j]? with
  | some e => match e.2.1, st with
    | .ireturn, [.inl v] => some v
    | _, _ => none
  | none => none
/-- a whole number, a truth value is the answer -/
theorem zz_ri {v : Int} (h : zz_i1 P.code j st = some v) (hrt : P.ret = some .int ∨ (P.ret = some .boolean ∧ (v = 0 ∨ v = 1))) (hp : Post (some (zI v)) σ) : zz_G X d P j ls st σ Post := by
  intro p e s m args below meth c H locs lm hok hx hb hml hr hlk hown hts hE hS hR hl hlen hls hst
  unfold zz_i1 at h
  cases he : P.code[j]? with
  | none => rw [he] at h; cases h
  | some en =>
    rw [he] at h
    dsimp only at h
    obtain ⟨pc, ins, len, ts⟩ := en
    obtain ⟨r1, r2, r3, r4, r5⟩ := zz_row hok he
    rw [r5]
    dsimp only at h r1 r2 r3 r4 ⊢
    split at h
    · cases h
      dsimp only [zz_ck] at r3
      have el := of_decide_eq_true r3
      subst el
      have o1 : zz_in v := hst _ List.mem_cons_self
      have hq : ∀ t : State, t.heap = H → s.WarmedH t.vm → zz_Q X Post args s (.returned (some (.int (Int32.ofInt v)))) t := fun t ht _ => ⟨⟨some (zI v), σ, rfl, fun w hw => by cases hw; exact o1, hp, by rw [ht]; exact hR⟩, hS.F ht⟩
      rcases hrt with hrt | ⟨hrt, hv⟩
      · exact W.iret hx hb (hr.trans hrt) hq hS.2.2 r1 hlk
      · refine W.zret hx hb (hr.trans hrt) ?_ hq hS.2.2 r1 hlk
        rcases hv with rfl | rfl <;> decide
    · cases h
def zz_i2 (code : List zz_C) (j : Nat) (st : List zz_V) : Option zz_V := match code[j]? with
  | some e => match e.2.1, st with
    | .areturn, [.inr (.inr (.inl q))] => some (.inr (.inr (.inl q)))
    | .areturn, [.inr (.inr (.inr 0))] => some (.inr (.inr (.inr 0)))
    | _, _ => none
  | none => none
theorem zz_ra {v : zz_V} {n : String} (h : zz_i2 P.code j st = some v) (hrt : P.ret = some (.object n)) (hp : Post (some v) σ) : zz_G X d P j ls st σ Post := by
  intro p e s m args below meth c H locs lm hok hx hb hml hr hlk hown hts hE hS hR hl hlen hls hst
  unfold zz_i2 at h
  cases he : P.code[j]? with
  | none => rw [he] at h; cases h
  | some en =>
    rw [he] at h
    dsimp only at h
    obtain ⟨pc, ins, len, ts⟩ := en
    obtain ⟨r1, r2, r3, r4, r5⟩ := zz_row hok he
    rw [r5]
    dsimp only at h r1 r2 r3 r4 ⊢
    split at h
    · rename_i q
      cases h
      dsimp only [zz_ck] at r3
      have el := of_decide_eq_true r3
      subst el
      have o1 := hst _ List.mem_cons_self
      exact W.aret hx hb (hr.trans hrt) (Or.inl ⟨_, rfl⟩) (Or.inr ⟨q.2.2.2, rfl⟩) (fun t ht _ => ⟨⟨some (.inr (.inr (.inl q))), σ, rfl, fun w hw => by cases hw; exact o1, hp, by rw [ht]; exact hR⟩, hS.F ht⟩) hS.2.2 r1 hlk
    · cases h
      dsimp only [zz_ck] at r3
      have el := of_decide_eq_true r3
      subst el
      have o1 := hst _ List.mem_cons_self
      exact W.aret hx hb (hr.trans hrt) (Or.inl ⟨_, rfl⟩) (Or.inl rfl) (fun t ht _ => ⟨⟨some zN, σ, rfl, fun w hw => by cases hw; exact o1, hp, by rw [ht]; exact hR⟩, hS.F ht⟩) hS.2.2 r1 hlk
    · cases h
def zz_i3 (code : List zz_C) (j : Nat) (st : List zz_V) : Option Unit := match code[j]? with
  | some e => match e.2.1, st with
    | .return_, [] => some ()
    | _, _ => none
  | none => none
theorem zz_rv (h : zz_i3 P.code j st = some ()) (hrt : P.ret = none) (hp : Post none σ) : zz_G X d P j ls st σ Post := by
  intro p e s m args below meth c H locs lm hok hx hb hml hr hlk hown hts hE hS hR hl hlen hls hst
  unfold zz_i3 at h
  cases he : P.code[j]? with
  | none => rw [he] at h; cases h
  | some en =>
    rw [he] at h
    dsimp only at h
    obtain ⟨pc, ins, len, ts⟩ := en
    obtain ⟨r1, r2, r3, r4, r5⟩ := zz_row hok he
    rw [r5]
    dsimp only at h r1 r2 r3 r4 ⊢
    split at h
    · dsimp only [zz_ck] at r3
      have el := of_decide_eq_true r3
      subst el
      exact W.vret hx hb (hr.trans hrt) (fun t ht _ => ⟨⟨none, σ, rfl, (fun w hw => by cases hw), hp, by rw [ht]; exact hR⟩, hS.F ht⟩) hS.2.2 r1 hlk
    · cases h
theorem zz_E.kept {U : State} {H H1 : Heap} (h : zz_E X U H) (hz : H.size ≤ H1.size) (hq : ∀ a : Nat, a < H.size → ¬ zz_A X a → H1[a]? = H[a]?) : zz_E X U H1 := by
  obtain ⟨h1, h2, h3, h4, h5, h6⟩ := h
  exact ⟨h1, fun i hi => ⟨(h2 i hi).1.kept hq, (h2 i hi).2.1.kept hq, (h2 i hi).2.2.1.kept hq, (h2 i hi).2.2.2.kept hq⟩, h3, h4.kept hq, h5.kept hq, Nat.le_trans h6 hz⟩
theorem zz_E.warm {s U : State} {H : Heap} (hW : s.WarmedH U.vm) (h : zz_E X s H) : zz_E X U H := by
  obtain ⟨h1, h2, h3, h4, h5, h6⟩ := h
  have ha := hW.alike
  exact ⟨va_K.moved ha h1, fun i hi => ⟨(h2 i hi).1.moved ha, (h2 i hi).2.1.moved ha, (h2 i hi).2.2.1.moved ha, (h2 i hi).2.2.2.moved ha⟩, ⟨fun i q hq => vk_R.warm hW (h3.1 i q hq), fun i q hq => va_Nw.warmM hW (h3.2 i q hq)⟩, h4.moved ha, h5.moved ha, h6⟩
theorem zz_E.same {u U : State} {H : Heap} (hv : U.vm = u.vm) (h : zz_E X u H) : zz_E X U H := by
  obtain ⟨h1, h2, h3, h4, h5, h6⟩ := h
  have ha : u.vm.Alike U.vm := by rw [hv]; exact Vm.Alike.refl u.vm
  exact ⟨va_K.moved ha h1, fun i hi => ⟨(h2 i hi).1.moved ha, (h2 i hi).2.1.moved ha, (h2 i hi).2.2.1.moved ha, (h2 i hi).2.2.2.moved ha⟩, ⟨fun i q hq => vk_R.same hv (h3.1 i q hq), fun i q hq => va_Nw.same rfl hv.symm (h3.2 i q hq)⟩, h4.moved ha, h5.moved ha, h6⟩
/-- a method that can be called: the tables' words of it -/
def zz_okC (P : zz_P) (stat : Bool) (t n : Nat) : Prop := Cond.code P.y P.bytes P.maxL P.ret ∈ zz_tb ∧ Cond.initialized P.y.cls ∈ zz_tb ∧ (zz_mn P.no = P.y ∧ zz_isS P.no = stat) ∧ plainName P.y.cls = true ∧ (P.y.cls ≠ "java/lang/invoke/MethodHandle" ∧ P.y.cls ≠ "java/lang/invoke/VarHandle") ∧ zz_pc P 0 = 0 ∧ (match stat with
  | true => Cond.static P.y ∈ zz_tb ∧ (parseMethodDescriptor P.y.desc).map (fun d => d.parameters.length) = some n
  | false => Cond.instanceMethod P.y ∈ zz_tb ∧ Cond.selects P.y.cls P.y P.y ∈ zz_tb ∧ (parseMethodDescriptor P.y.desc).map (fun d => d.parameters.length + 1) = some n ∧ zz_cl[t]?.map (fun c => c.1) = some P.y.cls)
def zz_th (stat : Bool) (t : Nat) (as : List zz_V) : Bool := match stat with
  | true => true
  | false => match as with
    | .inr (.inr (.inl (t', _, _, _))) :: _ => Nat.beq t' t
    | _ => false
def zz_Pc (X : zz_X) (as : List zz_V) (σ : zz_M) : Array Value → State → Prop := fun v U => v = (as.map (zz_toV X)).toArray ∧ (∀ w ∈ as, zz_ok X w) ∧ zz_R X σ U.heap ∧ zz_E X U U.heap
/-- a method's contract -/
def zz_T (X : zz_X) (d : Nat) (P : zz_P) (as : List zz_V) (σ : zz_M) (Post : Option zz_V → zz_M → Prop) : Prop :=
  ∃ (stat : Bool) (t n : Nat), zz_okC P stat t n ∧ as.length = n ∧ zz_th stat t as = true ∧ Met X.l P.y (Cond.code P.y P.bytes P.maxL P.ret :: zz_tb) (zz_room d) (zz_Pc X as σ) (zz_Q X Post) 0 0 (zz_A X)
def zz_sl : List zz_V → List zz_V
  | [] => []
  | .inr (.inl i) :: r => .inr (.inl i) :: zU :: zz_sl r
  | v :: r => v :: zz_sl r
def zz_ent (as : List zz_V) (n : Nat) : List zz_V := zz_sl as ++ List.replicate (n - (zz_sl as).length) zU
theorem zz_cat1 (X : zz_X) (v : zz_V) : (zz_toV X v).category = match v with
  | .inr (.inl _) => 2
  | _ => 1 := by
  rcases v with i | i | q | n
  · rfl
  · rfl
  · rfl
  · match n with
    | 0 => rfl
    | 1 => rfl
    | n + 2 => rfl
theorem zz_sl_len (X : zz_X) : ∀ as : List zz_V, (lg_sl (as.map (zz_toV X))).length = (zz_sl as).length
  | [] => rfl
  | v :: r => by
    have ih := zz_sl_len X r
    have e := zz_cat1 X v
    show (lg_sl (zz_toV X v :: r.map (zz_toV X))).length = _
    unfold lg_sl at ih ⊢
    rw [List.flatMap_cons, List.length_append, ih]
    rcases v with i | i | q | n
    · rw [if_neg (by rw [e]; exact (by decide : ¬ (1 : Nat) = 2))]; show 1 + _ = (zz_sl r).length + 1; omega
    · rw [if_pos (by rw [e])]; show 2 + _ = (zz_sl r).length + 1 + 1; omega
    · rw [if_neg (by rw [e]; exact (by decide : ¬ (1 : Nat) = 2))]; show 1 + _ = (zz_sl r).length + 1; omega
    · rw [if_neg (by rw [e]; exact (by decide : ¬ (1 : Nat) = 2))]; show 1 + _ = (zz_sl r).length + 1; omega
theorem zz_sl_at (X : zz_X) : ∀ (as : List zz_V) (i k : Nat) (v : zz_V), (zz_sl as)[k]? = some v → v ≠ zU → (i + k, zz_toV X v) ∈ lv_args i (as.map (zz_toV X))
  | [], i, k, v, h, _ => by simp [zz_sl] at h
  | w :: r, i, k, v, h, hv => by
    have ih := zz_sl_at X r
    have e := zz_cat1 X w
    show (i + k, zz_toV X v) ∈ lv_args i (zz_toV X w :: r.map (zz_toV X))
    unfold lv_args
    rcases w with x | x | q | n
    · rw [e]
      cases k with
      | zero => cases h; exact List.mem_cons_self
      | succ k => exact List.mem_cons_of_mem _ (by have := ih (i + 1) k v h hv; rw [show i + (k + 1) = i + 1 + k by omega]; exact this)
    · rw [e]
      match k, h with
      | 0, h => cases h; exact List.mem_cons_self
      | 1, h => cases h; exact absurd rfl hv
      | k + 2, h => exact List.mem_cons_of_mem _ (by have := ih (i + 2) k v h hv; rw [show i + (k + 2) = i + 2 + k by omega]; exact this)
    · rw [e]
      cases k with
      | zero => cases h; exact List.mem_cons_self
      | succ k => exact List.mem_cons_of_mem _ (by have := ih (i + 1) k v h hv; rw [show i + (k + 1) = i + 1 + k by omega]; exact this)
    · rw [e]
      cases k with
      | zero => cases h; exact List.mem_cons_self
      | succ k => exact List.mem_cons_of_mem _ (by have := ih (i + 1) k v h hv; rw [show i + (k + 1) = i + 1 + k by omega]; exact this)
theorem zz_sl_mem : ∀ (as : List zz_V) (v : zz_V), v ∈ zz_sl as → v = zU ∨ v ∈ as
  | [], v, h => by cases h
  | w :: r, v, h => by
    have ih := zz_sl_mem r v
    rcases w with x | x | q | n
    · rcases List.mem_cons.mp h with h | h
      · exact Or.inr (by rw [h]; exact List.mem_cons_self)
      · exact (ih h).imp id (List.mem_cons_of_mem _)
    · rcases List.mem_cons.mp h with h | h
      · exact Or.inr (by rw [h]; exact List.mem_cons_self)
      · rcases List.mem_cons.mp h with h | h
        · exact Or.inl h
        · exact (ih h).imp id (List.mem_cons_of_mem _)
    · rcases List.mem_cons.mp h with h | h
      · exact Or.inr (by rw [h]; exact List.mem_cons_self)
      · exact (ih h).imp id (List.mem_cons_of_mem _)
    · rcases List.mem_cons.mp h with h | h
      · exact Or.inr (by rw [h]; exact List.mem_cons_self)
      · exact (ih h).imp id (List.mem_cons_of_mem _)
/-- from the entry: a contract -/
theorem zz_mk {as : List zz_V} {stat : Bool} {t n : Nat} (hok : zz_okP P) (hc : zz_okC P stat t n) (hn : as.length = n) (hth : zz_th stat t as = true) (hle : (zz_sl as).length ≤ P.maxL) (hG : zz_G X d P 0 (zz_ent as P.maxL) [] σ Post) : zz_T X d P as σ Post := by
  refine ⟨stat, t, n, hc, hn, hth, Met.ofW (cc := P.bytes) (maxL := P.maxL) (ret := P.ret) hc.2.2.2.1 rfl ?_⟩
  intro p e s m args below meth c s₁ B hml hv
  obtain ⟨rfl, hoks, hR, hE⟩ := hv
  have hts : ∀ w ∈ zz_tb, w.before (as.map (zz_toV X)).toArray s = true := fun w hw => atoms_spec (ws := Cond.code P.y P.bytes P.maxL P.ret :: zz_tb) B.pre w (List.mem_cons_of_mem _ hw)
  have hown : s.vm.findClass P.y.cls = some m.cls := findClass_of_methodNamed B.named
  have hl := lv_entry (as.map (zz_toV X)) (n := P.maxL) (by rw [zz_sl_len]; exact hle)
  rw [lg_entry_eq]
  have hlen : (zz_ent as P.maxL).length = P.maxL := by
    unfold zz_ent
    rw [List.length_append, List.length_replicate]
    omega
  have hl2 : lv_has ((lg_sl (as.map (zz_toV X)) ++ List.replicate (P.maxL - (lg_sl (as.map (zz_toV X))).length) Slot.unset).toArray) P.maxL (zz_lv X (zz_ent as P.maxL)) := by
    refine ⟨hl.1, hl.2.1, fun q hq => hl.2.2 q ?_⟩
    obtain ⟨v, h1, h2, h3⟩ := zz_lv_of hq
    unfold zz_ent at h1
    by_cases hk : q.1 < (zz_sl as).length
    · rw [List.getElem?_append_left hk] at h1
      have := zz_sl_at X as 0 q.1 v h1 h2
      rw [Nat.zero_add, ← h3] at this
      exact this
    · rw [List.getElem?_append_right (by omega)] at h1
      have := List.mem_of_getElem? h1
      exact absurd (List.eq_of_mem_replicate this) h2
  have hls : ∀ v ∈ zz_ent as P.maxL, zz_ok X v := by
    intro v hv
    unfold zz_ent at hv
    rcases List.mem_append.mp hv with h | h
    · rcases zz_sl_mem as v h with h | h
      · rw [h]; exact Or.inl (by omega)
      · exact hoks v h
    · rw [List.eq_of_mem_replicate h]; exact Or.inl (by omega)
  have := hG p e s m (as.map (zz_toV X)).toArray below meth c s.heap [] _ hok B.exec B.bytes hml B.returns B.notSynchronized hown hts hE va_S.rf hR hl2 hlen hls (by intro v hv; cases hv)
  rw [hc.2.2.2.2.2.1] at this
  exact this
end ZE
theorem zz_good {y : MethodName} {b : ByteArray} {n : Nat} {r : Option FieldType} (h : Cond.code y b n r ∈ zz_tb) : GoodIn zz_tb (Cond.code y b n r :: zz_tb) := by
  intro w hw
  rcases List.mem_cons.mp hw with rfl | hw
  · exact ⟨h, Or.inl rfl⟩
  · exact ⟨hw, good_of_word (List.mem_filter.mp hw).2⟩
