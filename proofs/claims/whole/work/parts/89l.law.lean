/-! THE LAW'S ENTRY: classes, arrays, links. -/
theorem zk_inst : ∀ t : Nat, t < 13 → Cond.instantiable (zk_R t) (zz_nf t) ∈ lw_tbl := by
  intro t ht
  match t, ht with
  | 0, _ => exact List.mem_of_getElem? (i := 123) (by decide +kernel)
  | 1, _ => exact List.mem_of_getElem? (i := 250) (by decide +kernel)
  | 2, _ => exact List.mem_of_getElem? (i := 150) (by decide +kernel)
  | 3, _ => exact List.mem_of_getElem? (i := 236) (by decide +kernel)
  | 4, _ => exact List.mem_of_getElem? (i := 244) (by decide +kernel)
  | 5, _ => exact List.mem_of_getElem? (i := 411) (by decide +kernel)
  | 6, _ => exact List.mem_of_getElem? (i := 144) (by decide +kernel)
  | 7, _ => exact List.mem_of_getElem? (i := 318) (by decide +kernel)
  | 8, _ => exact List.mem_of_getElem? (i := 502) (by decide +kernel)
  | 9, _ => exact List.mem_of_getElem? (i := 312) (by decide +kernel)
  | 10, _ => exact List.mem_of_getElem? (i := 464) (by decide +kernel)
  | 11, _ => exact List.mem_of_getElem? (i := 115) (by decide +kernel)
  | 12, _ => exact List.mem_of_getElem? (i := 1354) (by decide +kernel)
  | n + 13, h => omega
theorem zk_D13 {args : Array Value} {s : State} (hts : ∀ w ∈ lw_tbl, w.before args s = true) : ∃ D : va_G, ∀ (c : Nat) (q : vw_C), zz_cl[c]? = some q → u_Kn s q.1 q.2.1 q.2.2 (D.1 c) (D.2 c) := by
  have h : ∀ t : Nat, ∃ q : ClassId × (Nat → Nat), ∀ r : vw_C, zz_cl[t]? = some r → u_Kn s r.1 r.2.1 r.2.2 q.1 q.2 := by
    intro t
    by_cases ht : t < 13
    · obtain ⟨T, hcc, hiw, hty, hnm⟩ := zk_cl ht
      obtain ⟨cC, iS, hK⟩ := u_known (n := zz_nf t) (lw_hts hts) hiw (hts _ (zk_inst t ht))
      refine ⟨(cC, iS), fun r hr => ?_⟩
      rw [hcc] at hr
      cases hr
      exact hK
    · refine ⟨(0, fun _ => 0), fun r hr => ?_⟩
      have : t < zz_cl.length := (List.getElem?_eq_some_iff.mp hr).1
      have e : zz_cl.length = 13 := rfl
      omega
  obtain ⟨f, hf⟩ := Classical.axiomOfChoice h
  exact ⟨(fun t => (f t).1, fun t => (f t).2), fun c q hq => hf c q hq⟩
def zk_aw : List Cond := [Cond.arrayClass .int, Cond.arrayClass .byte, Cond.arrayClass .boolean, Cond.arrayOver (.object "TurnQueues$State"), Cond.arrayOver (.object "TurnQueues$Numbers"), Cond.arrayOver (.object "TurnQueues$Deeds")]
set_option maxRecDepth 100000 in
theorem zk_aw_ok : ∀ w ∈ zk_aw, w ∈ lw_tbl := by
  intro w hw
  have h : zk_aw.map some = ([206, 142, 337, 307, 309, 543] : List Nat).map (fun i => lw_tbl[i]?) := rfl
  have h1 : some w ∈ zk_aw.map some := List.mem_map.mpr ⟨w, hw, rfl⟩
  rw [h] at h1
  obtain ⟨i, -, hi⟩ := List.mem_map.mp h1
  exact List.mem_of_getElem? hi
theorem zk_prim {args : Array Value} {s : State} {ty : FieldType} (h : (Cond.arrayClass ty).before args s = true) (hne : ∀ C, ty ≠ .object C) : ∃ cA : ClassId, ArrOfT s cA ty ∧ va_RA s cA ty := by
  obtain ⟨c, k, comp, h1, h2, h3⟩ := Cond.arrayClass_spec (args := args) (first := s) (o := none) (s := s) (idx := []) h
  refine ⟨c, fun n z => ⟨fun k h => (by cases h), k, h2, comp, h3⟩, ?_⟩
  unfold va_RA
  split
  · rename_i C
    exact absurd rfl (hne C)
  · exact h1
theorem zk_refs {args : Array Value} {s : State} {C : String} (h : (Cond.arrayOver (.object C)).before args s = true) : ∃ cA : ClassId, ArrOfT s cA (.object C) ∧ va_RA s cA (.object C) := by
  obtain ⟨comp, c, k, h1, -, h2, h3, h4⟩ := Cond.arrayOver_spec (args := args) (first := s) (o := none) (idx := []) h
  exact ⟨c, fun n z => ⟨fun k h => (by cases h), k, h2, comp, h3⟩, k, comp, h2, h3, h1, h4⟩
theorem zk_dA {args : Array Value} {s : State} (hts : ∀ w ∈ lw_tbl, w.before args s = true) : ∃ dA : Nat → ClassId, ∀ (k : Nat) (q : ClassId × FieldType), ([(dA 0, .int), (dA 1, .byte), (dA 2, .boolean), (dA 3, .object "TurnQueues$State"), (dA 4, .object "TurnQueues$Numbers"), (dA 5, .object "TurnQueues$Deeds")] : List (ClassId × FieldType))[k]? = some q → ArrOfT s q.1 q.2 ∧ va_RA s q.1 q.2 := by
  obtain ⟨c0, h0⟩ := zk_prim (hts _ (zk_aw_ok _ (List.mem_of_getElem? (i := 0) rfl))) (fun C h => by cases h)
  obtain ⟨c1, h1⟩ := zk_prim (hts _ (zk_aw_ok _ (List.mem_of_getElem? (i := 1) rfl))) (fun C h => by cases h)
  obtain ⟨c2, h2⟩ := zk_prim (hts _ (zk_aw_ok _ (List.mem_of_getElem? (i := 2) rfl))) (fun C h => by cases h)
  obtain ⟨c3, h3⟩ := zk_refs (hts _ (zk_aw_ok _ (List.mem_of_getElem? (i := 3) rfl)))
  obtain ⟨c4, h4⟩ := zk_refs (hts _ (zk_aw_ok _ (List.mem_of_getElem? (i := 4) rfl)))
  obtain ⟨c5, h5⟩ := zk_refs (hts _ (zk_aw_ok _ (List.mem_of_getElem? (i := 5) rfl)))
  refine ⟨fun k => [c0, c1, c2, c3, c4, c5].getD k 0, fun k q hq => ?_⟩
  match k, hq with
  | 0, hq => cases hq; exact h0
  | 1, hq => cases hq; exact h1
  | 2, hq => cases hq; exact h2
  | 3, hq => cases hq; exact h3
  | 4, hq => cases hq; exact h4
  | 5, hq => cases hq; exact h5
  | k + 6, hq => cases hq
def zk_nw : List Cond := zk_nl.map (fun q => Cond.methodLinkNest q.1 q.2.1 q.2.2 "TurnQueues") ++ zz_nl.map (fun q => Cond.methodLinkNest q.1 q.2.1 q.2.2 "TurnQueues")
set_option maxRecDepth 100000 in
theorem zk_nw_ok : ∀ w ∈ zk_nw, w ∈ lw_tbl := by
  intro w hw
  have h : zk_nw.map some = ([145, 151, 242, 313, 319, 474, 510, 544, 710, 794, 1271] : List Nat).map (fun i => lw_tbl[i]?) := rfl
  have h1 : some w ∈ zk_nw.map some := List.mem_map.mpr ⟨w, hw, rfl⟩
  rw [h] at h1
  obtain ⟨i, -, hi⟩ := List.mem_map.mp h1
  exact List.mem_of_getElem? hi
/-- what the constructors want, what calls of nest mates want -/
theorem zk_E0 {X : zz_X} {args : Array Value} {s : State} (hts : ∀ w ∈ lw_tbl, w.before args s = true) (hK : va_K X.D zz_cl (zz_tys X) s) : zk_E X s ∧ ∀ (i : Nat) (q : String × Nat × MethodName), zz_nl[i]? = some q → va_Nw (.methodLinkNest q.1 q.2.1 q.2.2 "TurnQueues") s := by
  refine ⟨⟨hK, fun q hq => ?_, fun C hC => ?_⟩, fun i q hq => ?_⟩
  · exact va_tabs rfl rfl (hts _ (zk_nw_ok _ (List.mem_append_left _ (List.mem_map.mpr ⟨q, hq, rfl⟩))))
  · rcases List.mem_cons.mp hC with rfl | hC
    · exact va_AO.of (hts _ (zk_aw_ok _ (List.mem_of_getElem? (i := 3) rfl)))
    · rcases List.mem_cons.mp hC with rfl | hC
      · exact va_AO.of (hts _ (zk_aw_ok _ (List.mem_of_getElem? (i := 4) rfl)))
      · rcases List.mem_cons.mp hC with rfl | hC
        · exact va_AO.of (hts _ (zk_aw_ok _ (List.mem_of_getElem? (i := 5) rfl)))
        · cases hC
  · exact va_tabs rfl rfl (hts _ (zk_nw_ok _ (List.mem_append_right _ (List.mem_map.mpr ⟨q, List.mem_of_getElem? hq, rfl⟩))))
