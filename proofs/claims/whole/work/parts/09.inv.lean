/-! CALLS over zz_G. -/
def zz_take : Nat → List zz_V → List zz_V → Option (List zz_V × List zz_V)
  | 0, acc, st => some (acc, st)
  | n + 1, acc, v :: st => zz_take n (v :: acc) st
  | _ + 1, _, [] => none
theorem zz_take_ok : ∀ (n : Nat) (acc st as r : List zz_V), zz_take n acc st = some (as, r) → as.reverse ++ r = acc.reverse ++ st ∧ as.length = acc.length + n
  | 0, acc, st, as, r, h => by
    cases h
    exact ⟨rfl, rfl⟩
  | n + 1, acc, [], as, r, h => by cases h
  | n + 1, acc, v :: st, as, r, h => by
    obtain ⟨h1, h2⟩ := zz_take_ok n (v :: acc) st as r h
    rw [List.reverse_cons, List.append_assoc] at h1
    refine ⟨h1, ?_⟩
    rw [h2, List.length_cons]
    omega
def zz_cat : List zz_V → Nat
  | [] => 0
  | .inr (.inl _) :: r => 2 + zz_cat r
  | _ :: r => 1 + zz_cat r
theorem zz_cat_of (X : zz_X) : ∀ r : List zz_V, ((r.map (zz_toV X)).map fun v => v.category).sum = zz_cat r
  | [] => rfl
  | w :: r => by
    have ih := zz_cat_of X r
    have e := zz_cat1 X w
    simp only [List.map_cons, List.sum_cons]
    rw [ih, e]
    rcases w with i | i | q | n <;> rfl
section ZC
variable {X : zz_X} {d d' : Nat} {P P' : zz_P} {j : Nat} {ls st : List zz_V} {σ : zz_M} {Post Post' : Option zz_V → zz_M → Prop}
theorem zz_back {p : Program} {e : Env} {s : State} {m : MethodId} {args : Array Value} {below : List Frame} {meth : Method} {c : Code} {H : Heap} {locs : List Loc} {lm : Array Slot} {as r : List zz_V} {a2 : Array Value} {pc : Nat}
    (hok : zz_okP P) (hx : p.tables.exec = Jvm.exec) (hb : c.code = P.bytes) (hml : c.maxLocals = P.maxL) (hr : meth.sig.returnType = P.ret) (hlk : meth.locks = false) (hown : s.vm.findClass P.y.cls = some m.cls) (hts : ∀ w ∈ zz_tb, w.before args s = true) (hE : zz_E X s s.heap) (hS : va_S (zz_A X) s.heap H locs) (hl : lv_has lm P.maxL (zz_lv X ls)) (hlen : ls.length = P.maxL) (hls : ∀ v ∈ ls, zz_ok X v) (hrest : ∀ v ∈ r, zz_ok X v) (hpc : zz_pc P (j + 1) = pc + 3)
    (hrun : va_Run p X.l e (zz_room d) s m args below meth c H locs 0 0 0 0 (F0 m pc lm (st.map (zz_toV X))) (r.map (zz_toV X)) (zz_Q X Post' a2) (zz_A X))
    (k : ∀ ro σ', Post' ro σ' → zz_G X d P (j + 1) ls (ro.toList ++ r) σ' Post) :
    W p X.l e (zz_room d) s m args below meth c H locs 0 0 (MQ below (zz_Q X Post) args s 0 0 (zz_A X)) (F0 m pc lm (st.map (zz_toV X))) := by
  intro T hT X0
  obtain ⟨v, st₀, t, T', L, h0, X', hL, e1, e2, ⟨⟨ro, σ', hv, hokr, hp, hR'⟩, hF⟩, st'⟩ := hrun T hT X0
  have hv : v = ro.map (zz_toV X) := by injection hv
  subst hv
  obtain ⟨hz, hk⟩ := hF
  rw [h0] at hz hk
  have hS' : va_S (zz_A X) s.heap T'.heap (locs ++ L) := ⟨Nat.le_trans hS.1 (by rw [e1]; exact hz), fun q h1 h2 => by rw [e1, hk q (Nat.lt_of_lt_of_le h1 hS.1) h2]; exact hS.2.1 q h1 h2, fun q hq => by
    rcases List.mem_append.mp hq with h | h
    · exact hS.2.2 q h
    · exact hL q h⟩
  have hst' : ∀ w ∈ ro.toList ++ r, zz_ok X w := by
    intro w hw
    rcases List.mem_append.mp hw with h | h
    · exact hokr w (by simpa using h)
    · exact hrest w h
  obtain ⟨t2, a1, b1⟩ := k ro σ' hp p e s m args below meth c T'.heap (locs ++ L) lm hok hx hb hml hr hlk hown hts hE hS' (by rw [e1]; exact hR') hl hlen hls hst' T' rfl X'
  refine ⟨t2, st' t2 ?_, b1⟩
  have ef : (ro.map (zz_toV X)).toList ++ r.map (zz_toV X) = (ro.toList ++ r).map (zz_toV X) := by
    cases ro <;> simp
  rw [hpc] at a1
  rw [ef]
  exact a1
def zz_v1 (code : List zz_C) (j : Nat) : Option Nat := match code[j]? with
  | some e => match e.2.1, e.2.2.2 with
    | .invokevirtual _, [n] => match zz_isS n with
      | false => some n
      | true => none
    | _, _ => none
  | none => none
theorem zz_Pc_pre {s U : State} {H : Heap} {locs : List Loc} {as : List zz_V} (hE : zz_E X s s.heap) (hS : va_S (zz_A X) s.heap H locs) (hR : zz_R X σ H) (hoks : ∀ w ∈ as, zz_ok X w) (hU : U.heap = H) (hW : s.WarmedH U.vm) : zz_Pc X as σ (as.map (zz_toV X)).toArray U := by
  refine ⟨rfl, hoks, by rw [hU]; exact hR, ?_⟩
  rw [hU]
  exact zz_E.warm hW (zz_E.kept hE hS.1 hS.2.1)
theorem zz_Pc_blind {as : List zz_V} : FrameBlind (zz_Pc X as σ) := by
  intro a U g mk h
  obtain ⟨h1, h2, h3, h4⟩ := h
  exact ⟨h1, h2, h3, zz_E.same (u := U) (U := U.calling g mk a) rfl h4⟩
/-- a call of a method of ours -/
theorem zz_cv {n : Nat} {as r : List zz_V} (h : zz_v1 P.code j = some P'.no) (hst0 : zz_take n [] st = some (as, r)) (hT : zz_T X d' P' as σ Post') (hd : d' < d) (hcat : zz_cat r ≤ 8) (hmx : P'.maxL ≤ 20) (k : ∀ ro σ', Post' ro σ' → zz_G X d P (j + 1) ls (ro.toList ++ r) σ' Post) : zz_G X d P j ls st σ Post := by
  intro p e s m args below meth c H locs lm hok hx hb hml hr hlk hown hts hE hS hR hl hlen hls hst
  obtain ⟨e1, e2⟩ := zz_take_ok n [] st as r hst0
  obtain ⟨stat, t, n', hc, hn, hth, hM⟩ := hT
  obtain ⟨c1, c2, c3, c4, c5, c6, c7⟩ := hc
  unfold zz_v1 at h
  cases he : P.code[j]? with
  | none => rw [he] at h; cases h
  | some en =>
    rw [he] at h
    dsimp only at h
    obtain ⟨pc, ins, len, ts⟩ := en
    obtain ⟨r1, r2, r3, r4, r5⟩ := zz_row hok he
    rw [r5]
    dsimp only at h r1 r2 r3 r4 ⊢
    split at h
    · rename_i idx mno
      split at h
      case h_2 => cases h
      rename_i hnS
      have hno : mno = P'.no := by injection h
      subst hno
      dsimp only [zz_ck] at r3
      have el := of_decide_eq_true r3
      subst el
      have hlink := r4 (.methodLink P.y.cls idx (zz_mn P'.no)) List.mem_cons_self
      rw [c3.1] at hlink
      simp only [List.reverse_nil, List.nil_append] at e1
      have hoks : ∀ w ∈ as, zz_ok X w := fun w hw => hst w (by rw [← e1]; exact List.mem_append_left _ (List.mem_reverse.mpr hw))
      have hrest : ∀ w ∈ r, zz_ok X w := fun w hw => hst w (by rw [← e1]; exact List.mem_append_right _ hw)
      have r2' : zz_pc P (j + 1) = pc + 3 := r2 rfl
      cases stat with
      | true =>
        rw [c3.2] at hnS
        cases hnS
      | false =>
        obtain ⟨c7, c8, c9, c10⟩ := c7
        match as, hth, hn with
        | .inr (.inr (.inl (t', p1, q1, a))) :: As, hth, hn =>
          have ht : t' = t := Nat.eq_of_beq_eq_true hth
          subst ht
          obtain ⟨i0, hi0, ha, hK⟩ := hoks _ List.mem_cons_self
          dsimp only at ha hK
          subst ha
          have h13 : t' < 13 := by
            rcases hct : zz_cl[t']? with _ | q
            · rw [hct] at c10; cases c10
            · exact (List.getElem?_eq_some_iff.mp hct).1
          obtain ⟨C, Tt, ty, hcc, hin, hty, hnm⟩ := zz_cl_at h13
          rw [hcc] at c10
          have hC : C = P'.y.cls := by injection c10
          subst hC
          have hat := zz_ws_at X σ hi0
          rw [hK, zz_ce_o h13] at hat
          have hstack : st.map (zz_toV X) = (As.map (zz_toV X)).reverse ++ .ref (X.b + i0) :: r.map (zz_toV X) := by
            rw [← e1]
            simp [zz_toV, List.map_reverse]
          refine zz_back (as := .inr (.inr (.inl (t', p1, q1, X.b + i0))) :: As) (r := r) hok hx hb hml hr hlk hown hts hE hS hl hlen hls hrest r2' (va_runV (nL := P.maxL) (As := As.map (zz_toV X)) (rest := r.map (zz_toV X)) (C := P'.y.cls) (b := X.b + i0) (n := As.length) ⟨hx, hb, hml, hown, hts⟩ hM ⟨⟨rfl, rfl, ?_, ?_, pay_in hts (zz_good c1), List.mem_cons_self, hts _ c1, hts _ c2, c5, ?_, hts _ hlink⟩, hts _ c7, hts _ c8⟩ ⟨zz_Pc_blind, va_recv hE.1 hR.1 hcc hat, fun U hU hW => zz_Pc_pre (as := .inr (.inr (.inl (t', p1, q1, X.b + i0))) :: As) hE hS hR hoks hU hW⟩ rfl (List.length_map ..) hl.1 hstack (lv_room (by rw [zz_cat_of]; exact hcat)) r1 ⟨Nat.zero_le _, Nat.zero_le _⟩) k
          · show d' + 1 ≤ d
            omega
          · show 8 + (P'.maxL + 11) + 40 * d' ≤ 40 * d
            omega
          · intro sig hsig
            rw [hsig] at c9
            have : sig.parameters.length + 1 = n' := by injection c9
            simp only [List.length_cons] at hn
            omega
        | [], hth, _ => cases hth
        | .inl _ :: _, hth, _ => cases hth
        | .inr (.inl _) :: _, hth, _ => cases hth
        | .inr (.inr (.inr _)) :: _, hth, _ => cases hth
    · cases h
def zz_v2 (code : List zz_C) (j : Nat) : Option Nat := match code[j]? with
  | some e => match e.2.1, e.2.2.2 with
    | .invokestatic _, [n] => match zz_isS n with
      | true => some n
      | false => none
    | .invokestatic _, [n, _] => match zz_isS n with
      | true => some n
      | false => none
    | _, _ => none
  | none => none
theorem zz_cs {n : Nat} {as r : List zz_V} (h : zz_v2 P.code j = some P'.no) (hst0 : zz_take n [] st = some (as, r)) (hT : zz_T X d' P' as σ Post') (hd : d' < d) (hcat : zz_cat r ≤ 8) (hmx : P'.maxL ≤ 20) (k : ∀ ro σ', Post' ro σ' → zz_G X d P (j + 1) ls (ro.toList ++ r) σ' Post) : zz_G X d P j ls st σ Post := by
  intro p e s m args below meth c H locs lm hok hx hb hml hr hlk hown hts hE hS hR hl hlen hls hst
  obtain ⟨e1, e2⟩ := zz_take_ok n [] st as r hst0
  obtain ⟨stat, t, n', hc, hn, hth, hM⟩ := hT
  obtain ⟨c1, c2, c3, c4, c5, c6, c7⟩ := hc
  simp only [List.reverse_nil, List.nil_append] at e1
  have hoks : ∀ w ∈ as, zz_ok X w := fun w hw => hst w (by rw [← e1]; exact List.mem_append_left _ (List.mem_reverse.mpr hw))
  have hrest : ∀ w ∈ r, zz_ok X w := fun w hw => hst w (by rw [← e1]; exact List.mem_append_right _ hw)
  have hstack : st.map (zz_toV X) = (as.map (zz_toV X)).reverse ++ r.map (zz_toV X) := by
    rw [← e1]
    simp [List.map_reverse]
  have hroom : d' + 1 ≤ d ∧ 8 + (P'.maxL + 11) + 40 * d' ≤ 40 * d := by omega
  unfold zz_v2 at h
  cases he : P.code[j]? with
  | none => rw [he] at h; cases h
  | some en =>
    rw [he] at h
    dsimp only at h
    obtain ⟨pc, ins, len, ts⟩ := en
    obtain ⟨r1, r2, r3, r4, r5⟩ := zz_row hok he
    rw [r5]
    dsimp only at h r1 r2 r3 r4 ⊢
    split at h
    · rename_i idx mno
      split at h
      case h_2 => cases h
      rename_i hnS
      have hno : mno = P'.no := by injection h
      subst hno
      simp only [zz_ck, Bool.and_eq_true, decide_eq_true_eq] at r3
      obtain ⟨el, r3⟩ := r3
      subst el
      have hlink := r4 (.methodLink P.y.cls idx (zz_mn P'.no)) List.mem_cons_self
      rw [c3.1] at hlink
      have r2' : zz_pc P (j + 1) = pc + 3 := r2 rfl
      cases stat with
      | false =>
        rw [c3.2] at hnS
        cases hnS
      | true =>
        obtain ⟨c7, c8⟩ := c7
        refine zz_back (as := as) (r := r) hok hx hb hml hr hlk hown hts hE hS hl hlen hls hrest r2' (va_runS (nL := P.maxL) (As := as.map (zz_toV X)) (rest := r.map (zz_toV X)) (n := as.length) ⟨hx, hb, hml, hown, hts⟩ hM ⟨⟨rfl, rfl, hroom.1, hroom.2, pay_in hts (zz_good c1), List.mem_cons_self, hts _ c1, hts _ c2, c5, ?_, hts _ hlink⟩, hts _ c7⟩ ⟨zz_Pc_blind, fun U hU hW => zz_Pc_pre (as := as) hE hS hR hoks hU hW⟩ rfl (List.length_map ..) hl.1 hstack (lv_room (by rw [zz_cat_of]; exact hcat)) r1 ⟨Nat.zero_le _, Nat.zero_le _⟩) k
        intro sig hsig
        rw [hsig] at c8
        have : sig.parameters.length = n' := by injection c8
        omega
    · rename_i idx mno x
      split at h
      case h_2 => cases h
      rename_i hnS
      have hno : mno = P'.no := by injection h
      subst hno
      simp only [zz_ck, Bool.and_eq_true, decide_eq_true_eq] at r3
      obtain ⟨el, r3⟩ := r3
      subst el
      have hlink := hE.2.2.1.2 _ _ r3
      dsimp only at hlink
      rw [c3.1] at hlink
      have r2' : zz_pc P (j + 1) = pc + 3 := r2 rfl
      cases stat with
      | false =>
        rw [c3.2] at hnS
        cases hnS
      | true =>
        obtain ⟨c7, c8⟩ := c7
        refine zz_back (as := as) (r := r) hok hx hb hml hr hlk hown hts hE hS hl hlen hls hrest r2' (va_runSN (nL := P.maxL) (As := as.map (zz_toV X)) (rest := r.map (zz_toV X)) (n := as.length) ⟨hx, hb, hml, hown, hts⟩ hM ⟨⟨⟨rfl, rfl, hroom.1, hroom.2, pay_in hts (zz_good c1), List.mem_cons_self⟩, hts _ c1, hts _ c2, c5, ?_, va_Nw.use rfl hlink⟩, hts _ c7, trivial⟩ ⟨zz_Pc_blind, fun U hU hW => zz_Pc_pre (as := as) hE hS hR hoks hU hW⟩ rfl (List.length_map ..) hl.1 hstack (lv_room (by rw [zz_cat_of]; exact hcat)) r1 ⟨Nat.zero_le _, Nat.zero_le _⟩) k
        intro sig hsig
        rw [hsig] at c8
        have : sig.parameters.length = n' := by injection c8
        omega
    · cases h
end ZC
theorem zz_okS {P : zz_P} {n : Nat} (h : ∀ w ∈ [Cond.code P.y P.bytes P.maxL P.ret, Cond.initialized P.y.cls, Cond.static P.y], w ∈ zz_tb) (h3 : zz_mn P.no = P.y) (h4 : zz_isS P.no = true) (h5 : plainName P.y.cls = true) (h6 : P.y.cls ≠ "java/lang/invoke/MethodHandle" ∧ P.y.cls ≠ "java/lang/invoke/VarHandle") (h7 : zz_pc P 0 = 0) (h8 : (parseMethodDescriptor P.y.desc).map (fun d => d.parameters.length) = some n) : zz_okC P true 0 n :=
  ⟨h _ (List.Mem.head _), h _ (List.Mem.tail _ (List.Mem.head _)), ⟨h3, h4⟩, h5, h6, h7, h _ (List.Mem.tail _ (List.Mem.tail _ (List.Mem.head _))), h8⟩
theorem zz_okV {P : zz_P} {t n : Nat} (h : ∀ w ∈ [Cond.code P.y P.bytes P.maxL P.ret, Cond.initialized P.y.cls, Cond.instanceMethod P.y, Cond.selects P.y.cls P.y P.y], w ∈ zz_tb) (h3 : zz_mn P.no = P.y) (h4 : zz_isS P.no = false) (h5 : plainName P.y.cls = true) (h6 : P.y.cls ≠ "java/lang/invoke/MethodHandle" ∧ P.y.cls ≠ "java/lang/invoke/VarHandle") (h7 : zz_pc P 0 = 0) (h8 : (parseMethodDescriptor P.y.desc).map (fun d => d.parameters.length + 1) = some n) (h9 : zz_cl[t]?.map (fun c => c.1) = some P.y.cls) : zz_okC P false t n :=
  ⟨h _ (List.Mem.head _), h _ (List.Mem.tail _ (List.Mem.head _)), ⟨h3, h4⟩, h5, h6, h7, h _ (List.Mem.tail _ (List.Mem.tail _ (List.Mem.head _))), h _ (List.Mem.tail _ (List.Mem.tail _ (List.Mem.tail _ (List.Mem.head _)))), h8, h9⟩
