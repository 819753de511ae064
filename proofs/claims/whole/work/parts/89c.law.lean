/-! THE LAW'S BODY over the pure machine. -/
theorem lw_hts {args : Array Value} {s : State} (h : ∀ w ∈ lw_tbl, w.before args s = true) : ∀ w ∈ zz_tb, w.before args s = true := fun w hw => h w (List.mem_filter.mp hw).1
/-- a place in the law comes to its end -/
def zj_G (X : zz_X) (b L : Nat) (xs : Nat → Int32) (pc i : Nat) (st : List zz_V) (σ : zz_M) : Prop :=
  ∀ (p : Program) (e : Env) (s : State) (m : MethodId) (below : List Frame) (meth : Method) (c : Code), lw_At p s m meth c b L xs → X.b = s.heap.size → zz_E X s s.heap → ∀ (H : Heap) (locs : List Loc) (lm : Array Slot), va_S (zz_A X) s.heap H locs → zz_R X σ H → lv_has lm 4 [(3, .int (Int32.ofInt (i : Int))), (2, .ref (X.b + 1101)), (1, .ref X.b), (0, .ref b)] → (∀ v ∈ st, zz_ok X v) →
    W p X.l e room_1 s m #[Value.ref b] below meth c H locs 600000 7302250 (lw_Z below #[Value.ref b] s) (F0 m pc lm (st.map (zz_toV X)))
section ZW
variable {X : zz_X} {b L : Nat} {xs : Nat → Int32} {pc i : Nat} {st : List zz_V} {σ : zz_M}
theorem zj_x (hd : decode code pc = .ok (.aload_n 1, 1)) (kk : zj_G X b L xs (pc + 1) i (zP 11 0 0 X.b :: st) σ) : zj_G X b L xs pc i st σ := by
  intro p e s m below meth c C0 hb0 hE H locs lm hS hR hl hst
  refine lv_aload_n C0.1 C0.2.1 hd rfl (lv_at hl 2 rfl) ?_
  exact kk p e s m below meth c C0 hb0 hE H locs lm hS hR hl (zz_all1 (P := zz_ok X) (show zz_ok X (zP 11 0 0 X.b) from ⟨0, by decide, rfl, rfl⟩) hst)
theorem zj_m (hd : decode code pc = .ok (.aload_n 2, 1)) (kk : zj_G X b L xs (pc + 1) i (zP 12 0 0 (X.b + 1101) :: st) σ) : zj_G X b L xs pc i st σ := by
  intro p e s m below meth c C0 hb0 hE H locs lm hS hR hl hst
  refine lv_aload_n C0.1 C0.2.1 hd rfl (lv_at hl 1 rfl) ?_
  exact kk p e s m below meth c C0 hb0 hE H locs lm hS hR hl (zz_all1 (P := zz_ok X) (show zz_ok X (zP 12 0 0 (X.b + 1101)) from ⟨1101, by decide, rfl, rfl⟩) hst)
theorem zj_in {s : State} {b L : Nat} {xs : Nat → Int32} (hX : va_X b L xs s s.heap) {k : Nat} (h : k < L) (hL : L ≤ 3072) : vp_in (Int32.ofInt (k : Int)) L ∧ (Int32.ofInt (k : Int)).toNatClampNeg = k := by
  obtain ⟨h1, h2⟩ := zk_nat (N := k) (by omega)
  refine ⟨fun z => ?_, h2⟩
  rcases z with z | z
  · exact h1 z
  · omega
/-- a number of the script -/
theorem zj_arg {q : Int} {j : Nat} (hq : q = (j : Nat)) (h1 : decode code pc = .ok (.aload_n 0, 1)) (h2 : decode code (pc + 1) = .ok (.iload_n 3, 1)) (h3 : decode code (pc + 2) = .ok (.iconst q, 1)) (h4 : decode code (pc + 3) = .ok (.iadd, 1)) (h5 : decode code (pc + 4) = .ok (.iaload, 1)) (hj : j ≤ 5) (hi : i + 6 ≤ L) (hL : L ≤ 3072) (kk : zj_G X b L xs (pc + 5) i (zI (xs (i + j)).toInt :: st) σ) : zj_G X b L xs pc i st σ := by
  intro p e s m below meth c C0 hb0 hE H locs lm hS hR hl hst
  obtain ⟨hx, hb, hr, hml, hown, hts, hX, hbl, hlocks, hgv⟩ := id C0
  refine lv_aload_n hx hb h1 rfl (lv_at hl 3 rfl) ?_
  refine lv_iload_n hx hb h2 rfl (lv_at hl 0 rfl) ?_
  refine lv_iconst (v := Int32.ofInt (j : Int)) hx hb h3 (by rw [hq]) ?_
  refine lv_iadd hx hb h4 ?_
  rw [← Int32.ofInt_add, show ((i : Int) + (j : Int)) = ((i + j : Nat) : Int) from rfl]
  obtain ⟨g1, g2⟩ := zj_in (k := i + j) hX (by omega) hL
  refine va_sld hx hb hX hbl (A := zz_A X) (by show ¬ X.b ≤ b; omega) hS g1 h5 ?_
  have k2 := kk p e s m below meth c C0 hb0 hE H locs lm hS hR hl (zz_all1 (P := zz_ok X) (zz_i32 _) hst)
  simp only [List.map_cons, zz_toV, Int32.ofInt_toInt] at k2
  rw [g2]
  exact k2
/-- the place of a method's answer: both are equal -/
theorem zj_eq {v : Int} {off : Int} {tgt : Nat} (hd : decode code pc = .ok (.if_icmp .eq off, 3)) (ht : (pc : Int) + off = (tgt : Int)) (kk : zj_G X b L xs tgt i st σ) : zj_G X b L xs pc i (zI v :: zI v :: st) σ := by
  intro p e s m below meth c C0 hb0 hE H locs lm hS hR hl hst
  obtain ⟨hx, hb, hr, hml, hown, hts, hX, hbl, hlocks, hgv⟩ := id C0
  exact lv_icmp_eq hx hb hd ht (fun _ => kk p e s m below meth c C0 hb0 hE H locs lm hS hR hl (fun v hv => hst v (List.mem_cons_of_mem _ (List.mem_cons_of_mem _ hv)))) (fun z => absurd rfl z)
theorem zj_back {p : Program} {e : Env} {s : State} {m : MethodId} {below : List Frame} {meth : Method} {c : Code} {H : Heap} {locs : List Loc} {lm : Array Slot} {as r : List zz_V} {a2 : Array Value} {Post' : Option zz_V → zz_M → Prop}
    (C0 : lw_At p s m meth c b L xs) (hb0 : X.b = s.heap.size) (hE : zz_E X s s.heap) (hS : va_S (zz_A X) s.heap H locs) (hl : lv_has lm 4 [(3, .int (Int32.ofInt (i : Int))), (2, .ref (X.b + 1101)), (1, .ref X.b), (0, .ref b)]) (hrest : ∀ v ∈ r, zz_ok X v)
    (hrun : va_Run p X.l e room_1 s m #[Value.ref b] below meth c H locs 600000 7302250 0 0 (F0 m pc lm (st.map (zz_toV X))) (r.map (zz_toV X)) (zz_Q X Post' a2) (zz_A X))
    (k : ∀ ro σ', Post' ro σ' → zj_G X b L xs (pc + 3) i (ro.toList ++ r) σ') :
    W p X.l e room_1 s m #[Value.ref b] below meth c H locs 600000 7302250 (lw_Z below #[Value.ref b] s) (F0 m pc lm (st.map (zz_toV X))) := by
  intro T hT X0
  obtain ⟨v, st₀, t, T', L', h0, X', hL, e1, e2, ⟨⟨ro, σ', hv, hokr, hp, hR'⟩, hF⟩, st'⟩ := hrun T hT X0
  have hv : v = ro.map (zz_toV X) := by injection hv
  subst hv
  obtain ⟨hz, hk⟩ := hF
  rw [h0] at hz hk
  have hS' : va_S (zz_A X) s.heap T'.heap (locs ++ L') := ⟨Nat.le_trans hS.1 (by rw [e1]; exact hz), fun q h1 h2 => by rw [e1, hk q (Nat.lt_of_lt_of_le h1 hS.1) h2]; exact hS.2.1 q h1 h2, fun q hq => by
    rcases List.mem_append.mp hq with h | h
    · exact hS.2.2 q h
    · exact hL q h⟩
  have hst' : ∀ w ∈ ro.toList ++ r, zz_ok X w := by
    intro w hw
    rcases List.mem_append.mp hw with h | h
    · exact hokr w (by simpa using h)
    · exact hrest w h
  obtain ⟨t2, a1, b1⟩ := k ro σ' hp p e s m below meth c C0 hb0 hE T'.heap (locs ++ L') lm hS' (by rw [e1]; exact hR') hl hst' T' rfl X'
  refine ⟨t2, st' t2 ?_, b1⟩
  have ef : (ro.map (zz_toV X)).toList ++ r.map (zz_toV X) = (ro.toList ++ r).map (zz_toV X) := by
    cases ro <;> simp
  rw [ef]
  exact a1
/-- a call of a method of one of both sides -/
theorem zj_cv {P' : zz_P} {d' n idx : Nat} {as r : List zz_V} {Post' : Option zz_V → zz_M → Prop} (hd : decode code pc = .ok (.invokevirtual idx, 3)) (hlink : Cond.methodLink R_law idx P'.y ∈ lw_tbl) (hnS : zz_isS P'.no = false) (hst0 : zz_take n [] st = some (as, r)) (hT : zz_T X d' P' as σ Post') (hdd : d' ≤ 100) (hcat : zz_cat r ≤ 8) (hmx : P'.maxL ≤ 20) (k : ∀ ro σ', Post' ro σ' → zj_G X b L xs (pc + 3) i (ro.toList ++ r) σ') : zj_G X b L xs pc i st σ := by
  intro p e s m below meth c C0 hb0 hE H locs lm hS hR hl hst
  obtain ⟨hx, hb, hr, hml, hown, hts0, hX, hbl, hlocks, hgv⟩ := id C0
  have hts := lw_hts hts0
  obtain ⟨e1, e2⟩ := zz_take_ok n [] st as r hst0
  obtain ⟨stat, t, n', hc, hn, hth, hM⟩ := hT
  obtain ⟨c1, c2, c3, c4, c5, c6, c7⟩ := hc
  simp only [List.reverse_nil, List.nil_append] at e1
  have hoks : ∀ w ∈ as, zz_ok X w := fun w hw => hst w (by rw [← e1]; exact List.mem_append_left _ (List.mem_reverse.mpr hw))
  have hrest : ∀ w ∈ r, zz_ok X w := fun w hw => hst w (by rw [← e1]; exact List.mem_append_right _ hw)
  cases stat with
  | true =>
    rw [c3.2] at hnS
    cases hnS
  | false =>
    obtain ⟨c7, c8, c9, c10⟩ := c7
    match as, hth, hn with
    | .inr (.inr (.inl (t', p1, q1, a))) :: As, hth, hn =>
      have ht : t' = t := Nat.eq_of_beq_eq_true hth
      subst ht
      obtain ⟨i0, hi0, ha, hK⟩ := hoks _ List.mem_cons_self
      dsimp only at ha hK
      subst ha
      have h13 : t' < 13 := by
        rcases hct : zz_cl[t']? with _ | q
        · rw [hct] at c10; cases c10
        · exact (List.getElem?_eq_some_iff.mp hct).1
      obtain ⟨C, Tt, ty, hcc, hin, hty, hnm⟩ := zz_cl_at h13
      rw [hcc] at c10
      have hC : C = P'.y.cls := by injection c10
      subst hC
      have hat := zz_ws_at X σ hi0
      rw [hK, zz_ce_o h13] at hat
      have hstack : st.map (zz_toV X) = (As.map (zz_toV X)).reverse ++ .ref (X.b + i0) :: r.map (zz_toV X) := by
        rw [← e1]
        simp [zz_toV, List.map_reverse]
      refine zj_back (as := .inr (.inr (.inl (t', p1, q1, X.b + i0))) :: As) (r := r) C0 hb0 hE hS hl hrest (va_runV (nL := 4) (Ts := zz_tb) (As := As.map (zz_toV X)) (rest := r.map (zz_toV X)) (C := P'.y.cls) (b := X.b + i0) (n := As.length) ⟨hx, hb, hml, hown, hts⟩ hM ⟨⟨rfl, rfl, ?_, ?_, pay_in hts (zz_good c1), List.mem_cons_self, hts _ c1, hts _ c2, c5, ?_, hts0 _ hlink⟩, hts _ c7, hts _ c8⟩ ⟨zz_Pc_blind, va_recv hE.1 hR.1 hcc hat, fun U hU hW => zz_Pc_pre (as := .inr (.inr (.inl (t', p1, q1, X.b + i0))) :: As) hE hS hR hoks hU hW⟩ rfl (List.length_map ..) hl.1 hstack (lv_room (by rw [zz_cat_of]; exact hcat)) hd ⟨Nat.le_refl _, Nat.le_refl _⟩) k
      · show d' + 1 ≤ 2048
        omega
      · show 8 + (P'.maxL + 11) + 40 * d' ≤ 84000
        omega
      · intro sig hsig
        rw [hsig] at c9
        have : sig.parameters.length + 1 = n' := by injection c9
        simp only [List.length_cons] at hn
        omega
    | [], hth, _ => cases hth
    | .inl _ :: _, hth, _ => cases hth
    | .inr (.inl _) :: _, hth, _ => cases hth
    | .inr (.inr (.inr _)) :: _, hth, _ => cases hth
end ZW
