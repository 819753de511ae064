/-! CONSTRUCTORS: contracts, calls. -/
def zk_room (d mc ms : Nat) : Room := { frames := d, cells := mc, slots := ms, locals := 40 * d }
def zk_Pc (X : zz_X) (as : List zz_V) (L : List va_E) : Array Value → State → Prop := fun v U => v = (as.map (zz_toV X)).toArray ∧ zk_H X L U.heap ∧ zk_E X U ∧ X.b ≤ U.heap.size
/-- a constructor's contract -/
def zk_T (X : zz_X) (d mc ms : Nat) (P : zz_P) (t : Nat) (as : List zz_V) (L0 B1 : List va_E) : Prop := Met X.l P.y (Cond.code P.y P.bytes P.maxL none :: zz_tb) (zk_room d mc ms) (zk_Pc X (zP t 0 0 (X.b + L0.length) :: as) (L0 ++ [.inr (t, zk_fs t)])) (zk_Q X (L0 ++ B1)) mc ms (zz_A X)
theorem zk_blind {X : zz_X} {as : List zz_V} {L : List va_E} : FrameBlind (zk_Pc X as L) := by
  intro a U g mk h
  obtain ⟨h1, h2, h3, h4⟩ := h
  exact ⟨h1, h2, zk_E.same (u := U) (U := U.calling g mk a) rfl h3, h4⟩
theorem zk_pre {X : zz_X} {s U : State} {H : Heap} {as : List zz_V} {L : List va_E} (hE : zk_E X s) (hH : zk_H X L H) (hU : U.heap = H) (hW : s.WarmedH U.vm) : zk_Pc X as L (as.map (zz_toV X)).toArray U := ⟨rfl, by rw [hU]; exact hH, zk_E.warm hW hE, by rw [hU, hH.2]; omega⟩
theorem zk_mk {X : zz_X} {d mc ms : Nat} {P : zz_P} {t : Nat} {as : List zz_V} {L0 B1 : List va_E} (hpn : plainName P.y.cls = true) (hin0 : P.y.name = "<init>") (hle : (zz_sl (zP t 0 0 (X.b + L0.length) :: as)).length ≤ P.maxL) (hG : zk_G X (zk_room d mc ms) P L0 t B1 0 (zz_ent (zP t 0 0 (X.b + L0.length) :: as) P.maxL) [] (zk_fs t) [] 0 0) : zk_T X d mc ms P t as L0 B1 := by
  refine Met.ofW (cc := P.bytes) (maxL := P.maxL) (ret := none) hpn rfl ?_
  intro p e s m args below meth c s₁ B hml hv
  obtain ⟨rfl, hH, hE, hs0⟩ := hv
  have hts : ∀ w ∈ zz_tb, w.before ((zP t 0 0 (X.b + L0.length) :: as).map (zz_toV X)).toArray s = true := fun w hw => atoms_spec (ws := Cond.code P.y P.bytes P.maxL none :: zz_tb) B.pre w (List.mem_cons_of_mem _ hw)
  have hown : s.vm.findClass P.y.cls = some m.cls := findClass_of_methodNamed B.named
  have hin : meth.name = "<init>" := (name_of_methodNamed B.named B.method).1.trans hin0
  generalize hA : zP t 0 0 (X.b + L0.length) :: as = As at hle hG hts B ⊢
  have hl := lv_entry (As.map (zz_toV X)) (n := P.maxL) (by rw [zz_sl_len]; exact hle)
  rw [lg_entry_eq]
  have hlen : (zz_ent As P.maxL).length = P.maxL := by
    unfold zz_ent
    rw [List.length_append, List.length_replicate]
    omega
  have hl2 : lv_has ((lg_sl (As.map (zz_toV X)) ++ List.replicate (P.maxL - (lg_sl (As.map (zz_toV X))).length) Slot.unset).toArray) P.maxL (zz_lv X (zz_ent As P.maxL)) := by
    refine ⟨hl.1, hl.2.1, fun q hq => hl.2.2 q ?_⟩
    obtain ⟨v, h1, h2, h3⟩ := zz_lv_of hq
    unfold zz_ent at h1
    by_cases hk : q.1 < (zz_sl As).length
    · rw [List.getElem?_append_left hk] at h1
      have := zz_sl_at X As 0 q.1 v h1 h2
      rw [Nat.zero_add, ← h3] at this
      exact this
    · rw [List.getElem?_append_right (by omega)] at h1
      have := List.mem_of_getElem? h1
      exact absurd (List.eq_of_mem_replicate this) h2
  exact hG p e s m (As.map (zz_toV X)).toArray below meth c s.heap [] _ B.exec B.bytes hml B.returns B.notSynchronized hin hown hts hE hs0 va_S.rf hH hl2 hlen
section ZK
variable {X : zz_X} {R : Room} {P P' : zz_P} {L0 : List va_E} {t : Nat} {B1 : List va_E} {pc : Nat} {ls st : List zz_V} {fs : List Value} {M : List va_E} {cells slots : Nat}
theorem zk_behind {p : Program} {e : Env} {s : State} {m : MethodId} {args : Array Value} {below : List Frame} {meth : Method} {c : Code} {H : Heap} {locs : List Loc} {mc ms : Nat} {g : JFrame} {lm : Array Slot} {a : Array Value} {L1 : List va_E}
    (hr : va_Run p X.l e R s m args below meth c H locs cells slots mc ms (F0 m pc lm g.stack) (st.map (zz_toV X)) (zk_Q X L1 a) (zz_A X)) (hS : va_S (zz_A X) s.heap H locs) (kk : ∀ (H1 : Heap) (locs1 : List Loc), zk_H X L1 H1 → va_S (zz_A X) s.heap H1 locs1 → W p X.l e R s m args below meth c H1 locs1 (cells + mc) (slots + ms) (MQ below (zk_Q X (L0 ++ B1)) args s R.cells R.slots (zz_A X)) (F0 m (pc + 3) lm (st.map (zz_toV X)))) : W p X.l e R s m args below meth c H locs cells slots (MQ below (zk_Q X (L0 ++ B1)) args s R.cells R.slots (zz_A X)) (F0 m pc lm g.stack) := by
  refine va_callv hr hS (fun q _ h => h) (fun q h => h) (fun u t H1 locs1 ht _ _ hB _ _ hS1 => ?_)
  exact kk H1 locs1 (by have h2 : zk_H X L1 t.heap := hB; rw [ht] at h2; exact h2) hS1
/-- a constructor's words: code, class, method -/
def zk_okC (P : zz_P) (n : Nat) : Prop := Cond.code P.y P.bytes P.maxL none ∈ zz_tb ∧ Cond.initialized P.y.cls ∈ zz_tb ∧ Cond.instanceMethod P.y ∈ zz_tb ∧ P.y.name = "<init>" ∧ (P.y.cls ≠ "java/lang/invoke/MethodHandle" ∧ P.y.cls ≠ "java/lang/invoke/VarHandle") ∧ plainName P.y.cls = true ∧ (parseMethodDescriptor P.y.desc).map (fun d => d.parameters.length) = some n
/-- a constructor is called -/
theorem zk_call {t' idx r d d' mc ms n : Nat} {as : List zz_V} {Ks : List (Nat × Nat × Nat)} (hd : decode P.bytes pc = .ok (.invokespecial idx, 3)) (hok : zk_okC P' n) (hn : as.length = n) (hT : ∀ L, zk_T X d' mc ms P' t' as L (zk_m X (X.b + L.length) Ks)) (hw : Cond.methodLink P.y.cls idx P'.y ∈ zz_tb ∨ (P.y.cls, idx, P'.y) ∈ zk_nl) (hR : R.frames = d ∧ R.locals = 40 * d) (hdd : d' < d) (hmx : P'.maxL ≤ 20) (hcat : zz_cat st ≤ 8) (hr : M.length + 1 = r) (hc : cells + mc ≤ R.cells) (hs : slots + ms ≤ R.slots) (kk : zk_G X R P L0 t B1 (pc + 3) ls st fs (M ++ zk_m X (X.b + L0.length + r) Ks) (cells + mc) (slots + ms)) : zk_G X R P L0 t B1 pc ls (as.reverse ++ zP t' 0 0 (X.b + L0.length + r) :: st) fs (M ++ [.inr (t', zk_fs t')]) cells slots := by
  intro p e s m args below meth c H locs lm hx hb hml hrt hlk hin hown hts hE hs0 hS hH hl hlen
  obtain ⟨k1, k2, k3, k4, k5, k6, k7⟩ := hok
  obtain ⟨R1, R2⟩ := hR
  have eL : L0 ++ .inr (t, fs) :: (M ++ [.inr (t', zk_fs t')]) = (L0 ++ .inr (t, fs) :: M) ++ [.inr (t', zk_fs t')] := by
    rw [List.append_assoc]
    rfl
  have eN := zk_L L0 t fs M hr
  have hM := hT (L0 ++ .inr (t, fs) :: M)
  unfold zk_T at hM
  rw [eN, ← Nat.add_assoc] at hM
  rw [eL] at hH
  have go : ∀ (H1 : Heap) (locs1 : List Loc), zk_H X ((L0 ++ .inr (t, fs) :: M) ++ zk_m X (X.b + L0.length + r) Ks) H1 → va_S (zz_A X) s.heap H1 locs1 → W p X.l e R s m args below meth c H1 locs1 (cells + mc) (slots + ms) (MQ below (zk_Q X (L0 ++ B1)) args s R.cells R.slots (zz_A X)) (F0 m (pc + 3) lm (st.map (zz_toV X))) := fun H1 locs1 hH1 hS1 => kk p e s m args below meth c H1 locs1 lm hx hb hml hrt hlk hin hown hts hE hs0 hS1 (by rw [List.append_assoc] at hH1; exact hH1) hl hlen
  have hstk : (as.reverse ++ zP t' 0 0 (X.b + L0.length + r) :: st).map (zz_toV X) = (as.map (zz_toV X)).reverse ++ .ref (X.b + L0.length + r) :: st.map (zz_toV X) := by
    rw [List.map_append, List.map_reverse]
    rfl
  rw [hstk]
  have hfr : d' + 1 ≤ R.frames ∧ 8 + (P'.maxL + 11) + 40 * d' ≤ R.locals := by
    rw [R1, R2]
    omega
  rcases hw with hw | hw
  · exact zk_behind (g := F0 m pc lm _) (va_runI (As := as.map (zz_toV X)) (rest := st.map (zz_toV X)) ⟨hx, hb, hml, hown, hts⟩ hM (cwI n hts (zz_good k1) rfl rfl rfl (hts _ k2) (hts _ hw) (hts _ k3) k4 ⟨k5.1, k5.2, k7⟩ hfr) ⟨zk_blind, fun U hU hW => zk_pre (as := zP t' 0 0 (X.b + L0.length + r) :: as) hE hH hU hW⟩ rfl ((List.length_map ..).trans hn) hl.1 rfl (lv_room (by rw [zz_cat_of]; exact hcat)) hd ⟨hc, hs⟩) hS go
  · exact zk_behind (g := F0 m pc lm _) (va_runIN (As := as.map (zz_toV X)) (rest := st.map (zz_toV X)) ⟨hx, hb, hml, hown, hts⟩ hM ⟨va_cnB n hts (zz_good k1) rfl rfl rfl (hE.2.1 _ hw) (hts _ k2) ⟨k5.1, k5.2, k7⟩ hfr, k4, hts _ k3⟩ ⟨zk_blind, fun U hU hW => zk_pre (as := zP t' 0 0 (X.b + L0.length + r) :: as) hE hH hU hW⟩ rfl ((List.length_map ..).trans hn) hl.1 rfl (lv_room (by rw [zz_cat_of]; exact hcat)) hd ⟨hc, hs⟩) hS go
end ZK
