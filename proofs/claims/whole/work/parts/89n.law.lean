/-! THE LAW'S START. -/
section ZS
variable {p : Program} {e : Env} {s : State} {m : MethodId} {below : List Frame} {meth : Method} {c : Code} {X : zz_X} {b L : Nat} {xs : Nat → Int32} {H : Heap} {locs : List Loc} {ls : Array Slot} {Q : State → Prop} {L0 : List va_E} {cells slots : Nat} {pc : Nat}
/-- new, dup, the constructor -/
theorem zj_make {P' : zz_P} {t d mc ms idx1 idx2 : Nat} {Ks : List (Nat × Nat × Nat)} (C0 : lw_At p s m meth c b L xs) (hb0 : X.b = s.heap.size) (hE : zk_E X s) (h1 : decode code pc = .ok (.new idx1, 3)) (h2 : decode code (pc + 3) = .ok (.dup, 1)) (h3 : decode code (pc + 4) = .ok (.invokespecial idx2, 3)) (ht : t < 13) (hw1 : Cond.classLink R_law idx1 (zk_R t) ∈ lw_tbl) (hw3 : Cond.initialized (zk_R t) ∈ lw_tbl) (hok : zk_okC P' 0) (hlink : Cond.methodLink R_law idx2 P'.y ∈ lw_tbl) (hT : zk_T X d mc ms P' t [] L0 (zk_m X (X.b + L0.length) Ks)) (hd : d ≤ 100) (hmx : P'.maxL ≤ 20) (hc : cells + 1 + mc ≤ 600000) (hs : slots + zz_nf t + ms ≤ 7302250) (hS : va_S (zz_A X) s.heap H locs) (hH : zk_H X L0 H) (hsz : ls.size = 4)
    (kk : ∀ (H1 : Heap) (locs1 : List Loc), va_S (zz_A X) s.heap H1 locs1 → zk_H X (L0 ++ zk_m X (X.b + L0.length) Ks) H1 → W p X.l e room_1 s m #[Value.ref b] below meth c H1 locs1 (cells + 1 + mc) (slots + zz_nf t + ms) Q (F0 m (pc + 4 + 3) ls [.ref (X.b + L0.length)])) : W p X.l e room_1 s m #[Value.ref b] below meth c H locs cells slots Q (F0 m pc ls []) := by
  obtain ⟨hx, hb, hr, hml, hown, hts0, hX, hbl, hlocks, hgv⟩ := id C0
  have hts := lw_hts hts0
  obtain ⟨T, hcc, hiw, hty, hnm⟩ := zk_cl ht
  have hKn := hE.1.1 t _ hcc
  refine W.newcK hx hb hown (hts0 _ hw1) (hts0 _ (zk_inst t ht)) (hts0 _ hw3) rfl h1 (by show cells + 1 ≤ 600000; omega) (by show slots + zz_nf t ≤ 7302250; omega) hKn.2.1 hH.2 fun H1 kC hkC e1 z1 o1 => ?_
  rw [← hH.2] at z1 o1
  have hH1 := zk_H.push (e := .inr (t, zk_fs t)) hH z1 o1 (by
    refine ⟨_, hcc, (u_born (zk_ty t) hts hiw hKn hkC e1 hty).to (fun j hj => ?_)⟩
    unfold vp_V zk_fs
    rw [List.getD_eq_getElem?_getD, List.getElem?_map, List.getElem?_range hj]
    rfl)
  have hS1 := zk_S hS z1 o1
  refine lv_dup hx hb h2 rfl ?_
  obtain ⟨k1, k2, k3, k4, k5, k6, k7⟩ := hok
  refine va_callv (va_runI (As := []) (rest := [.ref (X.b + L0.length)]) ⟨hx, hb, hml, hown, hts⟩ hT (cwI 0 hts (zz_good k1) rfl rfl rfl (hts _ k2) (hts0 _ hlink) (hts _ k3) k4 ⟨k5.1, k5.2, k7⟩ ⟨by show d + 1 ≤ 2048; omega, by show 8 + (P'.maxL + 11) + 40 * d ≤ 84000; omega⟩) ⟨zk_blind, fun U hU hW => zk_pre (as := [zP t 0 0 (X.b + L0.length)]) hE hH1 hU hW⟩ rfl rfl hsz rfl (lv_room (Nat.le_of_ble_eq_true rfl)) h3 ⟨hc, hs⟩) hS1 (fun q _ h => h) (fun q h => h) (fun u t H2 locs2 ht2 _ _ hB _ _ hS2 => ?_)
  exact kk H2 locs2 hS2 (by have h9 : zk_H X _ t.heap := hB; rw [ht2] at h9; exact h9)
end ZS
theorem zj_s3 {p : Program} {e : Env} {s : State} {m : MethodId} {below : List Frame} {meth : Method} {c : Code} {X : zz_X} {b L : Nat} {xs : Nat → Int32} {H : Heap} {locs : List Loc} {ls : Array Slot} {cells slots : Nat} (hL : L ≤ 3072) (C0 : lw_At p s m meth c b L xs) (hXb : X.b = s.heap.size) (hE : zz_E X s s.heap) (hc : cells ≤ 600000) (hs : slots ≤ 7302250) (hS : va_S (zz_A X) s.heap H locs) (hR : zz_R X zs0 H) (hl : lv_has ls 4 [(2, .ref (X.b + 1101)), (1, .ref X.b), (0, .ref b)]) : W p X.l e room_1 s m #[Value.ref b] below meth c H locs cells slots (lw_Z below #[Value.ref b] s) (F0 m 16 ls []) := by
  refine lv_iconst (n := 0) (v := Int32.ofInt ((0 : Nat) : Int)) C0.1 C0.2.1 (by decide +kernel) rfl ?_
  refine lv_istore_n (k := 3) (i := 3) (lv' := [(3, .int (Int32.ofInt ((0 : Nat) : Int))), (2, .ref (X.b + 1101)), (1, .ref X.b), (0, .ref b)]) C0.1 C0.2.1 (by decide +kernel) rfl hl (by decide) rfl (fun ls3 hl3 => ?_)
  refine W.widen (k := 600000) (n := 7302250) hc hs ?_
  exact zj_loop hL (L + 1) 0 zs0 0 G0 (by omega) (Nat.zero_le _) (by decide) (CG0 _) (RG0 _) G0_ok p e s m below meth c C0 hXb hE H locs ls3 hS hR hl3 (fun v hv => by cases hv)
theorem zj_s2 {p : Program} {e : Env} {s : State} {m : MethodId} {below : List Frame} {meth : Method} {c : Code} {X : zz_X} {b L : Nat} {xs : Nat → Int32} {H : Heap} {locs : List Loc} {ls : Array Slot} {cells slots : Nat} (hL : L ≤ 3072) (C0 : lw_At p s m meth c b L xs) (hXb : X.b = s.heap.size) (hE : zz_E X s s.heap) (hE0 : zk_E X s) (hc : cells ≤ 10000) (hs : slots ≤ 100000) (hS : va_S (zz_A X) s.heap H locs) {L1 : List va_E} (h1 : L1 = zk_m X X.b kF_TQ) (e1 : L1.length = 1101) (hH : zk_H X L1 H) (hl : lv_has ls 4 [(1, .ref X.b), (0, .ref b)]) : W p X.l e room_1 s m #[Value.ref b] below meth c H locs cells slots (lw_Z below #[Value.ref b] s) (F0 m 8 ls []) := by
  refine zj_make (P' := p_Mo_init) (t := 12) (d := 1) (mc := 25) (ms := 70918) (idx1 := 10) (idx2 := 12) (Ks := [(12, 0, 0), (50, 20000, 0), (50, 20000, 0), (50, 2184, 0), (50, 800, 0), (50, 61, 0), (50, 61, 0), (50, 61, 0), (50, 61, 0), (52, 61, 0), (50, 61, 0), (50, 3904, 0), (50, 61, 0), (51, 600, 0), (50, 5, 0), (50, 40, 0), (50, 40, 0), (50, 40, 0), (50, 41, 0), (50, 20000, 0), (50, 6, 0), (50, 6, 0), (50, 61, 0), (50, 800, 0), (51, 1400, 0), (50, 564, 0)]) C0 hXb hE0 (by decide +kernel) (by decide +kernel) (by decide +kernel) (by decide) (List.mem_of_getElem? (i := 1353) (by decide +kernel)) (List.mem_of_getElem? (i := 109) (by decide +kernel)) o_Mo_init (List.mem_of_getElem? (i := 1355) (by decide +kernel)) (t_Mo_init X L1) (by decide) (Nat.le_of_ble_eq_true rfl) (by omega) (by simp only [zz_nf]; omega) hS hH hl.1 (fun H2 locs2 hS2 hH2 => ?_)
  rw [e1] at hH2 ⊢
  rw [h1] at hH2
  have hR := zk_R0 hH2
  refine lv_astore_n (k := 2) (i := 2) (lv' := [(2, .ref (X.b + 1101)), (1, .ref X.b), (0, .ref b)]) C0.1 C0.2.1 (by decide +kernel) rfl hl (by decide) rfl (fun ls2 hl2 => ?_)
  exact zj_s3 hL C0 hXb hE (by omega) (by simp only [zz_nf]; omega) hS2 hR hl2
theorem zj_s1 {p : Program} {e : Env} {s : State} {m : MethodId} {below : List Frame} {meth : Method} {c : Code} {X : zz_X} {b L : Nat} {xs : Nat → Int32} {ls : Array Slot} (hL : L ≤ 3072) (C0 : lw_At p s m meth c b L xs) (hXb : X.b = s.heap.size) (hE : zz_E X s s.heap) (hE0 : zk_E X s) (hH : zk_H X [] s.heap) (hl : lv_has ls 4 [(0, .ref b)]) : W p X.l e room_1 s m #[Value.ref b] below meth c s.heap [] 0 0 (lw_Z below #[Value.ref b] s) (F0 m 0 ls []) := by
  refine zj_make (L0 := []) (P' := p_TQ_init) (t := 11) (d := 4) (mc := 1100) (ms := 20361) (idx1 := 7) (idx2 := 9) (Ks := kF_TQ) C0 hXb hE0 (by decide +kernel) (by decide +kernel) (by decide +kernel) (by decide) (List.mem_of_getElem? (i := 114) (by decide +kernel)) (List.mem_of_getElem? (i := 96) (by decide +kernel)) o_TQ_init (List.mem_of_getElem? (i := 116) (by decide +kernel)) (t_TQ_init X []) (by decide) (Nat.le_of_ble_eq_true rfl) (by omega) (by simp only [zz_nf]; omega) va_S.rf hH hl.1 (fun H1 locs1 hS1 hH1 => ?_)
  rw [List.nil_append, List.length_nil, Nat.add_zero] at hH1
  rw [List.length_nil, Nat.add_zero]
  refine lv_astore_n (k := 1) (i := 1) (lv' := [(1, .ref X.b), (0, .ref b)]) C0.1 C0.2.1 (by decide +kernel) rfl hl (by decide) rfl (fun ls1 hl1 => ?_)
  exact zj_s2 hL C0 hXb hE hE0 (by omega) (by simp only [zz_nf]; omega) hS1 rfl (by rw [zk_m_len, kL_TQ]) hH1 hl1
theorem whole_start {p : Program} {e : Env} {s : State} {m : MethodId} {below : List Frame} {meth : Method} {c : Code} (l : Launch) (hflags : l.flags = flags0) {b L : Nat} {xs : Nat → Int32} (hL : L ≤ 3072) (C0 : lw_At p s m meth c b L xs) : W p l e room_1 s m #[Value.ref b] below meth c s.heap [] 0 0 (lw_Z below #[Value.ref b] s) (entryFrame m ([Value.ref b] : List Value).toArray 4) := by
  obtain ⟨hx, hb, hr, hml, hown, hts0, hX, hbl, hlocks, hgv⟩ := id C0
  obtain ⟨D, hD⟩ := zk_D13 hts0
  obtain ⟨dA, hdA⟩ := zk_dA hts0
  have hA : ∀ a : Nat, a < s.heap.size → ¬ (fun q : Nat => s.heap.size ≤ q) a := fun a h z => Nat.lt_irrefl _ (Nat.lt_of_lt_of_le h z)
  obtain ⟨sa, sv, hT, hR⟩ := zk_texts hgv hts0 hA
  obtain ⟨z1, z2⟩ := zk_stat hgv hts0 hA
  obtain ⟨X, hXe⟩ : ∃ X : zz_X, X = (l, s.heap.size, D, dA, sa, sv) := ⟨_, rfl⟩
  have hXb : X.b = s.heap.size := by rw [hXe]
  have hXl : X.l = l := by rw [hXe]
  have hK : va_K X.D zz_cl (zz_tys X) s := by rw [hXe]; exact ⟨hD, hdA⟩
  obtain ⟨hE0, hnest⟩ := zk_E0 (X := X) hts0 hK
  have hE : zz_E X s s.heap := by
    refine ⟨hK, ?_, ⟨?_, hnest⟩, ?_, ?_, by rw [hXb]; exact Nat.le_refl _⟩
    · rw [hXe]; exact fun i hi => hT i hi
    · rw [hXe]; exact hR
    · rw [hXe]; exact z1
    · rw [hXe]; exact z2
  have hl := lv_entry ([.ref b]) (n := 4) (Nat.le_of_ble_eq_true rfl)
  rw [lg_entry_eq, ← hXl]
  generalize (lg_sl ([.ref b]) ++ List.replicate (4 - (lg_sl ([.ref b])).length) Slot.unset).toArray = ls at hl ⊢
  have hl : lv_has ls 4 [(0, .ref b)] := hl
  exact zj_s1 hL C0 hXb hE hE0 ⟨fun k q h => (by cases h), by rw [hXb]; rfl⟩ hl
