/-! the class: feed -/
theorem sh_bv (b : BitVec 32) {s : Nat} (hs : s ≤ 24) : (b.sshiftRight s).signExtend 8 = (b >>> s).signExtend 8 := by
  apply BitVec.eq_of_getLsbD_eq
  intro i hi
  rw [BitVec.getLsbD_signExtend, BitVec.getLsbD_signExtend, BitVec.getLsbD_sshiftRight, BitVec.getLsbD_ushiftRight]
  have h1 : i < 32 := by omega
  have h2 : s + i < 32 := by omega
  simp only [hi, h1, h2, if_true, decide_true, Bool.true_and, Nat.not_le.mpr h1, decide_false, Bool.not_false]
theorem sh_24 (x : Int32) : (x >>> (24 &&& 31)).toInt8 = ((x.toUInt32 >>> ((24 : Int32).toUInt32 &&& Int32.toUInt32 31)).toInt32).toInt8 := by
  apply Int8.toBitVec.inj
  exact sh_bv x.toBitVec (s := 24) (by decide)
theorem sh_16 (x : Int32) : (x >>> (16 &&& 31)).toInt8 = ((x.toUInt32 >>> ((16 : Int32).toUInt32 &&& Int32.toUInt32 31)).toInt32).toInt8 := by
  apply Int8.toBitVec.inj
  exact sh_bv x.toBitVec (s := 16) (by decide)
theorem sh_8 (x : Int32) : (x >>> (8 &&& 31)).toInt8 = ((x.toUInt32 >>> ((8 : Int32).toUInt32 &&& Int32.toUInt32 31)).toInt32).toInt8 := by
  apply Int8.toBitVec.inj
  exact sh_bv x.toBitVec (s := 8) (by decide)
theorem sh_0 (x : Int32) : (x >>> (0 &&& 31)).toInt8 = x.toInt8 := by
  apply Int8.toBitVec.inj
  show (x.toBitVec.sshiftRight 0).signExtend 8 = x.toBitVec.signExtend 8
  rw [BitVec.sshiftRight_zero]
theorem b_sh24 (x : Int) : zz_i2b (zz_shr x 24) = zz_i2b (zz_ushr x 24) := by
  unfold zz_i2b zz_shr zz_ushr zz_b
  rw [Int32.ofInt_toInt, Int32.ofInt_toInt]
  exact congrArg (fun z : Int8 => z.toInt32.toInt) (sh_24 (Int32.ofInt x))
theorem b_sh16 (x : Int) : zz_i2b (zz_shr x 16) = zz_i2b (zz_ushr x 16) := by
  unfold zz_i2b zz_shr zz_ushr zz_b
  rw [Int32.ofInt_toInt, Int32.ofInt_toInt]
  exact congrArg (fun z : Int8 => z.toInt32.toInt) (sh_16 (Int32.ofInt x))
theorem b_sh8 (x : Int) : zz_i2b (zz_shr x 8) = zz_i2b (zz_ushr x 8) := by
  unfold zz_i2b zz_shr zz_ushr zz_b
  rw [Int32.ofInt_toInt, Int32.ofInt_toInt]
  exact congrArg (fun z : Int8 => z.toInt32.toInt) (sh_8 (Int32.ofInt x))
theorem b_sh0 (x : Int) : zz_i2b (zz_shr x 0) = zz_i2b x := by
  unfold zz_i2b zz_shr zz_b
  rw [Int32.ofInt_toInt]
  exact congrArg (fun z : Int8 => z.toInt32.toInt) (sh_0 (Int32.ofInt x))
theorem b_rng (x : Int) : -128 ≤ zz_i2b x ∧ zz_i2b x ≤ 127 := by
  rw [zz_i2b_m]
  have h1 := Int.le_bmod (x := x) (m := 256) (by decide)
  have h2 := Int.bmod_lt (x := x) (m := 256) (by decide)
  omega
theorem zt_f_b (w : Int) : ∀ x ∈ zt_f w, -128 ≤ x ∧ x ≤ 127 := by
  intro x hx
  unfold zt_f at hx
  simp only [List.mem_cons, List.not_mem_nil, or_false] at hx
  rcases hx with h | h | h | h <;> (rw [h]; exact b_rng _)
def g_fd (a b c d e : Int) : List Int := zt_f a ++ zt_f b ++ zt_f c ++ zt_f d ++ zt_f e
def a_feed (G : zz_J) (a b c d e : Int) : Int × zz_J := if 580 < G.t.length then (-1, G) else (((G.t.length + 20 : Nat) : Int), (G.I, G.t ++ g_fd a b c d e, G.o, G.f, G.p, G.m))
theorem g_fd_len (a b c d e : Int) : (g_fd a b c d e).length = 20 := rfl
theorem g_ok.fd {G : zz_J} {a b c d e : Int} (ok : g_ok G) (h : ¬ 580 < G.t.length) : g_ok (G.I, G.t ++ g_fd a b c d e, G.o, G.f, G.p, G.m) := by
  refine ⟨ok.1, ⟨?_, ?_⟩, ok.2.2⟩
  · show (G.t ++ g_fd a b c d e).length ≤ 600
    rw [List.length_append, g_fd_len]
    omega
  · intro x hx
    rcases List.mem_append.mp hx with z | z
    · exact ok.2.1.2 x z
    · unfold g_fd at z
      rcases List.mem_append.mp z with z | z
      · rcases List.mem_append.mp z with z | z
        · rcases List.mem_append.mp z with z | z
          · rcases List.mem_append.mp z with z | z
            · exact zt_f_b _ x z
            · exact zt_f_b _ x z
          · exact zt_f_b _ x z
        · exact zt_f_b _ x z
      · exact zt_f_b _ x z
theorem CG.tp {σ σ' : zz_M} {b : Nat} {B : Int} {G : zz_J} {l : List Int} (h : CG σ b B G) (hB : BL σ' (b + 1) l) (hF : zz_F (zz_A2 (b + 1)) σ σ') : CG σ' b B (G.I, l, G.o, G.f, G.p, G.m) := by
  obtain ⟨h1, h2, h3, h4, h5', h6, h7⟩ := h
  have ne : ∀ a, (a < b + 1 ∨ b + 2 < a) → ¬ zz_A2 (b + 1) a := fun a y z => by rcases z with z | z <;> omega
  refine ⟨h1.f hF (fun a z y => by rcases z with z | z <;> omega), hB, h3.f hF (ne _ (by omega)) (ne _ (by omega)), ?_, fun i hi => (h5' i hi).f hF (fun c y1 y2 => ne _ (by omega)), ?_, h7.f hF (fun a y1 y2 => ne _ (by omega)) (fun z => absurd z (Nat.lt_irrefl 0))⟩
  · rw [(hF (b + 5) (ne _ (by omega))).1, (hF (b + 5) (ne _ (by omega))).1]
    exact h4
  · rw [(hF (b + 17) (ne _ (by omega))).1]
    exact ⟨fun i hi => by rw [(hF (b + 21) (ne _ (by omega))).2]; exact h6.1 i hi, h6.2⟩
theorem t_TQ_feed {X : zz_X} {σ : zz_M} {b : Nat} {B : Int} {G : zz_J} {x y z v w : Int} (hG : CG σ b B G) (ok : g_ok G) : zz_T X 3 p_TQ_feed [zP 11 0 0 b, zI x, zI y, zI z, zI v, zI w] σ (fun r σ' => r = some (zI (a_feed G x y z v w).1) ∧ CG σ' b B (a_feed G x y z v w).2 ∧ zz_F (A_cl b) σ σ') := by
  refine zz_mk k_TQ_feed o_TQ_feed rfl rfl (Nat.le_of_ble_eq_true rfl) ?_
  show zz_G X 3 p_TQ_feed 0 [zP 11 0 0 b, zI x, zI y, zI z, zI v, zI w] [] σ _
  obtain ⟨hH, hBt, hBo, hft, him, hmk, htr⟩ := id hG
  obtain ⟨⟨ho, hfx⟩, okt, oko, okm⟩ := id ok
  obtain ⟨hD, hV⟩ := id hH
  obtain ⟨d1, d2, d3, d4, dR⟩ := id hD
  obtain ⟨d5, d6, d7⟩ := id dR
  have ht1 := hBt.1
  rcases Classical.em (580 < G.t.length) with hn | hn
  · refine zz_gsn 4 rfl ?_
    refine zz_br rfl (fun h4 => absurd h4 (by omega)) (fun h4 => ?_)
    refine zz_gsn 1 rfl ?_
    refine zz_ri rfl (Or.inl rfl) ?_
    rw [show a_feed G x y z v w = (-1, G) from if_pos hn]
    exact ⟨rfl, hG, zz_F.rf⟩
  · have hl1 : G.t.length + 4 ≤ 600 := by omega
    have hl2 : G.t.length + (zt_f x).length + 4 ≤ 600 := by show G.t.length + 4 + 4 ≤ 600; omega
    have hl3 : G.t.length + (zt_f x).length + (zt_f y).length + 4 ≤ 600 := by show G.t.length + 4 + 4 + 4 ≤ 600; omega
    have hl4 : G.t.length + (zt_f x).length + (zt_f y).length + (zt_f z).length + 4 ≤ 600 := by show G.t.length + 4 + 4 + 4 + 4 ≤ 600; omega
    have hl5 : G.t.length + (zt_f x).length + (zt_f y).length + (zt_f z).length + (zt_f v).length + 4 ≤ 600 := by show G.t.length + 4 + 4 + 4 + 4 + 4 ≤ 600; omega
    refine zz_gsn 4 rfl ?_
    refine zz_br rfl (fun h4 => ?_) (fun h4 => absurd h4 (by omega))
    refine zz_gsn 3 rfl ?_
    refine zz_cv (n := 2) rfl rfl (t_Bytes_addFour2 (w := x) hBt (by first | exact hl1 | (simp only [List.length_append]; exact hl1)) (by decide)) (Nat.le_of_ble_eq_true rfl) (Nat.le_of_ble_eq_true rfl) (Nat.le_of_ble_eq_true rfl) (fun r10 σ10 q10 => ?_)
    obtain ⟨rfl, p10, g10⟩ := q10
    refine zz_gsn 3 rfl ?_
    refine zz_cv (n := 2) rfl rfl (t_Bytes_addFour2 (w := y) p10 (by first | exact hl1 | (simp only [List.length_append]; exact hl2)) (by decide)) (Nat.le_of_ble_eq_true rfl) (Nat.le_of_ble_eq_true rfl) (Nat.le_of_ble_eq_true rfl) (fun r14 σ14 q14 => ?_)
    obtain ⟨rfl, p14, g14⟩ := q14
    refine zz_gsn 3 rfl ?_
    refine zz_cv (n := 2) rfl rfl (t_Bytes_addFour2 (w := z) p14 (by first | exact hl1 | (simp only [List.length_append]; exact hl3)) (by decide)) (Nat.le_of_ble_eq_true rfl) (Nat.le_of_ble_eq_true rfl) (Nat.le_of_ble_eq_true rfl) (fun r18 σ18 q18 => ?_)
    obtain ⟨rfl, p18, g18⟩ := q18
    refine zz_gsn 3 rfl ?_
    refine zz_cv (n := 2) rfl rfl (t_Bytes_addFour2 (w := v) p18 (by first | exact hl1 | (simp only [List.length_append]; exact hl4)) (by decide)) (Nat.le_of_ble_eq_true rfl) (Nat.le_of_ble_eq_true rfl) (Nat.le_of_ble_eq_true rfl) (fun r22 σ22 q22 => ?_)
    obtain ⟨rfl, p22, g22⟩ := q22
    refine zz_gsn 3 rfl ?_
    refine zz_cv (n := 2) rfl rfl (t_Bytes_addFour2 (w := w) p22 (by first | exact hl1 | (simp only [List.length_append]; exact hl5)) (by decide)) (Nat.le_of_ble_eq_true rfl) (Nat.le_of_ble_eq_true rfl) (Nat.le_of_ble_eq_true rfl) (fun r26 σ26 q26 => ?_)
    obtain ⟨rfl, p26, g26⟩ := q26
    refine zz_gsn 3 rfl ?_
    refine zz_ri rfl (Or.inl rfl) ?_
    rw [show a_feed G x y z v w = (((G.t.length + 20 : Nat) : Int), (G.I, G.t ++ g_fd x y z v w, G.o, G.f, G.p, G.m)) from if_neg hn]
    have ep : G.t ++ zt_f x ++ zt_f y ++ zt_f z ++ zt_f v ++ zt_f w = G.t ++ g_fd x y z v w := by
      unfold g_fd
      simp only [List.append_assoc]
    rw [ep] at p26
    have F := (((g10.tr g14).tr g18).tr g22).tr g26
    exact ⟨congrArg (fun z => some (zI z)) (p26.1.trans (by rw [List.length_append, g_fd_len])), hG.tp p26 F, F.mono (fun a z => by unfold A_cl; rcases z with z | z <;> omega)⟩
