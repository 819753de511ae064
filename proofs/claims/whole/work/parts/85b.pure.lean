/-! told alike: as the states are -/
theorem tw_tu {W W' : zz_W} (k : ∀ r, r < 6 → z_ok (rl W r)) (k' : ∀ r, r < 6 → z_ok (rl W' r)) (h : W.S 7 = 0 ∨ W.S 7 = 1 ∨ W.S 7 = 2) (h' : W'.S 7 = 0 ∨ W'.S 7 = 1 ∨ W'.S 7 = 2) (g : 0 ≤ W.S 8 ∧ W.S 8 ≤ 99) (g' : 0 ≤ W'.S 8 ∧ W'.S 8 ≤ 99) (e : g_tu W = g_tu W') : W.S 7 = W'.S 7 ∧ (W.S 7 = 0 ∨ (W.S 8 = W'.S 8 ∧ rl W 3 = rl W' 3 ∧ rl W 5 = rl W' 5 ∧ (W.S 7 = 2 ∨ (rl W 2 = rl W' 2 ∧ rl W 4 = rl W' 4)))) := by
  have n1 : (W.S 8).toNat < 100 := by omega
  have n2 : (W'.S 8).toNat < 100 := by omega
  have n3 : (W.S 8).toNat = (W'.S 8).toNat → W.S 8 = W'.S 8 := fun z => by omega
  rcases h with h | h | h <;> rcases h' with h' | h' | h'
  · exact ⟨h.trans h'.symm, Or.inl h⟩
  · rw [tu0 h, tu1 h'] at e
    injection e with _ e
    injection e with e _
    exact absurd e (by decide)
  · rw [tu0 h, tu2 h'] at e
    injection e with _ e
    injection e with e _
    exact absurd e (by decide)
  · rw [tu1 h, tu0 h'] at e
    injection e with _ e
    injection e with e _
    exact absurd e (by decide)
  · refine ⟨h.trans h'.symm, Or.inr ?_⟩
    rw [tu1 h, tu1 h'] at e
    injection e with _ e
    injection e with _ e
    replace e := List.append_cancel_left e
    obtain ⟨e8, e⟩ := zt_n_inj n1 n2 (nd_nb nb_c) (nd_nb nb_c) e
    injection e with _ e
    injection e with _ e
    obtain ⟨e2, e⟩ := g_ns_inj (k 2 (by decide)) (k' 2 (by decide)) nb_c nb_c e
    injection e with _ e
    injection e with _ e
    obtain ⟨e3, e⟩ := g_ns_inj (k 3 (by decide)) (k' 3 (by decide)) nb_c nb_c e
    injection e with _ e
    injection e with _ e
    obtain ⟨e4, e⟩ := g_ns_inj (k 4 (by decide)) (k' 4 (by decide)) nb_c nb_c e
    injection e with _ e
    injection e with _ e
    obtain ⟨e5, -⟩ := g_ns_inj (k 5 (by decide)) (k' 5 (by decide)) nb_n nb_n e
    exact ⟨n3 e8, e3, e5, Or.inr ⟨e2, e4⟩⟩
  · rw [tu1 h, tu2 h'] at e
    injection e with _ e
    injection e with e _
    exact absurd e (by decide)
  · rw [tu2 h, tu0 h'] at e
    injection e with _ e
    injection e with e _
    exact absurd e (by decide)
  · rw [tu2 h, tu1 h'] at e
    injection e with _ e
    injection e with e _
    exact absurd e (by decide)
  · refine ⟨h.trans h'.symm, Or.inr ?_⟩
    rw [tu2 h, tu2 h'] at e
    injection e with _ e
    injection e with _ e
    replace e := List.append_cancel_left e
    obtain ⟨e8, e⟩ := zt_n_inj n1 n2 (nd_nb nb_c) (nd_nb nb_c) e
    injection e with _ e
    injection e with _ e
    obtain ⟨e3, e⟩ := g_ns_inj (k 3 (by decide)) (k' 3 (by decide)) nb_c nb_c e
    injection e with _ e
    injection e with _ e
    obtain ⟨e5, -⟩ := g_ns_inj (k 5 (by decide)) (k' 5 (by decide)) nb_n nb_n e
    exact ⟨n3 e8, e3, e5, Or.inl h⟩
theorem tw_ow {W W' : zz_W} (g : 0 ≤ W.S 9 ∧ W.S 9 ≤ 99) (g' : 0 ≤ W'.S 9 ∧ W'.S 9 ≤ 99) (f : 0 ≤ W.S 10 ∧ W.S 10 ≤ 99) (f' : 0 ≤ W'.S 10 ∧ W'.S 10 ≤ 99) (e : g_ow W = g_ow W') : W.S 9 = W'.S 9 ∧ W.S 10 = W'.S 10 := by
  have n1 : (W.S 9).toNat < 100 := by omega
  have n2 : (W'.S 9).toNat < 100 := by omega
  have n3 : (W.S 9).toNat = (W'.S 9).toNat → W.S 9 = W'.S 9 := fun z => by omega
  have m1 : (W.S 10).toNat < 100 := by omega
  have m2 : (W'.S 10).toNat < 100 := by omega
  have m3 : (W.S 10).toNat = (W'.S 10).toNat → W.S 10 = W'.S 10 := fun z => by omega
  have h32 : ∀ X : List Int, z_nd (32 :: X) := fun X x hx => by
    injection hx with hx
    omega
  rw [ow_e, ow_e] at e
  injection e with _ e
  replace e := List.append_cancel_left e
  obtain ⟨e9, e⟩ := zt_n_inj n1 n2 (h32 _) (h32 _) e
  injection e with _ e
  obtain ⟨e10, -⟩ := zt_n_inj m1 m2 (nd_nb nb_n) (nd_nb nb_n) e
  exact ⟨n3 e9, m3 e10⟩
theorem rl_ok {m : Nat} {mk : Int} {W : zz_W} (ok : w_ok m mk W) (r : Nat) : z_ok (rl W r) := fun x hx => by
  obtain ⟨c, hc, rfl⟩ := List.mem_map.mp hx
  exact ok.2.1 c (ok.1 r c hc)
theorem tx_tw {law : Int} {B B' m m' : Nat} {mk mk' : Int} {W W' : zz_W} (hI : IV law B W) (hI' : IV law B' W') (hB : B ≤ 60) (hB' : B' ≤ 60) (ok : w_ok m mk W) (ok' : w_ok m' mk' W') : g_tx law W = g_tx law W' ↔ TWN W W' := by
  obtain ⟨-, s8, s9, s10, s7, sl⟩ := IV_tell hI hB
  obtain ⟨-, s8', s9', s10', s7', sl'⟩ := IV_tell hI' hB'
  have h7 : W.S 7 = 0 ∨ W.S 7 = 1 ∨ W.S 7 = 2 := s7.elim Or.inl (fun z => Or.inr z.2)
  have h7' : W'.S 7 = 0 ∨ W'.S 7 = 1 ∨ W'.S 7 = 2 := s7'.elim Or.inl (fun z => Or.inr z.2)
  rw [tx_e, tx_e]
  constructor
  · intro e
    injection e with _ e
    obtain ⟨e0, e⟩ := g_ns_inj (rl_ok ok 0) (rl_ok ok' 0) nb_c nb_c e
    injection e with _ e
    injection e with _ e
    obtain ⟨e1, e⟩ := g_ns_inj (rl_ok ok 1) (rl_ok ok' 1) (ta_nb h7) (ta_nb h7') e
    unfold g_ta at e
    by_cases l1 : law = 1
    · rw [if_pos l1, if_pos l1] at e
      obtain ⟨t1, t2⟩ := tw_tu (fun r _ => rl_ok ok r) (fun r _ => rl_ok ok' r) h7 h7' s8 s8' e
      have q1 := sl (by omega)
      have q2 := sl' (by omega)
      exact ⟨e0, e1, t1, q1.1.trans q2.1.symm, q1.2.trans q2.2.symm, t2⟩
    · have z1 : W.S 7 = 0 := s7.elim id (fun z => absurd z.1 l1)
      have z2 : W'.S 7 = 0 := s7'.elim id (fun z => absurd z.1 l1)
      rw [if_neg l1, if_neg l1] at e
      by_cases l2 : law = 2
      · rw [if_pos l2, if_pos l2] at e
        obtain ⟨t1, t2⟩ := tw_ow s9 s9' s10 s10' e
        exact ⟨e0, e1, z1.trans z2.symm, t1, t2, Or.inl z1⟩
      · have q1 := sl l2
        have q2 := sl' l2
        exact ⟨e0, e1, z1.trans z2.symm, q1.1.trans q2.1.symm, q1.2.trans q2.2.symm, Or.inl z1⟩
  · intro t
    obtain ⟨e0, e1, e7, e9, e10, e⟩ := t
    rw [e0, e1]
    have z : g_ta law W = g_ta law W' := by
      unfold g_ta
      split
      · rcases h7 with h | h | h
        · rw [tu0 h, tu0 (e7.symm.trans h)]
        · rcases e with e | ⟨e8, e3, e5, e⟩
          · exact absurd (h.symm.trans e) (by decide)
          · rcases e with e | ⟨e2, e4⟩
            · exact absurd (h.symm.trans e) (by decide)
            · rw [tu1 h, tu1 (e7.symm.trans h), e8, e3, e5, e2, e4]
        · rcases e with e | ⟨e8, e3, e5, e⟩
          · exact absurd (h.symm.trans e) (by decide)
          · rw [tu2 h, tu2 (e7.symm.trans h), e8, e3, e5]
      · split
        · rw [ow_e, ow_e, e9, e10]
        · rfl
    rw [z]
theorem zl_eq_l {l l' : List Int} (h : ∀ x ∈ l, 0 ≤ x ∧ x ≤ 127) (h' : ∀ x ∈ l', 0 ≤ x ∧ x ≤ 127) : zl_eq l l' ↔ l = l' := by
  constructor
  · intro ⟨h1, h2⟩
    refine List.ext_getElem h1 (fun i a b => ?_)
    have z := h2 i a
    rw [zl_b_s a, zl_b_s b] at z
    have g1 : l.getD i 0 = l[i] := by
      rw [List.getD_eq_getElem?_getD, List.getElem?_eq_getElem a]
      rfl
    have g2 : l'.getD i 0 = l'[i] := by
      rw [List.getD_eq_getElem?_getD, List.getElem?_eq_getElem b]
      rfl
    rw [g1, g2, zz_a2 (h _ (List.getElem_mem a)), zz_a2 (h' _ (List.getElem_mem b))] at z
    exact z
  · intro e
    rw [e]
    exact ⟨rfl, fun _ _ => rfl⟩
theorem TWN.sy {W W' : zz_W} (h : TWN W W') : TWN W' W := by
  obtain ⟨a, b, c, d, e, f⟩ := h
  refine ⟨a.symm, b.symm, c.symm, d.symm, e.symm, ?_⟩
  rcases f with f | ⟨f1, f2, f3, f4⟩
  · exact Or.inl (c.symm.trans f)
  · exact Or.inr ⟨f1.symm, f2.symm, f3.symm, f4.elim (fun z => Or.inl (c.symm.trans z)) (fun z => Or.inr ⟨z.1.symm, z.2.symm⟩)⟩
theorem TWN.rf {W : zz_W} (h : W.S 7 = 0 ∨ W.S 7 = 1 ∨ W.S 7 = 2) : TWN W W := ⟨rfl, rfl, rfl, rfl, rfl, h.elim Or.inl (fun z => Or.inr ⟨rfl, rfl, rfl, Or.inr ⟨rfl, rfl⟩⟩)⟩
noncomputable def g_tk (I : zz_I) (v : Nat) (u : Nat) : Bool := z_B (TWN (hw (IH I) v) (hw (IH I) u))
noncomputable def a_twin (G : zz_J) (v : Int) : Int := if vz G.I.ho G.I.k v then (g_c (g_tk G.I v.toNat) v.toNat 0 : Nat) else -2
