/-! the class: walk -/
def a_walk (G : zz_J) (v : Int) : Int × zz_J := if vz G.I.ho G.I.k v then (r_wk G.I.law G.I.C 0 G.t (hw (gW G) v.toNat) 0, (G.I, [], G.o, G.f, G.p, G.m)) else (-2, G)
theorem CG.t0 {σ : zz_M} {b : Nat} {B : Int} {G : zz_J} (h : CG σ b B G) : CG (zz_sf σ 0 (b + 1) 0) b B (G.I, [], G.o, G.f, G.p, G.m) := by
  obtain ⟨hH, hBt, hBo, hft, him, hmk, htr⟩ := h
  have F : zz_F (fun a => a = b + 1) σ (zz_sf σ 0 (b + 1) 0) := zz_F.sf rfl
  refine ⟨hH.f F (fun a z => by omega), ⟨sf_h _ _ _ _, fun i hi => absurd hi (Nat.not_lt_zero i)⟩, hBo.f F (by omega) (by omega), ?_, fun i hi => (him i hi).f F (fun c y1 y2 z => by omega), ?_, htr.f F (fun a y1 y2 z => by omega) (fun z => absurd z (Nat.lt_irrefl 0))⟩
  · rw [(F (b + 5) (by omega)).1, (F (b + 5) (by omega)).1]; exact hft
  · rw [(F (b + 17) (by omega)).1]; exact ⟨fun i hi => by rw [(F (b + 21) (by omega)).2]; exact hmk.1 i hi, hmk.2⟩
theorem t_TQ_walk {X : zz_X} {σ : zz_M} {b : Nat} {B : Int} {G : zz_J} {v : Int} (hG : CG σ b B G) (ok : g_ok G) : zz_T X 8 p_TQ_walk [zP 11 0 0 b, zI v] σ (fun r σ' => r = some (zI (a_walk G v).1) ∧ CG σ' b B (a_walk G v).2 ∧ zz_F (A_cl b) σ σ') := by
  refine zz_mk k_TQ_walk o_TQ_walk rfl rfl (Nat.le_of_ble_eq_true rfl) ?_
  show zz_G X 8 p_TQ_walk 0 [zP 11 0 0 b, zI v, zU, zU] [] σ _
  obtain ⟨hH, hBt, hBo, hft, him, hmk, htr⟩ := id hG
  obtain ⟨⟨ho, hfx⟩, okt, oko, okm⟩ := id ok
  obtain ⟨hD, hV⟩ := id hH
  obtain ⟨d1, d2, d3, d4, dR⟩ := id hD
  obtain ⟨d5, d6, d7⟩ := id dR
  rcases Classical.em (vz G.I.ho G.I.k v) with hv | hv
  · obtain ⟨w, rfl⟩ : ∃ w : Nat, v = (w : Nat) := ⟨v.toNat, by omega⟩
    obtain ⟨z0, w1, w2⟩ := id hv
    have hw1 : w ≤ G.I.k := by omega
    obtain ⟨hS, -⟩ := hV.2.2.1 w hw1
    have hCC := (i_ho ho z0).2
    have hI0 := ((h_inv ho.1).1 w hw1).1
    refine zz_gsn 3 rfl ?_
    refine zz_cv (n := 2) rfl rfl (t_History_stateOf_y (v := w) hD hv) (Nat.le_of_ble_eq_true rfl) (Nat.le_of_ble_eq_true rfl) (Nat.le_of_ble_eq_true rfl) (fun r3 σ3 q3 => ?_)
    obtain ⟨rfl, rfl⟩ := q3
    refine zz_gsn 2 rfl ?_
    refine zz_jp rfl ?_
    refine zz_gsn 8 rfl ?_
    refine zz_cv (n := 4) rfl rfl (t_Trial_stepsOfLetters (t := b + 582) (d := b + 11 + 1) (a := b + 1) (B0 := w) (T := G.t) hS (by omega) (by omega) (by omega) (by rw [d2]; exact hI0) (by omega) (by rw [d3]; exact ⟨hCC.1, hCC.2.1⟩) hBt okt.1 okt.2) (Nat.le_of_ble_eq_true rfl) (Nat.le_of_ble_eq_true rfl) (Nat.le_of_ble_eq_true rfl) (fun r17 σ17 q17 => ?_)
    obtain ⟨rfl, g17⟩ := q17
    rw [d2, d3]
    refine zz_gsn 6 rfl ?_
    refine zz_ri rfl (Or.inl rfl) ?_
    rw [show a_walk G (w : Nat) = (r_wk G.I.law G.I.C 0 G.t (hw (gW G) w) 0, (G.I, [], G.o, G.f, G.p, G.m)) from if_pos hv]
    exact ⟨rfl, (hG.s (g17.mono (fun a z => by unfold A_tr at z; unfold A_cs; omega))).t0, (g17.mono (fun a z => by unfold A_tr at z; unfold A_cl; omega)).tr (zz_F.sf (by unfold A_cl; omega))⟩
  · refine zz_gsn 3 rfl ?_
    refine zz_cv (n := 2) rfl rfl (t_History_stateOf_n hD hv) (Nat.le_of_ble_eq_true rfl) (Nat.le_of_ble_eq_true rfl) (Nat.le_of_ble_eq_true rfl) (fun r3 σ3 q3 => ?_)
    obtain ⟨rfl, rfl⟩ := q3
    refine zz_gsn 2 rfl ?_
    refine zz_jp rfl ?_
    refine zz_gsn 1 rfl ?_
    refine zz_ri rfl (Or.inl rfl) ?_
    rw [show a_walk G v = (-2, G) from if_neg hv]
    exact ⟨rfl, hG, zz_F.rf⟩
