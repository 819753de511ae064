/-! What both sides are about stays in order. -/
theorem ok_put {G : zz_J} {kind v x : Int} (ok : g_ok G) (hk : kind = 0 ∨ (kind = 2 ∧ G.I.law = 2)) : g_ok (a_put G kind v x).2 := ok.I (ap_ok ok.1.1 ok.1.2 hk)
theorem ok_take {G : zz_J} {kind v : Int} (ok : g_ok G) (hk : kind = 1 ∨ (kind = 3 ∧ G.I.law = 2)) : g_ok (a_take G kind v).2 := ok.I (aq_ok ok.1.1 ok.1.2 hk)
theorem ok_fore {G : zz_J} {v x : Int} (ok : g_ok G) : g_ok (a_fore G v x).2 := by
  unfold a_fore
  split
  · rename_i h
    exact ok_put ok (Or.inr ⟨rfl, h⟩)
  · exact ok
theorem ok_last {G : zz_J} {v : Int} (ok : g_ok G) : g_ok (a_last G v).2 := by
  unfold a_last
  split
  · rename_i h
    exact ok_take ok (Or.inr ⟨rfl, h⟩)
  · exact ok
theorem ok_undo {G : zz_J} (ok : g_ok G) : g_ok (a_undo G).2 := by
  unfold a_undo
  split
  · exact ok
  · rename_i h
    split
    · exact ok
    · rename_i h2
      have := (i_ho ok.1.1 h).2.2.2.1
      exact ok.I (i_cut_ok ok.1.1 ok.1.2 (by omega) (by omega))
theorem ok_anew {G : zz_J} (ok : g_ok G) : g_ok (a_anew G).2 := by
  unfold a_anew
  split
  · exact ok
  · rename_i h
    have := (i_ho ok.1.1 h).2.2.2.1
    exact ok.I (i_cut_ok ok.1.1 ok.1.2 this (Nat.le_refl _))
theorem ok_feed {G : zz_J} {a b c d e : Int} (ok : g_ok G) : g_ok (a_feed G a b c d e).2 := by
  unfold a_feed
  split
  · exact ok
  · rename_i h
    exact ok.fd h
theorem ok_end {G : zz_J} {n : Int} (ok : g_ok G) : g_ok (a_end G n).2 := by
  unfold a_end
  split
  · refine ⟨ok.1, ⟨?_, fun x hx => ok.2.1.2 x (List.mem_of_mem_take hx)⟩, ok.2.2.1, ok.2.2.2⟩
    exact Nat.le_trans (List.length_take_le' _ _) ok.2.1.1
  · exact ok
theorem ok_tell {G : zz_J} {v : Int} (ok : g_ok G) : g_ok (a_tell G v).2 := by
  unfold a_tell
  split
  · rename_i h
    exact ok.o (by omega)
  · exact ok
theorem ok_walk {G : zz_J} {v : Int} (ok : g_ok G) : g_ok (a_walk G v).2 := by
  unfold a_walk
  split
  · exact ok.t0
  · exact ok
theorem ok_image {G : zz_J} {k : Int} (ok : g_ok G) : g_ok (a_image G k).2 := by
  unfold a_image
  split
  · refine ⟨ok.1, ok.2.1, ok.2.2.1, fun i hi => ?_⟩
    show i_ok (zu G.m k.toNat G.I i) ∧ i_fx (zu G.m k.toNat G.I i)
    unfold zu
    split
    · exact ok.1
    · exact ok.2.2.2 i hi
  · exact ok
theorem ok_back {G : zz_J} {k : Int} (ok : g_ok G) : g_ok (a_back G k).2 := by
  unfold a_back
  split
  · rename_i h
    split
    · exact ok
    · exact ok.I ⟨i_fix_ok (ok.2.2.2 k.toNat (by omega)).1, i_fix_fx _⟩
  · exact ok
theorem ok_graft {G : zz_J} {u v w : Int} (ok : g_ok G) : g_ok (a_graft G u v w).2 := by
  unfold a_graft
  split
  · rename_i h
    obtain ⟨hu, hv, hw⟩ := h
    split
    · exact ok
    · rename_i hn0
      split
      · exact ok
      · rename_i hr
        rcases zd_wn_c G.I.D u.toNat v.toNat with ⟨n, hn⟩ | hn
        · have en : g_wn G u v = (n : Nat) := hn
          have en2 : (g_wn G u v).toNat = n := by omega
          rw [en2] at hr ⊢
          have hrc : g_rc G.I v.toNat n w.toNat = -1 := Classical.byContradiction fun z => hr (Or.inl z)
          have hkn : G.I.k + n ≤ 60 := by omega
          have hwl : w.toNat ≤ G.I.k := by omega
          have hvl : v.toNat ≤ G.I.k := by omega
          have zwl := zd_w_lt ok.1.1.1.zd hvl hn
          exact ok.I (i_gr_ok ok.1.1 ok.1.2 (i_ho ok.1.1 hu.1).1 hwl hkn (fun i hi => (zwl.2 i hi).1) (g_rc_n hrc) n (Nat.le_refl _)).1
        · exact absurd (show g_wn G u v < 0 from by rw [show g_wn G u v = -1 from hn]; decide) hn0
  · exact ok
theorem ok_house {G : zz_J} (ok : g_ok G) : g_ok (a_house G).2 := by
  unfold a_house
  split
  · exact zr_ok_h ok zr_I0_ok
  · split
    · exact zr_ok_h ok ok.1
    · rename_i h
      exact zr_ok_h ok ⟨i_fix_ok (zr_end_ok (Classical.byContradiction h)), i_fix_fx _⟩
