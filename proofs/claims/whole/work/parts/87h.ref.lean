/-! the reference: the DEEDS of a text done -/
theorem RV.g {σ σ' : zz_M} {m k : Nat} {law C : Int} {H : zz_H} {D : zz_D} (h : RV σ m law C k H D) (f1 : ∀ f, f = 1203 ∨ f = 1205 ∨ f = 1206 ∨ f = 1215 → σ'.1 f m = σ.1 f m) (f2 : ∀ a i, m + 1 ≤ a → a ≤ m + 12 → σ'.2 a i = σ.2 a i) : RV σ' m law C k H D := by
  obtain ⟨⟨r1, r2, r3⟩, r4, r5, r6, r7⟩ := h
  refine ⟨⟨(f1 _ (by decide)).trans r1, (f1 _ (by decide)).trans r2, (f1 _ (by decide)).trans r3⟩, fun v hv => ⟨(r4 v hv).1.ff (f1 _ (by decide)) (fun a y1 y2 => funext (fun i => f2 a i y1 (by omega))), (f2 _ _ (by omega) (by omega)).trans (r4 v hv).2.1, fun i hi => (f2 _ _ (by omega) (by omega)).trans ((r4 v hv).2.2 i hi)⟩, fun i hi => ?_, (f2 _ _ (by omega) (by omega)).trans r6, (f2 _ _ (by omega) (by omega)).trans r7⟩
  rw [f2 (m + 8) _ (by omega) (by omega), f2 (m + 9) _ (by omega) (by omega), f2 (m + 10) _ (by omega) (by omega), f2 (m + 5) _ (by omega) (by omega), f2 (m + 6) _ (by omega) (by omega), f2 (m + 7) _ (by omega) (by omega)]
  exact r5 i hi
/-- what the whole reading may change -/
def Fw (m : Nat) (σ σ' : zz_M) : Prop := (∀ f a, ¬ (a = m ∧ (f = 1225 ∨ (1227 ≤ f ∧ f ≤ 1236))) → σ'.1 f a = σ.1 f a) ∧ ∀ a, ¬ (m + 15 ≤ a ∧ a ≤ m + 18) → σ'.2 a = σ.2 a
theorem Fw.F {m : Nat} {σ σ' : zz_M} (h : Fw m σ σ') : zz_F (A_rf m) σ σ' := fun a ha => ⟨fun f => h.1 f a (by unfold A_rf at ha; omega), fun i => by rw [h.2 a (by unfold A_rf at ha; omega)]⟩
theorem Fq.w {m : Nat} {σ σ' : zz_M} (h : Fq m σ σ') : Fw m σ σ' := ⟨fun f a q => h.1 f a (fun z => q (by omega)), h.2⟩
theorem Fw.tr {m : Nat} {σ σ1 σ2 : zz_M} (h : Fw m σ σ1) (h2 : Fw m σ1 σ2) : Fw m σ σ2 := ⟨fun f a q => (h2.1 f a q).trans (h.1 f a q), fun a q => (h2.2 a q).trans (h.2 a q)⟩
theorem RG.rd {σ σ' : zz_M} {m : Nat} {f p : Int} {G : zz_J} (h : RG σ m G) (hF : Fw m σ σ') (h0 : σ'.1 1225 m = 0) (e1 : σ'.1 1232 m = f) (e2 : σ'.1 1233 m = p) : RG σ' m (G.I, [], G.o, f, p, G.m) := by
  obtain ⟨hI, hT, hO, hF', hM, h10⟩ := h
  have f1 : ∀ f, f < 1225 ∨ 1236 < f → σ'.1 f m = σ.1 f m := fun f z => hF.1 f m (by omega)
  refine ⟨?_, ⟨h0, fun i hi => absurd hi (Nat.not_lt_zero i)⟩, ⟨(f1 _ (by decide)).trans hO.1, fun i hi => by rw [hF.2 (m + 24) (by omega)]; exact hO.2 i hi⟩, ⟨e1, e2⟩, fun i hi => (hM i hi).e (fun j => by rw [hF.2 (m + 25) (by omega)]), by rw [hF.2 (m + 10) (by omega)]; exact h10⟩
  rcases hI with ⟨a, b⟩ | ⟨a, ⟨b1, b2, b3, b4⟩, c⟩
  · exact Or.inl ⟨a, (f1 _ (by decide)).trans b⟩
  · exact Or.inr ⟨a, ⟨(f1 _ (by decide)).trans b1, (f1 _ (by decide)).trans b2, (f1 _ (by decide)).trans b3, (f1 _ (by decide)).trans b4⟩, RV.g c (fun f z => f1 f (by omega)) (fun a i y1 y2 => by rw [hF.2 a (by omega)])⟩
theorem lp_rmk {X : zz_X} {m : Nat} {I : zz_I} {y : Int} {σ0 : zz_M} {Post : Option zz_V → zz_M → Prop} (ok : h_ok I.law I.C I.k I.D) (hC : 0 < I.k → 2 ≤ I.C ∧ I.C ≤ 4) (h40 : I.k ≤ 40) (hm : σ0.1 1236 m = (I.k : Nat)) (hD : ∀ i, i < I.k → σ0.2 (m + 15) i = ((I.D i).2.1 : Nat) ∧ σ0.2 (m + 16) i = (I.D i).1 ∧ σ0.2 (m + 17) i = (if zr_pt (I.D i).1 then (I.D i).2.2 else 0)) (kk : ∀ (σ' : zz_M) (x : Int), RV σ' m I.law I.C I.k (IH I) (i_fix I).D → Fb m σ0 σ' → zz_G X 8 p_Mo_house 125 [zP 12 0 0 m, zI y, zI x] [] σ' Post) :
    ∀ (r j : Nat) (σ : zz_M), j + r = I.k → RV σ m I.law I.C j (hh I.law I.C I.D j) (i_fix I).D → Fb m σ0 σ → zz_G X 8 p_Mo_house 104 [zP 12 0 0 m, zI y, zI (j : Nat)] [] σ Post := by
  have hk6 := ok.2.2.1
  intro r
  induction r with
  | zero =>
    intro j σ hj hV hF
    obtain rfl : j = I.k := hj
    have e4 : σ.1 1236 m = (I.k : Nat) := (hF.1 _ _ (by omega)).trans hm
    refine zz_gsn 3 rfl ?_
    rw [e4]
    refine zz_br rfl (fun h107 => ?_) (fun h107 => absurd h107 (Int.lt_irrefl _))
    exact kk σ _ hV hF
  | succ r ih =>
    intro j σ hj hV hF
    have hjk : j < I.k := by omega
    have i9 : j + 1 + r = I.k := by omega
    have j60 : j < 60 := by omega
    have j107 : ¬ ((j : Nat) : Int) ≥ (I.k : Nat) := by omega
    have o40 : I.k ≤ 40 → 0 ≤ ((j : Nat) : Int) ∧ ((j : Nat) : Int) < 40 := fun z => ⟨by omega, by omega⟩
    have e4 : σ.1 1236 m = (I.k : Nat) := (hF.1 _ _ (by omega)).trans hm
    obtain ⟨m1, m2, m3⟩ := hD j hjk
    rw [← hF.2 (m + 15) (by omega)] at m1
    rw [← hF.2 (m + 16) (by omega)] at m2
    rw [← hF.2 (m + 17) (by omega)] at m3
    have hst := ok.2.2.2 j hjk
    have hin := h_inv (ok.le (Nat.le_of_lt hjk))
    have hCC := hC (Nat.lt_of_le_of_lt (Nat.zero_le _) hjk)
    have ex : (I.D j).1 = 0 ∨ (I.D j).1 = 2 → (I.D j).2.2 = (if zr_pt (I.D j).1 then (I.D j).2.2 else 0) := fun z => (if_pos z).symm
    have e1 := h_one_n (law := I.law) (C := I.C) (j := j) (b := (I.D j).2.1) (H := hh I.law I.C I.D j) ex
    have e2 := h_x_n (b := (I.D j).2.1) (H := hh I.law I.C I.D j) ex
    have hst2 := h_st_n ex hst
    have zs : zw ((j : Int) + 1) = ((j + 1 : Nat) : Int) := zw_s (Nat.lt_trans j60 (by decide))
    refine zz_gsn 3 rfl ?_
    rw [e4]
    refine zz_br rfl (fun h107 => absurd h107 j107) (fun h107 => ?_)
    refine zz_gsn 4 rfl ?_
    refine zz_ald rfl (o40 h40) ?_
    rw [show σ.2 (m + 15) ((j : Nat) : Int).toNat = ((I.D j).2.1 : Nat) from m1]
    refine zz_gsn 3 rfl ?_
    refine zz_ald rfl (o40 h40) ?_
    rw [show σ.2 (m + 16) ((j : Nat) : Int).toNat = (I.D j).1 from m2]
    refine zz_gsn 3 rfl ?_
    refine zz_ald rfl (o40 h40) ?_
    rw [show σ.2 (m + 17) ((j : Nat) : Int).toNat = (if zr_pt (I.D j).1 then (I.D j).2.2 else 0) from m3]
    refine zz_cv (n := 4) rfl rfl (t_Mo_makes (v := (I.D j).2.1) (kind := (I.D j).1) (x := if zr_pt (I.D j).1 then (I.D j).2.2 else 0) hV j60 hin hCC hst2) (Nat.le_of_ble_eq_true rfl) (Nat.le_of_ble_eq_true rfl) (Nat.le_of_ble_eq_true rfl) (fun r121 σ121 q121 => ?_)
    obtain ⟨rfl, p121, f121⟩ := q121
    rw [← e1, ← e2] at p121
    refine zz_gsn 2 rfl ?_
    refine zz_jp rfl ?_
    rw [zs]
    refine ih (j + 1) σ121 i9 (RV.cg p121 (fun i hi => ?_)) (hF.tr f121.b)
    by_cases e : i = j
    · rw [e, zu_s]
      rfl
    · rw [zu_n _ _ e]
