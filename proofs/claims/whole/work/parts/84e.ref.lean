/-! the reference: words told -/
/-- what telling may change -/
def FO (m : Nat) (σ σ' : zz_M) : Prop := (∀ f a, ¬ (f = 1256 ∧ a = m) → σ'.1 f a = σ.1 f a) ∧ ∀ a, a ≠ m + 24 → σ'.2 a = σ.2 a
theorem FO.rf {m : Nat} {σ : zz_M} : FO m σ σ := ⟨fun _ _ _ => rfl, fun _ _ => rfl⟩
theorem FO.tr {m : Nat} {σ σ1 σ2 : zz_M} (h : FO m σ σ1) (h2 : FO m σ1 σ2) : FO m σ σ2 := ⟨fun f a q => (h2.1 f a q).trans (h.1 f a q), fun a q => (h2.2 a q).trans (h.2 a q)⟩
theorem FO.F {m : Nat} {σ σ' : zz_M} (h : FO m σ σ') : zz_F (A_rf m) σ σ' := fun a ha => ⟨fun f => h.1 f a (by unfold A_rf at ha; omega), fun i => by rw [h.2 a (by unfold A_rf at ha; omega)]⟩
theorem ro_add {σ : zz_M} {m : Nat} {v : Int} {l : List Int} (h : RO σ m l) (hb : l.length < 100000) : RO (zz_sf (zz_sa σ (m + 24) (σ.1 1256 m).toNat (zz_i2b (zz_i2b v))) 1256 m (zw (σ.1 1256 m + 1))) m (l ++ [zz_i2b v]) ∧ FO m σ (zz_sf (zz_sa σ (m + 24) (σ.1 1256 m).toNat (zz_i2b (zz_i2b v))) 1256 m (zw (σ.1 1256 m + 1))) := by
  obtain ⟨h1, h2⟩ := h
  refine ⟨⟨?_, fun i hi => ?_⟩, fun f a q => ?_, fun a q => ?_⟩
  · rw [sf_h, h1, zw_id (by omega) (by omega), List.length_append]
    show _ = ((l.length + 1 : Nat) : Int)
    omega
  · rw [List.length_append] at hi
    have hi2 : i < l.length + 1 := hi
    show (zz_sa σ (m + 24) (σ.1 1256 m).toNat (zz_i2b (zz_i2b v))).2 (m + 24) i = (l ++ [zz_i2b v]).getD i 0
    rw [h1, Int.toNat_natCast, zz_i2b_i]
    by_cases z : i = l.length
    · rw [z, sa_h, zl_gR]
    · rw [sa_i _ _ z, zl_gL (by omega)]
      exact h2 i (by omega)
  · rw [sf_1, if_neg q]
    rfl
  · exact funext (fun j => sa_a _ _ q)
theorem lp_rtells {X : zz_X} {m k : Nat} {l0 : List Int} {σ0 : zz_M} {Post : Option zz_V → zz_M → Prop} (hp : l0.length + (zz_tx k).length ≤ 1400) (kk : ∀ σ' : zz_M, RO σ' m (l0 ++ zt_w k) → FO m σ0 σ' → Post none σ') :
    ∀ (r i : Nat) (σ : zz_M), i + r = (zz_tx k).length → RO σ m (l0 ++ (zt_w k).take i) → FO m σ0 σ → zz_G X 5 p_Mo_tells 2 [zP 12 0 0 m, zO (k + 2), zI (i : Nat)] [] σ Post := by
  intro r
  induction r with
  | zero =>
    intro i σ hi h hF
    have e : (zt_w k).take i = zt_w k := List.take_of_length_le (by rw [zt_w_len]; omega)
    rw [e] at h
    refine zz_gsn 2 rfl ?_
    refine zz_cst rfl (Nat.le_of_ble_eq_true rfl) (Nat.le_of_ble_eq_true rfl) ?_
    refine zz_br rfl (fun h5 => ?_) (fun h5 => absurd h5 (by omega))
    refine zz_rv rfl rfl ?_
    exact kk σ h hF
  | succ r ih =>
    intro i σ hi h hF
    have hl : (l0 ++ (zt_w k).take i).length < 1400 := by rw [List.length_append, List.length_take, zt_w_len]; omega
    have h1 := h.1
    have ob12 : 0 ≤ (i : Int) ∧ (i : Int) < ((zz_tx k).length : Nat) := ⟨by omega, by omega⟩
    have ob14 : 0 ≤ σ.1 1256 m ∧ σ.1 1256 m < 1400 := ⟨by omega, by omega⟩
    have h5n : ¬ ((i : Nat) : Int) ≥ ((zz_tx k).length : Nat) := by omega
    have i9 : i + 1 + r = (zz_tx k).length := by omega
    have i10 : i < (zz_tx k).length := by omega
    have hl2 : (l0 ++ (zt_w k).take i).length < 100000 := Nat.lt_trans hl (by decide)
    have ei : zw ((i : Int) + 1) = ((i + 1 : Nat) : Int) := zw_s (by omega)
    refine zz_gsn 2 rfl ?_
    refine zz_cst rfl (Nat.le_of_ble_eq_true rfl) (Nat.le_of_ble_eq_true rfl) ?_
    refine zz_br rfl (fun h5 => absurd h5 h5n) (fun h5 => ?_)
    refine zz_gsn 6 rfl ?_
    refine zz_csc rfl (Nat.le_of_ble_eq_true rfl) (Nat.le_of_ble_eq_true rfl) (ob12) ?_
    refine zz_gsn 1 rfl ?_
    refine zz_ast rfl (ob14) ?_
    refine zz_gsn 7 rfl ?_
    refine zz_jp rfl ?_
    obtain ⟨p, g⟩ := ro_add (v := (((zz_tx k).getD i 0 : Nat) : Int)) h hl2
    rw [List.append_assoc, ← zt_w_g i10] at p
    rw [ei]
    exact ih (i + 1) _ i9 p (hF.tr g)
theorem t_Mo_tells {X : zz_X} {σ : zz_M} {m k : Nat} {l : List Int} (hB : RO σ m l) (hp : l.length + (zz_tx k).length ≤ 1400) : zz_T X 5 p_Mo_tells [zP 12 0 0 m, zO (k + 2)] σ (fun r σ' => r = none ∧ RO σ' m (l ++ zt_w k) ∧ FO m σ σ') := by
  refine zz_mk k_Mo_tells o_Mo_tells rfl rfl (Nat.le_of_ble_eq_true rfl) ?_
  show zz_G X 5 p_Mo_tells 0 [zP 12 0 0 m, zO (k + 2), zU] [] σ _
  refine zz_gsn 2 rfl ?_
  exact lp_rtells hp (fun σ' h1 h2 => ⟨rfl, h1, h2⟩) (zz_tx k).length 0 σ (Nat.zero_add _) (by rw [List.take_zero, List.append_nil]; exact hB) FO.rf
