/-! the reference whole -/
/-- the reference at m: HOUSE and DEEDS -/
def RI (σ : zz_M) (m : Nat) (I : zz_I) : Prop := (I.ho = 0 ∧ σ.1 1213 m = 0) ∨ (I.ho = 1 ∧ (σ.1 1211 m = I.law ∧ σ.1 1212 m = I.C ∧ σ.1 1213 m = ((I.told + 1 : Nat) : Int) ∧ σ.1 1214 m = (I.told : Nat)) ∧ RV σ m I.law I.C I.k (IH I) I.D)
def RMg (σ : zz_M) (m i : Nat) (I : zz_I) : Prop := (I.ho = 0 ∧ σ.2 (m + 25) (188 * i + 4) = 0) ∨ (I.ho = 1 ∧ (σ.2 (m + 25) (188 * i) = I.law ∧ σ.2 (m + 25) (188 * i + 1) = I.C ∧ σ.2 (m + 25) (188 * i + 2) = ((I.told + 1 : Nat) : Int) ∧ σ.2 (m + 25) (188 * i + 3) = (I.told : Nat) ∧ σ.2 (m + 25) (188 * i + 4) = ((I.k + 1 : Nat) : Int)) ∧ ∀ j, j < I.k → σ.2 (m + 25) (188 * i + 5 + 3 * (j + 1)) = ((I.D j).2.1 : Nat) ∧ σ.2 (m + 25) (188 * i + 5 + 3 * (j + 1) + 1) = (I.D j).1 ∧ σ.2 (m + 25) (188 * i + 5 + 3 * (j + 1) + 2) = (I.D j).2.2)
def RT (σ : zz_M) (m : Nat) (l : List Int) : Prop := σ.1 1225 m = (l.length : Nat) ∧ ∀ i, i < l.length → σ.2 (m + 13) i = l.getD i 0
def RO (σ : zz_M) (m : Nat) (l : List Int) : Prop := σ.1 1256 m = (l.length : Nat) ∧ ∀ i, i < l.length → σ.2 (m + 24) i = l.getD i 0
def RG (σ : zz_M) (m : Nat) (G : zz_J) : Prop := RI σ m G.I ∧ RT σ m G.t ∧ RO σ m G.o ∧ (σ.1 1232 m = G.f ∧ σ.1 1233 m = G.p) ∧ (∀ i, i < 3 → RMg σ m i (G.m i)) ∧ σ.2 (m + 10) 0 = 0
/-- what trials leave as it is: n cells, all VERSIONS -/
def pf (f : Nat) : Prop := f = 1203 ∨ f = 1205 ∨ f = 1206 ∨ (1211 ≤ f ∧ f ≤ 1215) ∨ f = 1225 ∨ f = 1232 ∨ f = 1233 ∨ f = 1256
def pa (m n a i : Nat) : Prop := ((a = m + 1 ∨ a = m + 2) ∧ i < n) ∨ (a = m + 3 ∧ i < 732) ∨ (m + 5 ≤ a ∧ a ≤ m + 13) ∨ a = m + 24 ∨ a = m + 25
def Fr (m n : Nat) (σ σ' : zz_M) : Prop := (∀ f, pf f → σ'.1 f m = σ.1 f m) ∧ ∀ a i, pa m n a i → σ'.2 a i = σ.2 a i
theorem Fr.rf {m n : Nat} {σ : zz_M} : Fr m n σ σ := ⟨fun _ _ => rfl, fun _ _ _ => rfl⟩
theorem Fr.tr {m n : Nat} {σ σ1 σ2 : zz_M} (h : Fr m n σ σ1) (h2 : Fr m n σ1 σ2) : Fr m n σ σ2 := ⟨fun f q => (h2.1 f q).trans (h.1 f q), fun a i q => (h2.2 a i q).trans (h.2 a i q)⟩
theorem Fr.MP {σ σ' : zz_M} {m v n : Nat} {W : zz_W} (h : MP σ m v W) (hF : Fr m n σ σ') (hn : W.n ≤ n) (hv : v < 61) : MP σ' m v W := by
  obtain ⟨h1, h2, h3, h4⟩ := h
  refine ⟨fun k hk => ?_, fun j a b => ?_, ⟨(hF.1 _ (Or.inl rfl)).trans h3.1, fun i hi => ?_⟩, h4⟩
  · rw [hF.2 _ _ (by unfold pa; omega)]
    refine zz_ch_cong (fun c hc => ?_) (h1 k hk)
    have := h4 k hk c hc
    exact hF.2 _ _ (by unfold pa; omega)
  · rw [hF.2 _ _ (by unfold pa; omega)]
    exact h2 j a b
  · rw [hF.2 _ _ (by unfold pa; omega)]
    exact h3.2 i hi
theorem Fr.RV {σ σ' : zz_M} {m j : Nat} {law C : Int} {H : zz_H} {D : zz_D} (h : RV σ m law C j H D) (hF : Fr m H.n σ σ') (hj : j ≤ 60) : RV σ' m law C j H D := by
  obtain ⟨⟨r1, r2, r3⟩, r4, r5, r6, r7⟩ := h
  have f1 : ∀ f, pf f → σ'.1 f m = σ.1 f m := hF.1
  have f2 : ∀ a i, m + 5 ≤ a → a ≤ m + 13 → σ'.2 a i = σ.2 a i := fun a i y1 y2 => hF.2 a i (by unfold pa; omega)
  refine ⟨⟨(f1 _ (by unfold pf; omega)).trans r1, (f1 _ (by unfold pf; omega)).trans r2, (f1 _ (by unfold pf; omega)).trans r3⟩, fun v hv => ⟨Fr.MP (r4 v hv).1 hF (Nat.le_refl _) (by omega), ?_, fun i hi => ?_⟩, fun i hi => ?_, ?_, ?_⟩
  · rw [f2 _ _ (by omega) (by omega)]; exact (r4 v hv).2.1
  · rw [f2 _ _ (by omega) (by omega)]; exact (r4 v hv).2.2 i hi
  · rw [f2 _ _ (by omega) (by omega), f2 _ _ (by omega) (by omega), f2 _ _ (by omega) (by omega), f2 _ _ (by omega) (by omega), f2 _ _ (by omega) (by omega), f2 _ _ (by omega) (by omega)]
    exact r5 i hi
  · rw [f2 _ _ (by omega) (by omega)]; exact r6
  · rw [f2 _ _ (by omega) (by omega)]; exact r7
theorem Fr.RG {σ σ' : zz_M} {m : Nat} {G : zz_J} (h : RG σ m G) (ok : g_ok G) (hF : Fr m (gW G).n σ σ') : RG σ' m G := by
  obtain ⟨h1, h2, h3, h4, h5, h6⟩ := h
  have f1 : ∀ f, pf f → σ'.1 f m = σ.1 f m := hF.1
  have f2 : ∀ a i, m + 5 ≤ a → a ≤ m + 13 → σ'.2 a i = σ.2 a i := fun a i y1 y2 => hF.2 a i (by unfold pa; omega)
  refine ⟨?_, ⟨(f1 _ (by unfold pf; omega)).trans h2.1, fun i hi => (f2 _ _ (by omega) (by omega)).trans (h2.2 i hi)⟩, ⟨(f1 _ (by unfold pf; omega)).trans h3.1, fun i hi => (hF.2 _ _ (by unfold pa; omega)).trans (h3.2 i hi)⟩, ⟨(f1 _ (by unfold pf; omega)).trans h4.1, (f1 _ (by unfold pf; omega)).trans h4.2⟩, fun i hi => ?_, (f2 _ _ (by omega) (by omega)).trans h6⟩
  · rcases h1 with ⟨a, b⟩ | ⟨a, ⟨b1, b2, b3, b4⟩, c⟩
    · exact Or.inl ⟨a, (f1 _ (by unfold pf; omega)).trans b⟩
    · exact Or.inr ⟨a, ⟨(f1 _ (by unfold pf; omega)).trans b1, (f1 _ (by unfold pf; omega)).trans b2, (f1 _ (by unfold pf; omega)).trans b3, (f1 _ (by unfold pf; omega)).trans b4⟩, Fr.RV c hF ok.1.1.1.2.2.1⟩
  · have f3 : ∀ i, σ'.2 (m + 25) i = σ.2 (m + 25) i := fun i => hF.2 _ _ (by unfold pa; omega)
    unfold RMg
    simp only [f3]
    exact h5 i hi
theorem rv_of {σ : zz_M} {m : Nat} {I : zz_I} {v n : Int} (h : RI σ m I) (ho : i_ok I) (e : (n = 1 ∧ 0 < σ.1 1213 m ∧ 0 ≤ v ∧ v ≤ zw (σ.1 1215 m - 1)) ∨ (n = 0 ∧ ¬ (0 < σ.1 1213 m ∧ 0 ≤ v ∧ v ≤ zw (σ.1 1215 m - 1)))) : (n = 1 ∧ vz I.ho I.k v) ∨ (n = 0 ∧ ¬ vz I.ho I.k v) := by
  have hk := ho.1.2.2.1
  rcases h with ⟨a, b⟩ | ⟨a, ⟨b1, b2, b3, b4⟩, c⟩
  · rcases e with ⟨e1, e2, -⟩ | ⟨e1, e2⟩
    · omega
    · exact Or.inr ⟨e1, fun z => z.1 a⟩
  · have ez : zw (σ.1 1215 m - 1) = (I.k : Nat) := by
      rw [c.1.2.2]
      exact zw_p (n := I.k + 1) (Nat.succ_pos _) (by omega)
    rw [ez, b3] at e
    rcases e with ⟨e1, e2, e3, e4⟩ | ⟨e1, e2⟩
    · exact Or.inl ⟨e1, by rw [a]; decide, e3, e4⟩
    · exact Or.inr ⟨e1, fun ⟨z1, z2, z3⟩ => e2 ⟨by omega, z2, z3⟩⟩
theorem rh_of {σ : zz_M} {m : Nat} {I : zz_I} {n : Int} (h : RI σ m I) (e : (n = 1 ∧ 0 < σ.1 1213 m) ∨ (n = 0 ∧ ¬ 0 < σ.1 1213 m)) : (n = 1 ∧ I.ho = 1) ∨ (n = 0 ∧ I.ho = 0) := by
  rcases h with ⟨a, b⟩ | ⟨a, ⟨b1, b2, b3, b4⟩, c⟩
  · omega
  · omega
theorem ri_y {σ : zz_M} {m : Nat} {I : zz_I} (h : RI σ m I) (z : I.ho ≠ 0) : I.ho = 1 ∧ (σ.1 1211 m = I.law ∧ σ.1 1212 m = I.C ∧ σ.1 1213 m = ((I.told + 1 : Nat) : Int) ∧ σ.1 1214 m = (I.told : Nat)) ∧ RV σ m I.law I.C I.k (IH I) I.D := by
  rcases h with ⟨a, b⟩ | h
  · exact absurd a z
  · exact h
