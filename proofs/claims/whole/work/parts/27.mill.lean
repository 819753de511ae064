/-! the mill: laying -/
theorem t_Mill_laidAt {X : zz_X} {σ : zz_M} {p q m : Nat} {v : Int}  : zz_T X 1 p_Mill_laidAt [zP 4 p q m, zI v] σ (fun r σ' => σ = σ' ∧ ∃ n : Int, r = some (zI n) ∧ ((0 ≤ v ∧ v < q ∧ n = σ.2 (m + 6) v.toNat) ∨ (¬ (0 ≤ v ∧ v < q) ∧ n = -1))) := by
  refine zz_mk k_Mill_laidAt o_Mill_laidAt rfl rfl (Nat.le_of_ble_eq_true rfl) ?_
  show zz_G X 1 p_Mill_laidAt 0 [zP 4 p q m, zI v] [] σ _
  refine zz_gsn 1 rfl ?_
  refine zz_br rfl (fun h1 => ?_) (fun h1 => ?_)
  · refine zz_gsn 1 rfl ?_
    refine zz_ri rfl (Or.inl rfl) ?_
    exact ⟨rfl, _, rfl, by omega⟩
  · refine zz_gsn 4 rfl ?_
    refine zz_br rfl (fun h6 => ?_) (fun h6 => ?_)
    · refine zz_gsn 1 rfl ?_
      refine zz_ri rfl (Or.inl rfl) ?_
      exact ⟨rfl, _, rfl, by omega⟩
    · refine zz_gsn 3 rfl ?_
      refine zz_ald rfl (by omega) ?_
      refine zz_jp rfl ?_
      refine zz_ri rfl (Or.inl rfl) ?_
      exact ⟨rfl, _, rfl, by omega⟩
theorem zz_ch_drop {nx : Nat → Int} : ∀ {l : List Nat} {h : Int} {c : Nat} {t : List Nat}, zz_ch nx h l → l = c :: t → h = (c : Nat) ∧ zz_ch nx (nx c) t
  | _, _, _, _, h, rfl => h
/-- the laid numbers: at which places, by the pace -/
def w_at (l : List Int) (place : Int) (pace : Int) (h : Nat) : Option Int := if 0 ≤ ((h : Int) - place) * pace then l[(((h : Int) - place) * pace).toNat]? else none
theorem zz_snoc (l : List Int) (x : Int) (k : Nat) : (l ++ [x])[k]? = if k = l.length then some x else l[k]? := by
  by_cases h : k < l.length
  · have e := List.getElem?_append_left (l₂ := [x]) h
    rw [e, if_neg (Nat.ne_of_lt h)]
  · by_cases h2 : k = l.length
    · subst h2
      rw [if_pos rfl]
      simp
    · have h3 : (l ++ [x]).length ≤ k := by
        rw [List.length_append]
        show l.length + 1 ≤ k
        omega
      have h4 : l.length ≤ k := by omega
      rw [if_neg h2, List.getElem?_eq_none h3, List.getElem?_eq_none h4]
theorem w_at_app (l : List Int) (x : Int) {place pace : Int} (hp : pace = 1 ∨ pace = -1) (h : Nat) : w_at (l ++ [x]) place pace h = if (h : Int) = place + (l.length : Int) * pace then some x else w_at l place pace h := by
  unfold w_at
  rw [zz_snoc]
  rcases hp with rfl | rfl
  · rw [Int.mul_one, Int.mul_one]
    by_cases z : 0 ≤ (h : Int) - place
    · rw [if_pos z, if_pos z]
      by_cases z2 : ((h : Int) - place).toNat = l.length
      · have z3 : (h : Int) = place + (l.length : Int) := by omega
        rw [if_pos z2, if_pos z3]
      · have z3 : ¬ (h : Int) = place + (l.length : Int) := by omega
        rw [if_neg z2, if_neg z3]
    · have z3 : ¬ (h : Int) = place + (l.length : Int) := by omega
      rw [if_neg z, if_neg z, if_neg z3]
  · have e1 : ((h : Int) - place) * (-1) = place - h := by omega
    have e2 : (l.length : Int) * (-1) = -(l.length : Int) := by omega
    rw [e1, e2]
    by_cases z : 0 ≤ place - (h : Int)
    · rw [if_pos z, if_pos z]
      by_cases z2 : (place - (h : Int)).toNat = l.length
      · have z3 : (h : Int) = place + -(l.length : Int) := by omega
        rw [if_pos z2, if_pos z3]
      · have z3 : ¬ (h : Int) = place + -(l.length : Int) := by omega
        rw [if_neg z2, if_neg z3]
    · have z3 : ¬ (h : Int) = place + -(l.length : Int) := by omega
      rw [if_neg z, if_neg z, if_neg z3]
def Lay (m : Nat) (l : List Int) (place pace : Int) (p q : Nat) (σ σ' : zz_M) : Prop := σ'.1 = σ.1 ∧ (∀ a, a ≠ m + 6 → σ'.2 a = σ.2 a) ∧ (0 < p → ∀ h : Nat, h < q → (∀ x, w_at l place pace h = some x → σ'.2 (m + 6) h = x) ∧ (w_at l place pace h = none → σ'.2 (m + 6) h = σ.2 (m + 6) h))
theorem lp_lay {X : zz_X} {p q m r : Nat} {ln cnt : Nat} {place pace : Int} {σ : zz_M} {num : Nat → Int} {n : Nat} {Post : Option zz_V → zz_M → Prop} (hpace : pace = 1 ∨ pace = -1) (hplace : -100000 < place ∧ place < 100000) (hln : ln < 100000) (hlen : σ.1 701 r = (ln : Nat)) (hq : q < 100000)
    (hpool : 0 < p → n ≤ p ∧ ∀ i, i < n → σ.2 (m + 2) i = num i) (L0 : List Nat) (hL0 : L0.length = ln) (hids : ∀ c ∈ L0, c < n)
    (k : ∀ σ', Lay m (L0.map num) place pace p q σ σ' → Post none σ') :
    ∀ (t : List Nat) (i : Nat) (σ1 : zz_M) (h x : Int) , L0.drop i = t → i + t.length = ln → (0 < p → zz_ch (σ.2 (m + 3)) h t) → Lay m ((L0.take i).map num) place pace p q σ σ1 → ∀ u, zz_G X 2 p_Mill_lay 5 [zP 4 p q m, zP 7 0 0 r, zI place, zI pace, zI h, zI (i : Nat), u] [] σ1 Post := by
  intro t
  induction t with
  | nil =>
    intro i σ1 h x hd hi hch hM u
    obtain ⟨m1, m2, m3⟩ := hM
    refine zz_gsn 3 rfl ?_
    have e : σ1.1 701 r = (ln : Nat) := by rw [m1]; exact hlen
    have hil : i = ln := by simpa using hi
    refine zz_br rfl (fun h8 => ?_) (fun h8 => absurd h8 (by omega))
    refine zz_rv rfl rfl (k σ1 ⟨m1, m2, ?_⟩)
    have e2 : L0.take i = L0 := List.take_of_length_le (by omega)
    rw [e2] at m3
    exact m3
  | cons c t ih =>
    intro i σ1 h x hd hi hch hM u
    obtain ⟨m1, m2, m3⟩ := hM
    have hil : i < ln := by simp only [List.length_cons] at hi; omega
    have hget : L0[i]? = some c := by
      have : (L0.drop i)[0]? = some c := by rw [hd]; rfl
      rw [List.getElem?_drop] at this
      exact this
    have hcn : c < n := hids c (List.mem_of_getElem? hget)
    have htk : L0.take (i + 1) = L0.take i ++ [c] := by rw [List.take_add_one, hget]; rfl
    have hd' : L0.drop (i + 1) = t := by rw [← List.drop_drop, hd]; rfl
    refine zz_gsn 3 rfl ?_
    have e : σ1.1 701 r = (ln : Nat) := by rw [m1]; exact hlen
    refine zz_br rfl (fun h8 => absurd h8 (by omega)) (fun h8 => ?_)
    have ea : zw (place + zw ((i : Int) * pace)) = place + (i : Int) * pace := by
      rcases hpace with rfl | rfl
      · rw [Int.mul_one, zw_id (x := (i : Int)) (by omega) (by omega), zw_id (by omega) (by omega)]
      · rw [show (i : Int) * (-1) = -(i : Int) by omega, zw_id (x := -(i : Int)) (by omega) (by omega), zw_id (by omega) (by omega)]
    have ei : zw ((i : Int) + 1) = ((i + 1 : Nat) : Int) := by rw [zw_id (by omega) (by omega)]; omega
    -- what is read behind
    have fin : ∀ (σ2 : zz_M) (u : zz_V), Lay m ((L0.take (i + 1)).map num) place pace p q σ σ2 → zz_G X 2 p_Mill_lay 30 [zP 4 p q m, zP 7 0 0 r, zI place, zI pace, zI h, zI (i : Nat), u] [] σ2 Post := by
      intro σ2 u hM2
      refine zz_gsn 3 rfl ?_
      refine zz_cv (n := 2) rfl rfl (t_Cells_behind) (Nat.le_of_ble_eq_true rfl) (Nat.le_of_ble_eq_true rfl) (Nat.le_of_ble_eq_true rfl) (fun r33 σ33 q33 => ?_)
      obtain ⟨rfl, n33, rfl, e33⟩ := q33
      refine zz_gsn 2 rfl ?_
      refine zz_jp rfl ?_
      have he : (0 < p → zz_ch (σ.2 (m + 3)) n33 t) := fun hp => by
        obtain ⟨y1, y2⟩ := hch hp
        rcases e33 with ⟨-, -, e33⟩ | ⟨e33, -⟩
        · rw [e33, y1, Int.toNat_natCast, hM2.2.1 (m + 1 + 2) (by omega)]
          exact y2
        · exact absurd ⟨by omega, by have := (hpool hp).1; omega⟩ e33
      rw [ei]
      exact ih (i + 1) σ2 n33 x hd' (by simp only [List.length_cons] at hi; omega) he hM2 _
    -- the numbers laid so far, one more
    have hl : ((L0.take i).map num).length = i := by
      rw [List.length_map, List.length_take, hL0]
      exact Nat.min_eq_left (Nat.le_of_lt hil)
    have wat : ∀ h : Nat, w_at ((L0.take (i + 1)).map num) place pace h = if (h : Int) = place + (i : Int) * pace then some (num c) else w_at ((L0.take i).map num) place pace h := by
      intro h
      have z := w_at_app ((L0.take i).map num) (num c) hpace (place := place) h
      rw [hl] at z
      rw [htk, List.map_append, List.map_cons, List.map_nil]
      exact z
    have out : ¬ (0 ≤ place + (i : Int) * pace ∧ place + (i : Int) * pace < q) → Lay m ((L0.take (i + 1)).map num) place pace p q σ σ1 := by
      intro hno
      refine ⟨m1, m2, fun hp h hh => ?_⟩
      rw [wat h, if_neg (fun z => hno (by omega))]
      exact m3 hp h hh
    refine zz_gsn 7 rfl ?_
    refine zz_br rfl (fun h16 => ?_) (fun h16 => ?_)
    · exact fin _ _ (out (by rw [ea] at h16; omega))
    · refine zz_gsn 4 rfl ?_
      refine zz_br rfl (fun h21 => ?_) (fun h21 => ?_)
      · exact fin _ _ (out (by rw [ea] at h21; omega))
      · refine zz_gsn 6 rfl ?_
        refine zz_cv (n := 2) rfl rfl (t_Cells_numberOf) (Nat.le_of_ble_eq_true rfl) (Nat.le_of_ble_eq_true rfl) (Nat.le_of_ble_eq_true rfl) (fun r28 σ28 q28 => ?_)
        obtain ⟨rfl, n28, rfl, e28⟩ := q28
        refine zz_ast rfl (by omega) ?_
        refine fin _ _ ⟨m1, fun a ha => ?_, fun hp h' hh => ?_⟩
        · funext z
          rw [sa_a _ _ ha, m2 a ha]
        · have en : n28 = num c := by
            obtain ⟨y1, y2⟩ := hch hp
            rcases e28 with ⟨-, -, e28⟩ | ⟨e28, -⟩
            · rw [e28, y1, Int.toNat_natCast, m2 (m + 1 + 1) (by omega)]
              exact (hpool hp).2 c hcn
            · exact absurd ⟨by omega, by have := (hpool hp).1; omega⟩ e28
          rw [wat h']
          rw [ea]
          by_cases z : (h' : Int) = place + (i : Int) * pace
          · rw [if_pos z]
            have ez : (place + (i : Int) * pace).toNat = h' := by omega
            rw [ez, sa_h]
            exact ⟨fun x hx => by cases hx; exact en, fun hx => by cases hx⟩
          · rw [if_neg z, sa_i _ _ (by rw [ea] at h16 h21; omega)]
            exact m3 hp h' hh
theorem t_Mill_lay {X : zz_X} {σ : zz_M} {p q m s j : Nat} {W : zz_W} {place pace : Int} (hSP : SP σ p m s W) (hj : j < 6) (hpace : pace = 1 ∨ pace = -1) (hplace : -100000 < place ∧ place < 100000) (hl : (W.R j).length < 100000) (hq : q < 100000) : zz_T X 2 p_Mill_lay [zP 4 p q m, zP 7 0 0 (s + 1 + j), zI place, zI pace] σ (fun r σ' => r = none ∧ Lay m ((W.R j).map W.num) place pace p q σ σ') := by
  refine zz_mk k_Mill_lay o_Mill_lay rfl rfl (Nat.le_of_ble_eq_true rfl) ?_
  show zz_G X 2 p_Mill_lay 0 [zP 4 p q m, zP 7 0 0 (s + 1 + j), zI place, zI pace, zU, zU, zU] [] σ _
  refine zz_gsn 5 rfl ?_
  exact lp_lay (r := s + 1 + j) (ln := (W.R j).length) (num := W.num) (n := W.n) (cnt := 0) hpace hplace hl (hSP.1 j hj).1 hq (fun hp => ⟨(hSP.2.2.2.1 hp).2.1, fun i hi => ((hSP.2.2.2.1 hp).2.2 i hi).1⟩) (W.R j) rfl (hSP.2.2.2.2 j hj) (fun σ' h => ⟨rfl, h⟩) (W.R j) 0 σ (σ.1 700 (s + 1 + j)) 0 rfl (by omega) (fun hp => (hSP.1 j hj).2 hp) ⟨rfl, fun _ _ => rfl, fun _ h _ => ⟨fun x hx => by unfold w_at at hx; split at hx <;> simp at hx, fun _ => rfl⟩⟩ zU
