/-! THE LAW'S ENTRY: texts, statics. -/
def zk_tm (i : Nat) : Term := .string (zz_sr.getD i ("", 0, "")).1 (zz_sr.getD i ("", 0, "")).2.1
def zk_vl (i : Nat) : Term := .field (zk_tm i) "java/lang/String" "value" "[B"
def zk_cd (i : Nat) : List Cond := [Cond.exactly (zk_tm i) "java/lang/String", Cond.eq (.field (zk_tm i) "java/lang/String" "coder" "B") (.int 0), Cond.arrayOf (zk_vl i) .byte, Cond.eq (.length (zk_vl i)) (.int (Int32.ofNat (zz_tx i).length))] ++ (List.range (zz_tx i).length).map (fun j => Cond.eq (.elem (zk_vl i) (.int (Int32.ofNat j))) (.int (nI ((zz_tx i).getD j 0))))
def zk_fl : List Cond := flatC (Jvm.Cond.and given_1 narrow_1)
set_option maxRecDepth 100000 in
theorem zk_cd_eq : ((List.range 37).flatMap zk_cd).map some = ([9, 10, 11, 12, 13, 14, 15, 16, 17, 18, 19, 20, 21, 22, 23, 24, 25, 26, 27, 28, 29, 30, 31, 32, 33, 34, 35, 36, 37, 38, 39, 40, 41, 42, 43, 44, 45, 46, 47, 48, 49, 50, 51, 52, 53, 54, 55, 56, 57, 58, 59, 60, 61, 62, 63, 64, 65, 66, 67, 68, 69, 70, 71, 72, 73, 74, 75, 76, 77, 78, 79, 80, 81, 82, 83, 84, 85, 86, 87, 88, 89, 90, 91, 92, 93, 94, 95, 96, 97, 98, 99, 100, 101, 102, 103, 104, 105, 106, 107, 108, 109, 110, 111, 112, 113, 114, 115, 116, 117, 118, 119, 120, 121, 122, 123, 124, 125, 126, 127, 128, 129, 130, 131, 132, 133, 134, 135, 136, 137, 138, 139, 140, 141, 142, 143, 144, 145, 146, 147, 148, 149, 150, 151, 152, 153, 154, 155, 156, 157, 158, 159, 160, 162, 163, 164, 165, 166, 167, 168, 170, 171, 172, 173, 174, 175, 176, 177, 178, 179, 180, 182, 183, 184, 185, 186, 187, 188, 190, 191, 192, 193, 194, 195, 196, 197, 199, 200, 201, 202, 203, 204, 205, 206, 208, 209, 210, 211, 212, 213, 214, 215, 217, 218, 219, 220, 221, 223, 224, 225, 226, 227, 229, 230, 231, 232, 233, 234, 235, 236, 237, 238, 239, 241, 242, 243, 244, 245, 246, 247, 248, 249, 251, 252, 253, 254, 255, 256, 257, 258, 259, 260, 261, 262, 263, 265, 266, 267, 268, 269, 270, 271, 272, 273, 274, 275, 276, 277, 279, 280, 281, 282, 283, 284, 286, 287, 288, 289, 290, 291, 293, 294, 295, 296, 297, 298, 300, 301, 302, 303, 304, 305, 307, 308, 309, 310, 311, 312, 313, 314, 315, 316] : List Nat).map (fun i => zk_fl[i]?) := by decide +kernel
theorem zk_cd_ok : ∀ i : Nat, i < 37 → ∀ c ∈ zk_cd i, c ∈ zk_fl := by
  intro i hi c hc
  have h1 : some c ∈ ((List.range 37).flatMap zk_cd).map some := List.mem_map.mpr ⟨c, List.mem_flatMap.mpr ⟨i, List.mem_range.mpr hi, hc⟩, rfl⟩
  rw [zk_cd_eq] at h1
  obtain ⟨k, -, hk⟩ := List.mem_map.mp h1
  exact List.mem_of_getElem? hk
theorem zk_tx_len : ∀ i : Nat, i < 37 → (zz_tx i).length < 2 ^ 31 := by
  intro i hi
  have h : (List.range 37).all (fun i => decide ((zz_tx i).length < 2 ^ 31)) = true := by decide +kernel
  exact of_decide_eq_true (List.all_eq_true.mp h i (List.mem_range.mpr hi))
def zk_sw : List Cond := zz_sr.map (fun q => Cond.stringRef q.1 q.2.1 q.2.2)
set_option maxRecDepth 100000 in
theorem zk_sw_ok : ∀ w ∈ zk_sw, w ∈ lw_tbl := by
  intro w hw
  have h : zk_sw.map some = ([627, 688, 693, 706, 707, 708, 709, 983, 1001, 1006, 1011, 1012, 1013, 1014, 1015, 1016, 1017, 1018, 1570, 1581, 1590, 1599, 1600, 1601, 1602, 1951, 1960, 1965, 1969, 1974, 1975, 1976, 1977, 1978, 1979, 1980, 1981] : List Nat).map (fun i => lw_tbl[i]?) := rfl
  have h1 : some w ∈ zk_sw.map some := List.mem_map.mpr ⟨w, hw, rfl⟩
  rw [h] at h1
  obtain ⟨i, -, hi⟩ := List.mem_map.mp h1
  exact List.mem_of_getElem? hi
theorem zk_texts {args : Array Value} {s : State} {A : Nat → Prop} (hgv : (Jvm.Cond.and given_1 narrow_1).before args s = true) (hts : ∀ w ∈ lw_tbl, w.before args s = true) (hA : ∀ a : Nat, a < s.heap.size → ¬ A a) : ∃ sa sv : Nat → Nat, (∀ i : Nat, i < 37 → va_O "java/lang/String" (sa i) A s s.heap ∧ va_OF "java/lang/String" "coder" "B" (.int 0) (sa i) A s s.heap ∧ va_OF "java/lang/String" "value" "[B" (.ref (sv i)) (sa i) A s s.heap ∧ va_T .byte (sv i) (zz_tx i).length (fun j => .int (nI ((zz_tx i).getD j 0))) A s s.heap) ∧ ∀ (i : Nat) (q : String × Nat × String), zz_sr[i]? = some q → vk_R q.1 q.2.1 q.2.2 (sa i) s := by
  have hs := flat_of_before _ hgv
  have h0 : ∀ i : Nat, ∃ q : Nat × Nat, i < 37 → (zk_tm i).eval args s none [] s = some (.ref q.1) ∧ va_O "java/lang/String" q.1 A s s.heap ∧ va_OF "java/lang/String" "coder" "B" (.int 0) q.1 A s s.heap ∧ va_OF "java/lang/String" "value" "[B" (.ref q.2) q.1 A s s.heap ∧ va_T .byte q.2 (zz_tx i).length (fun j => .int (nI ((zz_tx i).getD j 0))) A s s.heap := by
    intro i
    by_cases hi : i < 37
    · have hc : ∀ c ∈ zk_cd i, c.before args s = true := fun c hc => hs c (zk_cd_ok i hi c hc)
      obtain ⟨a, c, cA, kA, q1, q2, q3, q4, q5, q6, -⟩ := Cond.exactly_spec (args := args) (first := s) (o := none) (s := s) (idx := []) (t := zk_tm i) (cls := "java/lang/String") (hc _ (List.mem_append_left _ List.mem_cons_self))
      obtain ⟨t, ht, hT⟩ := va_Tof (f := fun j => .int (nI ((zz_tx i).getD j 0))) (A := A) (zk_tx_len i hi) (hc _ (List.mem_append_left _ (List.mem_of_getElem? (i := 2) rfl))) (va_eqt (hc _ (List.mem_append_left _ (List.mem_of_getElem? (i := 3) rfl)))) (fun j hj => va_eqt (hc _ (List.mem_append_right _ (List.mem_map.mpr ⟨j, List.mem_range.mpr hj, rfl⟩)))) hA
      exact ⟨(a, t), fun _ => ⟨q1, ⟨cA, q3, q5, by rw [q6]; exact q2, hA a (Array.getElem?_eq_some_iff.mp q3).1⟩, vk_OFof q1 (va_eqt (hc _ (List.mem_append_left _ (List.mem_of_getElem? (i := 1) rfl)))) hA, vk_OFof q1 ht hA, hT⟩⟩
    · exact ⟨(0, 0), fun h => absurd h hi⟩
  obtain ⟨ad, had⟩ := Classical.axiomOfChoice h0
  refine ⟨fun i => (ad i).1, fun i => (ad i).2, fun i hi => (had i hi).2, fun i q hq => ?_⟩
  have hi : i < 37 := (List.getElem?_eq_some_iff.mp hq).1
  have e : zz_sr.getD i ("", 0, "") = q := by rw [List.getD_eq_getElem?_getD, hq]; rfl
  have h2 := (had i hi).1
  unfold zk_tm at h2
  rw [e] at h2
  have h3 := hts (Cond.stringRef q.1 q.2.1 q.2.2) (zk_sw_ok _ (List.mem_map.mpr ⟨q, List.mem_of_getElem? hq, rfl⟩))
  obtain ⟨cur, hcur⟩ : ∃ cur, s.vm.findClass q.1 = some cur := by
    have h1 := h3
    simp only [Cond.before, Cond.holds, Cond.value] at h1
    cases hc : s.vm.findClass q.1 with
    | none => simp [hc] at h1
    | some cur => exact ⟨cur, rfl⟩
  exact vk_R.of h3 h2
theorem zk_stat {args : Array Value} {s : State} {A : Nat → Prop} (hgv : (Jvm.Cond.and given_1 narrow_1).before args s = true) (hts : ∀ w ∈ lw_tbl, w.before args s = true) (hA : ∀ a : Nat, a < s.heap.size → ¬ A a) : va_Z "java/lang/String" "COMPACT_STRINGS" "Z" (.int 1) A s s.heap ∧ va_Zq "jdk/internal/util/Preconditions" "SIOOBE_FORMATTER" "Ljava/util/function/BiFunction;" A s s.heap := by
  have hs := flat_of_before _ hgv
  refine ⟨va_Zof (hts _ (List.mem_of_getElem? (i := 645) (by decide +kernel))) (hts _ (List.mem_of_getElem? (i := 110) (by decide +kernel))) (va_eqt (hs _ (List.mem_of_getElem? (i := 4) (by decide +kernel)))) hA, va_Zqof (hts _ (List.mem_of_getElem? (i := 661) (by decide +kernel))) (hts _ (List.mem_of_getElem? (i := 112) (by decide +kernel))) (hs _ (List.mem_of_getElem? (i := 5) (by decide +kernel))) hA⟩
