/-! What the Statement gives of the start, as numbers -/
def pEx : List Nat := [180, 185, 190, 195, 108, 113, 200, 205, 210, 215, 220, 138, 143, 148, 153, 158, 163, 168, 225, 230, 123, 235, 240, 245, 250, 255, 260, 265, 270, 275, 280, 118, 128, 133, 62, 14, 4, 9]
def pF : List (List Nat) := [[181, 186, 191, 196, 109, 114, 201, 206, 211, 216, 221, 139, 144, 149, 154, 159, 164, 169, 226, 231, 124, 236, 241, 246, 251, 256, 261, 266, 271, 276, 281, 119, 129, 134, 63, 15, 5, 10], [182, 187, 192, 197, 110, 115, 202, 207, 212, 217, 222, 140, 145, 150, 155, 160, 165, 170, 227, 232, 125, 237, 242, 247, 252, 257, 262, 267, 272, 277, 282, 120, 130, 135, 64, 16, 6, 11], [183, 188, 193, 198, 111, 116, 203, 208, 213, 218, 223, 141, 146, 151, 156, 161, 166, 171, 228, 233, 126, 238, 243, 248, 253, 258, 263, 268, 273, 278, 283, 121, 131, 136, 65, 17, 7, 12], [184, 189, 194, 199, 112, 117, 204, 209, 214, 219, 224, 142, 147, 152, 157, 162, 167, 172, 229, 234, 127, 239, 244, 249, 254, 259, 264, 269, 274, 279, 284, 122, 132, 137, 66, 18, 8, 13]]
def pAl : List Nat := [24, 25, 26, 27, 28, 29, 30, 31, 32, 33, 34, 35, 36, 37, 38, 39, 40, 41, 42, 43, 44, 45, 46, 47, 48, 49, 50, 51, 52, 53, 54, 55, 56, 57, 58, 59, 60, 61]
def pSm : List Nat := [70, 71, 72, 73, 74, 75, 76, 77, 78, 79, 80, 81, 82, 83, 84, 85, 86, 87, 88, 89, 90, 91, 92, 93, 94, 95, 96, 97, 98, 99, 100, 101, 102, 103, 104, 105, 106, 107]
def pLs : List Nat := [2367, 2368, 2369, 2370, 780, 782, 2371, 2372, 2373, 2374, 2375, 957, 963, 965, 967, 969, 971, 973, 2376, 2377, 814, 2378, 2379, 2380, 2381, 2382, 2383, 2384, 2385, 2386, 2387, 812, 836, 862, 696, 681, 179, 679]
def pIn : List Nat := [218, 566, 285, 521, 212, 167, 408, 500, 173, 475, 159, 1526]
def flN : List Cond := flatC (Jvm.Cond.and given_1 narrow_1)
abbrev kD : String := "LMarkGuards$Kind;"
def kSt (i : Nat) : Term := .static "MarkGuards$Kind" (kcs.getD i "") kD
def kAl : Term := .static "MarkGuards$Kind" "ALL" "[LMarkGuards$Kind;"
def kSm : Term := .static "MarkGuards$1" "$SwitchMap$MarkGuards$Kind" "[I"
def kFq (b : Nat) : String × String × String × List Int32 := kF.getD b ("", "", "", [])
theorem fl_ex : ∀ i, i < 38 → flN[pEx.getD i 0]? = some (.exactly (kSt i) "MarkGuards$Kind") := by decide +kernel
theorem fl_f : ∀ b, b < 4 → ∀ i, i < 38 → flN[(pF.getD b []).getD i 0]? = some (.eq (.field (kSt i) (kFq b).1 (kFq b).2.1 (kFq b).2.2.1) (.int ((kFq b).2.2.2.getD i 0))) := by decide +kernel
theorem fl_al : ∀ j, j < 38 → flN[pAl.getD j 0]? = some (.eq (.elem kAl (.int (Int32.ofNat j))) (kSt j)) := by decide +kernel
theorem fl_sm : ∀ j, j < 38 → flN[pSm.getD j 0]? = some (.eq (.elem kSm (.int (Int32.ofNat j))) (.int (Int32.ofInt (smap.getD j 0)))) := by decide +kernel
theorem fl_a1 : flN[21]? = some (.arrayOf kAl (.object "MarkGuards$Kind")) := by decide +kernel
theorem fl_a2 : flN[22]? = some (.eq (.length kAl) (.int (Int32.ofNat 38))) := by decide +kernel
theorem fl_s1 : flN[68]? = some (.arrayOf kSm .int) := by decide +kernel
theorem fl_s2 : flN[69]? = some (.eq (.length kSm) (.int (Int32.ofNat 38))) := by decide +kernel
theorem tb_ls : ∀ i, i < 38 → lw_tbl[pLs.getD i 0]? = some (.laysStatic "MarkGuards$Kind" (kcs.getD i "") kD) := by decide +kernel
theorem tb_la : lw_tbl[686]? = some (.laysStatic "MarkGuards$Kind" "ALL" "[LMarkGuards$Kind;") := by decide +kernel
theorem tb_lm : lw_tbl[707]? = some (.laysStatic "MarkGuards$1" "$SwitchMap$MarkGuards$Kind" "[I") := by decide +kernel
theorem tb_ik : Cond.initialized "MarkGuards$Kind" ∈ lw_tbl := (List.mem_filter.mp good_initK).1
theorem tb_i1 : Cond.initialized "MarkGuards$1" ∈ lw_tbl := List.mem_of_getElem? (i := 146) (by decide +kernel)
theorem tb_ok : Cond.arrayOver (.object "MarkGuards$Kind") ∈ lw_tbl := List.mem_of_getElem? (i := 291) (by decide +kernel)
theorem tb_or : Cond.arrayOver (.object "MarkGuards$Run") ∈ lw_tbl := List.mem_of_getElem? (i := 572) (by decide +kernel)
theorem tb_ai : Cond.arrayClass .int ∈ lw_tbl := List.mem_of_getElem? (i := 210) (by decide +kernel)
theorem tb_al : Cond.arrayClass .long ∈ lw_tbl := List.mem_of_getElem? (i := 319) (by decide +kernel)
theorem tb_az : Cond.arrayClass .boolean ∈ lw_tbl := List.mem_of_getElem? (i := 564) (by decide +kernel)
theorem tb_in : ∀ k, k < 12 → lw_tbl[pIn.getD k 0]? = some (.instantiable (clN (k : Int)) (cnF (k : Int))) := by decide +kernel
theorem kF_inj : ∀ i, i < 38 → ∀ j, j < 38 → (kFq 0).2.2.2.getD i 0 = (kFq 0).2.2.2.getD j 0 → i = j := by decide +kernel
theorem fl_w1 : flN[378]? = some (.exactly (.string "MarkGuardsModel" 206) "java/lang/String") := by decide +kernel
theorem fl_w2 : flN[379]? = some (.eq (.field (.string "MarkGuardsModel" 206) "java/lang/String" "coder" "B") (.int 0)) := by decide +kernel
theorem fl_w3 : flN[380]? = some (.arrayOf (.field (.string "MarkGuardsModel" 206) "java/lang/String" "value" "[B") .byte) := by decide +kernel
theorem fl_w4 : flN[381]? = some (.eq (.length (.field (.string "MarkGuardsModel" 206) "java/lang/String" "value" "[B")) (.int (Int32.ofNat 106))) := by decide +kernel
theorem fl_w5 : ∀ j, j < 106 → flN[382 + j]? = some (.eq (.elem (.field (.string "MarkGuardsModel" 206) "java/lang/String" "value" "[B") (.int (Int32.ofNat j))) (.int (Int32.ofInt (wbytes.getD j 0)))) := by decide +kernel
theorem fl_w6 : flN[345]? = some (.exactly (.string "MarkGuards" 130) "java/lang/String") := by decide +kernel
theorem fl_w7 : flN[362]? = some (.exactly (.string "MarkGuards" 160) "java/lang/String") := by decide +kernel
theorem fl_w8 : flN[175]? = some (.eq (.static "java/lang/String" "COMPACT_STRINGS" "Z") (.int 1)) := by decide +kernel
theorem fl_w9 : flN[176]? = some (.isRef (.static "jdk/internal/util/Preconditions" "SIOOBE_FORMATTER" "Ljava/util/function/BiFunction;")) := by decide +kernel
theorem fl_wa : flN[173]? = some (.isRef (.static Bundle.tN "UNASSIGNED_STACK" Bundle.steD)) := by decide +kernel
theorem fl_wb : flN[174]? = some (.isRef (.static Bundle.tN "SUPPRESSED_SENTINEL" Bundle.listD)) := by decide +kernel
theorem fl_wc : flN[298]? = some (.not (.castable "java/util/NoSuchElementException" "java/lang/IndexOutOfBoundsException")) := by decide +kernel
theorem st_strs {s : State} {args : Array Value} {A : Nat → Prop} (hts : ∀ w ∈ lw_tbl, w.before args s = true) (hfl : ∀ w ∈ flN, w.before args s = true) (hA : ∀ a : Nat, a < s.heap.size → ¬ A a) :
    ∃ a1 a2 a3 a4 : Nat, StX A a1 a2 s s.heap ∧ vk_R "MarkGuardsModel" 206 wtx a1 s ∧ vk_R "MarkGuards" 130 "no such block" a3 s ∧ vk_R "MarkGuards" 160 "no such what" a4 s ∧ vx_Zq Bundle.tN "UNASSIGNED_STACK" Bundle.steD A s s.heap ∧ vx_Zq Bundle.tN "SUPPRESSED_SENTINEL" Bundle.listD A s s.heap ∧ va_Nc "java/util/NoSuchElementException" "java/lang/IndexOutOfBoundsException" s := by
  obtain ⟨a1, c1, cA, kA, q1, q2, q3, q4, q5, q6, -⟩ := Cond.exactly_spec (args := args) (first := s) (o := none) (s := s) (idx := []) (t := .string "MarkGuardsModel" 206) (cls := "java/lang/String") (hfl _ (List.mem_of_getElem? fl_w1))
  obtain ⟨a2, ht, hT⟩ := va_Tof (f := fun j => .int (Int32.ofInt (wbytes.getD j 0))) (A := A) (N := 106) (by decide) (hfl _ (List.mem_of_getElem? fl_w3)) (va_eqt (hfl _ (List.mem_of_getElem? fl_w4))) (fun j hj => va_eqt (hfl _ (List.mem_of_getElem? (fl_w5 j hj)))) hA
  obtain ⟨a3, -, -, -, r1, -⟩ := Cond.exactly_spec (args := args) (first := s) (o := none) (s := s) (idx := []) (t := .string "MarkGuards" 130) (cls := "java/lang/String") (hfl _ (List.mem_of_getElem? fl_w6))
  obtain ⟨a4, -, -, -, u1, -⟩ := Cond.exactly_spec (args := args) (first := s) (o := none) (s := s) (idx := []) (t := .string "MarkGuards" 160) (cls := "java/lang/String") (hfl _ (List.mem_of_getElem? fl_w7))
  have w1 : (Cond.stringRef "MarkGuardsModel" 206 wtx).before args s = true := hts _ (List.mem_of_getElem? (i := 1791) (by decide +kernel))
  have w2 : (Cond.stringRef "MarkGuards" 130 "no such block").before args s = true := hts _ (List.mem_of_getElem? (i := 1482) (by decide +kernel))
  have w3 : (Cond.stringRef "MarkGuards" 160 "no such what").before args s = true := hts _ (List.mem_of_getElem? (i := 1518) (by decide +kernel))
  have i0 : (Cond.initialized "java/lang/String").before args s = true := hts _ (List.mem_of_getElem? (i := 148) (by decide +kernel))
  have i3 : (Cond.initialized "jdk/internal/util/Preconditions").before args s = true := hts _ (List.mem_of_getElem? (i := 150) (by decide +kernel))
  have it : (Cond.initialized Bundle.tN).before args s = true := hts _ (List.mem_of_getElem? (i := 152) (by decide +kernel))
  refine ⟨a1, a2, a3, a4, ⟨⟨cA, q3, q5, by rw [q6]; exact q2, hA a1 (Array.getElem?_eq_some_iff.mp q3).1⟩, vk_OFof q1 (va_eqt (hfl _ (List.mem_of_getElem? fl_w2))) hA, vk_OFof q1 ht hA, hT, va_Zof (hts _ (List.mem_of_getElem? (i := 1801) (by decide +kernel))) i0 (va_eqt (hfl _ (List.mem_of_getElem? fl_w8))) hA, va_Zqof (hts _ (List.mem_of_getElem? (i := 1817) (by decide +kernel))) i3 (hfl _ (List.mem_of_getElem? fl_w9)) hA⟩, vk_R.of w1 q1, vk_R.of w2 r1, vk_R.of w3 u1, vx_Zqof (hts _ (List.mem_of_getElem? (i := 1469) (by decide +kernel))) it (hfl _ (List.mem_of_getElem? fl_wa)) hA, vx_Zqof (hts _ (List.mem_of_getElem? (i := 1471) (by decide +kernel))) it (hfl _ (List.mem_of_getElem? fl_wb)) hA, va_Nc.of (hfl _ (List.mem_of_getElem? fl_wc))⟩
theorem tb_thrw : ∀ w ∈ thrW, w ∈ lw_tbl := by decide +kernel
section START
variable {s : State} {args : Array Value} {A : Nat → Prop}
theorem st_En (hts : ∀ w ∈ lw_tbl, w.before args s = true) (hfl : ∀ w ∈ flN, w.before args s = true) (hA : ∀ a : Nat, a < s.heap.size → ¬ A a) : ∃ ad : Nat → Nat, va_En "MarkGuards$Kind" "LMarkGuards$Kind;" kcs kF ad A s s.heap ∧ ∀ i, i < 38 → (kSt i).eval args s none [] s = some (.ref (ad i)) := by
  have h1 : ∀ i : Nat, ∃ a : Nat, i < 38 → (kSt i).eval args s none [] s = some (.ref a) := by
    intro i
    by_cases hi : i < 38
    · obtain ⟨a, c, cell, k, q1, -⟩ := Cond.exactly_spec (hfl _ (List.mem_of_getElem? (fl_ex i hi)))
      exact ⟨a, fun _ => q1⟩
    · exact ⟨0, fun h => absurd h hi⟩
  obtain ⟨ad, had⟩ := Classical.axiomOfChoice h1
  have hOF : ∀ b, b < 4 → ∀ i, i < 38 → va_OF (kFq b).1 (kFq b).2.1 (kFq b).2.2.1 (.int ((kFq b).2.2.2.getD i 0)) (ad i) A s s.heap := fun b hb i hi => vk_OFof (had i hi) (va_eqt (hfl _ (List.mem_of_getElem? (fl_f b hb i hi)))) hA
  refine ⟨ad, ⟨fun i hi => ?_, fun i j hi hj e => ?_⟩, had⟩
  · rw [kcs_len] at hi
    refine ⟨va_Zref (hts _ (List.mem_of_getElem? (tb_ls i hi))) (hts _ tb_ik) (had i hi) hA, va_Oof (hfl _ (List.mem_of_getElem? (fl_ex i hi))) (had i hi) hA, fun q hq => ?_⟩
    obtain ⟨b, hb⟩ := List.getElem?_of_mem hq
    have hb4 : b < 4 := by rw [← kF_len]; exact (List.getElem?_eq_some_iff.mp hb).1
    have e : kFq b = q := by unfold kFq; rw [List.getD_eq_getElem?_getD, hb]; rfl
    have := hOF b hb4 i hi
    rw [e] at this
    exact this
  · rw [kcs_len] at hi hj
    obtain ⟨cf, k, fi, f, cell, g1, -, g3, -, g5, -⟩ := hOF 0 (by decide) i hi
    obtain ⟨cf', k', fi', f', cell', g1', -, g3', -, g5', -⟩ := hOF 0 (by decide) j hj
    rw [e] at g3
    cases g1.symm.trans g1'
    cases g3.symm.trans g3'
    have := g5.symm.trans g5'
    simp only [Option.some.injEq, Value.int.injEq] at this
    exact kF_inj i hi j hj this
theorem st_rows (hts : ∀ w ∈ lw_tbl, w.before args s = true) (hfl : ∀ w ∈ flN, w.before args s = true) (hA : ∀ a : Nat, a < s.heap.size → ¬ A a) {ad : Nat → Nat} (had : ∀ i, i < 38 → (kSt i).eval args s none [] s = some (.ref (ad i))) :
    ∃ t1 t2 : Nat, va_Z "MarkGuards$Kind" "ALL" "[LMarkGuards$Kind;" (.ref t1) A s s.heap ∧ va_T (.object "MarkGuards$Kind") t1 38 (fun j => .ref (ad j)) A s s.heap ∧ va_Z "MarkGuards$1" "$SwitchMap$MarkGuards$Kind" "[I" (.ref t2) A s s.heap ∧ va_T .int t2 38 (fun j => .int (Int32.ofInt (smap.getD j 0))) A s s.heap := by
  obtain ⟨t1, e1, T1⟩ := va_Tof (tm := kAl) (ty := .object "MarkGuards$Kind") (N := 38) (f := fun j => .ref (ad j)) (by decide) (hfl _ (List.mem_of_getElem? fl_a1)) (va_eqt (hfl _ (List.mem_of_getElem? fl_a2))) (fun j hj => va_eqv (hfl _ (List.mem_of_getElem? (fl_al j hj))) (had j hj)) hA
  obtain ⟨t2, e2, T2⟩ := va_Tof (tm := kSm) (ty := .int) (N := 38) (f := fun j => .int (Int32.ofInt (smap.getD j 0))) (by decide) (hfl _ (List.mem_of_getElem? fl_s1)) (va_eqt (hfl _ (List.mem_of_getElem? fl_s2))) (fun j hj => va_eqt (hfl _ (List.mem_of_getElem? (fl_sm j hj)))) hA
  exact ⟨t1, t2, va_Zref (hts _ (List.mem_of_getElem? tb_la)) (hts _ tb_ik) e1 hA, T1, va_Zref (hts _ (List.mem_of_getElem? tb_lm)) (hts _ tb_i1) e2 hA, T2⟩
theorem st_arr {ty : FieldType} (h : (Cond.arrayClass ty).before args s = true) (hp : ∀ C, ty ≠ .object C) : ∃ cA, ArrOfT s cA ty ∧ va_RA s cA ty := by
  obtain ⟨cA, k, comp, h1, h2, h3⟩ := Cond.arrayClass_spec h
  refine ⟨cA, fun n z => ⟨fun k h => (by cases h), k, h2, comp, h3⟩, ?_⟩
  cases ty with
  | object C => exact absurd rfl (hp C)
  | _ => exact h1
theorem st_arq {C : String} (h : (Cond.arrayOver (.object C)).before args s = true) : ∃ cA, ArrOfT s cA (.object C) ∧ va_RA s cA (.object C) := by
  obtain ⟨comp, cA, k, h1, h2, h3, h4, h5⟩ := Cond.arrayOver_spec h
  exact ⟨cA, fun n z => ⟨fun k h => (by cases h), k, h3, comp, h4⟩, k, comp, h3, h4, h1, h5⟩
theorem st_K (hts : ∀ w ∈ lw_tbl, w.before args s = true) : ∃ (G : va_G) (cA : Nat → ClassId), va_K G cls0 (tysA cA) s := by
  have h1 : ∀ k : Nat, ∃ g : ClassId × (Nat → Nat), ∀ q : vw_C, cls0[k]? = some q → u_Kn s q.1 q.2.1 q.2.2 g.1 g.2 := by
    intro k
    by_cases hk : k < 12
    · obtain ⟨r, hr⟩ := cls_some (ci := (k : Int)) (by omega) (by omega)
      rw [Int.toNat_natCast] at hr
      obtain ⟨ty0, -, -, hin, -⟩ := clOk_all hr
      have hi := hts _ (List.mem_of_getElem? (tb_in k hk))
      have e1 : clN (k : Int) = r.1 := by unfold clN; rw [Int.toNat_natCast, List.getD_eq_getElem?_getD, hr]; rfl
      rw [e1] at hi
      obtain ⟨cC, iS, hu⟩ := u_known (C := r.1) (T := r.2.1) (N := r.2.2) hts (fun w hw => (List.mem_filter.mp (hin w hw)).1) hi
      refine ⟨(cC, iS), fun q hq => ?_⟩
      cases hr.symm.trans hq
      exact hu
    · refine ⟨(0, fun _ => 0), fun q hq => ?_⟩
      have := (List.getElem?_eq_some_iff.mp hq).1
      exact absurd this (by show ¬ k < 12; exact hk)
  obtain ⟨g, hg⟩ := Classical.axiomOfChoice h1
  obtain ⟨c0, a0, b0⟩ := st_arr (hts _ tb_ai) (fun C h => by cases h)
  obtain ⟨c1, a1, b1⟩ := st_arr (hts _ tb_al) (fun C h => by cases h)
  obtain ⟨c2, a2, b2⟩ := st_arr (hts _ tb_az) (fun C h => by cases h)
  obtain ⟨c3, a3, b3⟩ := st_arq (hts _ tb_ok)
  obtain ⟨c4, a4, b4⟩ := st_arq (hts _ tb_or)
  refine ⟨(fun k => (g k).1, fun k => (g k).2), fun k => match k with | 0 => c0 | 1 => c1 | 2 => c2 | 3 => c3 | _ => c4, hg, fun k q hk => ?_⟩
  match k, hk with
  | 0, hk => cases hk; exact ⟨a0, b0⟩
  | 1, hk => cases hk; exact ⟨a1, b1⟩
  | 2, hk => cases hk; exact ⟨a2, b2⟩
  | 3, hk => cases hk; exact ⟨a3, b3⟩
  | 4, hk => cases hk; exact ⟨a4, b4⟩
  | n + 5, hk => cases hk
theorem st_NW (hts : ∀ w ∈ lw_tbl, w.before args s = true) : NW s := by
  refine ⟨fun w hw => ?_, va_AO.of (hts _ tb_ok), va_AO.of (hts _ tb_or), fun w hw => va_Nw.of (thrW_w hw).1 (hts _ (tb_thrw w hw))⟩
  have h1 := hts w (List.mem_filter.mp hw).1
  obtain ⟨a, i, x, b, rfl⟩ := nestW_is hw
  exact va_Nw.of rfl h1
end START
