/-! Every method meets what the machine of numbers says of it -/
theorem snd_succ {l : Launch} {xs : Int → Int} {d : Nat} (hall : ∀ k, k < mtab.length → mOk k = true) (I : SndC l xs d) (IX : SndX l xs d) : SndC l xs (d + 1) := by
  intro m as s v s1 hden h8 hm hmk hs hsa G cA A adr
  obtain ⟨n, hn⟩ := whl_ex hden
  have hok := hall m hm
  have hok' := hok
  unfold mOk at hok'
  simp only [Bool.and_eq_true, decide_eq_true_eq] at hok'
  refine Met.ofW (cc := mC m) (maxL := mL m) (ret := mR m) hok'.2.1 rfl ?_
  intro p e s0 mm args below meth c s₁ B hml hv
  obtain ⟨rfl, hP, hD, hK, hN, hX, hA⟩ := hv
  have hts := atoms_spec (ws := wsM m) B.pre
  have hown : s0.vm.findClass (mY m).cls = some mm.cls := findClass_of_methodNamed B.named
  have hin : meth.name = (mY m).name := (name_of_methodNamed B.named B.method).1
  have hlocks := B.notSynchronized
  have hr := B.returns
  have C : Cx p s0 mm (as.map (cV adr)).toArray c (mC m) (mY m).cls G cA A adr xs := ⟨B.exec, B.bytes, hown, fun w h => hts w (List.mem_cons_of_mem _ h), hK, hX⟩
  rw [lg_entry_eq]
  have hl := lv_entry (as.map (cV adr)) (n := mL m) (by rw [sl_len, ← mkL_len]; exact hmk)
  generalize (lg_sl (as.map (cV adr)) ++ List.replicate (mL m - (lg_sl (as.map (cV adr))).length) Slot.unset).toArray = ls at hl ⊢
  have key := run_all (p := p) (e := e) (R := (headSpec (wsM m) (rmM (d + 1) ((s1.1.1 - s.1.1).toNat + (s1.1.2 - s.1.2).toNat) (s1.1.2 - s.1.2).toNat)).room) (s0 := s0) (m := mm) (args := (as.map (cV adr)).toArray) (below := below) (meth := meth) (c := c) (Q := MQ below (QcM G cA A adr xs s s1 v) (as.map (cV adr)).toArray s0 ((s1.1.1 - s.1.1).toNat + (s1.1.2 - s.1.2).toNat) (s1.1.2 - s.1.2).toNat A) (G := G) (cA := cA) (A := A) hok I IX hml (fun h => by rw [hin]; simpa using h) hN hA (Nat.le_refl _) (Nat.le_refl _) (n0 := s.1.1) (t0 := s.1.2) (vF := v) (sF := s1) (adr0 := adr) (LE := s.2.1) hs.1 (Nat.le_refl _) (Nat.le_refl _) ?_ n 0 (padL (mL m) (mkL as)) [] s adr s0.heap [] ls hn C hs ⟨hP, hD, va_S.rf⟩ (ent_ok hmk hsa hl) (fun w h => by cases h) (Int.le_refl _) (Int.le_refl _) (fun _ _ => rfl) (fun _ _ => rfl)
  · rw [Int.sub_self, Int.sub_self] at key
    exact key
  · intro pc lo st adr' H locs ls ks x ht hact hsF hHF hlF hstF hle1 hle2 hadr hkind
    obtain ⟨hd, -, hw2⟩ := tab_ok hok ht
    obtain ⟨-, hc⟩ := act_inr hact
    have hx := B.exec
    have hb := B.bytes
    obtain ⟨k, a, b, z, t⟩ := x
    rcases hc with ⟨hk, w, rfl, rfl, h01⟩ | ⟨hk, w, rfl, rfl⟩ | ⟨hk, w, rfl, rfl⟩ | ⟨hk, rfl, rfl⟩ | ⟨hk, -, h9⟩
    · simp only at hk
      subst hk
      have okr : okR xs s s1 (0, w) := ⟨hsF, Or.inr hstF.hd, hle1, hle2, hkind⟩
      unfold ret01 at h01
      split at h01
      · rename_i hm2
        exact W.iret (v := Int32.ofInt w) hx hb (hr.trans hm2) (fun t ht hW => ⟨⟨adr', hadr, okr, rfl, by rw [ht]; exact hHF.1, hHF.2.1⟩, hHF.2.2.F ht⟩) hHF.2.2.2.2 hd
      · rename_i hm2
        have hn2 : narrow .boolean (.int (Int32.ofInt w)) = .int (Int32.ofInt w) := by
          simp only [bit01, Bool.or_eq_true, decide_eq_true_eq] at h01
          rcases h01 with rfl | rfl <;> rfl
        exact W.zret (v := Int32.ofInt w) (ty := .boolean) hx hb (hr.trans hm2) hn2 (fun t ht hW => ⟨⟨adr', hadr, okr, rfl, by rw [ht]; exact hHF.1, hHF.2.1⟩, hHF.2.2.F ht⟩) hHF.2.2.2.2 hd
      · cases h01
    · simp only at hk
      subst hk
      have okr : okR xs s s1 (1, w) := ⟨hsF, Or.inr hstF.hd, hle1, hle2, hkind⟩
      have hm2 : mR m = some .long := by simpa [ctOk] using (hw2 (by simp)).1
      exact W.lret (v := Int64.ofInt w) hx hb (hr.trans hm2) (fun t ht hW => ⟨⟨adr', hadr, okr, rfl, by rw [ht]; exact hHF.1, hHF.2.1⟩, hHF.2.2.F ht⟩) hHF.2.2.2.2 hd
    · simp only at hk
      subst hk
      have okr : okR xs s s1 (2, w) := ⟨hsF, Or.inr hstF.hd, hle1, hle2, hkind⟩
      have hm2 : isRef' (mR m) = true := (hw2 (by simp)).1
      have hv2 : cV adr' (2, w) = .null ∨ ∃ a, cV adr' (2, w) = .ref a := by
        by_cases h0 : w = 0
        · subst h0; exact Or.inl rfl
        · exact Or.inr ⟨_, cV_ref h0⟩
      unfold isRef' at hm2
      split at hm2
      · rename_i nm hm3
        exact W.aret (v := cV adr' (2, w)) hx hb (hr.trans hm3) (Or.inl ⟨_, rfl⟩) hv2 (fun t ht hW => ⟨⟨adr', hadr, okr, rfl, by rw [ht]; exact hHF.1, hHF.2.1⟩, hHF.2.2.F ht⟩) hHF.2.2.2.2 hd
      · rename_i nm hm3
        exact W.aret (v := cV adr' (2, w)) hx hb (hr.trans hm3) (Or.inr ⟨_, rfl⟩) hv2 (fun t ht hW => ⟨⟨adr', hadr, okr, rfl, by rw [ht]; exact hHF.1, hHF.2.1⟩, hHF.2.2.F ht⟩) hHF.2.2.2.2 hd
      · cases hm2
    · simp only at hk
      subst hk
      have okr : okR xs s s1 (9, 0) := ⟨hsF, Or.inl rfl, hle1, hle2, hkind⟩
      have hm2 : mR m = none := by simpa [ctOk] using (hw2 (by simp)).1
      exact W.vret hx hb (hr.trans hm2) (fun t ht hW => ⟨⟨adr', hadr, okr, rfl, by rw [ht]; exact hHF.1, hHF.2.1⟩, hHF.2.2.F ht⟩) hHF.2.2.2.2 hd
    · exact absurd (by rw [h9]) h8
theorem tab_mem {m pc : Nat} {ks : List Nat} {x : IR} (ht : tab m pc = some (ks, x)) : (pc, ks, x) ∈ tabs.getD m [] := by
  unfold tab at ht
  obtain ⟨e, he, h2⟩ := Option.map_eq_some_iff.mp ht
  have hmem := List.mem_of_find?_eq_some he
  have hpc := List.find?_some he
  obtain ⟨pc', ks', x'⟩ := e
  simp only [beq_iff_eq] at hpc
  simp only [Prod.mk.injEq] at h2
  obtain ⟨rfl, rfl⟩ := h2
  subst hpc
  exact hmem
theorem loop_thr {cal : Nat → List Vv → Stt → Option (Vv × Stt)} {m : Nat} : ∀ (n : Nat) (f : Fst) (k : Int) (s1 : Stt), loopN (stepF cal m) n f = some ((8, k), s1) → ∃ pc ks x, tab m pc = some (ks, x) ∧ x.1 = 98 ∧ x.2.1 = k := by
  intro n
  induction n with
  | zero => intro f k s1 h; cases h
  | succ n ih =>
    intro f k s1 h
    unfold loopN at h
    cases hf : stepF cal m f with
    | none => rw [hf] at h; cases h
    | some r =>
      rw [hf] at h
      cases r with
      | inl g => exact ih g k s1 h
      | inr q =>
        cases h
        unfold stepF at hf
        split at hf
        · cases hf
        · rename_i ks x ht
          obtain ⟨-, hc⟩ := act_inr hf
          rcases hc with ⟨-, w, -, h, -⟩ | ⟨-, w, -, h⟩ | ⟨-, w, -, h⟩ | ⟨-, -, h⟩ | ⟨h98, -, h⟩
          · simp at h
          · simp at h
          · simp at h
          · simp at h
          · exact ⟨_, _, _, ht, h98, (Prod.mk.inj h).2.symm⟩
theorem tb_thr : ∀ e ∈ tabs.getD 141 [], e.2.2.1 = 98 → (e.1 = 14 ∧ e.2.2.2.1 = 1) ∨ (e.1 = 140 ∧ e.2.2.2.1 = 2) := by decide +kernel
def xnm : List String := ["java/lang/RuntimeException", "java/lang/Exception"]
theorem ex_a1 : ∀ w ∈ vx_atS "MarkGuards" 132 "java/lang/IndexOutOfBoundsException" xnm, w ∈ lw_good ∨ w ∈ thrW := by decide +kernel
theorem ex_a2 : ∀ w ∈ nxU "MarkGuards" 162 "java/util/NoSuchElementException" "java/lang/RuntimeException" 13 prog_32_method_4_code ["java/lang/Exception"], w ∈ lw_good ∨ w ∈ thrW := by decide +kernel
theorem ex_b1 : Cond.classLink "MarkGuards" 128 "java/lang/IndexOutOfBoundsException" ∈ lw_good := gw (i := 1442) (by decide +kernel) (by decide +kernel)
theorem ex_b2 : Cond.classLink "MarkGuards" 158 "java/util/NoSuchElementException" ∈ lw_good := gw (i := 1509) (by decide +kernel) (by decide +kernel)
theorem ex_c1 : Cond.initialized "java/lang/IndexOutOfBoundsException" ∈ lw_good := gw (i := 155) (by decide +kernel) (by decide +kernel)
theorem ex_c2 : Cond.initialized "java/util/NoSuchElementException" ∈ lw_good := gw (i := 156) (by decide +kernel) (by decide +kernel)
theorem ex_ot {w : Cond} (h : w ∈ lw_good) : vx_ot w = true := by
  unfold vx_ot
  rw [good_lw h, Bool.or_true]
theorem sndx_succ {l : Launch} (htr : l.stackTraces = false) {xs : Int → Int} {d : Nat} (hall : ∀ k, k < mtab.length → mOk k = true) (I : SndC l xs d) (IX : SndX l xs d) : SndX l xs (d + 1) := by
  intro as s k s1 hden hmk hs hsa
  have hg0 := den_g _ _ _ _ _ _ hden
  obtain ⟨n, hn⟩ := whl_ex hden
  have hok := hall 141 lk_m
  have hok' := hok
  unfold mOk at hok'
  simp only [Bool.and_eq_true, decide_eq_true_eq] at hok'
  have hk12 : k = 1 ∨ k = 2 := by
    obtain ⟨pc, ks, x, h1, h2, h3⟩ := loop_thr n _ _ _ hn
    rcases tb_thr _ (tab_mem h1) h2 with h | h
    · exact Or.inl (h3.symm.trans h.2)
    · exact Or.inr (h3.symm.trans h.2)
  refine ⟨hk12, hg0, fun G cA A adr => ?_⟩
  refine vx_ofW (cc := mC 141) (maxL := mL 141) (ret := mR 141) hok'.2.1 rfl ?_
  intro p e s0 mm args below meth c s₁ B hml hnoex hv
  obtain ⟨rfl, hP, hD, hK, hN, hX, hA⟩ := hv
  have hts := atoms_spec (ws := wsM 141) B.pre
  have hown : s0.vm.findClass (mY 141).cls = some mm.cls := findClass_of_methodNamed B.named
  have hin : meth.name = (mY 141).name := (name_of_methodNamed B.named B.method).1
  have hlocks := B.notSynchronized
  have C : Cx p s0 mm (as.map (cV adr)).toArray c (mC 141) (mY 141).cls G cA A adr xs := ⟨B.exec, B.bytes, hown, fun w h => hts w (List.mem_cons_of_mem _ h), hK, hX⟩
  rw [lg_entry_eq]
  have hl := lv_entry (as.map (cV adr)) (n := mL 141) (by rw [sl_len, ← mkL_len]; exact hmk)
  generalize (lg_sl (as.map (cV adr)) ++ List.replicate (mL 141 - (lg_sl (as.map (cV adr))).length) Slot.unset).toArray = ls at hl ⊢
  have key := run_all (p := p) (e := e) (R := (headSpec (wsM 141) (rmM (d + 1) (mcX s s1) (msX s s1))).room) (s0 := s0) (m := mm) (args := (as.map (cV adr)).toArray) (below := below) (meth := meth) (c := c) (Q := vx_MQ below (fun _ _ _ _ => False) (XcM G cA A adr xs s s1 k) (as.map (cV adr)).toArray s0 (mcX s s1) (msX s s1) A) (G := G) (cA := cA) (A := A) hok I IX hml (fun h => by rw [hin]; simpa using h) hN hA (Nat.le_refl _) (Nat.le_refl _) (n0 := s.1.1) (t0 := s.1.2) (vF := (8, k)) (sF := s1) (adr0 := adr) (LE := s.2.1) hs.1 (show _ ≤ mcX s s1 by unfold mcX; omega) (show _ ≤ msX s s1 by unfold msX; omega) ?_ n 0 (padL (mL 141) (mkL as)) [] s adr s0.heap [] ls hn C hs ⟨hP, hD, va_S.rf⟩ (ent_ok hmk hsa hl) (fun w h => by cases h) (Int.le_refl _) (Int.le_refl _) (fun _ _ => rfl) (fun _ _ => rfl)
  · rw [Int.sub_self, Int.sub_self] at key
    exact key
  · intro pc lo st adr' H locs ls ks x ht hact hsF hHF hlF hstF hle1 hle2 hadr hkind
    obtain ⟨-, hc⟩ := act_inr hact
    have hx := B.exec
    have hb := B.bytes
    have hsz : ls.size = c.maxLocals := hlF.2.1.1.trans hml.symm
    have hown9 : s0.vm.findClass "MarkGuards" = some mm.cls := by rw [← lk_c]; exact hown
    have hXC : ∀ j : Int, k = j → ∀ t : State, s0.vm.Alike t.vm → H.size ≤ t.heap.size → (∀ q : Nat, q < H.size → t.heap[q]? = H[q]?) → XcM G cA A adr xs s s1 k (exN j) s0 t := by
      intro j hj t _ hz hq
      subst hj
      exact ⟨⟨rfl, adr', hadr, ⟨hsF, Or.inl rfl, hle1, hle2, hkind⟩, hHF.1.kept (fun k q hk => hq _ (vx_lt hHF.1 hk)), hHF.2.1⟩, Nat.le_trans hHF.2.2.1 hz, fun q h1 h2 => by rw [hq q (Nat.lt_of_lt_of_le h1 hHF.2.2.1)]; exact hHF.2.2.2.1 q h1 h2⟩
    rcases hc with ⟨-, w, -, h, -⟩ | ⟨-, w, -, h⟩ | ⟨-, w, -, h⟩ | ⟨-, -, h⟩ | ⟨h98, rfl, h⟩
    · simp at h
    · simp at h
    · simp at h
    · simp at h
    · have hk : k = x.2.1 := (Prod.mk.inj h).2
      rcases tb_thr _ (tab_mem ht) h98 with ⟨hpc, ha⟩ | ⟨hpc, ha⟩
      · simp only at hpc ha
        subst hpc
        exact vx_throwS (names := xnm) (own := "MarkGuards") (cls := "java/lang/IndexOutOfBoundsException") (text := "no such block") (ik := 128) (is := 130) (ic := 132) (sa := adr (-62)) (A := A) (rest := []) hx hb htr hown9 (by decide +kernel) (by decide +kernel) (C.2.2.2.1 _ ex_b1) (C.2.2.2.1 _ ex_c1) hX.2.2.2.2.2.2.2.2.1 (fun w hw => (ex_a1 w hw).elim (fun h => C.2.2.2.1 _ h) (fun h => thr_b h hN)) (fun w hw => by
          rcases List.mem_cons.mp hw with rfl | hw
          · exact ex_ot ex_b1
          · rcases List.mem_cons.mp hw with rfl | hw
            · exact ex_ot ex_c1
            · exact (ex_a1 w hw).elim ex_ot (fun h => by unfold vx_ot; rw [(thrW_w h).1]; rfl)) hX.2.2.2.2.2.2.2.2.2.2.1 hX.2.2.2.2.2.2.2.2.2.2.2.1 hHF.2.2 hsz (by decide +kernel) (by decide +kernel) (by decide +kernel) (by decide +kernel) (by decide +kernel) (fun x hx => (hnoex x hx).elim) (by show 2 + 3 < 2 * (d + 1) + 8; omega) (by show 0 + (13 * (2 + 1) + 43) ≤ 128 * (d + 1) + 512; omega) (show _ ≤ mcX s s1 by unfold mcX; omega) (show _ ≤ msX s s1 by unfold msX; omega) hlocks (hXC 1 (hk.trans ha)) hHF.2.2.2.2 (by unfold mcX; omega) (by unfold msX; omega)
      · simp only at hpc ha
        subst hpc
        exact nx_throw (names := ["java/lang/Exception"]) (Y := "java/lang/RuntimeException") (ix := 13) (bx := prog_32_method_4_code) (own := "MarkGuards") (cls := "java/util/NoSuchElementException") (text := "no such what") (ik := 158) (is := 160) (ic := 162) (sa := adr (-63)) (A := A) (rest := []) hx hb htr hown9 (by decide +kernel) (by decide +kernel) (by decide +kernel) (by decide +kernel) (by decide +kernel) (by decide +kernel) (by decide +kernel) (C.2.2.2.1 _ ex_b2) (C.2.2.2.1 _ ex_c2) hX.2.2.2.2.2.2.2.2.2.1 (fun w hw => (ex_a2 w hw).elim (fun h => C.2.2.2.1 _ h) (fun h => thr_b h hN)) (fun w hw => by
          rcases List.mem_cons.mp hw with rfl | hw
          · exact ex_ot ex_b2
          · rcases List.mem_cons.mp hw with rfl | hw
            · exact ex_ot ex_c2
            · exact (ex_a2 w hw).elim ex_ot (fun h => by unfold vx_ot; rw [(thrW_w h).1]; rfl)) hX.2.2.2.2.2.2.2.2.2.2.1 hX.2.2.2.2.2.2.2.2.2.2.2.1 hHF.2.2 hsz (by decide +kernel) (by decide +kernel) (by decide +kernel) (by decide +kernel) (by decide +kernel) (fun x hx => (hnoex x hx).elim) (by show 1 + 4 < 2 * (d + 1) + 8; omega) (by show 0 + (13 * (1 + 2) + 43) ≤ 128 * (d + 1) + 512; omega) (show _ ≤ mcX s s1 by unfold mcX; omega) (show _ ≤ msX s s1 by unfold msX; omega) hlocks (hXC 2 (hk.trans ha)) hHF.2.2.2.2 (by unfold mcX; omega) (by unfold msX; omega)
theorem snd_all {l : Launch} (htr : l.stackTraces = false) {xs : Int → Int} (hall : ∀ k, k < mtab.length → mOk k = true) : ∀ d, SndC l xs d ∧ SndX l xs d := by
  intro d
  induction d with
  | zero => exact ⟨fun m as s v s1 h => (by cases h), fun as s k s1 h => (by cases h)⟩
  | succ d ih => exact ⟨snd_succ hall ih.1 ih.2, sndx_succ htr hall ih.1 ih.2⟩
