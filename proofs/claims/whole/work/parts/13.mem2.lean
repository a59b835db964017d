theorem init_known {args : Array Value} {s : State} {cls : String} {c : ClassId} (hc : s.vm.findClass cls = some c) (h : (Cond.initialized cls).before args s = true) : ∃ k : Class, s.vm.classes[c]? = some k := by
  cases hk : s.vm.classes[c]? with
  | some k => exact ⟨k, rfl⟩
  | none => simp [Cond.before, Cond.holds, Cond.value, hc, hk] at h
theorem XL0_203 {a : Int} (h : (XL0 a).1 = 203) : -39 ≤ a ∧ a ≤ -2 := by
  unfold XL0 at h
  split at h
  · simp at h
  · split at h
    · simp at h
    · split at h
      · simp at h
      · split at h
        · simp at h
        · split at h
          · assumption
          · simp at h
theorem XL0_204 {a : Int} (h : (XL0 a).1 = 204) : a = -50 := by
  unfold XL0 at h
  split at h
  · simp at h
  · split at h
    · assumption
    · split at h
      · simp at h
      · split at h
        · simp at h
        · split at h <;> simp at h
theorem XL0_205 {a : Int} (h : (XL0 a).1 = 205) : a = -51 := by
  unfold XL0 at h
  split at h
  · simp at h
  · split at h
    · simp at h
    · split at h
      · assumption
      · split at h
        · simp at h
        · split at h <;> simp at h
theorem XL0_200 {a : Int} (h : (XL0 a).1 = 200) : a = -1 := by
  unfold XL0 at h
  split at h
  · assumption
  · split at h
    · simp at h
    · split at h
      · simp at h
      · split at h
        · simp at h
        · split at h <;> simp at h
theorem good_initK : Cond.initialized "MarkGuards$Kind" ∈ lw_good := in_good (ws := [Cond.initialized "MarkGuards$Kind"]) (by decide +kernel) _ List.mem_cons_self
theorem good_initR : Cond.initialized "MarkGuards$Run" ∈ lw_good := in_good (ws := [Cond.initialized "MarkGuards$Run"]) (by decide +kernel) _ List.mem_cons_self
section MEM2
variable {p : Program} {l : Launch} {e : Env} {R : Room} {s0 : State} {m : MethodId} {args : Array Value} {below : List Frame} {meth : Method} {c : Code} {Q : State → Prop} {H : Heap} {locs : List Loc} {cells slots : Nat} {ls : Array Slot} {cc : ByteArray} {own : String} {pc nL : Nat}
variable {G : va_G} {cA : Nat → ClassId} {A : Nat → Prop} {adr : Int → Nat} {xs : Int → Int} {lo : Lcs} {st : List Vv} {s : Stt} {XL : Lay} {XD : Sto}
theorem okS.ext (hs : okS XL0 (XD0 xs) s) {a : Int} (h : 200 ≤ kd s a) : (XL0 a).1 = kd s a ∧ (XL0 a).2 = ln s a ∧ ∀ i, s.2.2 a i = XD0 xs a i := by
  have hn := hs.neg h
  have h5 := hs.2.2.2.2.1 a hn
  exact ⟨by rw [← h5.1]; rfl, by rw [← h5.1]; rfl, h5.2⟩
theorem sn_ald2 (C : Cx p s0 m args c cc own G cA A adr xs) (hs : okS XL0 (XD0 xs) s) (hH : Hok G cA A adr s s0.heap H locs) {a i : Int} (hk : kd s a = 103 ∨ kd s a = 104 ∨ kd s a = 204) (hi : in32 i) (hb' : inb i (alen s a) = true) (hd : decode cc pc = .ok (.aaload, 1))
    (kk : W p l e R s0 m args below meth c H locs cells slots Q (F0 m (pc + 1) ls (((2, s.2.2 a i) :: st).map (cV adr)))) : W p l e R s0 m args below meth c H locs cells slots Q (F0 m pc ls (((0, i) :: (2, a) :: st).map (cV adr))) := by
  obtain ⟨hx, hb, hown, hts, hK, hX⟩ := C
  obtain ⟨hP, hD, hS⟩ := hH
  have hin := inb_iff.mp hb'
  have e1 : ((i.toNat : Nat) : Int) = i := by omega
  rw [ln_alen (by omega)] at hb' hin
  rcases hk with hk | hk | hk
  · have hp := hs.pos (a := a) (by omega) (by omega)
    have hg := wld_get (cA := cA) (adr := adr) hp.1 hp.2
    have hl : (s.2.1 a).1 = 103 := hk
    rw [cE_ref (Or.inl hl), hl] at hg
    rw [List.map_cons, List.map_cons, own_ne hs (by omega) (by omega)]
    refine va_aldq hx hb hK hP (a - 1).toNat 3 hg rfl (o32_vin hi hb') hd ?_
    rw [o32_cl hi, e1]
    exact kk
  · have hp := hs.pos (a := a) (by omega) (by omega)
    have hg := wld_get (cA := cA) (adr := adr) hp.1 hp.2
    have hl : (s.2.1 a).1 = 104 := hk
    rw [cE_ref (Or.inr hl), hl] at hg
    rw [List.map_cons, List.map_cons, own_ne hs (by omega) (by omega)]
    refine va_aldq hx hb hK hP (a - 1).toNat 4 hg rfl (o32_vin hi hb') hd ?_
    rw [o32_cl hi, e1]
    exact kk
  · obtain ⟨q1, q2, q3⟩ := hs.ext (a := a) (by omega)
    have ea : a = -50 := XL0_204 (by omega)
    subst ea
    obtain ⟨-, -, -, hT, -, -⟩ := hX
    have el : ln s (-50) = 38 := by rw [← q2]; rfl
    rw [el] at hin
    rw [List.map_cons, List.map_cons, cV_ref (by decide)]
    have e9 : s.2.2 (-50) i = -(2 + i) := by rw [q3]; simp [XD0, hin]
    refine vb_tq hx hb hT hS (vp_in_iff.mpr (by rw [t32 hi]; exact hin)) (v := cV adr (2, s.2.2 (-50) i)) ?_ hd kk
    rw [o32_cl hi, e9, cV_ref (by omega), e1]
theorem sn_astZ (C : Cx p s0 m args c cc own G cA A adr xs) (hs : okS XL XD s) (hH : Hok G cA A adr s s0.heap H locs) {a i v : Int} (hk : kd s a = 102) (hi : in32 i) (hv : bit01 v = true) (hb' : inb i (ln s a) = true) (hd : decode cc pc = .ok (.bastore, 1))
    (kk : ∀ H' locs', Hok G cA A adr (s.1, s.2.1, up s.2.2 a i v) s0.heap H' locs' → okS XL XD (s.1, s.2.1, up s.2.2 a i v) → W p l e R s0 m args below meth c H' locs' cells slots Q (F0 m (pc + 1) ls (st.map (cV adr)))) : W p l e R s0 m args below meth c H locs cells slots Q (F0 m pc ls (((0, v) :: (0, i) :: (2, a) :: st).map (cV adr))) := by
  obtain ⟨hx, hb, hown, hts, hK, hX⟩ := C
  obtain ⟨hP, hD, hS⟩ := hH
  have hin := inb_iff.mp hb'
  have hp := hs.pos (a := a) (by omega) (by omega)
  have hg := wld_get (cA := cA) (adr := adr) hp.1 hp.2
  have hl : (s.2.1 a).1 = 102 := hk
  rw [cE_bool hl] at hg
  have hvv : vp_nar .boolean (Int32.ofInt v) = Int32.ofInt v ∧ in32 v := by
    simp only [bit01, Bool.or_eq_true, decide_eq_true_eq] at hv
    rcases hv with rfl | rfl
    · exact ⟨by decide, by unfold in32; omega⟩
    · exact ⟨by decide, by unfold in32; omega⟩
  have hok := okS_up hs hp.1 (i := i) (v := v) (by rw [hk]; exact okV.mi hvv.2)
  rw [List.map_cons, List.map_cons, List.map_cons, own_ne hs (by omega) (by omega)]
  refine va_zast hx hb hK hP hD hS (a - 1).toNat 2 hg rfl (o32_vin hi hb') hd (fun H1 locs1 hP hD hS => kk H1 locs1 ?_ hok)
  have e3 : (wld cA adr s).set (a - 1).toNat (adr a, .inl (cA 2, ((s.2.1 a).2.toNat, .inl (upd (fun j => Int32.ofInt (s.2.2 a (j : Int))) (Int32.ofInt i).toNatClampNeg (vp_nar .boolean (Int32.ofInt v)))))) = wld cA adr (s.1, s.2.1, up s.2.2 a i v) := by
    rw [← wld_set (up s.2.2 a i v) hp.1 up_off, cE_bool hl, fn_up Int32.ofInt hin.1, o32_cl hi, hvv.1]
    rfl
  rw [e3] at hP hD
  exact ⟨hP, hD, hS⟩
theorem anyK (C : Cx p s0 m args c cc own G cA A adr xs) (hS : va_S A s0.heap H locs) {v : Int} (h1 : -39 ≤ v) (h2 : v ≤ -2) : va_Any "MarkGuards$Kind" s0 H (adr v) := by
  obtain ⟨hx, hb, hown, hts, hK, hX⟩ := C
  have e1 : -(2 + (((-v - 2).toNat : Nat) : Int)) = v := by omega
  obtain ⟨cell, g1, g2, g3⟩ := va_recvE hX.2.1 (i := (-v - 2).toNat) (by rw [kcs_len]; omega) hS
  simp only [e1] at g1
  obtain ⟨k, hk⟩ := init_known g3 (hts _ good_initK)
  refine ⟨cell, g1, g2, ⟨k, hk⟩, fun comp hc => ?_⟩
  cases hc.symm.trans g3
  rw [Vm.assignable, Vm.assignableAux]
  simp
theorem anyR (C : Cx p s0 m args c cc own G cA A adr xs) (hs : okS XL XD s) (hH : Hok G cA A adr s s0.heap H locs) {v : Int} (h1 : kd s v = 6) : va_Any "MarkGuards$Run" s0 H (adr v) := by
  obtain ⟨hx, hb, hown, hts, hK, hX⟩ := C
  obtain ⟨hP, hD, hS⟩ := hH
  have hp := hs.pos (a := v) (by omega) (by omega)
  have hg := wld_get (cA := cA) (adr := adr) hp.1 hp.2
  have hl : (s.2.1 v).1 = 6 := h1
  rw [cE_obj (by omega), hl] at hg
  refine va_rAny (ci := 6) (r := (RX8, TX8, 12)) hK hP hg rfl (fun comp c0 h1 h2 => ?_)
  cases h1.symm.trans h2
  rw [Vm.assignable, Vm.assignableAux]
  simp
theorem sn_ast2 (C : Cx p s0 m args c cc own G cA A adr xs) (hs : okS XL0 (XD0 xs) s) (hH : Hok G cA A adr s s0.heap H locs) {a i v : Int} (hk : kd s a = 103 ∨ kd s a = 104) (hi : in32 i) (hvv : okV s.2.1 (2, v)) (hv : v = 0 ∨ (kd s a = 103 ∧ kd s v = 203) ∨ (kd s a = 104 ∧ kd s v = 6)) (hb' : inb i (ln s a) = true) (hd : decode cc pc = .ok (.aastore, 1))
    (kk : ∀ H' locs', Hok G cA A adr (s.1, s.2.1, up s.2.2 a i v) s0.heap H' locs' → okS XL0 (XD0 xs) (s.1, s.2.1, up s.2.2 a i v) → W p l e R s0 m args below meth c H' locs' cells slots Q (F0 m (pc + 1) ls (st.map (cV adr)))) : W p l e R s0 m args below meth c H locs cells slots Q (F0 m pc ls (((2, v) :: (0, i) :: (2, a) :: st).map (cV adr))) := by
  have C' := C
  have hH' := hH
  obtain ⟨hx, hb, hown, hts, hK, hX⟩ := C
  obtain ⟨hP, hD, hS⟩ := hH
  have hin := inb_iff.mp hb'
  have hp := hs.pos (a := a) (by omega) (by omega)
  have hg := wld_get (cA := cA) (adr := adr) hp.1 hp.2
  have hl : (s.2.1 a).1 = 103 ∨ (s.2.1 a).1 = 104 := hk
  rw [cE_ref hl] at hg
  have hok := okS_up hs hp.1 (i := i) (v := v) (by rcases hk with q | q <;> rw [q] <;> exact hvv)
  have e3 : (wld cA adr s).set (a - 1).toNat (adr a, .inl (cA ((s.2.1 a).1 - 100).toNat, ((s.2.1 a).2.toNat, .inr (.inr (.inr (.inr (va_up (fun j => cR adr (s.2.2 a (j : Int))) (Int32.ofInt i).toNatClampNeg (cR adr v)))))))) = wld cA adr (s.1, s.2.1, up s.2.2 a i v) := by
    rw [← wld_set (up s.2.2 a i v) hp.1 up_off, cE_ref hl, fn_up (cR adr) hin.1, o32_cl hi]
    rfl
  rw [List.map_cons, List.map_cons, List.map_cons, own_ne hs (a := a) (by omega) (by omega)]
  rcases hv with rfl | hv
  · have e0 : cR adr 0 = none := rfl
    rw [e0] at e3
    rcases hk with hk | hk
    · refine va_astqN hx hb hK hP hD hS (a - 1).toNat 3 hg (by rw [show (s.2.1 a).1 = 103 from hk]; rfl) (o32_vin hi hb') hd (fun H1 locs1 hP hD hS => kk H1 locs1 ?_ hok)
      rw [e3] at hP hD
      exact ⟨hP, hD, hS⟩
    · refine va_astqN hx hb hK hP hD hS (a - 1).toNat 4 hg (by rw [show (s.2.1 a).1 = 104 from hk]; rfl) (o32_vin hi hb') hd (fun H1 locs1 hP hD hS => kk H1 locs1 ?_ hok)
      rw [e3] at hP hD
      exact ⟨hP, hD, hS⟩
  · have hv0 : v ≠ 0 := by
      rintro rfl
      rcases hv with ⟨-, q⟩ | ⟨-, q⟩
      · have := XL0_203 (by rw [(hs.ext (a := 0) (by omega)).1]; exact q)
        omega
      · have := hs.pos (a := 0) (by omega) (by omega)
        omega
    have e0 : cR adr v = some (adr v) := by simp [cR, hv0]
    rw [e0] at e3
    rw [cV_ref hv0]
    rcases hv with ⟨hk, q⟩ | ⟨hk, q⟩
    · have hr := XL0_203 (by rw [(hs.ext (a := v) (by omega)).1]; exact q)
      refine va_astqM hx hb hK hP hD hS (a - 1).toNat 3 hg (by rw [show (s.2.1 a).1 = 103 from hk]; rfl) (anyK C' hS hr.1 hr.2) (o32_vin hi hb') hd (fun H1 locs1 hP hD hS => kk H1 locs1 ?_ hok)
      rw [e3] at hP hD
      exact ⟨hP, hD, hS⟩
    · refine va_astqM hx hb hK hP hD hS (a - 1).toNat 4 hg (by rw [show (s.2.1 a).1 = 104 from hk]; rfl) (anyR C' hs hH' q) (o32_vin hi hb') hd (fun H1 locs1 hP hD hS => kk H1 locs1 ?_ hok)
      rw [e3] at hP hD
      exact ⟨hP, hD, hS⟩
theorem i32_of (n : Nat) : Int32.ofNat n = Int32.ofInt (n : Int) := Int32.ofInt_eq_ofNat.symm
theorem sn_alen (C : Cx p s0 m args c cc own G cA A adr xs) (hs : okS XL0 (XD0 xs) s) (hH : Hok G cA A adr s s0.heap H locs) {a : Int} (hk : 100 ≤ kd s a) (hk3 : kd s a ≠ 203) (hk6 : kd s a ≠ 206) (hd : decode cc pc = .ok (.arraylength, 1))
    (kk : in32 (alen s a) → W p l e R s0 m args below meth c H locs cells slots Q (F0 m (pc + 1) ls (((0, alen s a) :: st).map (cV adr)))) : W p l e R s0 m args below meth c H locs cells slots Q (F0 m pc ls (((2, a) :: st).map (cV adr))) := by
  obtain ⟨hx, hb, hown, hts, hK, hX⟩ := C
  obtain ⟨hP, hD, hS⟩ := hH
  rcases Int.lt_or_le (kd s a) 200 with hlt | hge
  · have hp := hs.pos (a := a) (by omega) (by omega)
    have hg := wld_get (cA := cA) (adr := adr) hp.1 hp.2
    obtain ⟨h3, hl0, hl1⟩ := hs.2.2.1 a hp.1 hp.2
    have h3 : 100 ≤ (s.2.1 a).1 ∧ (s.2.1 a).1 ≤ 104 := by
      have : kd s a = (s.2.1 a).1 := rfl
      omega
    have e9 : alen s a = ln s a := ln_alen (by omega)
    rw [e9] at kk
    have kk := kk (by unfold in32; omega)
    have e8 : Int32.ofNat (s.2.1 a).2.toNat = Int32.ofInt (ln s a) := by
      rw [i32_of]
      congr 1
      show (((ln s a).toNat : Nat) : Int) = ln s a
      omega
    rw [List.map_cons, own_ne hs (by omega) (by omega)]
    have h5 : (s.2.1 a).1 = 100 ∨ (s.2.1 a).1 = 101 ∨ (s.2.1 a).1 = 102 ∨ (s.2.1 a).1 = 103 ∨ (s.2.1 a).1 = 104 := by omega
    rcases h5 with q | q | q | q | q
    · rw [cE_int q] at hg
      exact va_alen hx hb hK hP (a - 1).toNat 0 hg rfl e8 hd kk
    · rw [cE_long q] at hg
      exact va_alen hx hb hK hP (a - 1).toNat 1 hg rfl e8 hd kk
    · rw [cE_bool q] at hg
      exact va_alen hx hb hK hP (a - 1).toNat 2 hg rfl e8 hd kk
    · rw [cE_ref (Or.inl q), q] at hg
      exact va_alen hx hb hK hP (a - 1).toNat 3 hg rfl e8 hd kk
    · rw [cE_ref (Or.inr q), q] at hg
      exact va_alen hx hb hK hP (a - 1).toNat 4 hg rfl e8 hd kk
  · obtain ⟨q1, q2, q3⟩ := hs.ext hge
    have h6 : kd s a = 200 ∨ kd s a = 204 ∨ kd s a = 205 := by
      rw [← q1] at hk3 hk6 ⊢
      unfold XL0 at hk3 hk6 q1 ⊢
      split
      · exact Or.inl rfl
      · split
        · exact Or.inr (Or.inl rfl)
        · split
          · exact Or.inr (Or.inr rfl)
          · split
            · simp_all
            · split
              · simp_all
              · simp_all
                omega
    rcases h6 with hk | hk | hk
    · have ea := XL0_200 (q1.trans hk)
      subst ea
      obtain ⟨⟨n, f, hV, hlt, hnA, hxn, hn3, hf⟩, -⟩ := hX
      have el : alen s (-1) = n := by
        unfold alen
        rw [if_pos hk, q3]
        simp [XD0, hxn]
      rw [el] at kk
      rw [List.map_cons, cV_ref (by decide)]
      refine va_slen hx hb hV hlt hnA hS hd ?_
      rw [i32_of]
      exact kk (by unfold in32; omega)
    · have ea := XL0_204 (q1.trans hk)
      subst ea
      obtain ⟨-, -, -, hT, -, -⟩ := hX
      have el : alen s (-50) = 38 := by rw [ln_alen (by omega), ← q2]; rfl
      rw [el] at kk
      rw [List.map_cons, cV_ref (by decide)]
      exact va_tlen hx hb hT hS (i32_of 38) hd (kk (by unfold in32; omega))
    · have ea := XL0_205 (q1.trans hk)
      subst ea
      obtain ⟨-, -, -, -, -, hT, -⟩ := hX
      have el : alen s (-51) = 38 := by rw [ln_alen (by omega), ← q2]; rfl
      rw [el] at kk
      rw [List.map_cons, cV_ref (by decide)]
      exact va_tlen hx hb hT hS (i32_of 38) hd (kk (by unfold in32; omega))
theorem sn_cfld (C : Cx p s0 m args c cc own G cA A adr xs) (hs : okS XL0 (XD0 xs) s) (hH : Hok G cA A adr s s0.heap H locs) {a b : Int} {idx : Nat} (hk : kd s a = 203) (h0 : 0 ≤ b) (h4 : b < 4)
    (hw : (Cond.fieldLink own idx (kF.getD b.toNat ("", "", "", [])).1 (kF.getD b.toNat ("", "", "", [])).2.1 (kF.getD b.toNat ("", "", "", [])).2.2.1).before args s0 = true) (hd : decode cc pc = .ok (.getfield idx, 3))
    (kk : W p l e R s0 m args below meth c H locs cells slots Q (F0 m (pc + 3) ls (((0, s.2.2 a b) :: st).map (cV adr)))) : W p l e R s0 m args below meth c H locs cells slots Q (F0 m pc ls (((2, a) :: st).map (cV adr))) := by
  obtain ⟨hx, hb, hown, hts, hK, hX⟩ := C
  obtain ⟨hP, hD, hS⟩ := hH
  obtain ⟨q1, q2, q3⟩ := hs.ext (a := a) (by omega)
  have hr := XL0_203 (q1.trans hk)
  have e1 : -(2 + (((-a - 2).toNat : Nat) : Int)) = a := by omega
  have hm : kF.getD b.toNat ("", "", "", []) ∈ kF := by
    rw [List.getD_eq_getElem?_getD, List.getElem?_eq_getElem (by rw [kF_len]; omega)]
    exact List.getElem_mem _
  rw [List.map_cons, cV_ref (by omega)]
  have := va_getE (p := p) (l := l) (e := e) (R := R) (m := m) (args := args) (below := below) (meth := meth) (locs := locs) (cells := cells) (slots := slots) (Q := Q) (pc := pc) (ls := ls) (rest := st.map (cV adr)) hx hb hX.2.1 (i := (-a - 2).toNat) (by rw [kcs_len]; omega) hS hown hm hw (fun _ h9 => h9) hd
  simp only [e1] at this
  refine this ?_
  rw [kF_kV _ (by omega) _ (by omega)]
  have e9 : s.2.2 a b = (kV.getD b.toNat []).getD (-a - 2).toNat 0 := by
    rw [q3]
    unfold XD0
    rw [if_neg (by omega), if_neg (by omega), if_neg (by omega), if_neg (by omega), if_pos (by omega)]
  rw [← e9]
  exact kk
theorem sn_gets (C : Cx p s0 m args c cc own G cA A adr xs) (hH : Hok G cA A adr s s0.heap H locs) {a : Int} {idx : Nat} (hr : a = -50 ∨ a = -51 ∨ (-39 ≤ a ∧ a ≤ -2))
    (hw : (Cond.fieldLink own idx (snm a).1 (snm a).2.1 (snm a).2.2).before args s0 = true) (hd : decode cc pc = .ok (.getstatic idx, 3))
    (kk : W p l e R s0 m args below meth c H locs cells slots Q (F0 m (pc + 3) ls (((2, a) :: st).map (cV adr)))) : W p l e R s0 m args below meth c H locs cells slots Q (F0 m pc ls (st.map (cV adr))) := by
  obtain ⟨hx, hb, hown, hts, hK, hX⟩ := C
  obtain ⟨hP, hD, hS⟩ := hH
  rw [List.map_cons, cV_ref (by omega)] at kk
  rcases hr with rfl | rfl | hr
  · exact va_gets hx hb hX.2.2.1 hS hown hw (fun _ h9 => h9) hd kk
  · exact va_gets hx hb hX.2.2.2.2.1 hS hown hw (fun _ h9 => h9) hd kk
  · have e1 : -(2 + (((-a - 2).toNat : Nat) : Int)) = a := by omega
    have hZ := (hX.2.1.1 (-a - 2).toNat (by rw [kcs_len]; omega)).1
    simp only [e1] at hZ
    unfold snm at hw
    rw [if_neg (by omega), if_neg (by omega)] at hw
    exact va_gets hx hb hZ hS hown hw (fun _ h9 => h9) hd kk
end MEM2
