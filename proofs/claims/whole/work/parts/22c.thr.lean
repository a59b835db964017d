/-! The one method that throws, and the law's call that catches -/
def exN (k : Int) : String := if k = 1 then "java/lang/IndexOutOfBoundsException" else "java/util/NoSuchElementException"
def XcM (G : va_G) (cA : Nat → ClassId) (A : Nat → Prop) (adr : Int → Nat) (xs : Int → Int) (s s1 : Stt) (k : Int) : String → State → State → Prop := fun E st t => (E = exN k ∧ ∃ adr' : Int → Nat, (∀ a, a ≤ s.1.1 → adr' a = adr a) ∧ okR xs s s1 (9, 0) ∧ va_P G cls0 (wld cA adr' s1) t.heap ∧ va_D A (wld cA adr' s1)) ∧ va_F A st t
def mcX (s s1 : Stt) : Nat := (s1.1.1 - s.1.1).toNat + (s1.1.2 - s.1.2).toNat + 8
def msX (s s1 : Stt) : Nat := (s1.1.2 - s.1.2).toNat + 8
def SndX (l : Launch) (xs : Int → Int) (d : Nat) : Prop := ∀ (as : List Vv) (s : Stt) (k : Int) (s1 : Stt), den d 141 as s = some ((8, k), s1) → (mkL as).length ≤ mL 141 → okS XL0 (XD0 xs) s → Sok s.2.1 as → (k = 1 ∨ k = 2) ∧
  (s.1.1 ≤ s1.1.1 ∧ s.1.2 ≤ s1.1.2) ∧
  ∀ (G : va_G) (cA : Nat → ClassId) (A : Nat → Prop) (adr : Int → Nat), vx_Met l (mY 141) (wsM 141) (rmM d (mcX s s1) (msX s s1)) (PcM G cA A adr xs as s) (fun _ _ _ _ => False) (XcM G cA A adr xs s s1 k) (mcX s s1) (msX s s1) A
def hhB : List (Nat × Nat × Nat × Nat) := [(0, 10, 13, 13), (0, 10, 17, 15)]
def wsB : List Cond := .codeWith yL_block cL_block 5 (some .int) hhB :: lw_good
def rmB (d mc ms : Nat) : Room := { frames := 2 * d + 9, cells := mc, slots := ms, locals := 128 * d + 600 }
/-- the store behind a throw that was caught -/
def sX (s1 : Stt) : Stt := ((s1.1.1, s1.1.2 + 8), s1.2)
theorem lk_m : 141 < mtab.length := by decide +kernel
theorem lk_p : prm 141 = some 2 ∧ ynm 141 = true ∧ mci 141 = 10 ∧ clN (mci 141) = (mY 141).cls := by decide +kernel
theorem lk_c : (mY 141).cls = "MarkGuards" := by decide +kernel
theorem lk_w1 : Cond.methodLink "MarkGuardsLaw" 7 (mY 141) ∈ lw_good := gw (i := 1438) (by decide +kernel) (by decide +kernel)
theorem lk_w2 : Cond.instanceMethod (mY 141) ∈ lw_good := gw (i := 1439) (by decide +kernel) (by decide +kernel)
theorem lk_w3 : Cond.selects (mY 141).cls (mY 141) (mY 141) ∈ lw_good := gw (i := 1440) (by decide +kernel) (by decide +kernel)
theorem lk_w4 : Cond.initialized (mY 141).cls ∈ lw_good := gw (i := 131) (by decide +kernel) (by decide +kernel)
theorem lk_w5 : mcode 141 ∈ lw_good := gw (i := 1441) (by decide +kernel) (by decide +kernel)
theorem lk_w6 : Cond.classLink "MarkGuardsLaw" 13 "java/lang/IndexOutOfBoundsException" ∈ lw_good := gw (i := 1436) (by decide +kernel) (by decide +kernel)
theorem lk_w7 : Cond.classLink "MarkGuardsLaw" 15 "java/util/NoSuchElementException" ∈ lw_good := gw (i := 1437) (by decide +kernel) (by decide +kernel)
theorem thr_b {w : Cond} (hw : w ∈ thrW) {s : State} {args : Array Value} (h : NW s) : w.before args s = true := va_Nw.use (thrW_w hw).1 (h.2.2.2 w hw)
section THR
variable {p : Program} {l : Launch} {e : Env} {R : Room} {s0 : State} {m : MethodId} {args : Array Value} {below : List Frame} {meth : Method} {c : Code} {Q : State → Prop} {H : Heap} {locs : List Loc} {cells slots : Nat} {ls : Array Slot} {cc : ByteArray} {own : String} {pc nL : Nat}
variable {G : va_G} {cA : Nat → ClassId} {A : Nat → Prop} {adr : Int → Nat} {xs : Int → Int} {lo : Lcs} {st : List Vv} {s : Stt} {d : Nat} {s1 : Stt}
theorem dm_thr {k : Int} {mc ms : Nat} {st0 rest : List Value} (hr : vx_Run p l e R s0 m args below meth c H locs cells slots mc ms (F0 m pc ls st0) rest (fun _ _ _ => False) (XcM G cA A adr xs s s1 k) A) (hS : va_S A s0.heap H locs)
    (kk : ∀ (adr' : Int → Nat) (H1 : Heap) (locs1 : List Loc) (q : Nat) (ce : Cell), (∀ a, a ≤ s.1.1 → adr' a = adr a) → okR xs s s1 (9, 0) → Hok G cA A adr' s1 s0.heap H1 locs1 → H1[q]? = some ce → ce.vm = .none → s0.vm.findClass (exN k) = some ce.cls → vx_W p l e R s0 m args below meth c H1 locs1 (cells + mc) (slots + ms) Q (F0 m pc ls rest) q) : W p l e R s0 m args below meth c H locs cells slots Q (F0 m pc ls st0) := by
  intro T hT X
  rcases hr T hT X with ⟨v, st₀, t, T', L, h0, X', hL, e1, e2, hF, stp⟩ | ⟨q, st₀, t, T', L, E, ce, h0, X', hL, e1, e2, ⟨⟨hE, adr', ha, ho, hP, hD⟩, hz, hk⟩, hce, hcv, hcl, stp⟩
  · exact hF.elim
  · subst hE
    rw [h0] at hz hk
    obtain ⟨t2, a1, b1⟩ := kk adr' T'.heap (locs ++ L) q ce ha ho ⟨by rw [e1]; exact hP, hD, ⟨Nat.le_trans hS.1 (by rw [e1]; exact hz), fun q h1 h2 => by rw [e1, hk q (Nat.lt_of_lt_of_le h1 hS.1) h2]; exact hS.2.1 q h1 h2, fun q hq => by
        rcases List.mem_append.mp hq with h | h
        · exact hS.2.2 q h
        · exact hL q h⟩⟩ (by rw [e1]; exact hce) hcv hcl T' rfl X'
    exact ⟨t2, stp.trans a1, b1⟩
theorem s1_ (C : Cx p s0 m args c cc own G cA A adr xs) {x : IR} {lo' : Lcs} {st' : List Vv} {s' : Stt} (h60 : x.1 < 60) (hd : decode cc pc = .ok (insOf x pc)) (hir : irOk own false x = true) (hw : wrd own x = []) (he : ex1 x (lo, st, s, true) = (lo', st', s', true)) (hs : okS XL0 (XD0 xs) s) (hH : Hok G cA A adr s s0.heap H locs) (hl : Lok adr s.2.1 nL lo ls) (hst : Sok s.2.1 st)
    (K : ∀ H' locs' ls', okS XL0 (XD0 xs) s' → Hok G cA A adr s' s0.heap H' locs' → Lok adr s'.2.1 nL lo' ls' → Sok s'.2.1 st' → W p l e R s0 m args below meth c H' locs' cells slots Q (F0 m (pc + (insOf x pc).2) ls' (st'.map (cV adr)))) : W p l e R s0 m args below meth c H locs cells slots Q (F0 m pc ls (st.map (cV adr))) :=
  st_all C (ini := false) (fun h => by cases h) h60 hd hir (fun w h => by rw [hw] at h; cases h) he hs hH hl hst K
end THR
section LBK
variable {l : Launch} {G : va_G} {cA : Nat → ClassId} {A : Nat → Prop} {adr : Int → Nat} {xs : Int → Int} {s : Stt} {d : Nat} {s1 : Stt}
/-- the law's own method, where the call returns -/
theorem lb_ok (I : SndC l xs d) {r z y o v : Int} (hden : den d 141 [(2, r), (0, z), (0, y)] s = some ((0, v), s1)) (hs : okS XL0 (XD0 xs) s) (hsa : Sok s.2.1 [(2, r), (0, z), (0, y), (2, o)]) (hr : kd s r = 10) (ho : kd s o = 101) (hlo : 0 < ln s o) :
    Met l yL_block wsB (rmB d ((s1.1.1 - s.1.1).toNat + (s1.1.2 - s.1.2).toNat) (s1.1.2 - s.1.2).toNat) (PcM G cA A adr xs [(2, r), (0, z), (0, y), (2, o)] s) (QcM G cA A adr xs s (s1.1, s1.2.1, up s1.2.2 o 0 v) (0, 0)) ((s1.1.1 - s.1.1).toNat + (s1.1.2 - s.1.2).toNat) (s1.1.2 - s.1.2).toNat A := by
  refine va_MetW (cc := cL_block) (maxL := 5) (ret := some .int) (hh := hhB) (by decide) rfl ?_
  intro p e s0 mm args below meth c s₁ B hml hv
  obtain ⟨rfl, hP, hD, hK, hN, hX, hA⟩ := hv
  have hts := atoms_spec (ws := wsB) B.pre
  have hown : s0.vm.findClass "MarkGuardsLaw" = some mm.cls := findClass_of_methodNamed B.named
  have hrt := B.returns
  have hlocks := B.notSynchronized
  have C : Cx p s0 mm ([(2, r), (0, z), (0, y), (2, o)].map (cV adr)).toArray c cL_block "MarkGuardsLaw" G cA A adr xs := ⟨B.exec, B.bytes, hown, fun w h => hts w (List.mem_cons_of_mem _ h), hK, hX⟩
  rw [lg_entry_eq]
  have hl := lv_entry ([(2, r), (0, z), (0, y), (2, o)].map (cV adr)) (n := 5) (by rw [sl_len]; exact Nat.le_of_ble_eq_true rfl)
  generalize (lg_sl ([(2, r), (0, z), (0, y), (2, o)].map (cV adr)) ++ List.replicate (5 - (lg_sl ([(2, r), (0, z), (0, y), (2, o)].map (cV adr))).length) Slot.unset).toArray = ls at hl ⊢
  have hl : Lok adr s.2.1 5 [some (2, r), some (0, z), some (0, y), some (2, o), none] ls := ent_ok (as := [(2, r), (0, z), (0, y), (2, o)]) (Nat.le_of_ble_eq_true rfl) hsa hl
  have hH : Hok G cA A adr s s0.heap s0.heap [] := ⟨hP, hD, va_S.rf⟩
  have hst : Sok s.2.1 [] := fun w h => by cases h
  refine s1_ C (pc := 0) (lo := [some (2, r), some (0, z), some (0, y), some (2, o), none]) (lo' := [some (2, r), some (0, z), some (0, y), some (2, o), none]) (st := []) (st' := [(2, o)]) (s := s) (s' := s) (x := (12, 3, 0, 0, [])) (by decide) (by decide +kernel) (by decide) rfl rfl hs hH hl hst (fun H1 locs1 ls1 hs hH hl hst => ?_)
  refine s1_ C (pc := 1) (lo := [some (2, r), some (0, z), some (0, y), some (2, o), none]) (lo' := [some (2, r), some (0, z), some (0, y), some (2, o), none]) (st := [(2, o)]) (st' := [(0, 0), (2, o)]) (s := s) (s' := s) (x := (0, 0, 0, 0, [])) (by decide) (by decide +kernel) (by decide) rfl rfl hs hH hl hst (fun H1 locs1 ls1 hs hH hl hst => ?_)
  refine s1_ C (pc := 2) (lo := [some (2, r), some (0, z), some (0, y), some (2, o), none]) (lo' := [some (2, r), some (0, z), some (0, y), some (2, o), none]) (st := [(0, 0), (2, o)]) (st' := [(2, r), (0, 0), (2, o)]) (s := s) (s' := s) (x := (12, 0, 0, 0, [])) (by decide) (by decide +kernel) (by decide) rfl rfl hs hH hl hst (fun H1 locs1 ls1 hs hH hl hst => ?_)
  refine s1_ C (pc := 3) (lo := [some (2, r), some (0, z), some (0, y), some (2, o), none]) (lo' := [some (2, r), some (0, z), some (0, y), some (2, o), none]) (st := [(2, r), (0, 0), (2, o)]) (st' := [(0, z), (2, r), (0, 0), (2, o)]) (s := s) (s' := s) (x := (8, 1, 0, 0, [])) (by decide) (by decide +kernel) (by decide) rfl rfl hs hH hl hst (fun H1 locs1 ls1 hs hH hl hst => ?_)
  refine s1_ C (pc := 4) (lo := [some (2, r), some (0, z), some (0, y), some (2, o), none]) (lo' := [some (2, r), some (0, z), some (0, y), some (2, o), none]) (st := [(0, z), (2, r), (0, 0), (2, o)]) (st' := [(0, y), (0, z), (2, r), (0, 0), (2, o)]) (s := s) (s' := s) (x := (8, 2, 0, 0, [])) (by decide) (by decide +kernel) (by decide) rfl rfl hs hH hl hst (fun H1 locs1 ls1 hs hH hl hst => ?_)
  refine sn_callV C (pc := 5) (st := [(0, y), (0, z), (2, r), (0, 0), (2, o)]) (lo := [some (2, r), some (0, z), some (0, y), some (2, o), none]) hml hN hA I (k := 141) (idx := 7) (n := 2) (v := (0, v)) (s1 := s1) (Nat.le_refl _) (show 128 * d + 584 ≤ 128 * d + 600 by omega) lk_m (by decide +kernel) lk_p.1 lk_p.2.1 (by rw [lk_p.2.2.1]; decide) (by rw [lk_p.2.2.1]; decide) lk_p.2.2.2 lk_w1 lk_w2 lk_w3 lk_w4 lk_w5 (by decide +kernel) hs hH hl hst (by rw [lk_p.2.2.1]; exact hr) (by simp [cat]) (Nat.le_of_ble_eq_true rfl) hden (by simp) ⟨Nat.le_of_eq (Nat.zero_add _), Nat.le_of_eq (Nat.zero_add _)⟩ (fun adr' H1 locs1 ha hR hH hl hst => ?_)
  have C' := C.congr (fun a ha0 => ha a (by have := hs.1; omega))
  have hk2 : s1.2.1 o = s.2.1 o := hR.2.2.2.2 o (by rw [ho]; decide)
  have hk3 : kd s1 o = 101 := by show (s1.2.1 o).1 = 101; rw [hk2]; exact ho
  have hk4 : 0 < ln s1 o := by show 0 < (s1.2.1 o).2; rw [hk2]; exact hlo
  refine s1_ C' (pc := 8) (lo := [some (2, r), some (0, z), some (0, y), some (2, o), none]) (lo' := [some (2, r), some (0, z), some (0, y), some (2, o), none]) (st := [(0, v), (0, 0), (2, o)]) (st' := [(1, v), (0, 0), (2, o)]) (s := s1) (s' := s1) (x := (43, 0, 0, 0, [])) (by decide) (by decide +kernel) (by decide) rfl rfl hR.1 hH hl hst (fun H1 locs1 ls1 hs2 hH hl hst => ?_)
  refine s1_ C' (pc := 9) (lo := [some (2, r), some (0, z), some (0, y), some (2, o), none]) (lo' := [some (2, r), some (0, z), some (0, y), some (2, o), none]) (st := [(1, v), (0, 0), (2, o)]) (st' := []) (s := s1) (s' := (s1.1, s1.2.1, up s1.2.2 o 0 v)) (x := (51, 0, 0, 0, [])) (by decide) (by decide +kernel) (by decide) rfl (by show ((_, _, _, true && ([101].contains (kd s1 o) && (inb 0 (ln s1 o) && true))) : C4) = _; rw [hk3]; simp [inb, hk4]) hs2 hH hl hst (fun H1 locs1 ls1 hs3 hH hl hst => ?_)
  refine ct_76 C' (mi := 0) (cal := den d) (pc := 10) (pc' := 21) (lo := [some (2, r), some (0, z), some (0, y), some (2, o), none]) (lo' := [some (2, r), some (0, z), some (0, y), some (2, o), none]) (st := []) (st' := []) (s := (s1.1, s1.2.1, up s1.2.2 o 0 v)) (s' := (s1.1, s1.2.1, up s1.2.2 o 0 v)) (a := 11) (b := 0) (d := 0) (t := []) (by decide +kernel) (by decide) hs3 hst rfl (fun _ _ hst => ?_)
  refine s1_ C' (pc := 21) (lo := [some (2, r), some (0, z), some (0, y), some (2, o), none]) (lo' := [some (2, r), some (0, z), some (0, y), some (2, o), none]) (st := []) (st' := [(0, 0)]) (s := (s1.1, s1.2.1, up s1.2.2 o 0 v)) (s' := (s1.1, s1.2.1, up s1.2.2 o 0 v)) (x := (0, 0, 0, 0, [])) (by decide) (by decide +kernel) (by decide) rfl rfl hs3 hH hl hst (fun H1 locs1 ls1 hs3 hH hl hst => ?_)
  have okr : okR xs s (s1.1, s1.2.1, up s1.2.2 o 0 v) (0, 0) := ⟨hs3, Or.inr hst.hd, hR.2.2.1, hR.2.2.2.1, hR.2.2.2.2⟩
  refine W.widen (k := (s1.1.1 - s.1.1).toNat + (s1.1.2 - s.1.2).toNat) (n := (s1.1.2 - s.1.2).toNat) (Nat.le_of_eq (Nat.zero_add _)) (Nat.le_of_eq (Nat.zero_add _)) ?_
  exact W.iret (v := Int32.ofInt 0) C.1 C.2.1 hrt (fun t ht hW => ⟨⟨adr', ha, okr, rfl, by rw [ht]; exact hH.1, hH.2.1⟩, hH.2.2.F ht⟩) hH.2.2.2.2 (by decide +kernel)
/-- where it throws -/
theorem lb_thr (IX : SndX l xs d) {r z y o k : Int} (hden : den d 141 [(2, r), (0, z), (0, y)] s = some ((8, k), s1)) (hs : okS XL0 (XD0 xs) s) (hsa : Sok s.2.1 [(2, r), (0, z), (0, y), (2, o)]) (hr : kd s r = 10) :
    Met l yL_block wsB (rmB d (mcX s s1) (msX s s1)) (PcM G cA A adr xs [(2, r), (0, z), (0, y), (2, o)] s) (QcM G cA A adr xs s (sX s1) (0, k)) (mcX s s1) (msX s s1) A := by
  refine va_MetW (cc := cL_block) (maxL := 5) (ret := some .int) (hh := hhB) (by decide) rfl ?_
  intro p e s0 mm args below meth c s₁ B hml hv
  obtain ⟨rfl, hP, hD, hK, hN, hX, hA⟩ := hv
  have hts := atoms_spec (ws := wsB) B.pre
  have hown : s0.vm.findClass "MarkGuardsLaw" = some mm.cls := findClass_of_methodNamed B.named
  have hrt := B.returns
  have hlocks := B.notSynchronized
  have C : Cx p s0 mm ([(2, r), (0, z), (0, y), (2, o)].map (cV adr)).toArray c cL_block "MarkGuardsLaw" G cA A adr xs := ⟨B.exec, B.bytes, hown, fun w h => hts w (List.mem_cons_of_mem _ h), hK, hX⟩
  have h95 := vx_table (x := yL_block) B (hts _ List.mem_cons_self)
  rw [lg_entry_eq]
  have hl := lv_entry ([(2, r), (0, z), (0, y), (2, o)].map (cV adr)) (n := 5) (by rw [sl_len]; exact Nat.le_of_ble_eq_true rfl)
  generalize (lg_sl ([(2, r), (0, z), (0, y), (2, o)].map (cV adr)) ++ List.replicate (5 - (lg_sl ([(2, r), (0, z), (0, y), (2, o)].map (cV adr))).length) Slot.unset).toArray = ls at hl ⊢
  have hl : Lok adr s.2.1 5 [some (2, r), some (0, z), some (0, y), some (2, o), none] ls := ent_ok (as := [(2, r), (0, z), (0, y), (2, o)]) (Nat.le_of_ble_eq_true rfl) hsa hl
  have hH : Hok G cA A adr s s0.heap s0.heap [] := ⟨hP, hD, va_S.rf⟩
  have hst : Sok s.2.1 [] := fun w h => by cases h
  refine s1_ C (pc := 0) (lo := [some (2, r), some (0, z), some (0, y), some (2, o), none]) (lo' := [some (2, r), some (0, z), some (0, y), some (2, o), none]) (st := []) (st' := [(2, o)]) (s := s) (s' := s) (x := (12, 3, 0, 0, [])) (by decide) (by decide +kernel) (by decide) rfl rfl hs hH hl hst (fun H1 locs1 ls1 hs hH hl hst => ?_)
  refine s1_ C (pc := 1) (lo := [some (2, r), some (0, z), some (0, y), some (2, o), none]) (lo' := [some (2, r), some (0, z), some (0, y), some (2, o), none]) (st := [(2, o)]) (st' := [(0, 0), (2, o)]) (s := s) (s' := s) (x := (0, 0, 0, 0, [])) (by decide) (by decide +kernel) (by decide) rfl rfl hs hH hl hst (fun H1 locs1 ls1 hs hH hl hst => ?_)
  refine s1_ C (pc := 2) (lo := [some (2, r), some (0, z), some (0, y), some (2, o), none]) (lo' := [some (2, r), some (0, z), some (0, y), some (2, o), none]) (st := [(0, 0), (2, o)]) (st' := [(2, r), (0, 0), (2, o)]) (s := s) (s' := s) (x := (12, 0, 0, 0, [])) (by decide) (by decide +kernel) (by decide) rfl rfl hs hH hl hst (fun H1 locs1 ls1 hs hH hl hst => ?_)
  refine s1_ C (pc := 3) (lo := [some (2, r), some (0, z), some (0, y), some (2, o), none]) (lo' := [some (2, r), some (0, z), some (0, y), some (2, o), none]) (st := [(2, r), (0, 0), (2, o)]) (st' := [(0, z), (2, r), (0, 0), (2, o)]) (s := s) (s' := s) (x := (8, 1, 0, 0, [])) (by decide) (by decide +kernel) (by decide) rfl rfl hs hH hl hst (fun H1 locs1 ls1 hs hH hl hst => ?_)
  refine s1_ C (pc := 4) (lo := [some (2, r), some (0, z), some (0, y), some (2, o), none]) (lo' := [some (2, r), some (0, z), some (0, y), some (2, o), none]) (st := [(0, z), (2, r), (0, 0), (2, o)]) (st' := [(0, y), (0, z), (2, r), (0, 0), (2, o)]) (s := s) (s' := s) (x := (8, 2, 0, 0, [])) (by decide) (by decide +kernel) (by decide) rfl rfl hs hH hl hst (fun H1 locs1 ls1 hs hH hl hst => ?_)
  obtain ⟨hk12, hgr, M⟩ := IX [(2, r), (0, z), (0, y)] s k s1 hden (Nat.le_of_ble_eq_true rfl) hs (fun w hw => hsa w (by simp at hw ⊢; rcases hw with h | h | h <;> simp [h]))
  have M := M G cA A adr
  have hws : ∀ w ∈ wsV "MarkGuardsLaw" 7 (mY 141).cls (mY 141) (wsM 141), w ∈ lw_good := by
    intro w hw
    have a1 := lk_w1
    have a2 := lk_w2
    have a3 := lk_w3
    have a4 := lk_w4
    have a5 := lk_w5
    simp only [wsV, wsM, List.cons_append, List.nil_append, List.mem_cons] at hw
    rcases hw with rfl | rfl | rfl | rfl | rfl | h <;> assumption
  have hp := hs.pos (a := r) (by rw [hr]; decide) (by rw [hr]; decide)
  have hg := wld_get (cA := cA) (adr := adr) hp.1 hp.2
  have hlk : (s.2.1 r).1 = 10 := hr
  rw [cE_obj (by omega), hlk] at hg
  obtain ⟨cr, hcr⟩ := cls_some (ci := 10) (by decide) (by decide)
  have hcl : cr.1 = (mY 141).cls := by
    rw [← lk_p.2.2.2, lk_p.2.2.1]
    unfold clN
    rw [List.getD_eq_getElem?_getD, hcr]
    rfl
  have hrv := va_recv C.2.2.2.2.1 hH.1 hcr hg
  rw [hcl] at hrv
  have er : cV adr (2, r) = .ref (adr r) := own_ne hs (by rw [hr]; decide) (by rw [hr]; decide)
  have key := vx_runV (p := p) (e := e) (R := rmB d (mcX s s1) (msX s s1)) (m := mm) (c := c) (cc := cL_block) (nL := 5) (s := s0) (H := H1) (locs := locs1) (below := below) (meth := meth) (cells := 0) (slots := 0) (g := F0 mm 5 ls1 (([(0, y), (0, z), (2, r), (0, 0), (2, o)] : List Vv).map (cV adr))) (b := adr r) (As := [.int (Int32.ofInt z), .int (Int32.ofInt y)]) (rest := ([(0, 0), (2, o)] : List Vv).map (cV adr)) (Ts := lw_good) (own := "MarkGuardsLaw") (C := (mY 141).cls) (index := 7) (n := 2) (bytes := mC 141) (maxL := mL 141) (ret := mR 141) ⟨C.1, C.2.1, hml, C.2.2.1, C.2.2.2.1⟩ M (cwV (C := (mY 141).cls) 2 C.2.2.2.1 (goodIn_lw hws) (rfl : wsM 141 = Cond.code (mY 141) (mC 141) (mL 141) (mR 141) :: lw_good) rfl rfl ⟨rfl, hdesc lk_p.1 lk_p.2.1⟩ ⟨Nat.le_refl _, by
    have : mL 141 ≤ 40 := by decide +kernel
    show 8 + (mL 141 + 11) + (128 * d + 512) ≤ 128 * d + 600; omega⟩) ⟨blind_PcM, hrv, fun U hU hW => ?_⟩ rfl rfl hl.2.1.1 (by simp only [List.map_cons, er]; rfl) (by rw [cats]; exact Nat.le_of_ble_eq_true rfl) (show decode cL_block 5 = .ok (.invokevirtual 7, 3) by decide +kernel) ⟨Nat.le_of_eq (Nat.zero_add _), Nat.le_of_eq (Nat.zero_add _)⟩
  · refine dm_thr key hH.2.2 (fun adr' H1 locs1 q ce ha hR hH hce hcv hcc => ?_)
    have okr : ∀ k : Int, in32 k → okR xs s (sX s1) (0, k) := fun k hk => ⟨hR.1, Or.inr (okV.mi hk), hR.2.2.1, Int.le_trans hR.2.2.2.1 (show s1.1.2 ≤ s1.1.2 + 8 by omega), hR.2.2.2.2⟩
    have hfin : ∀ (pc : Nat) (k : Int) (n : Int), k = n → in32 k → decode cL_block pc = .ok (.astore 4, 2) → decode cL_block (pc + 2) = .ok (.iconst n, 1) → decode cL_block (pc + 2 + 1) = .ok (.ireturn, 1) → W p l e (rmB d (mcX s s1) (msX s s1)) s0 mm ([(2, r), (0, z), (0, y), (2, o)].map (cV adr)).toArray below meth c H1 locs1 (0 + mcX s s1) (0 + msX s s1) (MQ below (QcM G cA A adr xs s (sX s1) (0, k)) ([(2, r), (0, z), (0, y), (2, o)].map (cV adr)).toArray s0 (mcX s s1) (msX s s1) A) (F0 mm pc ls1 [.ref q]) := by
      intro pc k n hkn hk d1 d2 d3
      subst hkn
      refine lv_astore C.1 C.2.1 d1 hl.2.1 (by decide) rfl (fun ls2 hl2 => ?_)
      refine lv_iconst (v := Int32.ofInt k) C.1 C.2.1 d2 rfl ?_
      refine W.widen (k := mcX s s1) (n := msX s s1) (Nat.le_of_eq (Nat.zero_add _)) (Nat.le_of_eq (Nat.zero_add _)) ?_
      exact W.iret (v := Int32.ofInt k) C.1 C.2.1 hrt (fun t ht hW => ⟨⟨adr', ha, okr k hk, rfl, by rw [ht]; exact hH.1, hH.2.1⟩, hH.2.2.F ht⟩) hH.2.2.2.2 d3
    have ht : c.exceptionTable.toList = [⟨0, 10, 13, 13⟩, ⟨0, 10, 17, 15⟩] := h95
    rcases hk12 with rfl | rfl
    · refine vx_catch (own := "MarkGuardsLaw") (name := "java/lang/IndexOutOfBoundsException") (E := exN 1) hown [] ⟨0, 10, 13, 13⟩ [⟨0, 10, 17, 15⟩] ht (fun z hz => by cases hz) (by decide) (by decide) (C.2.2.2.1 _ lk_w6) (thr_b (w := .castable "java/lang/IndexOutOfBoundsException" "java/lang/IndexOutOfBoundsException") List.mem_cons_self hN) hce hcv hcc ?_
      exact hfin 13 1 1 rfl (by unfold in32; omega) (by decide +kernel) (by decide +kernel) (by decide +kernel)
    · refine vx_catch (own := "MarkGuardsLaw") (name := "java/util/NoSuchElementException") (E := exN 2) hown [⟨0, 10, 13, 13⟩] ⟨0, 10, 17, 15⟩ [] ht (fun z hz => ?_) (by decide) (by decide) (C.2.2.2.1 _ lk_w7) (thr_b (w := .castable "java/util/NoSuchElementException" "java/util/NoSuchElementException") (List.mem_cons_of_mem _ List.mem_cons_self) hN) hce hcv hcc ?_
      · rw [List.mem_singleton.mp hz]
        exact Or.inr ⟨by decide, "java/lang/IndexOutOfBoundsException", C.2.2.2.1 _ lk_w6, hX.2.2.2.2.2.2.2.2.2.2.2.2⟩
      · exact hfin 17 2 2 rfl (by unfold in32; omega) (by decide +kernel) (by decide +kernel) (by decide +kernel)
  · have := pre_of C hN hA hH [(2, r), (0, z), (0, y)] hU hW
    rw [List.map_cons, er] at this
    exact this
end LBK
