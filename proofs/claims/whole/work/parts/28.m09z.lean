/-! A method of a class of which some members are run by entries of the machine's own: it has no such entry. Soundness again, over this wider check -/
def mOkF (m : Nat) : Bool := decide (mL m ≤ 40) && (plainFor (mY m) && (((hns.getD m []).zip (tabs.getD m [])).all (fun q => eOk m q.1 q.2) && (decide ((hns.getD m []).length = (tabs.getD m []).length) && (goodWord (mcode m)))))
theorem mOkF_of {m : Nat} (h : mOk m = true) : mOkF m = true := by
  unfold mOk at h
  unfold mOkF
  simp only [Bool.and_eq_true] at h ⊢
  exact ⟨h.1, plainFor_of_name h.2.1, h.2.2⟩
theorem met_F {l : Launch} {y : MethodName} {ws ws' : List Cond} {rm : Room} {Pc : Array Value → State → Prop} {Qc : Array Value → State → Outcome → State → Prop} {mc ms : Nat} {free : Addr → Prop} {cc : ByteArray} {maxL : Nat} {ret : Option FieldType}
    (hy : plainFor y = true) (hw : ws = Cond.code y cc maxL ret :: ws')
    (body : ∀ p e s m args below meth c s₁, BodyLoose p l y (headSpec ws rm) cc maxL ret e s m args below meth c s₁ → c.maxLocals = maxL → Pc args s →
      W p l e (headSpec ws rm).room s m args below meth c s.heap [] 0 0 (MQ below Qc args s mc ms free) (entryFrame m args maxL)) : Met l y ws rm Pc Qc mc ms free := by
  refine MetFree.of_bodySF (code := cc) (maxLocals := maxL) (ret := ret) hy ?_ ?_
  · intro args s m h hn
    obtain ⟨meth, c, h1, h2, h3, h4, h5, h6, -, -⟩ := Cond.code_spec hn (atoms_spec (ws := ws) h _ (by rw [hw]; exact List.mem_cons_self))
    exact ⟨meth, c, h1, h2, h3, h4, h5, h6⟩
  · intro p e s m args below meth c s₁ B hml hP _
    have hh0 : s₁.heap = s.heap := by rw [B.state]; rfl
    obtain ⟨t, a1, o, b1, b2, b3⟩ := body p e s m args below meth c s₁ B hml hP s₁ hh0 (Stand.of_body B)
    exact ⟨t, o, a1, b1, b2, ⟨b3.1, b3.2⟩⟩
/-- what the check of a method says of an instruction -/
theorem tab_okF {mi pc : Nat} {ks : List Nat} {x : IR} (hok : mOkF mi = true) (ht : tab mi pc = some (ks, x)) : decode (mC mi) pc = .ok (insOf x pc) ∧
    (x.1 < 60 → irOk (mY mi).cls (decide ((mY mi).name = "<init>")) x = true ∧ ∀ w ∈ wrd (mY mi).cls x, w ∈ lw_good) ∧
    (60 ≤ x.1 → ctOk mi pc x = true ∧ (∀ w ∈ wrdC (mY mi).cls x, w ∈ lw_good) ∧ ∀ w ∈ wrdN (mY mi).cls x, w ∈ lw_tbl) := by
  unfold tab at ht
  obtain ⟨e, he, h2⟩ := Option.map_eq_some_iff.mp ht
  have hmem := List.mem_of_find?_eq_some he
  have hpc := List.find?_some he
  obtain ⟨pc', ks', x'⟩ := e
  simp only [beq_iff_eq] at hpc
  simp only [Prod.mk.injEq] at h2
  obtain ⟨rfl, rfl⟩ := h2
  subst hpc
  unfold mOkF at hok
  simp only [Bool.and_eq_true, decide_eq_true_eq] at hok
  obtain ⟨hs, hq⟩ := zip_mem _ _ hok.2.2.2.1 hok.2.2.1 _ hmem
  unfold eOk at hq
  simp only [Bool.and_eq_true, decide_eq_true_eq] at hq
  refine ⟨hq.1, fun h60 => ?_, fun h60 => ?_⟩
  · have h3 := hq.2
    rw [if_pos h60] at h3
    simp only [Bool.and_eq_true] at h3
    exact ⟨h3.1, fun w hw => List.mem_filter.mpr ⟨inTbl_mem h3.2.1 w hw, List.all_eq_true.mp h3.2.2 w hw⟩⟩
  · have h3 := hq.2
    rw [if_neg (by omega)] at h3
    simp only [Bool.and_eq_true] at h3
    exact ⟨h3.1, fun w hw => List.mem_filter.mpr ⟨inTbl_mem h3.2.1 w (List.mem_append_left _ hw), List.all_eq_true.mp h3.2.2 w hw⟩, fun w hw => inTbl_mem h3.2.1 w (List.mem_append_right _ hw)⟩
section ALL
variable {p : Program} {l : Launch} {e : Env} {R : Room} {s0 : State} {m : MethodId} {args : Array Value} {below : List Frame} {meth : Method} {c : Code} {Q : State → Prop}
variable {G : va_G} {cA : Nat → ClassId} {A : Nat → Prop} {xs : Int → Int} {d mi : Nat}
theorem run_allF (hok : mOkF mi = true) (I : SndC l xs d) (IX : SndX l xs d) (hml : c.maxLocals = mL mi) (hini : decide ((mY mi).name = "<init>") = true → meth.name = "<init>") (hN : NW s0) (hA : ∀ q, s0.heap.size ≤ q → A q) (hRf : 2 * (d + 1) + 8 ≤ R.frames) (hRl : 128 * (d + 1) + 512 ≤ R.locals) {n0 t0 : Int} {vF : Vv} {sF : Stt} {adr0 : Int → Nat} {LE : Lay} (hn0 : 0 ≤ n0) (hcF : (sF.1.1 - n0).toNat + (sF.1.2 - t0).toNat ≤ R.cells) (hsF : (sF.1.2 - t0).toNat ≤ R.slots)
    (KF : ∀ (pc : Nat) (lo : Lcs) (st : List Vv) (adr : Int → Nat) (H : Heap) (locs : List Loc) (ls : Array Slot) (ks : List Nat) (x : IR), tab mi pc = some (ks, x) → act (den d) mi x pc lo st sF = some (.inr (vF, sF)) → okS XL0 (XD0 xs) sF → Hok G cA A adr sF s0.heap H locs → Lok adr sF.2.1 (mL mi) lo ls → Sok sF.2.1 st → n0 ≤ sF.1.1 → t0 ≤ sF.1.2 → (∀ a, a ≤ n0 → adr a = adr0 a) → (∀ a, (LE a).1 ≠ -1 → sF.2.1 a = LE a) → W p l e R s0 m args below meth c H locs ((sF.1.1 - n0).toNat + (sF.1.2 - t0).toNat) (sF.1.2 - t0).toNat Q (F0 m pc ls (st.map (cV adr)))) :
    ∀ (n pc : Nat) (lo : Lcs) (st : List Vv) (s : Stt) (adr : Int → Nat) (H : Heap) (locs : List Loc) (ls : Array Slot), loopN (stepF (den d) mi) n (pc, lo, st, s) = some (vF, sF) → Cx p s0 m args c (mC mi) (mY mi).cls G cA A adr xs → okS XL0 (XD0 xs) s → Hok G cA A adr s s0.heap H locs → Lok adr s.2.1 (mL mi) lo ls → Sok s.2.1 st → n0 ≤ s.1.1 → t0 ≤ s.1.2 → (∀ a, a ≤ n0 → adr a = adr0 a) → (∀ a, (LE a).1 ≠ -1 → s.2.1 a = LE a) →
      W p l e R s0 m args below meth c H locs ((s.1.1 - n0).toNat + (s.1.2 - t0).toNat) (s.1.2 - t0).toNat Q (F0 m pc ls (st.map (cV adr))) := by
  intro n
  induction n with
  | zero => intro pc lo st s adr H locs ls h; cases h
  | succ n ih =>
    intro pc lo st s adr H locs ls h C hs hH hl hst h1 h2 h3 h4
    have hg := loop_g (den_g d) (n + 1) _ _ _ h
    unfold loopN at h
    cases hf : stepF (den d) mi (pc, lo, st, s) with
    | none => rw [hf] at h; cases h
    | some r =>
      rw [hf] at h
      unfold stepF at hf
      split at hf
      · cases hf
      · rename_i ks x ht
        have ht : tab mi pc = some (ks, x) := ht
        have hf : act (den d) mi x pc (kil ks lo) st s = some r := hf
        obtain ⟨hd, hw1, hw2⟩ := tab_okF hok ht
        have hl := hl.kil ks
        cases r with
        | inr q =>
          obtain ⟨v, s1⟩ := q
          cases h
          obtain ⟨rfl, -⟩ := act_inr hf
          exact KF pc (kil ks lo) st adr H locs ls ks x ht hf hs hH hl hst h1 h2 h3 h4
        | inl f =>
          obtain ⟨pc', lo', st', s'⟩ := f
          have h : loopN (stepF (den d) mi) n (pc', lo', st', s') = some (vF, sF) := h
          have g1 : gr s s' := act_g (den_g d) hf
          have g2 : gr s' sF := loop_g (den_g d) n _ _ _ h
          by_cases h60 : x.1 < 60
          · obtain ⟨hir, hww⟩ := hw1 h60
            unfold act at hf
            rw [if_pos h60] at hf
            obtain ⟨hb, hf⟩ := iteN hf
            obtain ⟨e1, e2, e3, e4⟩ := goN_inv hf
            have hc := ex1_c x (kil ks lo, st, s, true)
            rw [← e4] at hc
            have he : ex1 x (kil ks lo, st, s, true) = (lo', st', s', true) := by
              rw [e2, e3, e4]
              clear hc e1 e2 e3 e4 hf
              generalize ex1 x (kil ks lo, st, s, true) = q at hb ⊢
              obtain ⟨q1, q2, q3, q4⟩ := q
              simp only at hb
              rw [hb]
            refine st_all C hini h60 hd hir (fun w hw => C.2.2.2.1 w (hww w hw)) he hs hH hl hst (fun H' locs' ls' a1 a2 a3 a4 => ?_)
            have hc1 : s'.1 = s.1 := hc.1
            have hc2 : s'.2.1 = s.2.1 := hc.2
            have := ih pc' lo' st' s' adr H' locs' ls' h C a1 a2 a3 a4 (by rw [hc1]; exact h1) (by rw [hc1]; exact h2) h3 (by rw [hc2]; exact h4)
            rw [hc1, e1] at this
            exact this
          · obtain ⟨hct, hww, hwn⟩ := hw2 (by omega)
            by_cases h78 : x.1 ≤ 78
            · refine ct_all C (by omega) h78 hd hct hs hst hf (fun q1 q2 a4 => ?_)
              subst q1
              subst q2
              exact ih pc' _ st' _ adr H locs ls h C hs hH hl a4 h1 h2 h3 h4
            · refine ca_all C hml hN hA I IX hRf hRl (by omega) hd hct hww (fun w hw => wrdN_nest hw (hwn w hw)) hs hH hl hst hf ?_ (fun adr' H1 locs1 ha b1 b2 b3 b4 b5 => ?_)
              · unfold gr at g1 g2
                omega
              · have e1 : (s.1.1 - n0).toNat + (s.1.2 - t0).toNat + ((s'.1.1 - s.1.1).toNat + (s'.1.2 - s.1.2).toNat) = (s'.1.1 - n0).toNat + (s'.1.2 - t0).toNat := by unfold gr at g1; omega
                have e2 : (s.1.2 - t0).toNat + (s'.1.2 - s.1.2).toNat = (s'.1.2 - t0).toNat := by unfold gr at g1; omega
                rw [e1, e2]
                exact ih pc' lo' st' s' adr' H1 locs1 ls h (C.congr (fun a ha0 => ha a (by omega))) b1 b2 b3 b4 (Int.le_trans h1 g1.1) (Int.le_trans h2 g1.2) (fun a ha0 => by rw [ha a (by omega)]; exact h3 a ha0) (fun a ha0 => by
                  have h9 := h4 a ha0
                  rw [b5 a (by show (s.2.1 a).1 ≠ -1; rw [h9]; exact ha0)]
                  exact h9)
end ALL
theorem snd_succF {l : Launch} {xs : Int → Int} {d : Nat} (hall : ∀ k, k < mtab.length → mOkF k = true) (I : SndC l xs d) (IX : SndX l xs d) : SndC l xs (d + 1) := by
  intro m as s v s1 hden h8 hm hmk hs hsa G cA A adr
  obtain ⟨n, hn⟩ := whl_ex hden
  have hok := hall m hm
  have hok' := hok
  unfold mOkF at hok'
  simp only [Bool.and_eq_true, decide_eq_true_eq] at hok'
  refine met_F (cc := mC m) (maxL := mL m) (ret := mR m) hok'.2.1 rfl ?_
  intro p e s0 mm args below meth c s₁ B hml hv
  obtain ⟨rfl, hP, hD, hK, hN, hX, hA⟩ := hv
  have hts := atoms_spec (ws := wsM m) B.pre
  have hown : s0.vm.findClass (mY m).cls = some mm.cls := findClass_of_methodNamed B.named
  have hin : meth.name = (mY m).name := (name_of_methodNamed B.named B.method).1
  have hlocks := B.notSynchronized
  have hr := B.returns
  have C : Cx p s0 mm (as.map (cV adr)).toArray c (mC m) (mY m).cls G cA A adr xs := ⟨B.exec, B.bytes, hown, fun w h => hts w (List.mem_cons_of_mem _ h), hK, hX⟩
  rw [lg_entry_eq]
  have hl := lv_entry (as.map (cV adr)) (n := mL m) (by rw [sl_len, ← mkL_len]; exact hmk)
  generalize (lg_sl (as.map (cV adr)) ++ List.replicate (mL m - (lg_sl (as.map (cV adr))).length) Slot.unset).toArray = ls at hl ⊢
  have key := run_allF (p := p) (e := e) (R := (headSpec (wsM m) (rmM (d + 1) ((s1.1.1 - s.1.1).toNat + (s1.1.2 - s.1.2).toNat) (s1.1.2 - s.1.2).toNat)).room) (s0 := s0) (m := mm) (args := (as.map (cV adr)).toArray) (below := below) (meth := meth) (c := c) (Q := MQ below (QcM G cA A adr xs s s1 v) (as.map (cV adr)).toArray s0 ((s1.1.1 - s.1.1).toNat + (s1.1.2 - s.1.2).toNat) (s1.1.2 - s.1.2).toNat A) (G := G) (cA := cA) (A := A) hok I IX hml (fun h => by rw [hin]; simpa using h) hN hA (Nat.le_refl _) (Nat.le_refl _) (n0 := s.1.1) (t0 := s.1.2) (vF := v) (sF := s1) (adr0 := adr) (LE := s.2.1) hs.1 (Nat.le_refl _) (Nat.le_refl _) ?_ n 0 (padL (mL m) (mkL as)) [] s adr s0.heap [] ls hn C hs ⟨hP, hD, va_S.rf⟩ (ent_ok hmk hsa hl) (fun w h => by cases h) (Int.le_refl _) (Int.le_refl _) (fun _ _ => rfl) (fun _ _ => rfl)
  · rw [Int.sub_self, Int.sub_self] at key
    exact key
  · intro pc lo st adr' H locs ls ks x ht hact hsF hHF hlF hstF hle1 hle2 hadr hkind
    obtain ⟨hd, -, hw2⟩ := tab_okF hok ht
    obtain ⟨-, hc⟩ := act_inr hact
    have hx := B.exec
    have hb := B.bytes
    obtain ⟨k, a, b, z, t⟩ := x
    rcases hc with ⟨hk, w, rfl, rfl, h01⟩ | ⟨hk, w, rfl, rfl⟩ | ⟨hk, w, rfl, rfl⟩ | ⟨hk, rfl, rfl⟩ | ⟨hk, -, h9⟩
    · simp only at hk
      subst hk
      have okr : okR xs s s1 (0, w) := ⟨hsF, Or.inr hstF.hd, hle1, hle2, hkind⟩
      unfold ret01 at h01
      split at h01
      · rename_i hm2
        exact W.iret (v := Int32.ofInt w) hx hb (hr.trans hm2) (fun t ht hW => ⟨⟨adr', hadr, okr, rfl, by rw [ht]; exact hHF.1, hHF.2.1⟩, hHF.2.2.F ht⟩) hHF.2.2.2.2 hd
      · rename_i hm2
        have hn2 : narrow .boolean (.int (Int32.ofInt w)) = .int (Int32.ofInt w) := by
          simp only [bit01, Bool.or_eq_true, decide_eq_true_eq] at h01
          rcases h01 with rfl | rfl <;> rfl
        exact W.zret (v := Int32.ofInt w) (ty := .boolean) hx hb (hr.trans hm2) hn2 (fun t ht hW => ⟨⟨adr', hadr, okr, rfl, by rw [ht]; exact hHF.1, hHF.2.1⟩, hHF.2.2.F ht⟩) hHF.2.2.2.2 hd
      · cases h01
    · simp only at hk
      subst hk
      have okr : okR xs s s1 (1, w) := ⟨hsF, Or.inr hstF.hd, hle1, hle2, hkind⟩
      have hm2 : mR m = some .long := by simpa [ctOk] using (hw2 (by simp)).1
      exact W.lret (v := Int64.ofInt w) hx hb (hr.trans hm2) (fun t ht hW => ⟨⟨adr', hadr, okr, rfl, by rw [ht]; exact hHF.1, hHF.2.1⟩, hHF.2.2.F ht⟩) hHF.2.2.2.2 hd
    · simp only at hk
      subst hk
      have okr : okR xs s s1 (2, w) := ⟨hsF, Or.inr hstF.hd, hle1, hle2, hkind⟩
      have hm2 : isRef' (mR m) = true := (hw2 (by simp)).1
      have hv2 : cV adr' (2, w) = .null ∨ ∃ a, cV adr' (2, w) = .ref a := by
        by_cases h0 : w = 0
        · subst h0; exact Or.inl rfl
        · exact Or.inr ⟨_, cV_ref h0⟩
      unfold isRef' at hm2
      split at hm2
      · rename_i nm hm3
        exact W.aret (v := cV adr' (2, w)) hx hb (hr.trans hm3) (Or.inl ⟨_, rfl⟩) hv2 (fun t ht hW => ⟨⟨adr', hadr, okr, rfl, by rw [ht]; exact hHF.1, hHF.2.1⟩, hHF.2.2.F ht⟩) hHF.2.2.2.2 hd
      · rename_i nm hm3
        exact W.aret (v := cV adr' (2, w)) hx hb (hr.trans hm3) (Or.inr ⟨_, rfl⟩) hv2 (fun t ht hW => ⟨⟨adr', hadr, okr, rfl, by rw [ht]; exact hHF.1, hHF.2.1⟩, hHF.2.2.F ht⟩) hHF.2.2.2.2 hd
      · cases hm2
    · simp only at hk
      subst hk
      have okr : okR xs s s1 (9, 0) := ⟨hsF, Or.inl rfl, hle1, hle2, hkind⟩
      have hm2 : mR m = none := by simpa [ctOk] using (hw2 (by simp)).1
      exact W.vret hx hb (hr.trans hm2) (fun t ht hW => ⟨⟨adr', hadr, okr, rfl, by rw [ht]; exact hHF.1, hHF.2.1⟩, hHF.2.2.F ht⟩) hHF.2.2.2.2 hd
    · exact absurd (by rw [h9]) h8
theorem sndx_succF {l : Launch} (htr : l.stackTraces = false) {xs : Int → Int} {d : Nat} (hall : ∀ k, k < mtab.length → mOkF k = true) (I : SndC l xs d) (IX : SndX l xs d) : SndX l xs (d + 1) := by
  intro as s k s1 hden hmk hs hsa
  have hg0 := den_g _ _ _ _ _ _ hden
  obtain ⟨n, hn⟩ := whl_ex hden
  have hok := hall 141 lk_m
  have hok' := hok
  unfold mOkF at hok'
  simp only [Bool.and_eq_true, decide_eq_true_eq] at hok'
  have hk12 : k = 1 ∨ k = 2 := by
    obtain ⟨pc, ks, x, h1, h2, h3⟩ := loop_thr n _ _ _ hn
    rcases tb_thr _ (tab_mem h1) h2 with h | h
    · exact Or.inl (h3.symm.trans h.2)
    · exact Or.inr (h3.symm.trans h.2)
  refine ⟨hk12, hg0, fun G cA A adr => ?_⟩
  refine vx_ofW (cc := mC 141) (maxL := mL 141) (ret := mR 141) (by decide +kernel) rfl ?_
  intro p e s0 mm args below meth c s₁ B hml hnoex hv
  obtain ⟨rfl, hP, hD, hK, hN, hX, hA⟩ := hv
  have hts := atoms_spec (ws := wsM 141) B.pre
  have hown : s0.vm.findClass (mY 141).cls = some mm.cls := findClass_of_methodNamed B.named
  have hin : meth.name = (mY 141).name := (name_of_methodNamed B.named B.method).1
  have hlocks := B.notSynchronized
  have C : Cx p s0 mm (as.map (cV adr)).toArray c (mC 141) (mY 141).cls G cA A adr xs := ⟨B.exec, B.bytes, hown, fun w h => hts w (List.mem_cons_of_mem _ h), hK, hX⟩
  rw [lg_entry_eq]
  have hl := lv_entry (as.map (cV adr)) (n := mL 141) (by rw [sl_len, ← mkL_len]; exact hmk)
  generalize (lg_sl (as.map (cV adr)) ++ List.replicate (mL 141 - (lg_sl (as.map (cV adr))).length) Slot.unset).toArray = ls at hl ⊢
  have key := run_allF (p := p) (e := e) (R := (headSpec (wsM 141) (rmM (d + 1) (mcX s s1) (msX s s1))).room) (s0 := s0) (m := mm) (args := (as.map (cV adr)).toArray) (below := below) (meth := meth) (c := c) (Q := vx_MQ below (fun _ _ _ _ => False) (XcM G cA A adr xs s s1 k) (as.map (cV adr)).toArray s0 (mcX s s1) (msX s s1) A) (G := G) (cA := cA) (A := A) hok I IX hml (fun h => by rw [hin]; simpa using h) hN hA (Nat.le_refl _) (Nat.le_refl _) (n0 := s.1.1) (t0 := s.1.2) (vF := (8, k)) (sF := s1) (adr0 := adr) (LE := s.2.1) hs.1 (show _ ≤ mcX s s1 by unfold mcX; omega) (show _ ≤ msX s s1 by unfold msX; omega) ?_ n 0 (padL (mL 141) (mkL as)) [] s adr s0.heap [] ls hn C hs ⟨hP, hD, va_S.rf⟩ (ent_ok hmk hsa hl) (fun w h => by cases h) (Int.le_refl _) (Int.le_refl _) (fun _ _ => rfl) (fun _ _ => rfl)
  · rw [Int.sub_self, Int.sub_self] at key
    exact key
  · intro pc lo st adr' H locs ls ks x ht hact hsF hHF hlF hstF hle1 hle2 hadr hkind
    obtain ⟨-, hc⟩ := act_inr hact
    have hx := B.exec
    have hb := B.bytes
    have hsz : ls.size = c.maxLocals := hlF.2.1.1.trans hml.symm
    have hown9 : s0.vm.findClass "MarkGuards" = some mm.cls := by rw [← lk_c]; exact hown
    have hXC : ∀ j : Int, k = j → ∀ t : State, s0.vm.Alike t.vm → H.size ≤ t.heap.size → (∀ q : Nat, q < H.size → t.heap[q]? = H[q]?) → XcM G cA A adr xs s s1 k (exN j) s0 t := by
      intro j hj t _ hz hq
      subst hj
      exact ⟨⟨rfl, adr', hadr, ⟨hsF, Or.inl rfl, hle1, hle2, hkind⟩, hHF.1.kept (fun k q hk => hq _ (vx_lt hHF.1 hk)), hHF.2.1⟩, Nat.le_trans hHF.2.2.1 hz, fun q h1 h2 => by rw [hq q (Nat.lt_of_lt_of_le h1 hHF.2.2.1)]; exact hHF.2.2.2.1 q h1 h2⟩
    rcases hc with ⟨-, w, -, h, -⟩ | ⟨-, w, -, h⟩ | ⟨-, w, -, h⟩ | ⟨-, -, h⟩ | ⟨h98, rfl, h⟩
    · simp at h
    · simp at h
    · simp at h
    · simp at h
    · have hk : k = x.2.1 := (Prod.mk.inj h).2
      rcases tb_thr _ (tab_mem ht) h98 with ⟨hpc, ha⟩ | ⟨hpc, ha⟩
      · simp only at hpc ha
        subst hpc
        exact vx_throwS (names := xnm) (own := "MarkGuards") (cls := "java/lang/IndexOutOfBoundsException") (text := "no such block") (ik := 128) (is := 130) (ic := 132) (sa := adr (-62)) (A := A) (rest := []) hx hb htr hown9 (by decide +kernel) (by decide +kernel) (C.2.2.2.1 _ ex_b1) (C.2.2.2.1 _ ex_c1) hX.2.2.2.2.2.2.2.2.1 (fun w hw => (ex_a1 w hw).elim (fun h => C.2.2.2.1 _ h) (fun h => thr_b h hN)) (fun w hw => by
          rcases List.mem_cons.mp hw with rfl | hw
          · exact ex_ot ex_b1
          · rcases List.mem_cons.mp hw with rfl | hw
            · exact ex_ot ex_c1
            · exact (ex_a1 w hw).elim ex_ot (fun h => by unfold vx_ot; rw [(thrW_w h).1]; rfl)) hX.2.2.2.2.2.2.2.2.2.2.1 hX.2.2.2.2.2.2.2.2.2.2.2.1 hHF.2.2 hsz (by decide +kernel) (by decide +kernel) (by decide +kernel) (by decide +kernel) (by decide +kernel) (fun x hx => (hnoex x hx).elim) (by show 2 + 3 < 2 * (d + 1) + 8; omega) (by show 0 + (13 * (2 + 1) + 43) ≤ 128 * (d + 1) + 512; omega) (show _ ≤ mcX s s1 by unfold mcX; omega) (show _ ≤ msX s s1 by unfold msX; omega) hlocks (hXC 1 (hk.trans ha)) hHF.2.2.2.2 (by unfold mcX; omega) (by unfold msX; omega)
      · simp only at hpc ha
        subst hpc
        exact nx_throw (names := ["java/lang/Exception"]) (Y := "java/lang/RuntimeException") (ix := 13) (bx := prog_32_method_4_code) (own := "MarkGuards") (cls := "java/util/NoSuchElementException") (text := "no such what") (ik := 158) (is := 160) (ic := 162) (sa := adr (-63)) (A := A) (rest := []) hx hb htr hown9 (by decide +kernel) (by decide +kernel) (by decide +kernel) (by decide +kernel) (by decide +kernel) (by decide +kernel) (by decide +kernel) (C.2.2.2.1 _ ex_b2) (C.2.2.2.1 _ ex_c2) hX.2.2.2.2.2.2.2.2.2.1 (fun w hw => (ex_a2 w hw).elim (fun h => C.2.2.2.1 _ h) (fun h => thr_b h hN)) (fun w hw => by
          rcases List.mem_cons.mp hw with rfl | hw
          · exact ex_ot ex_b2
          · rcases List.mem_cons.mp hw with rfl | hw
            · exact ex_ot ex_c2
            · exact (ex_a2 w hw).elim ex_ot (fun h => by unfold vx_ot; rw [(thrW_w h).1]; rfl)) hX.2.2.2.2.2.2.2.2.2.2.1 hX.2.2.2.2.2.2.2.2.2.2.2.1 hHF.2.2 hsz (by decide +kernel) (by decide +kernel) (by decide +kernel) (by decide +kernel) (by decide +kernel) (fun x hx => (hnoex x hx).elim) (by show 1 + 4 < 2 * (d + 1) + 8; omega) (by show 0 + (13 * (1 + 2) + 43) ≤ 128 * (d + 1) + 512; omega) (show _ ≤ mcX s s1 by unfold mcX; omega) (show _ ≤ msX s s1 by unfold msX; omega) hlocks (hXC 2 (hk.trans ha)) hHF.2.2.2.2 (by unfold mcX; omega) (by unfold msX; omega)
theorem snd_allF {l : Launch} (htr : l.stackTraces = false) {xs : Int → Int} (hall : ∀ k, k < mtab.length → mOkF k = true) : ∀ d, SndC l xs d ∧ SndX l xs d := by
  intro d
  induction d with
  | zero => exact ⟨fun m as s v s1 h => (by cases h), fun as s k s1 h => (by cases h)⟩
  | succ d ih => exact ⟨snd_succF hall ih.1 ih.2, sndx_succF htr hall ih.1 ih.2⟩
/-- the law's body comes to its end with true, if the machine of numbers does -/
theorem law_ofF {p : Program} {e : Env} {s : State} {m : MethodId} {below : List Frame} {meth : Method} {c : Code} (l : Launch) {b L : Nat} {f : Nat → Int32} (hL : L ≤ 3072) (C0 : lw_At p s m meth c b L f) {d : Nat} (hd : d + 1 ≤ 600) (hok : mOkF lawI = true) (I : SndC l (xsI L f) d) (IX : SndX l (xsI L f) d) {s1 : Stt} (hden : den (d + 1) lawI [(2, -1)] (s_in (xsI L f)) = some ((0, 1), s1)) (h1 : s1.1.1 ≤ 100000) (h2 : s1.1.2 ≤ 100000) :
    W p l e room_1 s m #[Value.ref b] below meth c s.heap [] 0 0 (lw_Z below #[Value.ref b] s) (entryFrame m ([Value.ref b] : List Value).toArray 7) := by
  obtain ⟨G, cA, adr, hadr, C, hN⟩ := law_start hL C0
  obtain ⟨hx, hb, hr, hml, hown, hts, hX, hbl, hlocks, hgv⟩ := C0
  obtain ⟨n, hn⟩ := whl_ex hden
  have hargs : [Value.ref b] = ([((2, -1) : Vv)]).map (cV adr) := by
    show [Value.ref b] = [cV adr (2, -1)]
    rw [cV_ref (by decide), hadr]
  have eL : mL lawI = 7 := by decide +kernel
  rw [lg_entry_eq]
  have hl := lv_entry [Value.ref b] (n := 7) (by simp [lg_sl, Value.category])
  generalize (lg_sl [Value.ref b] ++ List.replicate (7 - (lg_sl [Value.ref b]).length) Slot.unset).toArray = ls at hl ⊢
  have hs := okS_in (xsI_in (f := f) hL)
  have hv : okV (s_in (xsI L f)).2.1 (2, -1) := okV.mr (Or.inr (by show (XL0 (-1)).1 ≠ -1; decide))
  rw [hargs] at hl
  have hl2 := ent_ok (L := (s_in (xsI L f)).2.1) (as := [(2, -1)]) (by decide) (fun w hw => by rw [List.mem_singleton.mp hw]; exact hv) hl
  have hw : wld cA adr (s_in (xsI L f)) = [] := rfl
  have hH : Hok G cA (fun q => s.heap.size ≤ q) adr (s_in (xsI L f)) s.heap s.heap [] := by
    refine ⟨?_, ?_, va_S.rf⟩
    · rw [hw]
      intro k q h
      simp at h
    · rw [hw]
      exact ⟨fun i j p q h => by simp at h, fun k q h => by simp at h⟩
  have key := run_allF (p := p) (e := e) (R := room_1) (s0 := s) (m := m) (args := #[Value.ref b]) (below := below) (meth := meth) (c := c) (Q := lw_Z below #[Value.ref b] s) (G := G) (cA := cA) (A := fun q => s.heap.size ≤ q) hok I IX (by rw [eL]; exact hml) (fun h => absurd h (by decide +kernel)) hN (fun q h => h) (show 2 * (d + 1) + 8 ≤ 2048 by omega) (show 128 * (d + 1) + 512 ≤ 84000 by omega) (n0 := 0) (t0 := 0) (vF := (0, 1)) (sF := s1) (adr0 := adr) (LE := XL0) (Int.le_refl _) (Nat.le_trans (show (s1.1.1 - 0).toNat + (s1.1.2 - 0).toNat ≤ 200000 by omega) (Nat.le_of_ble_eq_true rfl)) (Nat.le_trans (show (s1.1.2 - 0).toNat ≤ 200000 by omega) (Nat.le_of_ble_eq_true rfl)) ?_ n 0 (padL (mL lawI) (mkL [(2, -1)])) [] (s_in (xsI L f)) adr s.heap [] ls hn C hs hH (by rw [eL]; exact hl2) (fun w h => by cases h) (Int.le_refl _) (Int.le_refl _) (fun _ _ => rfl) (fun _ _ => rfl)
  · exact key
  · intro pc lo st adr' H locs ls ks x ht hact hsF hHF hlF hstF hle1 hle2 ha hkind
    obtain ⟨hdc, -, -⟩ := tab_okF hok ht
    obtain ⟨-, hc⟩ := act_inr hact
    obtain ⟨k, a, b', z, t⟩ := x
    rcases hc with ⟨hk, w, rfl, hw2, -⟩ | ⟨hk, w, rfl, hw2⟩ | ⟨hk, w, rfl, hw2⟩ | ⟨hk, rfl, hw2⟩ | ⟨hk, -, hw2⟩
    · simp only at hk
      subst hk
      simp only [Prod.mk.injEq, true_and] at hw2
      subst hw2
      refine va_forget hHF.2.2.2.2 ?_
      refine W.widen (k := room_1.cells) (n := room_1.slots) (Nat.le_trans (show (s1.1.1 - 0).toNat + (s1.1.2 - 0).toNat ≤ 200000 by omega) (Nat.le_of_ble_eq_true rfl)) (Nat.le_trans (show (s1.1.2 - 0).toNat ≤ 200000 by omega) (Nat.le_of_ble_eq_true rfl)) ?_
      rw [lawC] at hdc
      exact lw_ret hx hb hr hlocks hdc
    · simp at hw2
    · simp at hw2
    · simp at hw2
    · simp at hw2
