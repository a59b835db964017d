/-! Every method meets what the machine of numbers says of it -/
theorem snd_succ {l : Launch} {xs : Int → Int} {d : Nat} (hall : ∀ k, k < mtab.length → mOk k = true) (I : SndC l xs d) : SndC l xs (d + 1) := by
  intro m as s v s1 hden h8 hm hmk hs hsa G cA A adr
  obtain ⟨n, hn⟩ := whl_ex hden
  have hok := hall m hm
  have hok' := hok
  unfold mOk at hok'
  simp only [Bool.and_eq_true, decide_eq_true_eq] at hok'
  refine Met.ofW (cc := mC m) (maxL := mL m) (ret := mR m) hok'.2.1 rfl ?_
  intro p e s0 mm args below meth c s₁ B hml hv
  obtain ⟨rfl, hP, hD, hK, hN, hX, hA⟩ := hv
  have hts := atoms_spec (ws := wsM m) B.pre
  have hown : s0.vm.findClass (mY m).cls = some mm.cls := findClass_of_methodNamed B.named
  have hin : meth.name = (mY m).name := (name_of_methodNamed B.named B.method).1
  have hlocks := B.notSynchronized
  have hr := B.returns
  have C : Cx p s0 mm (as.map (cV adr)).toArray c (mC m) (mY m).cls G cA A adr xs := ⟨B.exec, B.bytes, hown, fun w h => hts w (List.mem_cons_of_mem _ h), hK, hX⟩
  rw [lg_entry_eq]
  have hl := lv_entry (as.map (cV adr)) (n := mL m) (by rw [sl_len, ← mkL_len]; exact hmk)
  generalize (lg_sl (as.map (cV adr)) ++ List.replicate (mL m - (lg_sl (as.map (cV adr))).length) Slot.unset).toArray = ls at hl ⊢
  have key := run_all (p := p) (e := e) (R := (headSpec (wsM m) (rmM (d + 1) ((s1.1.1 - s.1.1).toNat + (s1.1.2 - s.1.2).toNat) (s1.1.2 - s.1.2).toNat)).room) (s0 := s0) (m := mm) (args := (as.map (cV adr)).toArray) (below := below) (meth := meth) (c := c) (Q := MQ below (QcM G cA A adr xs s s1 v) (as.map (cV adr)).toArray s0 ((s1.1.1 - s.1.1).toNat + (s1.1.2 - s.1.2).toNat) (s1.1.2 - s.1.2).toNat A) (G := G) (cA := cA) (A := A) hok I hml (fun h => by rw [hin]; simpa using h) hN hA (Nat.le_refl _) (Nat.le_refl _) (n0 := s.1.1) (t0 := s.1.2) (vF := v) (sF := s1) (adr0 := adr) (LE := s.2.1) hs.1 (Nat.le_refl _) (Nat.le_refl _) ?_ n 0 (padL (mL m) (mkL as)) [] s adr s0.heap [] ls hn C hs ⟨hP, hD, va_S.rf⟩ (ent_ok hmk hsa hl) (fun w h => by cases h) (Int.le_refl _) (Int.le_refl _) (fun _ _ => rfl) (fun _ _ => rfl)
  · rw [Int.sub_self, Int.sub_self] at key
    exact key
  · intro pc lo st adr' H locs ls ks x ht hact hsF hHF hlF hstF hle1 hle2 hadr hkind
    obtain ⟨hd, -, hw2⟩ := tab_ok hok ht
    obtain ⟨-, hc⟩ := act_inr hact
    have hx := B.exec
    have hb := B.bytes
    obtain ⟨k, a, b, z, t⟩ := x
    rcases hc with ⟨hk, w, rfl, rfl, h01⟩ | ⟨hk, w, rfl, rfl⟩ | ⟨hk, w, rfl, rfl⟩ | ⟨hk, rfl, rfl⟩ | ⟨hk, h9⟩
    · simp only at hk
      subst hk
      have okr : okR xs s s1 (0, w) := ⟨hsF, Or.inr hstF.hd, hle1, hle2, hkind⟩
      unfold ret01 at h01
      split at h01
      · rename_i hm2
        exact W.iret (v := Int32.ofInt w) hx hb (hr.trans hm2) (fun t ht hW => ⟨⟨adr', hadr, okr, rfl, by rw [ht]; exact hHF.1, hHF.2.1⟩, hHF.2.2.F ht⟩) hHF.2.2.2.2 hd
      · rename_i hm2
        have hn2 : narrow .boolean (.int (Int32.ofInt w)) = .int (Int32.ofInt w) := by
          simp only [bit01, Bool.or_eq_true, decide_eq_true_eq] at h01
          rcases h01 with rfl | rfl <;> rfl
        exact W.zret (v := Int32.ofInt w) (ty := .boolean) hx hb (hr.trans hm2) hn2 (fun t ht hW => ⟨⟨adr', hadr, okr, rfl, by rw [ht]; exact hHF.1, hHF.2.1⟩, hHF.2.2.F ht⟩) hHF.2.2.2.2 hd
      · cases h01
    · simp only at hk
      subst hk
      have okr : okR xs s s1 (1, w) := ⟨hsF, Or.inr hstF.hd, hle1, hle2, hkind⟩
      have hm2 : mR m = some .long := by simpa [ctOk] using (hw2 (by simp)).1
      exact W.lret (v := Int64.ofInt w) hx hb (hr.trans hm2) (fun t ht hW => ⟨⟨adr', hadr, okr, rfl, by rw [ht]; exact hHF.1, hHF.2.1⟩, hHF.2.2.F ht⟩) hHF.2.2.2.2 hd
    · simp only at hk
      subst hk
      have okr : okR xs s s1 (2, w) := ⟨hsF, Or.inr hstF.hd, hle1, hle2, hkind⟩
      have hm2 : isRef' (mR m) = true := (hw2 (by simp)).1
      have hv2 : cV adr' (2, w) = .null ∨ ∃ a, cV adr' (2, w) = .ref a := by
        by_cases h0 : w = 0
        · subst h0; exact Or.inl rfl
        · exact Or.inr ⟨_, cV_ref h0⟩
      unfold isRef' at hm2
      split at hm2
      · rename_i nm hm3
        exact W.aret (v := cV adr' (2, w)) hx hb (hr.trans hm3) (Or.inl ⟨_, rfl⟩) hv2 (fun t ht hW => ⟨⟨adr', hadr, okr, rfl, by rw [ht]; exact hHF.1, hHF.2.1⟩, hHF.2.2.F ht⟩) hHF.2.2.2.2 hd
      · rename_i nm hm3
        exact W.aret (v := cV adr' (2, w)) hx hb (hr.trans hm3) (Or.inr ⟨_, rfl⟩) hv2 (fun t ht hW => ⟨⟨adr', hadr, okr, rfl, by rw [ht]; exact hHF.1, hHF.2.1⟩, hHF.2.2.F ht⟩) hHF.2.2.2.2 hd
      · cases hm2
    · simp only at hk
      subst hk
      have okr : okR xs s s1 (9, 0) := ⟨hsF, Or.inl rfl, hle1, hle2, hkind⟩
      have hm2 : mR m = none := by simpa [ctOk] using (hw2 (by simp)).1
      exact W.vret hx hb (hr.trans hm2) (fun t ht hW => ⟨⟨adr', hadr, okr, rfl, by rw [ht]; exact hHF.1, hHF.2.1⟩, hHF.2.2.F ht⟩) hHF.2.2.2.2 hd
    · exact absurd h9 h8
theorem snd_all {l : Launch} {xs : Int → Int} (hall : ∀ k, k < mtab.length → mOk k = true) : ∀ d, SndC l xs d := by
  intro d
  induction d with
  | zero => intro m as s v s1 h; cases h
  | succ d ih => exact snd_succ hall ih
