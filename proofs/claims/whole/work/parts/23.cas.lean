/-! Calls and new cells as steps -/
theorem nfl_lt (a : Int) : (((ftab.getD a.toNat []).length : Nat) : Int) < 2147483648 := by
  have h : ftab.all (fun r => decide (r.length < 100)) = true := by decide +kernel
  rw [List.getD_eq_getElem?_getD]
  cases h1 : ftab[a.toNat]? with
  | none => simp
  | some r =>
    have := List.all_eq_true.mp h r (List.mem_of_getElem? h1)
    simp only [decide_eq_true_eq] at this
    simp only [Option.getD_some]
    omega
theorem rt_90 {cal : Nat → List Vv → Stt → Option (Vv × Stt)} {mi : Nat} {a b z : Int} {t : List (Int × Int)} {pc : Nat} {lo : Lcs} {st : List Vv} {s : Stt} (f : Fst) : ¬ act cal mi (90, a, b, z, t) pc lo st s = some (.inl f) := by
  intro h
  unfold act at h
  rw [if_neg (by simp)] at h
  split at h
  all_goals first
    | (cases h; done)
    | (obtain ⟨-, h⟩ := iteN h; cases h; done)
    | simp_all
theorem rt_91 {cal : Nat → List Vv → Stt → Option (Vv × Stt)} {mi : Nat} {a b z : Int} {t : List (Int × Int)} {pc : Nat} {lo : Lcs} {st : List Vv} {s : Stt} (f : Fst) : ¬ act cal mi (91, a, b, z, t) pc lo st s = some (.inl f) := by
  intro h
  unfold act at h
  rw [if_neg (by simp)] at h
  split at h
  all_goals first
    | (cases h; done)
    | (obtain ⟨-, h⟩ := iteN h; cases h; done)
    | simp_all
theorem rt_92 {cal : Nat → List Vv → Stt → Option (Vv × Stt)} {mi : Nat} {a b z : Int} {t : List (Int × Int)} {pc : Nat} {lo : Lcs} {st : List Vv} {s : Stt} (f : Fst) : ¬ act cal mi (92, a, b, z, t) pc lo st s = some (.inl f) := by
  intro h
  unfold act at h
  rw [if_neg (by simp)] at h
  split at h
  all_goals first
    | (cases h; done)
    | (obtain ⟨-, h⟩ := iteN h; cases h; done)
    | simp_all
theorem rt_93 {cal : Nat → List Vv → Stt → Option (Vv × Stt)} {mi : Nat} {a b z : Int} {t : List (Int × Int)} {pc : Nat} {lo : Lcs} {st : List Vv} {s : Stt} (f : Fst) : ¬ act cal mi (93, a, b, z, t) pc lo st s = some (.inl f) := by
  intro h
  unfold act at h
  rw [if_neg (by simp)] at h
  split at h
  all_goals first
    | (cases h; done)
    | (obtain ⟨-, h⟩ := iteN h; cases h; done)
    | simp_all
theorem XL0_206 {a : Int} (h : (XL0 a).1 = 206) : a = -60 := by
  unfold XL0 at h
  split at h
  · simp at h
  · split at h
    · simp at h
    · split at h
      · simp at h
      · split at h
        · assumption
        · split at h
          · simp at h
          · simp at h
theorem room_B {d mc ms : Nat} {R : Room} (hRf : 2 * (d + 1) + 8 ≤ R.frames) (hRl : 128 * (d + 1) + 512 ≤ R.locals) : (rmB d mc ms).frames + 1 ≤ R.frames ∧ 8 + (5 + 11) + (rmB d mc ms).locals ≤ R.locals := by
  unfold rmB
  simp only
  omega
section CAS
variable {p : Program} {l : Launch} {e : Env} {R : Room} {s0 : State} {m : MethodId} {args : Array Value} {below : List Frame} {meth : Method} {c : Code} {Q : State → Prop} {H : Heap} {locs : List Loc} {cells slots : Nat} {ls : Array Slot} {cc : ByteArray} {own : String} {pc nL : Nat}
variable {G : va_G} {cA : Nat → ClassId} {A : Nat → Prop} {adr : Int → Nat} {xs : Int → Int} {lo lo' : Lcs} {st st' : List Vv} {s s' : Stt} {d mi pc' : Nat}
theorem cnt_0 {a b : Nat} {x y : Int} {g : JFrame} (h : W p l e R s0 m args below meth c H locs (a + ((x - x).toNat + (y - y).toNat)) (b + (y - y).toNat) Q g) : W p l e R s0 m args below meth c H locs a b Q g := by
  simpa using h
theorem nw_l {k n : Int} {adr' : Int → Nat} (hk : 0 ≤ k) (hs : okS XL0 (XD0 xs) s) (hl : Lok adr s.2.1 nL lo ls) (hst : Sok s.2.1 st) (ha : ∀ b, b ≤ s.1.1 → adr' b = adr b) :
    Lok adr' (newS s k n).2.1 nL lo ls ∧ Sok (newS s k n).2.1 ((2, s.1.1 + 1) :: st) ∧ st.map (cV adr') = st.map (cV adr) ∧ ∀ a, kd s a ≠ -1 → (newS s k n).2.1 a = s.2.1 a := by
  have e : ∀ z, (s.2.1 z).1 ≠ -1 → adr' z = adr z := fun z hz => ha z (hs.le hz)
  have e3 : ∀ z, (s.2.1 z).1 ≠ -1 → (newS s k n).2.1 z = s.2.1 z := by
    intro z hz
    have := hs.le hz
    show (if z = s.1.1 + 1 then (k, n) else s.2.1 z) = _
    rw [if_neg (by omega)]
  have e2 : ∀ z, (s.2.1 z).1 ≠ -1 → ((newS s k n).2.1 z).1 ≠ -1 := fun z hz => by rw [e3 z hz]; exact hz
  have hl' := lo_congr e hl
  refine ⟨⟨hl'.1, hl'.2.1, fun i w hw => (hl'.2.2 i w hw).mono e2⟩, Sok.cons (okV.mr (Or.inr ?_)) (fun w hw => (hst w hw).mono e2), st_congr e hst, e3⟩
  show ((if s.1.1 + 1 = s.1.1 + 1 then (k, n) else s.2.1 (s.1.1 + 1)) : Int × Int).1 ≠ -1
  rw [if_pos rfl]
  simp only
  omega
theorem ca_79 (C : Cx p s0 m args c cc own G cA A adr xs) (hml : c.maxLocals = nL) (hN : NW s0) (hA : ∀ q, s0.heap.size ≤ q → A q) (I : SndC l xs d) (hRf : 2 * (d + 1) + 8 ≤ R.frames) (hRl : 128 * (d + 1) + 512 ≤ R.locals) {a b z : Int} {t : List (Int × Int)} (hd : decode cc pc = .ok (insOf (79, a, b, z, t) pc)) (hok : ctOk mi pc (79, a, b, z, t) = true) (hw : ∀ w ∈ wrdC own (79, a, b, z, t), w ∈ lw_good) (hwn : ∀ w ∈ wrdN own (79, a, b, z, t), w ∈ nestW)
    (hs : okS XL0 (XD0 xs) s) (hH : Hok G cA A adr s s0.heap H locs) (hl : Lok adr s.2.1 nL lo ls) (hst : Sok s.2.1 st) (he : act (den d) mi (79, a, b, z, t) pc lo st s = some (.inl (pc', lo', st', s'))) (hf : cells + ((s'.1.1 - s.1.1).toNat + (s'.1.2 - s.1.2).toNat) ≤ R.cells ∧ slots + (s'.1.2 - s.1.2).toNat ≤ R.slots)
    (K : ∀ (adr' : Int → Nat) (H1 : Heap) (locs1 : List Loc), (∀ a, a ≤ s.1.1 → adr' a = adr a) → okS XL0 (XD0 xs) s' → Hok G cA A adr' s' s0.heap H1 locs1 → Lok adr' s'.2.1 nL lo' ls → Sok s'.2.1 st' → (∀ a, kd s a ≠ -1 → s'.2.1 a = s.2.1 a) → W p l e R s0 m args below meth c H1 locs1 (cells + ((s'.1.1 - s.1.1).toNat + (s'.1.2 - s.1.2).toNat)) (slots + (s'.1.2 - s.1.2).toNat) Q (F0 m pc' ls (st'.map (cV adr')))) :
    W p l e R s0 m args below meth c H locs cells slots Q (F0 m pc ls (st.map (cV adr))) := by
  simp only [ctOk, Bool.and_eq_true, decide_eq_true_eq] at hok
  have he : callN (den d) a.toNat z.toNat pc lo st s = some (.inl (pc', lo', st', s')) := he
  obtain ⟨v, h1, h2, h3, h4, h5, rfl, rfl, rfl⟩ := callN_inv he
  exact sn_callS C hml hN hA I (by omega) (by omega) hok.1 (all_mL _ hok.1) hok.2.1 hok.2.2 (hw _ List.mem_cons_self) (hw _ (List.mem_cons_of_mem _ List.mem_cons_self)) (hw _ (List.mem_cons_of_mem _ (List.mem_cons_of_mem _ List.mem_cons_self))) (hw _ (List.mem_cons_of_mem _ (List.mem_cons_of_mem _ (List.mem_cons_of_mem _ List.mem_cons_self)))) hd hs hH hl hst h1 h2 h3 h4 h5 hf (fun adr' H1 locs1 ha ho hH1 a1 a2 => K adr' H1 locs1 ha ho.1 hH1 a1 a2 ho.2.2.2.2)
theorem ca_81 (C : Cx p s0 m args c cc own G cA A adr xs) (hml : c.maxLocals = nL) (hN : NW s0) (hA : ∀ q, s0.heap.size ≤ q → A q) (I : SndC l xs d) (hRf : 2 * (d + 1) + 8 ≤ R.frames) (hRl : 128 * (d + 1) + 512 ≤ R.locals) {a b z : Int} {t : List (Int × Int)} (hd : decode cc pc = .ok (insOf (81, a, b, z, t) pc)) (hok : ctOk mi pc (81, a, b, z, t) = true) (hw : ∀ w ∈ wrdC own (81, a, b, z, t), w ∈ lw_good) (hwn : ∀ w ∈ wrdN own (81, a, b, z, t), w ∈ nestW)
    (hs : okS XL0 (XD0 xs) s) (hH : Hok G cA A adr s s0.heap H locs) (hl : Lok adr s.2.1 nL lo ls) (hst : Sok s.2.1 st) (he : act (den d) mi (81, a, b, z, t) pc lo st s = some (.inl (pc', lo', st', s'))) (hf : cells + ((s'.1.1 - s.1.1).toNat + (s'.1.2 - s.1.2).toNat) ≤ R.cells ∧ slots + (s'.1.2 - s.1.2).toNat ≤ R.slots)
    (K : ∀ (adr' : Int → Nat) (H1 : Heap) (locs1 : List Loc), (∀ a, a ≤ s.1.1 → adr' a = adr a) → okS XL0 (XD0 xs) s' → Hok G cA A adr' s' s0.heap H1 locs1 → Lok adr' s'.2.1 nL lo' ls → Sok s'.2.1 st' → (∀ a, kd s a ≠ -1 → s'.2.1 a = s.2.1 a) → W p l e R s0 m args below meth c H1 locs1 (cells + ((s'.1.1 - s.1.1).toNat + (s'.1.2 - s.1.2).toNat)) (slots + (s'.1.2 - s.1.2).toNat) Q (F0 m pc' ls (st'.map (cV adr')))) :
    W p l e R s0 m args below meth c H locs cells slots Q (F0 m pc ls (st.map (cV adr))) := by
  simp only [ctOk, Bool.and_eq_true, decide_eq_true_eq] at hok
  have he : callN (den d) a.toNat z.toNat pc lo st s = some (.inl (pc', lo', st', s')) := he
  obtain ⟨v, h1, h2, h3, h4, h5, rfl, rfl, rfl⟩ := callN_inv he
  exact sn_callS C hml hN hA I (by omega) (by omega) hok.1 (all_mL _ hok.1) hok.2.1 hok.2.2 (hw _ List.mem_cons_self) (hw _ (List.mem_cons_of_mem _ List.mem_cons_self)) (hw _ (List.mem_cons_of_mem _ (List.mem_cons_of_mem _ List.mem_cons_self))) (hw _ (List.mem_cons_of_mem _ (List.mem_cons_of_mem _ (List.mem_cons_of_mem _ List.mem_cons_self)))) hd hs hH hl hst h1 h2 h3 h4 h5 hf (fun adr' H1 locs1 ha ho hH1 a1 a2 => K adr' H1 locs1 ha ho.1 hH1 a1 a2 ho.2.2.2.2)
theorem ca_83 (C : Cx p s0 m args c cc own G cA A adr xs) (hml : c.maxLocals = nL) (hN : NW s0) (hA : ∀ q, s0.heap.size ≤ q → A q) (I : SndC l xs d) (hRf : 2 * (d + 1) + 8 ≤ R.frames) (hRl : 128 * (d + 1) + 512 ≤ R.locals) {a b z : Int} {t : List (Int × Int)} (hd : decode cc pc = .ok (insOf (83, a, b, z, t) pc)) (hok : ctOk mi pc (83, a, b, z, t) = true) (hw : ∀ w ∈ wrdC own (83, a, b, z, t), w ∈ lw_good) (hwn : ∀ w ∈ wrdN own (83, a, b, z, t), w ∈ nestW)
    (hs : okS XL0 (XD0 xs) s) (hH : Hok G cA A adr s s0.heap H locs) (hl : Lok adr s.2.1 nL lo ls) (hst : Sok s.2.1 st) (he : act (den d) mi (83, a, b, z, t) pc lo st s = some (.inl (pc', lo', st', s'))) (hf : cells + ((s'.1.1 - s.1.1).toNat + (s'.1.2 - s.1.2).toNat) ≤ R.cells ∧ slots + (s'.1.2 - s.1.2).toNat ≤ R.slots)
    (K : ∀ (adr' : Int → Nat) (H1 : Heap) (locs1 : List Loc), (∀ a, a ≤ s.1.1 → adr' a = adr a) → okS XL0 (XD0 xs) s' → Hok G cA A adr' s' s0.heap H1 locs1 → Lok adr' s'.2.1 nL lo' ls → Sok s'.2.1 st' → (∀ a, kd s a ≠ -1 → s'.2.1 a = s.2.1 a) → W p l e R s0 m args below meth c H1 locs1 (cells + ((s'.1.1 - s.1.1).toNat + (s'.1.2 - s.1.2).toNat)) (slots + (s'.1.2 - s.1.2).toNat) Q (F0 m pc' ls (st'.map (cV adr')))) :
    W p l e R s0 m args below meth c H locs cells slots Q (F0 m pc ls (st.map (cV adr))) := by
  simp only [ctOk, Bool.and_eq_true, decide_eq_true_eq] at hok
  have he : callN (den d) a.toNat z.toNat pc lo st s = some (.inl (pc', lo', st', s')) := he
  obtain ⟨v, h1, h2, h3, h4, h5, rfl, rfl, rfl⟩ := callN_inv he
  exact sn_callSN C hml hN hA I (by omega) (by omega) hok.1 (all_mL _ hok.1) hok.2.1 hok.2.2 (hwn _ List.mem_cons_self) (hw _ List.mem_cons_self) (hw _ (List.mem_cons_of_mem _ List.mem_cons_self)) (hw _ (List.mem_cons_of_mem _ (List.mem_cons_of_mem _ List.mem_cons_self))) hd hs hH hl hst h1 h2 h3 h4 h5 hf (fun adr' H1 locs1 ha ho hH1 a1 a2 => K adr' H1 locs1 ha ho.1 hH1 a1 a2 ho.2.2.2.2)
theorem ca_80 (C : Cx p s0 m args c cc own G cA A adr xs) (hml : c.maxLocals = nL) (hN : NW s0) (hA : ∀ q, s0.heap.size ≤ q → A q) (I : SndC l xs d) (hRf : 2 * (d + 1) + 8 ≤ R.frames) (hRl : 128 * (d + 1) + 512 ≤ R.locals) {a b z : Int} {t : List (Int × Int)} (hd : decode cc pc = .ok (insOf (80, a, b, z, t) pc)) (hok : ctOk mi pc (80, a, b, z, t) = true) (hw : ∀ w ∈ wrdC own (80, a, b, z, t), w ∈ lw_good) (hwn : ∀ w ∈ wrdN own (80, a, b, z, t), w ∈ nestW)
    (hs : okS XL0 (XD0 xs) s) (hH : Hok G cA A adr s s0.heap H locs) (hl : Lok adr s.2.1 nL lo ls) (hst : Sok s.2.1 st) (he : act (den d) mi (80, a, b, z, t) pc lo st s = some (.inl (pc', lo', st', s'))) (hf : cells + ((s'.1.1 - s.1.1).toNat + (s'.1.2 - s.1.2).toNat) ≤ R.cells ∧ slots + (s'.1.2 - s.1.2).toNat ≤ R.slots)
    (K : ∀ (adr' : Int → Nat) (H1 : Heap) (locs1 : List Loc), (∀ a, a ≤ s.1.1 → adr' a = adr a) → okS XL0 (XD0 xs) s' → Hok G cA A adr' s' s0.heap H1 locs1 → Lok adr' s'.2.1 nL lo' ls → Sok s'.2.1 st' → (∀ a, kd s a ≠ -1 → s'.2.1 a = s.2.1 a) → W p l e R s0 m args below meth c H1 locs1 (cells + ((s'.1.1 - s.1.1).toNat + (s'.1.2 - s.1.2).toNat)) (slots + (s'.1.2 - s.1.2).toNat) Q (F0 m pc' ls (st'.map (cV adr')))) :
    W p l e R s0 m args below meth c H locs cells slots Q (F0 m pc ls (st.map (cV adr))) := by
  simp only [ctOk, Bool.and_eq_true, decide_eq_true_eq] at hok
  have he : (if rck s st z.toNat = mci a.toNat then callN (den d) a.toNat (z.toNat + 1) pc lo st s else none) = some (.inl (pc', lo', st', s')) := he
  obtain ⟨hr, he⟩ := iteN he
  obtain ⟨v, h1, h2, h3, h4, h5, rfl, rfl, rfl⟩ := callN_inv he
  exact sn_callV C hml hN hA I (by omega) (by omega) hok.1 (all_mL _ hok.1) hok.2.1 hok.2.2.1 hok.2.2.2.1 hok.2.2.2.2.1 hok.2.2.2.2.2 (hw _ List.mem_cons_self) (hw _ (List.mem_cons_of_mem _ List.mem_cons_self)) (hw _ (List.mem_cons_of_mem _ (List.mem_cons_of_mem _ List.mem_cons_self))) (hw _ (List.mem_cons_of_mem _ (List.mem_cons_of_mem _ (List.mem_cons_of_mem _ List.mem_cons_self)))) (hw _ (List.mem_cons_of_mem _ (List.mem_cons_of_mem _ (List.mem_cons_of_mem _ (List.mem_cons_of_mem _ List.mem_cons_self))))) hd hs hH hl hst hr h2 h3 h4 h5 hf (fun adr' H1 locs1 ha ho hH1 a1 a2 => K adr' H1 locs1 ha ho.1 hH1 a1 a2 ho.2.2.2.2)
theorem ca_82 (C : Cx p s0 m args c cc own G cA A adr xs) (hml : c.maxLocals = nL) (hN : NW s0) (hA : ∀ q, s0.heap.size ≤ q → A q) (I : SndC l xs d) (hRf : 2 * (d + 1) + 8 ≤ R.frames) (hRl : 128 * (d + 1) + 512 ≤ R.locals) {a b z : Int} {t : List (Int × Int)} (hd : decode cc pc = .ok (insOf (82, a, b, z, t) pc)) (hok : ctOk mi pc (82, a, b, z, t) = true) (hw : ∀ w ∈ wrdC own (82, a, b, z, t), w ∈ lw_good) (hwn : ∀ w ∈ wrdN own (82, a, b, z, t), w ∈ nestW)
    (hs : okS XL0 (XD0 xs) s) (hH : Hok G cA A adr s s0.heap H locs) (hl : Lok adr s.2.1 nL lo ls) (hst : Sok s.2.1 st) (he : act (den d) mi (82, a, b, z, t) pc lo st s = some (.inl (pc', lo', st', s'))) (hf : cells + ((s'.1.1 - s.1.1).toNat + (s'.1.2 - s.1.2).toNat) ≤ R.cells ∧ slots + (s'.1.2 - s.1.2).toNat ≤ R.slots)
    (K : ∀ (adr' : Int → Nat) (H1 : Heap) (locs1 : List Loc), (∀ a, a ≤ s.1.1 → adr' a = adr a) → okS XL0 (XD0 xs) s' → Hok G cA A adr' s' s0.heap H1 locs1 → Lok adr' s'.2.1 nL lo' ls → Sok s'.2.1 st' → (∀ a, kd s a ≠ -1 → s'.2.1 a = s.2.1 a) → W p l e R s0 m args below meth c H1 locs1 (cells + ((s'.1.1 - s.1.1).toNat + (s'.1.2 - s.1.2).toNat)) (slots + (s'.1.2 - s.1.2).toNat) Q (F0 m pc' ls (st'.map (cV adr')))) :
    W p l e R s0 m args below meth c H locs cells slots Q (F0 m pc ls (st.map (cV adr))) := by
  simp only [ctOk, Bool.and_eq_true, decide_eq_true_eq] at hok
  have he : (if rck s st z.toNat = mci a.toNat then callN (den d) a.toNat (z.toNat + 1) pc lo st s else none) = some (.inl (pc', lo', st', s')) := he
  obtain ⟨hr, he⟩ := iteN he
  obtain ⟨v, h1, h2, h3, h4, h5, rfl, rfl, rfl⟩ := callN_inv he
  exact sn_callI C hml hN hA I (by omega) (by omega) hok.1 (all_mL _ hok.1) hok.2.1 hok.2.2.1 hok.2.2.2.1 hok.2.2.2.2.1 hok.2.2.2.2.2.1 hok.2.2.2.2.2.2 (hw _ List.mem_cons_self) (hw _ (List.mem_cons_of_mem _ List.mem_cons_self)) (hw _ (List.mem_cons_of_mem _ (List.mem_cons_of_mem _ List.mem_cons_self))) (hw _ (List.mem_cons_of_mem _ (List.mem_cons_of_mem _ (List.mem_cons_of_mem _ List.mem_cons_self)))) hd hs hH hl hst hr h2 h3 h4 h5 hf (fun adr' H1 locs1 ha ho hH1 a1 a2 => K adr' H1 locs1 ha ho.1 hH1 a1 a2 ho.2.2.2.2)
theorem ca_84 (C : Cx p s0 m args c cc own G cA A adr xs) (hml : c.maxLocals = nL) (hN : NW s0) (hA : ∀ q, s0.heap.size ≤ q → A q) (I : SndC l xs d) (hRf : 2 * (d + 1) + 8 ≤ R.frames) (hRl : 128 * (d + 1) + 512 ≤ R.locals) {a b z : Int} {t : List (Int × Int)} (hd : decode cc pc = .ok (insOf (84, a, b, z, t) pc)) (hok : ctOk mi pc (84, a, b, z, t) = true) (hw : ∀ w ∈ wrdC own (84, a, b, z, t), w ∈ lw_good) (hwn : ∀ w ∈ wrdN own (84, a, b, z, t), w ∈ nestW)
    (hs : okS XL0 (XD0 xs) s) (hH : Hok G cA A adr s s0.heap H locs) (hl : Lok adr s.2.1 nL lo ls) (hst : Sok s.2.1 st) (he : act (den d) mi (84, a, b, z, t) pc lo st s = some (.inl (pc', lo', st', s'))) (hf : cells + ((s'.1.1 - s.1.1).toNat + (s'.1.2 - s.1.2).toNat) ≤ R.cells ∧ slots + (s'.1.2 - s.1.2).toNat ≤ R.slots)
    (K : ∀ (adr' : Int → Nat) (H1 : Heap) (locs1 : List Loc), (∀ a, a ≤ s.1.1 → adr' a = adr a) → okS XL0 (XD0 xs) s' → Hok G cA A adr' s' s0.heap H1 locs1 → Lok adr' s'.2.1 nL lo' ls → Sok s'.2.1 st' → (∀ a, kd s a ≠ -1 → s'.2.1 a = s.2.1 a) → W p l e R s0 m args below meth c H1 locs1 (cells + ((s'.1.1 - s.1.1).toNat + (s'.1.2 - s.1.2).toNat)) (slots + (s'.1.2 - s.1.2).toNat) Q (F0 m pc' ls (st'.map (cV adr')))) :
    W p l e R s0 m args below meth c H locs cells slots Q (F0 m pc ls (st.map (cV adr))) := by
  simp only [ctOk, Bool.and_eq_true, decide_eq_true_eq] at hok
  have he : (if rck s st z.toNat = mci a.toNat then callN (den d) a.toNat (z.toNat + 1) pc lo st s else none) = some (.inl (pc', lo', st', s')) := he
  obtain ⟨hr, he⟩ := iteN he
  obtain ⟨v, h1, h2, h3, h4, h5, rfl, rfl, rfl⟩ := callN_inv he
  exact sn_callIN C hml hN hA I (by omega) (by omega) hok.1 (all_mL _ hok.1) hok.2.1 hok.2.2.1 hok.2.2.2.1 hok.2.2.2.2.1 hok.2.2.2.2.2.1 hok.2.2.2.2.2.2 (hwn _ List.mem_cons_self) (hw _ List.mem_cons_self) (hw _ (List.mem_cons_of_mem _ List.mem_cons_self)) (hw _ (List.mem_cons_of_mem _ (List.mem_cons_of_mem _ List.mem_cons_self))) hd hs hH hl hst hr h2 h3 h4 h5 hf (fun adr' H1 locs1 ha ho hH1 a1 a2 => K adr' H1 locs1 ha ho.1 hH1 a1 a2 ho.2.2.2.2)
theorem ca_85 (C : Cx p s0 m args c cc own G cA A adr xs) (hml : c.maxLocals = nL) (hN : NW s0) (hA : ∀ q, s0.heap.size ≤ q → A q) (I : SndC l xs d) (hRf : 2 * (d + 1) + 8 ≤ R.frames) (hRl : 128 * (d + 1) + 512 ≤ R.locals) {a b z : Int} {t : List (Int × Int)} (hd : decode cc pc = .ok (insOf (85, a, b, z, t) pc)) (hok : ctOk mi pc (85, a, b, z, t) = true) (hw : ∀ w ∈ wrdC own (85, a, b, z, t), w ∈ lw_good) (hwn : ∀ w ∈ wrdN own (85, a, b, z, t), w ∈ nestW)
    (hs : okS XL0 (XD0 xs) s) (hH : Hok G cA A adr s s0.heap H locs) (hl : Lok adr s.2.1 nL lo ls) (hst : Sok s.2.1 st) (he : act (den d) mi (85, a, b, z, t) pc lo st s = some (.inl (pc', lo', st', s'))) (hf : cells + ((s'.1.1 - s.1.1).toNat + (s'.1.2 - s.1.2).toNat) ≤ R.cells ∧ slots + (s'.1.2 - s.1.2).toNat ≤ R.slots)
    (K : ∀ (adr' : Int → Nat) (H1 : Heap) (locs1 : List Loc), (∀ a, a ≤ s.1.1 → adr' a = adr a) → okS XL0 (XD0 xs) s' → Hok G cA A adr' s' s0.heap H1 locs1 → Lok adr' s'.2.1 nL lo' ls → Sok s'.2.1 st' → (∀ a, kd s a ≠ -1 → s'.2.1 a = s.2.1 a) → W p l e R s0 m args below meth c H1 locs1 (cells + ((s'.1.1 - s.1.1).toNat + (s'.1.2 - s.1.2).toNat)) (slots + (s'.1.2 - s.1.2).toNat) Q (F0 m pc' ls (st'.map (cV adr')))) :
    W p l e R s0 m args below meth c H locs cells slots Q (F0 m pc ls (st.map (cV adr))) := by
  match st, hst, he with
  | [], _, he => cases (show (none : Nxt) = some _ from he)
  | (0, v) :: r, _, he => cases (show (none : Nxt) = some _ from he)
  | (1, v) :: r, _, he => cases (show (none : Nxt) = some _ from he)
  | (n + 3, v) :: r, _, he => cases (show (none : Nxt) = some _ from he)
  | (2, v) :: r, hst, he =>
    have he : (if 0 < v ∧ (r.map cat).sum ≤ 8 then goN (pc + 3) lo r s else none) = some (.inl (pc', lo', st', s')) := he
    obtain ⟨hr, he⟩ := iteN he
    obtain ⟨rfl, rfl, rfl, rfl⟩ := goN_inv he
    exact sn_obj C hml hr.1 hr.2 hl (by omega) (by omega) (hw _ List.mem_cons_self) (hw _ (List.mem_cons_of_mem _ List.mem_cons_self)) (hw _ (List.mem_cons_of_mem _ (List.mem_cons_of_mem _ List.mem_cons_self))) hd (cnt_0 (K adr H locs (fun _ _ => rfl) hs hH hl hst.tl (fun _ _ => rfl)))
theorem ca_86 (C : Cx p s0 m args c cc own G cA A adr xs) (hml : c.maxLocals = nL) (hN : NW s0) (hA : ∀ q, s0.heap.size ≤ q → A q) (I : SndC l xs d) (hRf : 2 * (d + 1) + 8 ≤ R.frames) (hRl : 128 * (d + 1) + 512 ≤ R.locals) {a b z : Int} {t : List (Int × Int)} (hd : decode cc pc = .ok (insOf (86, a, b, z, t) pc)) (hok : ctOk mi pc (86, a, b, z, t) = true) (hw : ∀ w ∈ wrdC own (86, a, b, z, t), w ∈ lw_good) (hwn : ∀ w ∈ wrdN own (86, a, b, z, t), w ∈ nestW)
    (hs : okS XL0 (XD0 xs) s) (hH : Hok G cA A adr s s0.heap H locs) (hl : Lok adr s.2.1 nL lo ls) (hst : Sok s.2.1 st) (he : act (den d) mi (86, a, b, z, t) pc lo st s = some (.inl (pc', lo', st', s'))) (hf : cells + ((s'.1.1 - s.1.1).toNat + (s'.1.2 - s.1.2).toNat) ≤ R.cells ∧ slots + (s'.1.2 - s.1.2).toNat ≤ R.slots)
    (K : ∀ (adr' : Int → Nat) (H1 : Heap) (locs1 : List Loc), (∀ a, a ≤ s.1.1 → adr' a = adr a) → okS XL0 (XD0 xs) s' → Hok G cA A adr' s' s0.heap H1 locs1 → Lok adr' s'.2.1 nL lo' ls → Sok s'.2.1 st' → (∀ a, kd s a ≠ -1 → s'.2.1 a = s.2.1 a) → W p l e R s0 m args below meth c H1 locs1 (cells + ((s'.1.1 - s.1.1).toNat + (s'.1.2 - s.1.2).toNat)) (slots + (s'.1.2 - s.1.2).toNat) Q (F0 m pc' ls (st'.map (cV adr')))) :
    W p l e R s0 m args below meth c H locs cells slots Q (F0 m pc ls (st.map (cV adr))) := by
  simp only [ctOk, Bool.or_eq_true, decide_eq_true_eq] at hok
  rcases hok with rfl | rfl
  · have he : bltN 5 pc lo st s = some (.inl (pc', lo', st', s')) := he
    unfold bltN at he
    split at he
    · rename_i x r _ _
      obtain ⟨hr, he⟩ := iteN he
      obtain ⟨rfl, rfl, rfl, rfl⟩ := goN_inv he
      have hx := hst.hd.l
      have hin : in64 (if 0 < x then x else w64 (-x)) := by
        split
        · exact hx
        · exact w64_in _
      exact sn_abs C hml hx hr hl (by omega) (by omega) (by omega) (by omega) (hw _ List.mem_cons_self) (hw _ (List.mem_cons_of_mem _ List.mem_cons_self)) (hw _ (List.mem_cons_of_mem _ (List.mem_cons_of_mem _ List.mem_cons_self))) (hw _ (List.mem_cons_of_mem _ (List.mem_cons_of_mem _ (List.mem_cons_of_mem _ List.mem_cons_self)))) hd (cnt_0 (K adr H locs (fun _ _ => rfl) hs hH hl (Sok.cons (okV.ml hin) hst.tl) (fun _ _ => rfl)))
    · exact absurd (by assumption : (5 : Int) = 8) (by decide)
    · cases he
  · have he : bltN 8 pc lo st s = some (.inl (pc', lo', st', s')) := he
    unfold bltN at he
    split at he
    · exact absurd (by assumption : (8 : Int) = 5) (by decide)
    · rename_i n j b' i a' r
      obtain ⟨⟨hk, h0, h1, h2, h3, h4, h5⟩, he⟩ := iteN he
      obtain ⟨rfl, rfl, rfl, rfl⟩ := goN_inv he
      exact sn_cpy C hml hs hH hl hst.tl.tl.tl.hd.i hst.tl.hd.i hst.hd.i hk h0 h1 h2 h3 h4 h5 (by omega) (by omega) (hw _ List.mem_cons_self) (hw _ (List.mem_cons_of_mem _ List.mem_cons_self)) (hw _ (List.mem_cons_of_mem _ (List.mem_cons_of_mem _ List.mem_cons_self))) (hw _ (List.mem_cons_of_mem _ (List.mem_cons_of_mem _ (List.mem_cons_of_mem _ List.mem_cons_self)))) hd (fun H' locs' hH' hs' => cnt_0 (K adr H' locs' (fun _ _ => rfl) hs' hH' hl hst.tl.tl.tl.tl.tl (fun _ _ => rfl)))
    · cases he
theorem sn_callU (C : Cx p s0 m args c cc own G cA A adr xs) (hml : c.maxLocals = nL) (hN : NW s0) (hA : ∀ q, s0.heap.size ≤ q → A q) (I : SndC l xs d) (hRf : 2 * (d + 1) + 8 ≤ R.frames) (hRl : 128 * (d + 1) + 512 ≤ R.locals) {idx k : Nat} {v : Vv} {s1 : Stt} (hk : k < mtab.length) (hm : mL k ≤ 40) (hy : mY k = yJx29ce0_ordinal_8abf5)
    (w1 : Cond.methodLink own idx ⟨"MarkGuards$Kind", "ordinal", "()I"⟩ ∈ lw_good) (w2 : Cond.sameMethod "MarkGuards$Kind" "java/lang/Enum" "ordinal" "()I" ∈ lw_good) (w5 : Cond.selects "MarkGuards$Kind" ⟨"MarkGuards$Kind", "ordinal", "()I"⟩ (mY k) ∈ lw_good) (w6 : Cond.instanceMethod (mY k) ∈ lw_good) (w3 : Cond.initialized (mY k).cls ∈ lw_good) (w4 : mcode k ∈ lw_good) (hd : decode cc pc = .ok (.invokevirtual idx, 3))
    (hs : okS XL0 (XD0 xs) s) (hH : Hok G cA A adr s s0.heap H locs) (hl : Lok adr s.2.1 nL lo ls) (hst : Sok s.2.1 st) (hrc : rck s st 0 = 203) (hcat : ((st.drop 1).map cat).sum ≤ 8) (hmk : (mkL (st.take 1).reverse).length ≤ mL k) (hden : den d k (st.take 1).reverse s = some (v, s1)) (h8 : v.1 ≠ 8)
    (hf : cells + ((s1.1.1 - s.1.1).toNat + (s1.1.2 - s.1.2).toNat) ≤ R.cells ∧ slots + (s1.1.2 - s.1.2).toNat ≤ R.slots)
    (K : ∀ (adr' : Int → Nat) (H1 : Heap) (locs1 : List Loc), (∀ a, a ≤ s.1.1 → adr' a = adr a) → okR xs s s1 v → Hok G cA A adr' s1 s0.heap H1 locs1 → Lok adr' s1.2.1 nL lo ls → Sok s1.2.1 (pushR v (st.drop 1)) → W p l e R s0 m args below meth c H1 locs1 (cells + ((s1.1.1 - s.1.1).toNat + (s1.1.2 - s.1.2).toNat)) (slots + (s1.1.2 - s.1.2).toNat) Q (F0 m (pc + 3) ls ((pushR v (st.drop 1)).map (cV adr')))) :
    W p l e R s0 m args below meth c H locs cells slots Q (F0 m pc ls (st.map (cV adr))) := by
  obtain ⟨r, hr, hkr⟩ := rck_some hrc (by decide)
  have hsa : Sok s.2.1 (st.take 1).reverse := fun w hw => hst w (List.mem_of_mem_take (List.mem_reverse.mp hw))
  have M := I k _ s v s1 hden h8 hk hmk hs hsa G cA A adr
  have hws : ∀ w ∈ va_wsU own idx "MarkGuards$Kind" "java/lang/Enum" ⟨"MarkGuards$Kind", "ordinal", "()I"⟩ (mY k) (wsM k), w ∈ lw_good := by
    intro w hw
    simp only [va_wsU, wsM, List.cons_append, List.nil_append, List.mem_cons] at hw
    rcases hw with rfl | rfl | rfl | rfl | rfl | rfl | h <;> assumption
  have hrr := XL0_203 ((hs.ext (a := r) (by omega)).1.trans hkr)
  have hrv := va_recvE C.2.2.2.2.2.2.1 (i := (-r - 2).toNat) (by rw [kcs_len]; omega) hH.2.2
  have e1 : -(2 + (((-r - 2).toNat : Nat) : Int)) = r := by omega
  simp only [e1] at hrv
  have er : cV adr (2, r) = .ref (adr r) := cV_ref (by omega)
  rw [take_r hr] at M
  rw [stk_V hr, er]
  refine dm_call (va_runU (b := adr r) (As := ((st.take 0).reverse).map (cV adr)) (rest := (st.drop (0 + 1)).map (cV adr)) (Ts := lw_good) (C := "MarkGuards$Kind") (owner := "java/lang/Enum") (x := ⟨"MarkGuards$Kind", "ordinal", "()I"⟩) ⟨C.1, C.2.1, hml, C.2.2.1, C.2.2.2.1⟩ M (va_cwU 0 C.2.2.2.1 (goodIn_lw hws) (rfl : wsM k = Cond.code (mY k) (mC k) (mL k) (mR k) :: lw_good) rfl rfl hy (by decide +kernel) (room_ok (by omega) (by omega) hm)) ⟨blind_PcM, hrv, fun U hU hW => ?_⟩ rfl (by simp) hl.2.1.1 rfl (by rw [cats]; show 2 * 0 + ((st.drop 1).map cat).sum ≤ 8; omega) hd hf) hH.2.2 (fun adr' H1 locs1 ha ho hH1 => ?_)
  · have := pre_of C hN hA hH ((2, r) :: (st.take 0).reverse) hU hW
    rw [List.map_cons, er] at this
    exact this
  · obtain ⟨a1, a2, a3⟩ := aft (k := 0 + 1) hs hl hst ho ha
    rw [a3]
    exact K adr' H1 locs1 ha ho hH1 a1 a2
theorem ca_88 (C : Cx p s0 m args c cc own G cA A adr xs) (hml : c.maxLocals = nL) (hN : NW s0) (hA : ∀ q, s0.heap.size ≤ q → A q) (I : SndC l xs d) (hRf : 2 * (d + 1) + 8 ≤ R.frames) (hRl : 128 * (d + 1) + 512 ≤ R.locals) {a b z : Int} {t : List (Int × Int)} (hd : decode cc pc = .ok (insOf (88, a, b, z, t) pc)) (hok : ctOk mi pc (88, a, b, z, t) = true) (hw : ∀ w ∈ wrdC own (88, a, b, z, t), w ∈ lw_good) (hwn : ∀ w ∈ wrdN own (88, a, b, z, t), w ∈ nestW)
    (hs : okS XL0 (XD0 xs) s) (hH : Hok G cA A adr s s0.heap H locs) (hl : Lok adr s.2.1 nL lo ls) (hst : Sok s.2.1 st) (he : act (den d) mi (88, a, b, z, t) pc lo st s = some (.inl (pc', lo', st', s'))) (hf : cells + ((s'.1.1 - s.1.1).toNat + (s'.1.2 - s.1.2).toNat) ≤ R.cells ∧ slots + (s'.1.2 - s.1.2).toNat ≤ R.slots)
    (K : ∀ (adr' : Int → Nat) (H1 : Heap) (locs1 : List Loc), (∀ a, a ≤ s.1.1 → adr' a = adr a) → okS XL0 (XD0 xs) s' → Hok G cA A adr' s' s0.heap H1 locs1 → Lok adr' s'.2.1 nL lo' ls → Sok s'.2.1 st' → (∀ a, kd s a ≠ -1 → s'.2.1 a = s.2.1 a) → W p l e R s0 m args below meth c H1 locs1 (cells + ((s'.1.1 - s.1.1).toNat + (s'.1.2 - s.1.2).toNat)) (slots + (s'.1.2 - s.1.2).toNat) Q (F0 m pc' ls (st'.map (cV adr')))) :
    W p l e R s0 m args below meth c H locs cells slots Q (F0 m pc ls (st.map (cV adr))) := by
  simp only [ctOk, Bool.and_eq_true, decide_eq_true_eq] at hok
  have he : (if rck s st 0 = 203 then callN (den d) a.toNat 1 pc lo st s else none) = some (.inl (pc', lo', st', s')) := he
  obtain ⟨hr, he⟩ := iteN he
  obtain ⟨v, h1, h2, h3, h4, h5, rfl, rfl, rfl⟩ := callN_inv he
  exact sn_callU C hml hN hA I (by omega) (by omega) hok.1 (all_mL _ hok.1) hok.2 (hw _ List.mem_cons_self) (hw _ (List.mem_cons_of_mem _ List.mem_cons_self)) (hw _ (List.mem_cons_of_mem _ (List.mem_cons_of_mem _ List.mem_cons_self))) (hw _ (List.mem_cons_of_mem _ (List.mem_cons_of_mem _ (List.mem_cons_of_mem _ List.mem_cons_self)))) (hw _ (List.mem_cons_of_mem _ (List.mem_cons_of_mem _ (List.mem_cons_of_mem _ (List.mem_cons_of_mem _ List.mem_cons_self))))) (hw _ (List.mem_cons_of_mem _ (List.mem_cons_of_mem _ (List.mem_cons_of_mem _ (List.mem_cons_of_mem _ (List.mem_cons_of_mem _ List.mem_cons_self)))))) hd hs hH hl hst hr h2 h3 h4 h5 hf (fun adr' H1 locs1 ha ho hH1 a1 a2 => K adr' H1 locs1 ha ho.1 hH1 a1 a2 ho.2.2.2.2)
theorem ca_87 (C : Cx p s0 m args c cc own G cA A adr xs) (hml : c.maxLocals = nL) (hN : NW s0) (hA : ∀ q, s0.heap.size ≤ q → A q) (I : SndC l xs d) (hRf : 2 * (d + 1) + 8 ≤ R.frames) (hRl : 128 * (d + 1) + 512 ≤ R.locals) {a b z : Int} {t : List (Int × Int)} (hd : decode cc pc = .ok (insOf (87, a, b, z, t) pc)) (hok : ctOk mi pc (87, a, b, z, t) = true) (hw : ∀ w ∈ wrdC own (87, a, b, z, t), w ∈ lw_good) (hwn : ∀ w ∈ wrdN own (87, a, b, z, t), w ∈ nestW)
    (hs : okS XL0 (XD0 xs) s) (hH : Hok G cA A adr s s0.heap H locs) (hl : Lok adr s.2.1 nL lo ls) (hst : Sok s.2.1 st) (he : act (den d) mi (87, a, b, z, t) pc lo st s = some (.inl (pc', lo', st', s'))) (hf : cells + ((s'.1.1 - s.1.1).toNat + (s'.1.2 - s.1.2).toNat) ≤ R.cells ∧ slots + (s'.1.2 - s.1.2).toNat ≤ R.slots)
    (K : ∀ (adr' : Int → Nat) (H1 : Heap) (locs1 : List Loc), (∀ a, a ≤ s.1.1 → adr' a = adr a) → okS XL0 (XD0 xs) s' → Hok G cA A adr' s' s0.heap H1 locs1 → Lok adr' s'.2.1 nL lo' ls → Sok s'.2.1 st' → (∀ a, kd s a ≠ -1 → s'.2.1 a = s.2.1 a) → W p l e R s0 m args below meth c H1 locs1 (cells + ((s'.1.1 - s.1.1).toNat + (s'.1.2 - s.1.2).toNat)) (slots + (s'.1.2 - s.1.2).toNat) Q (F0 m pc' ls (st'.map (cV adr')))) :
    W p l e R s0 m args below meth c H locs cells slots Q (F0 m pc ls (st.map (cV adr))) := by
  have hX := C.2.2.2.2.2.2.2.2.2.2.2.1
  simp only [ctOk, Bool.or_eq_true, decide_eq_true_eq] at hok
  rcases hok with rfl | rfl
  · match st, hst, he with
    | [], _, he => cases (show (none : Nxt) = some _ from he)
    | (0, v) :: r, _, he => cases (show (none : Nxt) = some _ from he)
    | (1, v) :: r, _, he => cases (show (none : Nxt) = some _ from he)
    | (n + 3, v) :: r, _, he => cases (show (none : Nxt) = some _ from he)
    | (2, v) :: r, hst, he =>
      have he : (if kd s v = 206 ∧ (r.map cat).sum ≤ 8 then goN (pc + 3) lo ((0, ln s v) :: r) s else none) = some (.inl (pc', lo', st', s')) := he
      obtain ⟨hr, he⟩ := iteN he
      obtain ⟨rfl, rfl, rfl, rfl⟩ := goN_inv he
      have hv := XL0_206 ((hs.ext (a := v) (by omega)).1.trans hr.1)
      subst hv
      have h106 : ln s' (-60) = 106 := (hs.ext (a := -60) (by omega)).2.1.symm
      rw [h106] at K
      have er : cV adr (2, -60) = .ref (adr (-60)) := cV_ref (by decide)
      have hws : ∀ w ∈ wsV own b.toNat "java/lang/String" yJ0_length_8abf5 (.code yJ0_length_8abf5 cJ0_length_8abf5 1 (some .int) :: lw_good), w ∈ lw_good := by
        intro w hw2
        simp only [wsV, List.cons_append, List.nil_append, List.mem_cons] at hw2
        rcases hw2 with rfl | rfl | rfl | rfl | rfl | h
        · exact hw _ List.mem_cons_self
        · exact hw _ (List.mem_cons_of_mem _ List.mem_cons_self)
        · exact hw _ (List.mem_cons_of_mem _ (List.mem_cons_of_mem _ List.mem_cons_self))
        · exact hw _ (List.mem_cons_of_mem _ (List.mem_cons_of_mem _ (List.mem_cons_of_mem _ List.mem_cons_self)))
        · exact hw _ (List.mem_cons_of_mem _ (List.mem_cons_of_mem _ (List.mem_cons_of_mem _ (List.mem_cons_of_mem _ List.mem_cons_self))))
        · exact h
      rw [List.map_cons, er]
      refine dm_pure (va_runV (b := adr (-60)) (As := []) (rest := r.map (cV adr)) (Ts := lw_good) ⟨C.1, C.2.1, hml, C.2.2.1, C.2.2.2.1⟩ (st_len (A := A) (aS := adr (-60)) (aV := adr (-61))) (cwV (C := "java/lang/String") 0 C.2.2.2.1 (goodIn_lw hws) rfl rfl rfl (by decide +kernel) ⟨by show 2 + 1 ≤ _; omega, by show 8 + (1 + 11) + 128 ≤ _; omega⟩) ⟨blind_PcS, va_Orecv hX.1 hH.2.2, fun U hU hW => ⟨rfl, by rw [hU]; exact (hX.moved hW.alike).kept hH.2.2.2.1⟩⟩ rfl rfl hl.2.1.1 rfl (by rw [cats]; show 2 * 0 + _ ≤ 8; omega) hd ⟨by omega, by omega⟩) ?_
      exact (cnt_0 (K adr H locs (fun _ _ => rfl) hs hH hl (Sok.cons (okV.mi (by unfold in32; omega)) hst.tl) (fun _ _ => rfl)))
  · match st, hst, he with
    | [], _, he => cases (show (none : Nxt) = some _ from he)
    | (n + 1, v) :: r, _, he => cases (show (none : Nxt) = some _ from he)
    | (0, i) :: [], _, he => cases (show (none : Nxt) = some _ from he)
    | (0, i) :: (0, v) :: r, _, he => cases (show (none : Nxt) = some _ from he)
    | (0, i) :: (1, v) :: r, _, he => cases (show (none : Nxt) = some _ from he)
    | (0, i) :: (n + 3, v) :: r, _, he => cases (show (none : Nxt) = some _ from he)
    | (0, i) :: (2, v) :: r, hst, he =>
      have he : (if kd s v = 206 ∧ inb i (ln s v) = true ∧ (r.map cat).sum ≤ 8 then goN (pc + 3) lo ((0, s.2.2 v i) :: r) s else none) = some (.inl (pc', lo', st', s')) := he
      obtain ⟨hr, he⟩ := iteN he
      obtain ⟨rfl, rfl, rfl, rfl⟩ := goN_inv he
      have hv := XL0_206 ((hs.ext (a := v) (by omega)).1.trans hr.1)
      subst hv
      have hext := hs.ext (a := -60) (by omega)
      have h106 : ln s' (-60) = 106 := hext.2.1.symm
      have hi := hst.hd.i
      have hin : 0 ≤ i ∧ i < 106 := by
        have := hr.2.1
        rw [h106] at this
        simpa [inb] using this
      have hval : s'.2.2 (-60) i = wbytes.getD (Int32.ofInt i).toNatClampNeg 0 := by
        rw [hext.2.2 i, o32_cl hi]
        rfl
      have hok2 : okV s'.2.1 (0, s'.2.2 (-60) i) := by
        have h9 := hs.2.1 (-60) i
        rw [hr.1] at h9
        exact h9
      have er : cV adr (2, -60) = .ref (adr (-60)) := cV_ref (by decide)
      have hws : ∀ w ∈ wsV own b.toNat "java/lang/String" yJ0_charAt_5068e (.code yJ0_charAt_5068e cJ0_charAt_5068e 2 (some .char) :: lw_good), w ∈ lw_good := by
        intro w hw2
        simp only [wsV, List.cons_append, List.nil_append, List.mem_cons] at hw2
        rcases hw2 with rfl | rfl | rfl | rfl | rfl | h
        · exact hw _ List.mem_cons_self
        · exact hw _ (List.mem_cons_of_mem _ List.mem_cons_self)
        · exact hw _ (List.mem_cons_of_mem _ (List.mem_cons_of_mem _ List.mem_cons_self))
        · exact hw _ (List.mem_cons_of_mem _ (List.mem_cons_of_mem _ (List.mem_cons_of_mem _ List.mem_cons_self)))
        · exact hw _ (List.mem_cons_of_mem _ (List.mem_cons_of_mem _ (List.mem_cons_of_mem _ (List.mem_cons_of_mem _ List.mem_cons_self))))
        · exact h
      have n0 : ¬ Int32.ofInt i < 0 := by rw [o32_lt0 hi]; omega
      have n1 : Int32.ofInt i < 106 := (o32_lt (y := 106) hi (by unfold in32; omega)).mpr hin.2
      have n2 : vp_in (Int32.ofInt i) 106 := o32_vin (n := 106) hi (by simpa [inb] using hin)
      rw [List.map_cons, List.map_cons, er]
      refine dm_pure (va_runV (b := adr (-60)) (As := [.int (Int32.ofInt i)]) (rest := r.map (cV adr)) (Ts := lw_good) ⟨C.1, C.2.1, hml, C.2.2.1, C.2.2.2.1⟩ (st_chr (A := A) (aS := adr (-60)) (aV := adr (-61)) n0 n1 n2) (cwV (C := "java/lang/String") 1 C.2.2.2.1 (goodIn_lw hws) rfl rfl rfl (by decide +kernel) ⟨by show 4 + 1 ≤ _; omega, by show 8 + (2 + 11) + 256 ≤ _; omega⟩) ⟨blind_PcS, va_Orecv hX.1 hH.2.2, fun U hU hW => ⟨rfl, by rw [hU]; exact (hX.moved hW.alike).kept hH.2.2.2.1⟩⟩ rfl rfl hl.2.1.1 rfl (by rw [cats]; show 2 * 0 + _ ≤ 8; omega) hd ⟨by omega, by omega⟩) ?_
      rw [← hval]
      exact (cnt_0 (K adr H locs (fun _ _ => rfl) hs hH hl (Sok.cons hok2 hst.tl.tl) (fun _ _ => rfl)))
theorem ca_95 (C : Cx p s0 m args c cc own G cA A adr xs) (hml : c.maxLocals = nL) (hN : NW s0) (hA : ∀ q, s0.heap.size ≤ q → A q) (I : SndC l xs d) (hRf : 2 * (d + 1) + 8 ≤ R.frames) (hRl : 128 * (d + 1) + 512 ≤ R.locals) {a b z : Int} {t : List (Int × Int)} (hd : decode cc pc = .ok (insOf (95, a, b, z, t) pc)) (hok : ctOk mi pc (95, a, b, z, t) = true) (hw : ∀ w ∈ wrdC own (95, a, b, z, t), w ∈ lw_good) (hwn : ∀ w ∈ wrdN own (95, a, b, z, t), w ∈ nestW)
    (hs : okS XL0 (XD0 xs) s) (hH : Hok G cA A adr s s0.heap H locs) (hl : Lok adr s.2.1 nL lo ls) (hst : Sok s.2.1 st) (he : act (den d) mi (95, a, b, z, t) pc lo st s = some (.inl (pc', lo', st', s'))) (hf : cells + ((s'.1.1 - s.1.1).toNat + (s'.1.2 - s.1.2).toNat) ≤ R.cells ∧ slots + (s'.1.2 - s.1.2).toNat ≤ R.slots)
    (K : ∀ (adr' : Int → Nat) (H1 : Heap) (locs1 : List Loc), (∀ a, a ≤ s.1.1 → adr' a = adr a) → okS XL0 (XD0 xs) s' → Hok G cA A adr' s' s0.heap H1 locs1 → Lok adr' s'.2.1 nL lo' ls → Sok s'.2.1 st' → (∀ a, kd s a ≠ -1 → s'.2.1 a = s.2.1 a) → W p l e R s0 m args below meth c H1 locs1 (cells + ((s'.1.1 - s.1.1).toNat + (s'.1.2 - s.1.2).toNat)) (slots + (s'.1.2 - s.1.2).toNat) Q (F0 m pc' ls (st'.map (cV adr')))) :
    W p l e R s0 m args below meth c H locs cells slots Q (F0 m pc ls (st.map (cV adr))) := by
  simp only [ctOk, Bool.and_eq_true, decide_eq_true_eq] at hok
  have he : goN (pc + 3) lo ((2, s.1.1 + 1) :: st) (newS s a (ftab.getD a.toNat []).length) = some (.inl (pc', lo', st', s')) := he
  obtain ⟨rfl, rfl, rfl, rfl⟩ := goN_inv he
  have c1 : ((newS s a (ftab.getD a.toNat []).length).1.1 - s.1.1).toNat = 1 := by show (s.1.1 + 1 - s.1.1).toNat = 1; omega
  have c2 : ((newS s a (ftab.getD a.toNat []).length).1.2 - s.1.2).toNat = (ftab.getD a.toNat []).length := by show (s.1.2 + _ - s.1.2).toNat = _; omega
  rw [c1, c2] at hf K
  refine sn_new C hA hs hH hok.1 hok.2 (hw _ List.mem_cons_self) (hw _ (List.mem_cons_of_mem _ List.mem_cons_self)) (hw _ (List.mem_cons_of_mem _ (List.mem_cons_of_mem _ List.mem_cons_self))) hd (by omega) hf.2 (fun adr' H1 ha hH1 => ?_)
  obtain ⟨q1, q2, q3, q4⟩ := nw_l (k := a) (n := (ftab.getD a.toNat []).length) hok.1 hs hl hst ha
  have kk := K adr' H1 locs ha (okS_new hs (Or.inl hok) (by omega) (nfl_lt a)) hH1 q1 q2 q4
  rw [List.map_cons, q3] at kk
  exact W.widen (by omega) (Nat.le_refl _) kk
theorem ca_96 (C : Cx p s0 m args c cc own G cA A adr xs) (hml : c.maxLocals = nL) (hN : NW s0) (hA : ∀ q, s0.heap.size ≤ q → A q) (I : SndC l xs d) (hRf : 2 * (d + 1) + 8 ≤ R.frames) (hRl : 128 * (d + 1) + 512 ≤ R.locals) {a b z : Int} {t : List (Int × Int)} (hd : decode cc pc = .ok (insOf (96, a, b, z, t) pc)) (hok : ctOk mi pc (96, a, b, z, t) = true) (hw : ∀ w ∈ wrdC own (96, a, b, z, t), w ∈ lw_good) (hwn : ∀ w ∈ wrdN own (96, a, b, z, t), w ∈ nestW)
    (hs : okS XL0 (XD0 xs) s) (hH : Hok G cA A adr s s0.heap H locs) (hl : Lok adr s.2.1 nL lo ls) (hst : Sok s.2.1 st) (he : act (den d) mi (96, a, b, z, t) pc lo st s = some (.inl (pc', lo', st', s'))) (hf : cells + ((s'.1.1 - s.1.1).toNat + (s'.1.2 - s.1.2).toNat) ≤ R.cells ∧ slots + (s'.1.2 - s.1.2).toNat ≤ R.slots)
    (K : ∀ (adr' : Int → Nat) (H1 : Heap) (locs1 : List Loc), (∀ a, a ≤ s.1.1 → adr' a = adr a) → okS XL0 (XD0 xs) s' → Hok G cA A adr' s' s0.heap H1 locs1 → Lok adr' s'.2.1 nL lo' ls → Sok s'.2.1 st' → (∀ a, kd s a ≠ -1 → s'.2.1 a = s.2.1 a) → W p l e R s0 m args below meth c H1 locs1 (cells + ((s'.1.1 - s.1.1).toNat + (s'.1.2 - s.1.2).toNat)) (slots + (s'.1.2 - s.1.2).toNat) Q (F0 m pc' ls (st'.map (cV adr')))) :
    W p l e R s0 m args below meth c H locs cells slots Q (F0 m pc ls (st.map (cV adr))) := by
  simp only [ctOk, Bool.or_eq_true, decide_eq_true_eq] at hok
  match st, hst, he with
  | [], _, he => cases (show (none : Nxt) = some _ from he)
  | (v + 1, x) :: r, _, he => cases (show (none : Nxt) = some _ from he)
  | (0, n) :: r, hst, he =>
    have he : (if 0 ≤ n ∧ n < 100000 then goN (pc + 2) lo ((2, s.1.1 + 1) :: r) (newS s a n) else none) = some (.inl (pc', lo', st', s')) := he
    obtain ⟨hn, he⟩ := iteN he
    obtain ⟨rfl, rfl, rfl, rfl⟩ := goN_inv he
    have c1 : ((newS s a n).1.1 - s.1.1).toNat = 1 := by show (s.1.1 + 1 - s.1.1).toNat = 1; omega
    have c2 : ((newS s a n).1.2 - s.1.2).toNat = n.toNat := by show (s.1.2 + n - s.1.2).toNat = _; congr 1; omega
    rw [c1, c2] at hf K
    have hd' : decode cc pc = .ok (insOf (96, a, 0, 0, []) pc) := by rcases hok with rfl | rfl | rfl <;> exact hd
    have hw' : ∀ w ∈ wrdC own (96, a, 0, 0, []), w ∈ lw_good := by rcases hok with rfl | rfl | rfl <;> exact hw
    refine sn_newa C hA hs hH hok hn.1 hn.2 hw' hd' (by omega) hf.2 (fun adr' H1 ha hH1 => ?_)
    obtain ⟨q1, q2, q3, q4⟩ := nw_l (k := a) (n := n) (by omega) hs hl hst.tl ha
    have kk := K adr' H1 locs ha (okS_new hs (by omega) hn.1 (by omega)) hH1 q1 q2 q4
    rw [List.map_cons, q3] at kk
    exact W.widen (by omega) (Nat.le_refl _) kk
theorem ca_97 (C : Cx p s0 m args c cc own G cA A adr xs) (hml : c.maxLocals = nL) (hN : NW s0) (hA : ∀ q, s0.heap.size ≤ q → A q) (I : SndC l xs d) (hRf : 2 * (d + 1) + 8 ≤ R.frames) (hRl : 128 * (d + 1) + 512 ≤ R.locals) {a b z : Int} {t : List (Int × Int)} (hd : decode cc pc = .ok (insOf (97, a, b, z, t) pc)) (hok : ctOk mi pc (97, a, b, z, t) = true) (hw : ∀ w ∈ wrdC own (97, a, b, z, t), w ∈ lw_good) (hwn : ∀ w ∈ wrdN own (97, a, b, z, t), w ∈ nestW)
    (hs : okS XL0 (XD0 xs) s) (hH : Hok G cA A adr s s0.heap H locs) (hl : Lok adr s.2.1 nL lo ls) (hst : Sok s.2.1 st) (he : act (den d) mi (97, a, b, z, t) pc lo st s = some (.inl (pc', lo', st', s'))) (hf : cells + ((s'.1.1 - s.1.1).toNat + (s'.1.2 - s.1.2).toNat) ≤ R.cells ∧ slots + (s'.1.2 - s.1.2).toNat ≤ R.slots)
    (K : ∀ (adr' : Int → Nat) (H1 : Heap) (locs1 : List Loc), (∀ a, a ≤ s.1.1 → adr' a = adr a) → okS XL0 (XD0 xs) s' → Hok G cA A adr' s' s0.heap H1 locs1 → Lok adr' s'.2.1 nL lo' ls → Sok s'.2.1 st' → (∀ a, kd s a ≠ -1 → s'.2.1 a = s.2.1 a) → W p l e R s0 m args below meth c H1 locs1 (cells + ((s'.1.1 - s.1.1).toNat + (s'.1.2 - s.1.2).toNat)) (slots + (s'.1.2 - s.1.2).toNat) Q (F0 m pc' ls (st'.map (cV adr')))) :
    W p l e R s0 m args below meth c H locs cells slots Q (F0 m pc ls (st.map (cV adr))) := by
  simp only [ctOk, Bool.or_eq_true, decide_eq_true_eq] at hok
  match st, hst, he with
  | [], _, he => cases (show (none : Nxt) = some _ from he)
  | (v + 1, x) :: r, _, he => cases (show (none : Nxt) = some _ from he)
  | (0, n) :: r, hst, he =>
    have he : (if 0 ≤ n ∧ n < 100000 then goN (pc + 3) lo ((2, s.1.1 + 1) :: r) (newS s a n) else none) = some (.inl (pc', lo', st', s')) := he
    obtain ⟨hn, he⟩ := iteN he
    obtain ⟨rfl, rfl, rfl, rfl⟩ := goN_inv he
    have c1 : ((newS s a n).1.1 - s.1.1).toNat = 1 := by show (s.1.1 + 1 - s.1.1).toNat = 1; omega
    have c2 : ((newS s a n).1.2 - s.1.2).toNat = n.toNat := by show (s.1.2 + n - s.1.2).toNat = _; congr 1; omega
    rw [c1, c2] at hf K
    have hw' : ∀ w ∈ wrdC own (97, a, b, 0, []), w ∈ lw_good := by rcases hok with rfl | rfl <;> exact hw
    refine sn_newq C hN hA hs hH hok hn.1 hn.2 hw' hd (by omega) hf.2 (fun adr' H1 ha hH1 => ?_)
    obtain ⟨q1, q2, q3, q4⟩ := nw_l (k := a) (n := n) (by omega) hs hl hst.tl ha
    have kk := K adr' H1 locs ha (okS_new hs (by omega) hn.1 (by omega)) hH1 q1 q2 q4
    rw [List.map_cons, q3] at kk
    exact W.widen (by omega) (Nat.le_refl _) kk
theorem ca_89 (C : Cx p s0 m args c cc own G cA A adr xs) (hml : c.maxLocals = nL) (hN : NW s0) (hA : ∀ q, s0.heap.size ≤ q → A q) (I : SndC l xs d) (IX : SndX l xs d) (hRf : 2 * (d + 1) + 8 ≤ R.frames) (hRl : 128 * (d + 1) + 512 ≤ R.locals) {a b z : Int} {t : List (Int × Int)} (hd : decode cc pc = .ok (insOf (89, a, b, z, t) pc)) (hok : ctOk mi pc (89, a, b, z, t) = true) (hw : ∀ w ∈ wrdC own (89, a, b, z, t), w ∈ lw_good) (hwn : ∀ w ∈ wrdN own (89, a, b, z, t), w ∈ nestW)
    (hs : okS XL0 (XD0 xs) s) (hH : Hok G cA A adr s s0.heap H locs) (hl : Lok adr s.2.1 nL lo ls) (hst : Sok s.2.1 st) (he : act (den d) mi (89, a, b, z, t) pc lo st s = some (.inl (pc', lo', st', s'))) (hf : cells + ((s'.1.1 - s.1.1).toNat + (s'.1.2 - s.1.2).toNat) ≤ R.cells ∧ slots + (s'.1.2 - s.1.2).toNat ≤ R.slots)
    (K : ∀ (adr' : Int → Nat) (H1 : Heap) (locs1 : List Loc), (∀ a, a ≤ s.1.1 → adr' a = adr a) → okS XL0 (XD0 xs) s' → Hok G cA A adr' s' s0.heap H1 locs1 → Lok adr' s'.2.1 nL lo' ls → Sok s'.2.1 st' → (∀ a, kd s a ≠ -1 → s'.2.1 a = s.2.1 a) → W p l e R s0 m args below meth c H1 locs1 (cells + ((s'.1.1 - s.1.1).toNat + (s'.1.2 - s.1.2).toNat)) (slots + (s'.1.2 - s.1.2).toNat) Q (F0 m pc' ls (st'.map (cV adr')))) :
    W p l e R s0 m args below meth c H locs cells slots Q (F0 m pc ls (st.map (cV adr))) := by
  simp only [ctOk, decide_eq_true_eq] at hok
  subst hok
  have hws : ∀ w ∈ va_wsS own 39 yL_block wsB, w ∈ lw_good := by
    intro w hw2
    simp only [va_wsS, wsB, List.cons_append, List.nil_append, List.mem_cons] at hw2
    rcases hw2 with rfl | rfl | rfl | rfl | h
    · exact hw _ List.mem_cons_self
    · exact hw _ (List.mem_cons_of_mem _ List.mem_cons_self)
    · exact hw _ (List.mem_cons_of_mem _ (List.mem_cons_of_mem _ List.mem_cons_self))
    · exact hw _ (List.mem_cons_of_mem _ (List.mem_cons_of_mem _ (List.mem_cons_of_mem _ List.mem_cons_self)))
    · exact h
  match st, hst, he with
  | (2, o) :: (0, y) :: (0, z) :: (2, r) :: rs, hst, he =>
    have he : (if kd s r = 10 ∧ kd s o = 101 ∧ 0 < ln s o ∧ (rs.map cat).sum ≤ 8 then
      match den d 141 [(2, r), (0, z), (0, y)] s with
      | some ((0, v), s1) => goN (pc + 3) lo ((0, 0) :: rs) (s1.1, s1.2.1, up s1.2.2 o 0 v)
      | some ((8, k), s1) => goN (pc + 3) lo ((0, k) :: rs) ((s1.1.1, s1.1.2 + 8), s1.2)
      | _ => none
    else none) = some (.inl (pc', lo', st', s')) := he
    obtain ⟨⟨hr, ho, hlo, hcat⟩, he⟩ := iteN he
    have hsa : Sok s.2.1 [(2, r), (0, z), (0, y), (2, o)] := by
      intro w hw2
      simp only [List.mem_cons, List.not_mem_nil, or_false] at hw2
      rcases hw2 with rfl | rfl | rfl | rfl
      · exact hst.tl.tl.tl.hd
      · exact hst.tl.tl.hd
      · exact hst.tl.hd
      · exact hst.hd
    have hstk : ((2, o) :: (0, y) :: (0, z) :: (2, r) :: rs).map (cV adr) = (([(2, r), (0, z), (0, y), (2, o)] : List Vv).map (cV adr)).reverse ++ rs.map (cV adr) := by
      simp only [List.map_cons, List.map_nil, List.reverse_cons, List.reverse_nil, List.nil_append, List.cons_append]
    split at he
    · rename_i v s1 hden
      obtain ⟨rfl, rfl, rfl, rfl⟩ := goN_inv he
      rw [hstk]
      refine dm_call (s1 := (s1.1, s1.2.1, up s1.2.2 o 0 v)) (v := (0, 0)) (vx_runSW (As := ([(2, r), (0, z), (0, y), (2, o)] : List Vv).map (cV adr)) (rest := rs.map (cV adr)) (Ts := lw_good) ⟨C.1, C.2.1, hml, C.2.2.1, C.2.2.2.1⟩ (lb_ok (G := G) (cA := cA) (A := A) (adr := adr) I hden hs hsa hr ho hlo) (vx_cwSW 4 C.2.2.2.1 (goodIn_lw hws) (rfl : wsB = Cond.codeWith yL_block cL_block 5 (some .int) hhB :: lw_good) rfl rfl (by decide +kernel) (room_B hRf hRl)) ⟨blind_PcM, fun U hU hW => pre_of C hN hA hH _ hU hW⟩ rfl rfl hl.2.1.1 rfl (by rw [cats]; show 2 * 0 + _ ≤ 8; omega) hd hf) hH.2.2 (fun adr' H1 locs1 ha ho hH1 => ?_)
      obtain ⟨a1, a2, a3⟩ := aft (k := 4) (st := (2, o) :: (0, y) :: (0, z) :: (2, r) :: rs) hs hl hst ho ha
      have a3 : (rV adr' (0, 0)).toList ++ rs.map (cV adr) = (((0, 0) :: rs : List Vv)).map (cV adr') := a3
      rw [a3]
      exact K adr' H1 locs1 ha ho.1 hH1 a1 a2 ho.2.2.2.2
    · rename_i k s1 hden
      obtain ⟨rfl, rfl, rfl, rfl⟩ := goN_inv he
      have hgr := (IX _ s k s1 hden (Nat.le_of_ble_eq_true rfl) hs (fun w hw2 => hsa w (by simp at hw2 ⊢; rcases hw2 with h | h | h <;> simp [h]))).2.1
      have em : mcX s s1 = ((s1.1.1 - s.1.1).toNat + (s1.1.2 + 8 - s.1.2).toNat) := by unfold mcX; omega
      have es : msX s s1 = (s1.1.2 + 8 - s.1.2).toNat := by unfold msX; omega
      have hf : cells + ((s1.1.1 - s.1.1).toNat + (s1.1.2 + 8 - s.1.2).toNat) ≤ R.cells ∧ slots + (s1.1.2 + 8 - s.1.2).toNat ≤ R.slots := hf
      rw [← em, ← es] at hf
      rw [hstk]
      refine dm_call (s1 := sX s1) (v := (0, k)) (vx_runSW (As := ([(2, r), (0, z), (0, y), (2, o)] : List Vv).map (cV adr)) (rest := rs.map (cV adr)) (Ts := lw_good) ⟨C.1, C.2.1, hml, C.2.2.1, C.2.2.2.1⟩ (lb_thr (G := G) (cA := cA) (A := A) (adr := adr) IX hden hs hsa hr) (vx_cwSW 4 C.2.2.2.1 (goodIn_lw hws) (rfl : wsB = Cond.codeWith yL_block cL_block 5 (some .int) hhB :: lw_good) rfl rfl (by decide +kernel) (room_B hRf hRl)) ⟨blind_PcM, fun U hU hW => pre_of C hN hA hH _ hU hW⟩ rfl rfl hl.2.1.1 rfl (by rw [cats]; show 2 * 0 + _ ≤ 8; omega) hd hf) hH.2.2 (fun adr' H1 locs1 ha ho hH1 => ?_)
      obtain ⟨a1, a2, a3⟩ := aft (k := 4) (st := (2, o) :: (0, y) :: (0, z) :: (2, r) :: rs) hs hl hst ho ha
      have a3 : (rV adr' (0, k)).toList ++ rs.map (cV adr) = (((0, k) :: rs : List Vv)).map (cV adr') := a3
      rw [a3, em, es]
      exact K adr' H1 locs1 ha ho.1 hH1 a1 a2 ho.2.2.2.2
    · cases he
  | [], _, he => cases (show (none : Nxt) = some _ from he)
  | (0, v0) :: r, _, he => cases (show (none : Nxt) = some _ from he)
  | (1, v0) :: r, _, he => cases (show (none : Nxt) = some _ from he)
  | (n + 3, v0) :: r, _, he => cases (show (none : Nxt) = some _ from he)
  | (2, o) :: [], _, he => cases (show (none : Nxt) = some _ from he)
  | (2, o) :: (1, v1) :: r, _, he => cases (show (none : Nxt) = some _ from he)
  | (2, o) :: (2, v1) :: r, _, he => cases (show (none : Nxt) = some _ from he)
  | (2, o) :: (n + 3, v1) :: r, _, he => cases (show (none : Nxt) = some _ from he)
  | (2, o) :: (0, y) :: [], _, he => cases (show (none : Nxt) = some _ from he)
  | (2, o) :: (0, y) :: (1, v2) :: r, _, he => cases (show (none : Nxt) = some _ from he)
  | (2, o) :: (0, y) :: (2, v2) :: r, _, he => cases (show (none : Nxt) = some _ from he)
  | (2, o) :: (0, y) :: (n + 3, v2) :: r, _, he => cases (show (none : Nxt) = some _ from he)
  | (2, o) :: (0, y) :: (0, z) :: [], _, he => cases (show (none : Nxt) = some _ from he)
  | (2, o) :: (0, y) :: (0, z) :: (0, v3) :: r, _, he => cases (show (none : Nxt) = some _ from he)
  | (2, o) :: (0, y) :: (0, z) :: (1, v3) :: r, _, he => cases (show (none : Nxt) = some _ from he)
  | (2, o) :: (0, y) :: (0, z) :: (n + 3, v3) :: r, _, he => cases (show (none : Nxt) = some _ from he)
set_option maxRecDepth 20000 in
theorem ca_all (C : Cx p s0 m args c cc own G cA A adr xs) (hml : c.maxLocals = nL) (hN : NW s0) (hA : ∀ q, s0.heap.size ≤ q → A q) (I : SndC l xs d) (IX : SndX l xs d) (hRf : 2 * (d + 1) + 8 ≤ R.frames) (hRl : 128 * (d + 1) + 512 ≤ R.locals) {x : IR} (hge : 79 ≤ x.1) (hd : decode cc pc = .ok (insOf x pc)) (hok : ctOk mi pc x = true) (hw : ∀ w ∈ wrdC own x, w ∈ lw_good) (hwn : ∀ w ∈ wrdN own x, w ∈ nestW)
    (hs : okS XL0 (XD0 xs) s) (hH : Hok G cA A adr s s0.heap H locs) (hl : Lok adr s.2.1 nL lo ls) (hst : Sok s.2.1 st) (he : act (den d) mi x pc lo st s = some (.inl (pc', lo', st', s'))) (hf : cells + ((s'.1.1 - s.1.1).toNat + (s'.1.2 - s.1.2).toNat) ≤ R.cells ∧ slots + (s'.1.2 - s.1.2).toNat ≤ R.slots)
    (K : ∀ (adr' : Int → Nat) (H1 : Heap) (locs1 : List Loc), (∀ a, a ≤ s.1.1 → adr' a = adr a) → okS XL0 (XD0 xs) s' → Hok G cA A adr' s' s0.heap H1 locs1 → Lok adr' s'.2.1 nL lo' ls → Sok s'.2.1 st' → (∀ a, kd s a ≠ -1 → s'.2.1 a = s.2.1 a) → W p l e R s0 m args below meth c H1 locs1 (cells + ((s'.1.1 - s.1.1).toNat + (s'.1.2 - s.1.2).toNat)) (slots + (s'.1.2 - s.1.2).toNat) Q (F0 m pc' ls (st'.map (cV adr')))) :
    W p l e R s0 m args below meth c H locs cells slots Q (F0 m pc ls (st.map (cV adr))) := by
  obtain ⟨k, a, b, z, t⟩ := x
  have hj : ∃ j, k = 79 + j := ⟨k - 79, by have : 79 ≤ k := hge; omega⟩
  obtain ⟨j, rfl⟩ := hj
  match j with
  | 0 => exact ca_79 C hml hN hA I hRf hRl hd hok hw hwn hs hH hl hst he hf K
  | 1 => exact ca_80 C hml hN hA I hRf hRl hd hok hw hwn hs hH hl hst he hf K
  | 2 => exact ca_81 C hml hN hA I hRf hRl hd hok hw hwn hs hH hl hst he hf K
  | 3 => exact ca_82 C hml hN hA I hRf hRl hd hok hw hwn hs hH hl hst he hf K
  | 4 => exact ca_83 C hml hN hA I hRf hRl hd hok hw hwn hs hH hl hst he hf K
  | 5 => exact ca_84 C hml hN hA I hRf hRl hd hok hw hwn hs hH hl hst he hf K
  | 6 => exact ca_85 C hml hN hA I hRf hRl hd hok hw hwn hs hH hl hst he hf K
  | 7 => exact ca_86 C hml hN hA I hRf hRl hd hok hw hwn hs hH hl hst he hf K
  | 8 => exact ca_87 C hml hN hA I hRf hRl hd hok hw hwn hs hH hl hst he hf K
  | 9 => exact ca_88 C hml hN hA I hRf hRl hd hok hw hwn hs hH hl hst he hf K
  | 10 => exact ca_89 C hml hN hA I IX hRf hRl hd hok hw hwn hs hH hl hst he hf K
  | 11 => exact absurd he (rt_90 _)
  | 12 => exact absurd he (rt_91 _)
  | 13 => exact absurd he (rt_92 _)
  | 14 => exact absurd he (rt_93 _)
  | 15 => cases (show (false : Bool) = true from hok)
  | 16 => exact ca_95 C hml hN hA I hRf hRl hd hok hw hwn hs hH hl hst he hf K
  | 17 => exact ca_96 C hml hN hA I hRf hRl hd hok hw hwn hs hH hl hst he hf K
  | 18 => exact ca_97 C hml hN hA I hRf hRl hd hok hw hwn hs hH hl hst he hf K
  | 19 => exact absurd he (by cases st <;> simp [act])
  | n + 20 =>
    have hq : ctOk mi pc (79 + (n + 20), a, b, z, t) = false := by
      rw [show 79 + (n + 20) = n + 99 by omega]
      rfl
    rw [hq] at hok
    cases hok
end CAS
