/-! Contracts of all methods at once; calls -/
def rV (adr : Int → Nat) (v : Vv) : Option Value := if v.1 = 9 then none else some (cV adr v)
def Wf (G : va_G) (cA : Nat → ClassId) (A : Nat → Prop) (adr : Int → Nat) (xs : Int → Int) (s : Stt) (U : State) : Prop := va_P G cls0 (wld cA adr s) U.heap ∧ va_D A (wld cA adr s) ∧ va_K G cls0 (tysA cA) U ∧ NW U ∧ Xf A adr xs U U.heap ∧ ∀ q, U.heap.size ≤ q → A q
def PcM (G : va_G) (cA : Nat → ClassId) (A : Nat → Prop) (adr : Int → Nat) (xs : Int → Int) (as : List Vv) (s : Stt) : Array Value → State → Prop := fun a U => a = (as.map (cV adr)).toArray ∧ Wf G cA A adr xs s U
/-- what a run of a method says of the store -/
def okR (xs : Int → Int) (s s1 : Stt) (v : Vv) : Prop := okS XL0 (XD0 xs) s1 ∧ (v.1 = 9 ∨ okV s1.2.1 v) ∧ s.1.1 ≤ s1.1.1 ∧ s.1.2 ≤ s1.1.2 ∧ ∀ a, kd s a ≠ -1 → s1.2.1 a = s.2.1 a
def QcM (G : va_G) (cA : Nat → ClassId) (A : Nat → Prop) (adr : Int → Nat) (xs : Int → Int) (s s1 : Stt) (v : Vv) : Array Value → State → Outcome → State → Prop := fun _ st o t => (∃ adr' : Int → Nat, (∀ a, a ≤ s.1.1 → adr' a = adr a) ∧ okR xs s s1 v ∧ o = .returned (rV adr' v) ∧ va_P G cls0 (wld cA adr' s1) t.heap ∧ va_D A (wld cA adr' s1)) ∧ va_F A st t
def wsM (m : Nat) : List Cond := mcode m :: lw_good
def rmM (d mc ms : Nat) : Room := { frames := 2 * d + 8, cells := mc, slots := ms, locals := 128 * d + 512 }
def SndC (l : Launch) (xs : Int → Int) (d : Nat) : Prop := ∀ (m : Nat) (as : List Vv) (s : Stt) (v : Vv) (s1 : Stt), den d m as s = some (v, s1) → v.1 ≠ 8 → m < mtab.length → (mkL as).length ≤ mL m → okS XL0 (XD0 xs) s → Sok s.2.1 as →
  ∀ (G : va_G) (cA : Nat → ClassId) (A : Nat → Prop) (adr : Int → Nat), Met l (mY m) (wsM m) (rmM d ((s1.1.1 - s.1.1).toNat + (s1.1.2 - s.1.2).toNat) (s1.1.2 - s.1.2).toNat) (PcM G cA A adr xs as s) (QcM G cA A adr xs s s1 v) ((s1.1.1 - s.1.1).toNat + (s1.1.2 - s.1.2).toNat) (s1.1.2 - s.1.2).toNat A
theorem good_lw {w : Cond} (h : w ∈ lw_good) : goodWord w = true := (List.mem_filter.mp h).2
theorem goodIn_lw {ws : List Cond} (h : ∀ w ∈ ws, w ∈ lw_good) : GoodIn lw_good ws := fun w hw => ⟨h w hw, good_of_word (good_lw (h w hw))⟩
theorem blind_PcM {G : va_G} {cA : Nat → ClassId} {A : Nat → Prop} {adr : Int → Nat} {xs : Int → Int} {as : List Vv} {s : Stt} : FrameBlind (PcM G cA A adr xs as s) := by
  intro a U g mk ⟨h1, h2, h3, h4, h5, h6, h7⟩
  exact ⟨h1, h2, h3, va_K.moved (u := U) (U := U.calling g mk a) (Vm.Alike.refl U.vm) h4, NW.same (u := U) (U := U.calling g mk a) rfl h5, Xf.same (u := U) (U := U.calling g mk a) rfl h6, h7⟩
theorem okS.le {XL : Lay} {XD : Sto} {s : Stt} (h : okS XL XD s) {a : Int} (h1 : (s.2.1 a).1 ≠ -1) : a ≤ s.1.1 := by
  rcases Int.lt_or_le s.1.1 a with q | q
  · exact absurd (h.2.2.2.1 a q) h1
  · exact q
section CALL
variable {p : Program} {l : Launch} {e : Env} {R : Room} {s0 : State} {m : MethodId} {args : Array Value} {below : List Frame} {meth : Method} {c : Code} {Q : State → Prop} {H : Heap} {locs : List Loc} {cells slots : Nat} {ls : Array Slot} {cc : ByteArray} {own : String} {pc nL : Nat}
variable {G : va_G} {cA : Nat → ClassId} {A : Nat → Prop} {adr : Int → Nat} {xs : Int → Int} {lo : Lcs} {st : List Vv} {s : Stt}
theorem dm_call {s1 : Stt} {v : Vv} {mc ms : Nat} {st0 rest : List Value} {a : Array Value} (hr : va_Run p l e R s0 m args below meth c H locs cells slots mc ms (F0 m pc ls st0) rest (QcM G cA A adr xs s s1 v a) A) (hS : va_S A s0.heap H locs)
    (kk : ∀ (adr' : Int → Nat) (H1 : Heap) (locs1 : List Loc), (∀ a, a ≤ s.1.1 → adr' a = adr a) → okR xs s s1 v → Hok G cA A adr' s1 s0.heap H1 locs1 → W p l e R s0 m args below meth c H1 locs1 (cells + mc) (slots + ms) Q (F0 m (pc + 3) ls ((rV adr' v).toList ++ rest))) : W p l e R s0 m args below meth c H locs cells slots Q (F0 m pc ls st0) := by
  intro T hT X
  obtain ⟨v', st₀, t, T', L, h0, X', hL, e1, e2, ⟨⟨adr', ha, ho, hv, hP, hD⟩, hz, hk⟩, stp⟩ := hr T hT X
  cases hv
  rw [h0] at hz hk
  obtain ⟨t2, a1, b1⟩ := kk adr' T'.heap (locs ++ L) ha ho ⟨by rw [e1]; exact hP, hD, ⟨Nat.le_trans hS.1 (by rw [e1]; exact hz), fun q h1 h2 => by rw [e1, hk q (Nat.lt_of_lt_of_le h1 hS.1) h2]; exact hS.2.1 q h1 h2, fun q hq => by
      rcases List.mem_append.mp hq with h | h
      · exact hS.2.2 q h
      · exact hL q h⟩⟩ T' rfl X'
  exact ⟨t2, stp t2 a1, b1⟩
theorem pre_of (C : Cx p s0 m args c cc own G cA A adr xs) (hN : NW s0) (hA : ∀ q, s0.heap.size ≤ q → A q) (hH : Hok G cA A adr s s0.heap H locs) (as : List Vv) {U : State} (hU : U.heap = H) (hW : s0.WarmedH U.vm) : PcM G cA A adr xs as s (as.map (cV adr)).toArray U := by
  obtain ⟨hP, hD, hS⟩ := hH
  refine ⟨rfl, by rw [hU]; exact hP, hD, va_K.moved hW.alike C.2.2.2.2.1, hN.moved hW, ?_, fun q hq => hA q (Nat.le_trans hS.1 (by rw [hU] at hq; exact hq))⟩
  rw [hU]
  exact (C.2.2.2.2.2.moved hW).kept hS.2.1 hS.1
/-- behind a call -/
theorem aft {s1 : Stt} {v : Vv} {k : Nat} {adr' : Int → Nat} (hs : okS XL0 (XD0 xs) s) (hl : Lok adr s.2.1 nL lo ls) (hst : Sok s.2.1 st) (ho : okR xs s s1 v) (ha : ∀ a, a ≤ s.1.1 → adr' a = adr a) :
    Lok adr' s1.2.1 nL lo ls ∧ Sok s1.2.1 (pushR v (st.drop k)) ∧ (rV adr' v).toList ++ (st.drop k).map (cV adr) = (pushR v (st.drop k)).map (cV adr') := by
  have e : ∀ z, (s.2.1 z).1 ≠ -1 → adr' z = adr z := fun z hz => ha z (hs.le hz)
  have e2 : ∀ z, (s.2.1 z).1 ≠ -1 → (s1.2.1 z).1 ≠ -1 := fun z hz => by rw [ho.2.2.2.2 z hz]; exact hz
  have hd : Sok s.2.1 (st.drop k) := fun w hw => hst w (List.mem_of_mem_drop hw)
  have hl' := lo_congr e hl
  refine ⟨⟨hl'.1, hl'.2.1, fun i w hw => (hl'.2.2 i w hw).mono e2⟩, ?_, ?_⟩
  · unfold pushR
    split
    · exact fun w hw => (hd w hw).mono e2
    · rename_i h9
      exact Sok.cons (ho.2.1.resolve_left h9) (fun w hw => (hd w hw).mono e2)
  · unfold pushR rV
    split
    · simp only [Option.toList_none, List.nil_append]
      exact (st_congr e hd).symm
    · simp only [Option.toList_some, List.singleton_append, List.map_cons]
      rw [st_congr e hd]
variable {d k : Nat} {s1 : Stt} {v : Vv}
theorem hdesc {k n : Nat} (h1 : prm k = some n) (h2 : ynm k = true) : (mY k).cls ≠ "java/lang/invoke/MethodHandle" ∧ (mY k).cls ≠ "java/lang/invoke/VarHandle" ∧ (parseMethodDescriptor (mY k).desc).map (fun d => d.parameters.length) = some n := by
  simp only [ynm, Bool.and_eq_true, decide_eq_true_eq] at h2
  exact ⟨h2.1, h2.2, h1⟩
theorem room_ok {mc ms k : Nat} (hRf : 2 * d + 9 ≤ R.frames) (hRl : 128 * d + 584 ≤ R.locals) (hm : mL k ≤ 40) : (rmM d mc ms).frames + 1 ≤ R.frames ∧ 8 + (mL k + 11) + (rmM d mc ms).locals ≤ R.locals := by
  unfold rmM
  simp only
  omega
theorem stk_S {n : Nat} (hn : n ≤ st.length) : st.map (cV adr) = (((st.take n).reverse).map (cV adr)).reverse ++ (st.drop n).map (cV adr) := by
  rw [List.map_reverse, List.reverse_reverse, ← List.map_append, List.take_append_drop]
theorem sn_callS (C : Cx p s0 m args c cc own G cA A adr xs) (hml : c.maxLocals = nL) (hN : NW s0) (hA : ∀ q, s0.heap.size ≤ q → A q) (I : SndC l xs d) (hRf : 2 * d + 9 ≤ R.frames) (hRl : 128 * d + 584 ≤ R.locals) {idx n : Nat} (hk : k < mtab.length) (hm : mL k ≤ 40) (h1 : prm k = some n) (h2 : ynm k = true)
    (w1 : Cond.methodLink own idx (mY k) ∈ lw_good) (w2 : Cond.static (mY k) ∈ lw_good) (w3 : Cond.initialized (mY k).cls ∈ lw_good) (w4 : mcode k ∈ lw_good) (hd : decode cc pc = .ok (.invokestatic idx, 3))
    (hs : okS XL0 (XD0 xs) s) (hH : Hok G cA A adr s s0.heap H locs) (hl : Lok adr s.2.1 nL lo ls) (hst : Sok s.2.1 st) (hn : n ≤ st.length) (hcat : ((st.drop n).map cat).sum ≤ 8) (hmk : (mkL (st.take n).reverse).length ≤ mL k) (hden : den d k (st.take n).reverse s = some (v, s1)) (h8 : v.1 ≠ 8)
    (hf : cells + ((s1.1.1 - s.1.1).toNat + (s1.1.2 - s.1.2).toNat) ≤ R.cells ∧ slots + (s1.1.2 - s.1.2).toNat ≤ R.slots)
    (K : ∀ (adr' : Int → Nat) (H1 : Heap) (locs1 : List Loc), (∀ a, a ≤ s.1.1 → adr' a = adr a) → okR xs s s1 v → Hok G cA A adr' s1 s0.heap H1 locs1 → Lok adr' s1.2.1 nL lo ls → Sok s1.2.1 (pushR v (st.drop n)) → W p l e R s0 m args below meth c H1 locs1 (cells + ((s1.1.1 - s.1.1).toNat + (s1.1.2 - s.1.2).toNat)) (slots + (s1.1.2 - s.1.2).toNat) Q (F0 m (pc + 3) ls ((pushR v (st.drop n)).map (cV adr')))) :
    W p l e R s0 m args below meth c H locs cells slots Q (F0 m pc ls (st.map (cV adr))) := by
  have hsa : Sok s.2.1 (st.take n).reverse := fun w hw => hst w (List.mem_of_mem_take (List.mem_reverse.mp hw))
  have M := I k _ s v s1 hden h8 hk hmk hs hsa
  have hws : ∀ w ∈ va_wsS own idx (mY k) (wsM k), w ∈ lw_good := by
    intro w hw
    simp only [va_wsS, wsM, List.cons_append, List.nil_append, List.mem_cons] at hw
    rcases hw with rfl | rfl | rfl | rfl | h <;> assumption
  refine dm_call (va_runS (As := ((st.take n).reverse).map (cV adr)) (rest := (st.drop n).map (cV adr)) (Ts := lw_good) ⟨C.1, C.2.1, hml, C.2.2.1, C.2.2.2.1⟩ (M G cA A adr) (va_cwS n C.2.2.2.1 (goodIn_lw hws) (rfl : wsM k = Cond.code (mY k) (mC k) (mL k) (mR k) :: lw_good) rfl rfl (hdesc h1 h2) (room_ok hRf hRl hm)) ⟨blind_PcM, fun U hU hW => pre_of C hN hA hH _ hU hW⟩ rfl (by simp; omega) hl.2.1.1 (stk_S hn) (by rw [cats]; show 2 * 0 + _ ≤ 8; omega) hd hf) hH.2.2 (fun adr' H1 locs1 ha ho hH1 => ?_)
  obtain ⟨a1, a2, a3⟩ := aft (k := n) hs hl hst ho ha
  rw [a3]
  exact K adr' H1 locs1 ha ho hH1 a1 a2
theorem sn_callSN (C : Cx p s0 m args c cc own G cA A adr xs) (hml : c.maxLocals = nL) (hN : NW s0) (hA : ∀ q, s0.heap.size ≤ q → A q) (I : SndC l xs d) (hRf : 2 * d + 9 ≤ R.frames) (hRl : 128 * d + 584 ≤ R.locals) {idx n : Nat} (hk : k < mtab.length) (hm : mL k ≤ 40) (h1 : prm k = some n) (h2 : ynm k = true)
    (w1 : Cond.methodLinkNest own idx (mY k) "MarkGuards" ∈ nestW) (w2 : Cond.static (mY k) ∈ lw_good) (w3 : Cond.initialized (mY k).cls ∈ lw_good) (w4 : mcode k ∈ lw_good) (hd : decode cc pc = .ok (.invokestatic idx, 3))
    (hs : okS XL0 (XD0 xs) s) (hH : Hok G cA A adr s s0.heap H locs) (hl : Lok adr s.2.1 nL lo ls) (hst : Sok s.2.1 st) (hn : n ≤ st.length) (hcat : ((st.drop n).map cat).sum ≤ 8) (hmk : (mkL (st.take n).reverse).length ≤ mL k) (hden : den d k (st.take n).reverse s = some (v, s1)) (h8 : v.1 ≠ 8)
    (hf : cells + ((s1.1.1 - s.1.1).toNat + (s1.1.2 - s.1.2).toNat) ≤ R.cells ∧ slots + (s1.1.2 - s.1.2).toNat ≤ R.slots)
    (K : ∀ (adr' : Int → Nat) (H1 : Heap) (locs1 : List Loc), (∀ a, a ≤ s.1.1 → adr' a = adr a) → okR xs s s1 v → Hok G cA A adr' s1 s0.heap H1 locs1 → Lok adr' s1.2.1 nL lo ls → Sok s1.2.1 (pushR v (st.drop n)) → W p l e R s0 m args below meth c H1 locs1 (cells + ((s1.1.1 - s.1.1).toNat + (s1.1.2 - s.1.2).toNat)) (slots + (s1.1.2 - s.1.2).toNat) Q (F0 m (pc + 3) ls ((pushR v (st.drop n)).map (cV adr')))) :
    W p l e R s0 m args below meth c H locs cells slots Q (F0 m pc ls (st.map (cV adr))) := by
  have hsa : Sok s.2.1 (st.take n).reverse := fun w hw => hst w (List.mem_of_mem_take (List.mem_reverse.mp hw))
  have M := I k _ s v s1 hden h8 hk hmk hs hsa
  have hws : ∀ w ∈ wsM k, w ∈ lw_good := by
    intro w hw
    rcases List.mem_cons.mp hw with rfl | h <;> assumption
  refine dm_call (va_runSN (As := ((st.take n).reverse).map (cV adr)) (rest := (st.drop n).map (cV adr)) (Ts := lw_good) ⟨C.1, C.2.1, hml, C.2.2.1, C.2.2.2.1⟩ (M G cA A adr) ⟨va_cnB n C.2.2.2.1 (goodIn_lw hws) (rfl : wsM k = Cond.code (mY k) (mC k) (mL k) (mR k) :: lw_good) rfl rfl (hN.1 _ w1) (C.2.2.2.1 _ w3) (hdesc h1 h2) (room_ok hRf hRl hm), C.2.2.2.1 _ w2, trivial⟩ ⟨blind_PcM, fun U hU hW => pre_of C hN hA hH _ hU hW⟩ rfl (by simp; omega) hl.2.1.1 (stk_S hn) (by rw [cats]; show 2 * 0 + _ ≤ 8; omega) hd hf) hH.2.2 (fun adr' H1 locs1 ha ho hH1 => ?_)
  obtain ⟨a1, a2, a3⟩ := aft (k := n) hs hl hst ho ha
  rw [a3]
  exact K adr' H1 locs1 ha ho hH1 a1 a2
theorem rck_some {n : Nat} {k : Int} (h : rck s st n = k) (h0 : 0 ≤ k) : ∃ r, st[n]? = some (2, r) ∧ kd s r = k := by
  unfold rck at h
  split at h
  · rename_i r hr
    exact ⟨r, hr, h⟩
  · omega
theorem take_r {n : Nat} {r : Int} (h : st[n]? = some (2, r)) : (st.take (n + 1)).reverse = (2, r) :: (st.take n).reverse := by
  rw [List.take_add_one, h]
  simp
theorem stk_V {n : Nat} {r : Int} (h : st[n]? = some (2, r)) : st.map (cV adr) = (((st.take n).reverse).map (cV adr)).reverse ++ cV adr (2, r) :: (st.drop (n + 1)).map (cV adr) := by
  have hl := (List.getElem?_eq_some_iff.mp h).1
  rw [List.map_reverse, List.reverse_reverse, ← List.map_cons (f := cV adr), ← List.map_append]
  congr 1
  have : st.drop n = (2, r) :: st.drop (n + 1) := by
    rw [List.drop_eq_getElem_cons hl]
    congr 1
    exact (List.getElem?_eq_some_iff.mp h).2
  rw [← this, List.take_append_drop]
theorem sn_callV (C : Cx p s0 m args c cc own G cA A adr xs) (hml : c.maxLocals = nL) (hN : NW s0) (hA : ∀ q, s0.heap.size ≤ q → A q) (I : SndC l xs d) (hRf : 2 * d + 9 ≤ R.frames) (hRl : 128 * d + 584 ≤ R.locals) {idx n : Nat} (hk : k < mtab.length) (hm : mL k ≤ 40) (h1 : prm k = some n) (h2 : ynm k = true) (hc0 : 0 ≤ mci k) (hc12 : mci k < 12) (hcn : clN (mci k) = (mY k).cls)
    (w1 : Cond.methodLink own idx (mY k) ∈ lw_good) (w2 : Cond.instanceMethod (mY k) ∈ lw_good) (w5 : Cond.selects (mY k).cls (mY k) (mY k) ∈ lw_good) (w3 : Cond.initialized (mY k).cls ∈ lw_good) (w4 : mcode k ∈ lw_good) (hd : decode cc pc = .ok (.invokevirtual idx, 3))
    (hs : okS XL0 (XD0 xs) s) (hH : Hok G cA A adr s s0.heap H locs) (hl : Lok adr s.2.1 nL lo ls) (hst : Sok s.2.1 st) (hrc : rck s st n = mci k) (hcat : ((st.drop (n + 1)).map cat).sum ≤ 8) (hmk : (mkL (st.take (n + 1)).reverse).length ≤ mL k) (hden : den d k (st.take (n + 1)).reverse s = some (v, s1)) (h8 : v.1 ≠ 8)
    (hf : cells + ((s1.1.1 - s.1.1).toNat + (s1.1.2 - s.1.2).toNat) ≤ R.cells ∧ slots + (s1.1.2 - s.1.2).toNat ≤ R.slots)
    (K : ∀ (adr' : Int → Nat) (H1 : Heap) (locs1 : List Loc), (∀ a, a ≤ s.1.1 → adr' a = adr a) → okR xs s s1 v → Hok G cA A adr' s1 s0.heap H1 locs1 → Lok adr' s1.2.1 nL lo ls → Sok s1.2.1 (pushR v (st.drop (n + 1))) → W p l e R s0 m args below meth c H1 locs1 (cells + ((s1.1.1 - s.1.1).toNat + (s1.1.2 - s.1.2).toNat)) (slots + (s1.1.2 - s.1.2).toNat) Q (F0 m (pc + 3) ls ((pushR v (st.drop (n + 1))).map (cV adr')))) :
    W p l e R s0 m args below meth c H locs cells slots Q (F0 m pc ls (st.map (cV adr))) := by
  obtain ⟨r, hr, hkr⟩ := rck_some hrc hc0
  have hsa : Sok s.2.1 (st.take (n + 1)).reverse := fun w hw => hst w (List.mem_of_mem_take (List.mem_reverse.mp hw))
  have M := I k _ s v s1 hden h8 hk hmk hs hsa
  have hws : ∀ w ∈ wsV own idx (mY k).cls (mY k) (wsM k), w ∈ lw_good := by
    intro w hw
    simp only [wsV, wsM, List.cons_append, List.nil_append, List.mem_cons] at hw
    rcases hw with rfl | rfl | rfl | rfl | rfl | h <;> assumption
  have hp := hs.pos (a := r) (by omega) (by omega)
  have hg := wld_get (cA := cA) (adr := adr) hp.1 hp.2
  have hlk : (s.2.1 r).1 = mci k := hkr
  rw [cE_obj (by omega), hlk] at hg
  obtain ⟨cr, hcr⟩ := cls_some hc0 hc12
  have hcl : cr.1 = (mY k).cls := by
    rw [← hcn]
    unfold clN
    rw [List.getD_eq_getElem?_getD, hcr]
    rfl
  have hrv := va_recv C.2.2.2.2.1 hH.1 hcr hg
  rw [hcl] at hrv
  have er : cV adr (2, r) = .ref (adr r) := own_ne hs (by omega) (by omega)
  have M := M G cA A adr
  rw [take_r hr] at M
  have hn : n + 1 ≤ st.length := (List.getElem?_eq_some_iff.mp hr).1
  rw [stk_V hr, er]
  refine dm_call (va_runV (b := adr r) (As := ((st.take n).reverse).map (cV adr)) (rest := (st.drop (n + 1)).map (cV adr)) (Ts := lw_good) ⟨C.1, C.2.1, hml, C.2.2.1, C.2.2.2.1⟩ M (cwV (C := (mY k).cls) n C.2.2.2.1 (goodIn_lw hws) (rfl : wsM k = Cond.code (mY k) (mC k) (mL k) (mR k) :: lw_good) rfl rfl ⟨rfl, hdesc h1 h2⟩ (room_ok hRf hRl hm)) ⟨blind_PcM, hrv, fun U hU hW => ?_⟩ rfl (by simp; omega) hl.2.1.1 rfl (by rw [cats]; show 2 * 0 + _ ≤ 8; omega) hd hf) hH.2.2 (fun adr' H1 locs1 ha ho hH1 => ?_)
  · have := pre_of C hN hA hH ((2, r) :: (st.take n).reverse) hU hW
    rw [List.map_cons, er] at this
    exact this
  · obtain ⟨a1, a2, a3⟩ := aft (k := n + 1) hs hl hst ho ha
    rw [a3]
    exact K adr' H1 locs1 ha ho hH1 a1 a2
theorem sn_callI (C : Cx p s0 m args c cc own G cA A adr xs) (hml : c.maxLocals = nL) (hN : NW s0) (hA : ∀ q, s0.heap.size ≤ q → A q) (I : SndC l xs d) (hRf : 2 * d + 9 ≤ R.frames) (hRl : 128 * d + 584 ≤ R.locals) {idx n : Nat} (hk : k < mtab.length) (hm : mL k ≤ 40) (h1 : prm k = some n) (h2 : ynm k = true) (hc0 : 0 ≤ mci k) (hc12 : mci k < 12) (hin : (mY k).name = "<init>") (hmr : mR k = none)
    (w1 : Cond.methodLink own idx (mY k) ∈ lw_good) (w2 : Cond.instanceMethod (mY k) ∈ lw_good) (w3 : Cond.initialized (mY k).cls ∈ lw_good) (w4 : mcode k ∈ lw_good) (hd : decode cc pc = .ok (.invokespecial idx, 3))
    (hs : okS XL0 (XD0 xs) s) (hH : Hok G cA A adr s s0.heap H locs) (hl : Lok adr s.2.1 nL lo ls) (hst : Sok s.2.1 st) (hrc : rck s st n = mci k) (hcat : ((st.drop (n + 1)).map cat).sum ≤ 8) (hmk : (mkL (st.take (n + 1)).reverse).length ≤ mL k) (hden : den d k (st.take (n + 1)).reverse s = some (v, s1)) (h8 : v.1 ≠ 8)
    (hf : cells + ((s1.1.1 - s.1.1).toNat + (s1.1.2 - s.1.2).toNat) ≤ R.cells ∧ slots + (s1.1.2 - s.1.2).toNat ≤ R.slots)
    (K : ∀ (adr' : Int → Nat) (H1 : Heap) (locs1 : List Loc), (∀ a, a ≤ s.1.1 → adr' a = adr a) → okR xs s s1 v → Hok G cA A adr' s1 s0.heap H1 locs1 → Lok adr' s1.2.1 nL lo ls → Sok s1.2.1 (pushR v (st.drop (n + 1))) → W p l e R s0 m args below meth c H1 locs1 (cells + ((s1.1.1 - s.1.1).toNat + (s1.1.2 - s.1.2).toNat)) (slots + (s1.1.2 - s.1.2).toNat) Q (F0 m (pc + 3) ls ((pushR v (st.drop (n + 1))).map (cV adr')))) :
    W p l e R s0 m args below meth c H locs cells slots Q (F0 m pc ls (st.map (cV adr))) := by
  obtain ⟨r, hr, hkr⟩ := rck_some hrc hc0
  have hsa : Sok s.2.1 (st.take (n + 1)).reverse := fun w hw => hst w (List.mem_of_mem_take (List.mem_reverse.mp hw))
  have M := I k _ s v s1 hden h8 hk hmk hs hsa
  have hws : ∀ w ∈ wsM k, w ∈ lw_good := by
    intro w hw
    rcases List.mem_cons.mp hw with rfl | h <;> assumption
  have er : cV adr (2, r) = .ref (adr r) := own_ne hs (by omega) (by omega)
  have M := M G cA A adr
  rw [take_r hr] at M
  have hn : n + 1 ≤ st.length := (List.getElem?_eq_some_iff.mp hr).1
  rw [stk_V hr, er]
  have ew : wsM k = Cond.code (mY k) (mC k) (mL k) none :: lw_good := by unfold wsM mcode; rw [hmr]
  refine dm_call (va_runI (b := adr r) (As := ((st.take n).reverse).map (cV adr)) (rest := (st.drop (n + 1)).map (cV adr)) (Ts := lw_good) ⟨C.1, C.2.1, hml, C.2.2.1, C.2.2.2.1⟩ M (cwI n C.2.2.2.1 (goodIn_lw hws) ew rfl rfl (C.2.2.2.1 _ w3) (C.2.2.2.1 _ w1) (C.2.2.2.1 _ w2) hin (hdesc h1 h2) (room_ok hRf hRl hm)) ⟨blind_PcM, fun U hU hW => ?_⟩ rfl (by simp; omega) hl.2.1.1 rfl (by rw [cats]; show 2 * 0 + _ ≤ 8; omega) hd hf) hH.2.2 (fun adr' H1 locs1 ha ho hH1 => ?_)
  · have := pre_of C hN hA hH ((2, r) :: (st.take n).reverse) hU hW
    rw [List.map_cons, er] at this
    exact this
  · obtain ⟨a1, a2, a3⟩ := aft (k := n + 1) hs hl hst ho ha
    rw [a3]
    exact K adr' H1 locs1 ha ho hH1 a1 a2
theorem sn_callIN (C : Cx p s0 m args c cc own G cA A adr xs) (hml : c.maxLocals = nL) (hN : NW s0) (hA : ∀ q, s0.heap.size ≤ q → A q) (I : SndC l xs d) (hRf : 2 * d + 9 ≤ R.frames) (hRl : 128 * d + 584 ≤ R.locals) {idx n : Nat} (hk : k < mtab.length) (hm : mL k ≤ 40) (h1 : prm k = some n) (h2 : ynm k = true) (hc0 : 0 ≤ mci k) (hc12 : mci k < 12) (hin : (mY k).name = "<init>") (hmr : mR k = none)
    (w1 : Cond.methodLinkNest own idx (mY k) "MarkGuards" ∈ nestW) (w2 : Cond.instanceMethod (mY k) ∈ lw_good) (w3 : Cond.initialized (mY k).cls ∈ lw_good) (w4 : mcode k ∈ lw_good) (hd : decode cc pc = .ok (.invokespecial idx, 3))
    (hs : okS XL0 (XD0 xs) s) (hH : Hok G cA A adr s s0.heap H locs) (hl : Lok adr s.2.1 nL lo ls) (hst : Sok s.2.1 st) (hrc : rck s st n = mci k) (hcat : ((st.drop (n + 1)).map cat).sum ≤ 8) (hmk : (mkL (st.take (n + 1)).reverse).length ≤ mL k) (hden : den d k (st.take (n + 1)).reverse s = some (v, s1)) (h8 : v.1 ≠ 8)
    (hf : cells + ((s1.1.1 - s.1.1).toNat + (s1.1.2 - s.1.2).toNat) ≤ R.cells ∧ slots + (s1.1.2 - s.1.2).toNat ≤ R.slots)
    (K : ∀ (adr' : Int → Nat) (H1 : Heap) (locs1 : List Loc), (∀ a, a ≤ s.1.1 → adr' a = adr a) → okR xs s s1 v → Hok G cA A adr' s1 s0.heap H1 locs1 → Lok adr' s1.2.1 nL lo ls → Sok s1.2.1 (pushR v (st.drop (n + 1))) → W p l e R s0 m args below meth c H1 locs1 (cells + ((s1.1.1 - s.1.1).toNat + (s1.1.2 - s.1.2).toNat)) (slots + (s1.1.2 - s.1.2).toNat) Q (F0 m (pc + 3) ls ((pushR v (st.drop (n + 1))).map (cV adr')))) :
    W p l e R s0 m args below meth c H locs cells slots Q (F0 m pc ls (st.map (cV adr))) := by
  obtain ⟨r, hr, hkr⟩ := rck_some hrc hc0
  have hsa : Sok s.2.1 (st.take (n + 1)).reverse := fun w hw => hst w (List.mem_of_mem_take (List.mem_reverse.mp hw))
  have M := I k _ s v s1 hden h8 hk hmk hs hsa
  have hws : ∀ w ∈ wsM k, w ∈ lw_good := by
    intro w hw
    rcases List.mem_cons.mp hw with rfl | h <;> assumption
  have er : cV adr (2, r) = .ref (adr r) := own_ne hs (by omega) (by omega)
  have M := M G cA A adr
  rw [take_r hr] at M
  have hn : n + 1 ≤ st.length := (List.getElem?_eq_some_iff.mp hr).1
  rw [stk_V hr, er]
  have ew : wsM k = Cond.code (mY k) (mC k) (mL k) none :: lw_good := by unfold wsM mcode; rw [hmr]
  refine dm_call (va_runIN (b := adr r) (As := ((st.take n).reverse).map (cV adr)) (rest := (st.drop (n + 1)).map (cV adr)) (Ts := lw_good) ⟨C.1, C.2.1, hml, C.2.2.1, C.2.2.2.1⟩ M ⟨va_cnB n C.2.2.2.1 (goodIn_lw hws) ew rfl rfl (hN.1 _ w1) (C.2.2.2.1 _ w3) (hdesc h1 h2) (room_ok hRf hRl hm), hin, C.2.2.2.1 _ w2⟩ ⟨blind_PcM, fun U hU hW => ?_⟩ rfl (by simp; omega) hl.2.1.1 rfl (by rw [cats]; show 2 * 0 + _ ≤ 8; omega) hd hf) hH.2.2 (fun adr' H1 locs1 ha ho hH1 => ?_)
  · have := pre_of C hN hA hH ((2, r) :: (st.take n).reverse) hU hW
    rw [List.map_cons, er] at this
    exact this
  · obtain ⟨a1, a2, a3⟩ := aft (k := n + 1) hs hl hst ho ha
    rw [a3]
    exact K adr' H1 locs1 ha ho hH1 a1 a2
end CALL
