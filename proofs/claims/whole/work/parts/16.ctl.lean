/-! Branches, switches, cells that are made: what they need -/
def nestW : List Cond := lw_tbl.filter (fun w => match w with
  | .methodLinkNest .. => true
  | _ => false)
def thrW : List Cond := [.castable "java/lang/IndexOutOfBoundsException" "java/lang/IndexOutOfBoundsException", .castable "java/util/NoSuchElementException" "java/util/NoSuchElementException", .declares (Bundle.initS "java/lang/RuntimeException"), .declares (Bundle.initS "java/lang/Exception"), .declares (Bundle.initS "java/lang/Throwable")]
theorem thrW_w {w : Cond} (h : w ∈ thrW) : w.onTables = true ∧ ((∃ a b, w = .castable a b) ∨ ∃ x, w = .declares x) := by
  simp only [thrW, List.mem_cons, List.not_mem_nil, or_false] at h
  rcases h with rfl | rfl | rfl | rfl | rfl
  · exact ⟨rfl, Or.inl ⟨_, _, rfl⟩⟩
  · exact ⟨rfl, Or.inl ⟨_, _, rfl⟩⟩
  · exact ⟨rfl, Or.inr ⟨_, rfl⟩⟩
  · exact ⟨rfl, Or.inr ⟨_, rfl⟩⟩
  · exact ⟨rfl, Or.inr ⟨_, rfl⟩⟩
theorem thrW_warm {w : Cond} (h : w ∈ thrW) {s U : State} (hW : s.WarmedH U.vm) (hZ : va_Nw w s) : va_Nw w U := by
  rcases (thrW_w h).2 with ⟨a, b, rfl⟩ | ⟨x, rfl⟩
  · exact va_Nw.warmC hW hZ
  · exact va_tabs rfl (rfl : (s.setVm U.vm).vm = U.vm) (by rw [Cond.declares_setVm hW.alike]; exact hZ)
def NW (U : State) : Prop := (∀ w ∈ nestW, va_Nw w U) ∧ va_AO "MarkGuards$Kind" U ∧ va_AO "MarkGuards$Run" U ∧ ∀ w ∈ thrW, va_Nw w U
theorem nestW_is {w : Cond} (h : w ∈ nestW) : ∃ a i x h, w = .methodLinkNest a i x h := by
  have := (List.mem_filter.mp h).2
  split at this
  · exact ⟨_, _, _, _, rfl⟩
  · cases this
theorem NW.moved {s U : State} (hW : s.WarmedH U.vm) (h : NW s) : NW U := by
  refine ⟨fun w hw => ?_, va_AO.moved hW.alike h.2.1, va_AO.moved hW.alike h.2.2.1, fun w hw => thrW_warm hw hW (h.2.2.2 w hw)⟩
  obtain ⟨a, i, x, b, rfl⟩ := nestW_is hw
  exact va_Nw.warmM hW (h.1 _ hw)
theorem NW.same {u U : State} (e : u.vm = U.vm) (h : NW u) : NW U := by
  refine ⟨fun w hw => ?_, va_AO.moved (by rw [e]; exact Vm.Alike.refl _) h.2.1, va_AO.moved (by rw [e]; exact Vm.Alike.refl _) h.2.2.1, fun w hw => va_Nw.same (thrW_w hw).1 e (h.2.2.2 w hw)⟩
  obtain ⟨a, i, x, b, rfl⟩ := nestW_is hw
  exact va_Nw.same rfl e (h.1 _ hw)
theorem Xf.moved {A : Nat → Prop} {adr : Int → Nat} {xs : Int → Int} {u U : State} {H : Heap} (hW : u.WarmedH U.vm) (h : Xf A adr xs u H) : Xf A adr xs U H := by
  have hvm := hW.alike
  obtain ⟨⟨n, f, h1, h2⟩, h3, h4, h5, h6, h7, h8, h9, ha, hb, hc, hd, hn⟩ := h
  exact ⟨⟨n, f, va_X.moved hvm h1, h2⟩, h3.moved hvm, va_Z.moved hvm h4, va_T.moved hvm h5, va_Z.moved hvm h6, va_T.moved hvm h7, h8.moved hvm, vk_R.warm hW h9, vk_R.warm hW ha, vk_R.warm hW hb, vx_Zq.moved hvm hc, vx_Zq.moved hvm hd, va_Nc.moved hvm hn⟩
theorem Xf.same {A : Nat → Prop} {adr : Int → Nat} {xs : Int → Int} {u U : State} {H : Heap} (e : U.vm = u.vm) (h : Xf A adr xs u H) : Xf A adr xs U H := by
  have hvm : u.vm.Alike U.vm := by rw [e]; exact Vm.Alike.refl _
  obtain ⟨⟨n, f, h1, h2⟩, h3, h4, h5, h6, h7, h8, h9, ha, hb, hc, hd, hn⟩ := h
  exact ⟨⟨n, f, va_X.moved hvm h1, h2⟩, h3.moved hvm, va_Z.moved hvm h4, va_T.moved hvm h5, va_Z.moved hvm h6, va_T.moved hvm h7, h8.moved hvm, vk_R.same e h9, vk_R.same e ha, vk_R.same e hb, vx_Zq.moved hvm hc, vx_Zq.moved hvm hd, va_Nc.moved hvm hn⟩
theorem Xf.kept {A : Nat → Prop} {adr : Int → Nat} {xs : Int → Int} {U : State} {H H1 : Heap} (h : Xf A adr xs U H) (hq : ∀ a : Nat, a < H.size → ¬ A a → H1[a]? = H[a]?) (hz : H.size ≤ H1.size) : Xf A adr xs U H1 := by
  obtain ⟨⟨n, f, h1, h2, hA, hr⟩, h3, h4, h5, h6, h7, h8, h9, ha, hb, hc, hd, hn⟩ := h
  exact ⟨⟨n, f, va_X.kept h1 (hq _ h2 hA), by omega, hA, hr⟩, h3.kept hq, h4.kept hq, h5.kept hq, h6.kept hq, h7.kept hq, h8.kept hq, h9, ha, hb, hc.kept hq, hd.kept hq, hn⟩
theorem Xf.congr {A : Nat → Prop} {adr adr' : Int → Nat} {xs : Int → Int} {U : State} {H : Heap} (e : ∀ a, a ≤ 0 → adr' a = adr a) (h : Xf A adr xs U H) : Xf A adr' xs U H := by
  have e1 : (fun j : Nat => adr' (-(2 + (j : Int)))) = fun j : Nat => adr (-(2 + (j : Int))) := by
    funext j
    exact e _ (by omega)
  have e2 : (fun j : Nat => Value.ref (adr' (-(2 + (j : Int))))) = fun j : Nat => Value.ref (adr (-(2 + (j : Int)))) := by
    funext j
    rw [e _ (by omega)]
  unfold Xf at h ⊢
  rw [e (-1) (by omega), e (-50) (by omega), e (-51) (by omega), e (-60) (by omega), e (-61) (by omega), e (-62) (by omega), e (-63) (by omega), e1, e2]
  exact h
theorem Cx.congr {p : Program} {s0 : State} {m : MethodId} {args : Array Value} {c : Code} {cc : ByteArray} {own : String} {G : va_G} {cA : Nat → ClassId} {A : Nat → Prop} {adr adr' : Int → Nat} {xs : Int → Int} (C : Cx p s0 m args c cc own G cA A adr xs) (e : ∀ a, a ≤ 0 → adr' a = adr a) : Cx p s0 m args c cc own G cA A adr' xs :=
  ⟨C.1, C.2.1, C.2.2.1, C.2.2.2.1, C.2.2.2.2.1, C.2.2.2.2.2.congr e⟩
theorem cV_congr {adr adr' : Int → Nat} {L : Lay} (e : ∀ z, (L z).1 ≠ -1 → adr' z = adr z) {v : Vv} (h : okV L v) : cV adr' v = cV adr v := by
  obtain ⟨t, z⟩ := v
  rcases h with ⟨h, -⟩ | ⟨h, -⟩ | ⟨h, h2⟩
  · simp only at h; subst h; rfl
  · simp only at h; subst h; rfl
  · simp only at h h2
    subst h
    show va_rf (cR adr' z) = va_rf (cR adr z)
    unfold cR
    by_cases hz : z = 0
    · rw [if_pos hz, if_pos hz]
    · rw [if_neg hz, if_neg hz, e z (h2.resolve_left hz)]
theorem st_congr {adr adr' : Int → Nat} {L : Lay} (e : ∀ z, (L z).1 ≠ -1 → adr' z = adr z) {st : List Vv} (h : Sok L st) : st.map (cV adr') = st.map (cV adr) := by
  apply List.map_congr_left
  intro v hv
  exact cV_congr e (h v hv)
theorem lo_congr {adr adr' : Int → Nat} {L : Lay} {nL : Nat} {lo : Lcs} {ls : Array Slot} (e : ∀ z, (L z).1 ≠ -1 → adr' z = adr z) (h : Lok adr L nL lo ls) : Lok adr' L nL lo ls := by
  refine ⟨h.1, lv_mono h.2.1 ?_, h.2.2⟩
  intro q hq
  obtain ⟨v, h1, h2⟩ := cLo_mem.mp hq
  exact cLo_mem.mpr ⟨v, h1, by rw [h2, cV_congr e (h.2.2 _ _ h1)]⟩
theorem okV.mono {L L' : Lay} (h : ∀ z, (L z).1 ≠ -1 → (L' z).1 ≠ -1) {v : Vv} (hv : okV L v) : okV L' v := by
  rcases hv with h1 | h1 | ⟨h1, h2⟩
  · exact Or.inl h1
  · exact Or.inr (Or.inl h1)
  · exact Or.inr (Or.inr ⟨h1, h2.imp id (h _)⟩)
theorem cE_congr {cA : Nat → ClassId} {adr adr' : Int → Nat} {L : Lay} (e : ∀ z, (L z).1 ≠ -1 → adr' z = adr z) {kl : Int × Int} {f : Int → Int} (hk : kl.1 ≤ 104) (h : ∀ i, okV L (tgk kl.1 i, f i)) : cE cA adr' kl f = cE cA adr kl f := by
  have hr : tgk kl.1 0 = 2 → (100 ≤ kl.1) → (fun i : Nat => cR adr' (f (i : Int))) = fun i : Nat => cR adr (f (i : Int)) := by
    intro h2 h1
    funext i
    have h3 := h (i : Int)
    have : tgk kl.1 (i : Int) = 2 := by
      unfold tgk at h2 ⊢
      rw [if_neg (by omega)] at h2 ⊢
      exact h2
    rw [this] at h3
    have := h3.r
    unfold cR
    by_cases hz : f (i : Int) = 0
    · rw [if_pos hz, if_pos hz]
    · rw [if_neg hz, if_neg hz, e _ (this.resolve_left hz)]
  unfold cE
  by_cases h1 : kl.1 < 100
  · rw [if_pos h1, if_pos h1]
    congr 2
    unfold cF
    apply List.map_congr_left
    intro i _
    refine cV_congr e ?_
    have := h (i : Int)
    unfold tgk at this
    rw [if_pos h1] at this
    exact this
  · rw [if_neg h1, if_neg h1]
    by_cases h2 : kl.1 = 101
    · rw [if_pos h2, if_pos h2]
    · rw [if_neg h2, if_neg h2]
      by_cases h3 : kl.1 = 100 ∨ kl.1 = 102
      · rw [if_pos h3, if_pos h3]
      · rw [if_neg h3, if_neg h3]
        have h4 : tgk kl.1 0 = 2 := by
          unfold tgk
          rw [if_neg h1, if_neg h2, if_pos (by omega)]
        rw [hr h4 (by omega)]
theorem wld_new {cA : Nat → ClassId} {adr adr' : Int → Nat} {s : Stt} {XL : Lay} {XD : Sto} {k n : Int} {q : Nat} (hs : okS XL XD s) (e : ∀ z, (s.2.1 z).1 ≠ -1 → adr' z = adr z) (e0 : ∀ a, 0 < a → a ≤ s.1.1 → adr' a = adr a) (hq : adr' (s.1.1 + 1) = q) : wld cA adr' (newS s k n) = wld cA adr s ++ [(q, cE cA adr' (k, n) (fun _ => 0))] := by
  have h0 := hs.1
  unfold wld newS
  simp only
  rw [show (s.1.1 + 1).toNat = s.1.1.toNat + 1 by omega, List.range_succ, List.map_append]
  congr 1
  · apply List.map_congr_left
    intro j hj
    have hj := List.mem_range.mp hj
    rw [if_neg (by omega), e0 _ (by omega) (by omega)]
    have : (fun i => if (j : Int) + 1 = s.1.1 + 1 then 0 else s.2.2 ((j : Int) + 1) i) = s.2.2 ((j : Int) + 1) := by
      funext i
      rw [if_neg (by omega)]
    have hk := (hs.2.2.1 ((j : Int) + 1) (by omega) (by omega)).1
    rw [this, cE_congr e (by have : kd s ((j : Int) + 1) = (s.2.1 ((j : Int) + 1)).1 := rfl; omega) (hs.2.1 ((j : Int) + 1))]
  · have h1 : ((s.1.1.toNat : Nat) : Int) + 1 = s.1.1 + 1 := by omega
    simp only [List.map_cons, List.map_nil, h1, hq, if_pos]
def tgOk (pc : Nat) (off : Int) : Bool := decide (0 ≤ (pc : Int) + off)
def prm (m : Nat) : Option Nat := (parseMethodDescriptor (mY m).desc).map (fun d => d.parameters.length)
def ynm (m : Nat) : Bool := decide ((mY m).cls ≠ "java/lang/invoke/MethodHandle") && decide ((mY m).cls ≠ "java/lang/invoke/VarHandle")
def clN (k : Int) : String := (cls0.getD k.toNat ("", TX0, 0)).1
def cnF (k : Int) : Nat := (cls0.getD k.toNat ("", TX0, 0)).2.2
def isRef' (r : Option FieldType) : Bool := match r with
  | some (.object _) => true
  | some (.array _) => true
  | _ => false
/-- rules of the numbers of a branch, a call, an end -/
def ctOk (m : Nat) (pc : Nat) (x : IR) : Bool := match x with
  | (60, a, _) => tgOk pc a
  | (61, a, _) => tgOk pc a
  | (62, a, _) => tgOk pc a
  | (63, a, _) => tgOk pc a
  | (64, a, _) => tgOk pc a
  | (65, a, _) => tgOk pc a
  | (66, a, _) => tgOk pc a
  | (67, a, _) => tgOk pc a
  | (68, a, _) => tgOk pc a
  | (69, a, _) => tgOk pc a
  | (70, a, _) => tgOk pc a
  | (71, a, _) => tgOk pc a
  | (72, a, _) => tgOk pc a
  | (73, a, _) => tgOk pc a
  | (74, a, _) => tgOk pc a
  | (75, a, _) => tgOk pc a
  | (76, a, _) => tgOk pc a
  | (77, a, _, _, l) => tgOk pc a && l.all (fun q => tgOk pc q.2)
  | (78, a, _, _, l) => tgOk pc a && (l.all (fun q => tgOk pc q.2) && (l.zip (l.drop 1)).all (fun q => decide (q.1.1 < q.2.1)))
  | (79, a, _, c, _) => decide (a.toNat < mtab.length) && (decide (prm a.toNat = some c.toNat) && ynm a.toNat)
  | (81, a, _, c, _) => decide (a.toNat < mtab.length) && (decide (prm a.toNat = some c.toNat) && ynm a.toNat)
  | (83, a, _, c, _) => decide (a.toNat < mtab.length) && (decide (prm a.toNat = some c.toNat) && ynm a.toNat)
  | (80, a, _, c, _) => decide (a.toNat < mtab.length) && (decide (prm a.toNat = some c.toNat) && (ynm a.toNat && (decide (0 ≤ mci a.toNat) && (decide (mci a.toNat < 12) && decide (clN (mci a.toNat) = (mY a.toNat).cls)))))
  | (82, a, _, c, _) => decide (a.toNat < mtab.length) && (decide (prm a.toNat = some c.toNat) && (ynm a.toNat && (decide (0 ≤ mci a.toNat) && (decide (mci a.toNat < 12) && (decide ((mY a.toNat).name = "<init>") && decide (mR a.toNat = none))))))
  | (84, a, _, c, _) => decide (a.toNat < mtab.length) && (decide (prm a.toNat = some c.toNat) && (ynm a.toNat && (decide (0 ≤ mci a.toNat) && (decide (mci a.toNat < 12) && (decide ((mY a.toNat).name = "<init>") && decide (mR a.toNat = none))))))
  | (85, _) => true
  | (86, a, _) => decide (a = 5) || decide (a = 8)
  | (87, a, _) => decide (a = 1) || decide (a = 2)
  | (88, a, _) => decide (a.toNat < mtab.length) && decide (mY a.toNat = yJx29ce0_ordinal_8abf5)
  | (89, _, b, _) => decide (b = 39)
  | (90, _) => true
  | (91, _) => decide (mR m = some .long)
  | (92, _) => isRef' (mR m)
  | (93, _) => decide (mR m = none)
  | (95, a, _) => decide (0 ≤ a) && decide (a < 12)
  | (96, a, _) => decide (a = 100) || (decide (a = 101) || decide (a = 102))
  | (97, a, _) => decide (a = 103) || decide (a = 104)
  | (98, _) => true
  | _ => false
def mcode (m : Nat) : Cond := .code (mY m) (mC m) (mL m) (mR m)
def wrdC (own : String) (x : IR) : List Cond := match x with
  | (79, a, b, _) => [.methodLink own b.toNat (mY a.toNat), .static (mY a.toNat), .initialized (mY a.toNat).cls, mcode a.toNat]
  | (81, a, b, _) => [.methodLink own b.toNat (mY a.toNat), .static (mY a.toNat), .initialized (mY a.toNat).cls, mcode a.toNat]
  | (83, a, _) => [.static (mY a.toNat), .initialized (mY a.toNat).cls, mcode a.toNat]
  | (80, a, b, _) => [.methodLink own b.toNat (mY a.toNat), .instanceMethod (mY a.toNat), .selects (mY a.toNat).cls (mY a.toNat) (mY a.toNat), .initialized (mY a.toNat).cls, mcode a.toNat]
  | (82, a, b, _) => [.methodLink own b.toNat (mY a.toNat), .instanceMethod (mY a.toNat), .initialized (mY a.toNat).cls, mcode a.toNat]
  | (84, a, _) => [.instanceMethod (mY a.toNat), .initialized (mY a.toNat).cls, mcode a.toNat]
  | (85, _, b, _) => [.methodLink own b.toNat objectInit, .instanceMethod objectInit, .code objectInit ⟨#[0xb1]⟩ 1 none]
  | (86, 5, b, _) => [.methodLink own b.toNat Lib.MathLoose.abs_long.x, .static Lib.MathLoose.abs_long.x, .initialized "java/lang/Math", .code Lib.MathLoose.abs_long.x Lib.MathLoose.abs_long.code 2 (some .long)]
  | (86, 8, b, _) => [.methodLink own b.toNat arraycopyName, .native arraycopyName, .static arraycopyName, .initialized "java/lang/System"]
  | (87, 1, b, _) => [.methodLink own b.toNat yJ0_length_8abf5, .instanceMethod yJ0_length_8abf5, .selects "java/lang/String" yJ0_length_8abf5 yJ0_length_8abf5, .initialized "java/lang/String", .code yJ0_length_8abf5 cJ0_length_8abf5 1 (some .int)]
  | (87, 2, b, _) => [.methodLink own b.toNat yJ0_charAt_5068e, .instanceMethod yJ0_charAt_5068e, .selects "java/lang/String" yJ0_charAt_5068e yJ0_charAt_5068e, .initialized "java/lang/String", .code yJ0_charAt_5068e cJ0_charAt_5068e 2 (some .char)]
  | (88, a, b, _) => [.methodLink own b.toNat ⟨"MarkGuards$Kind", "ordinal", "()I"⟩, .sameMethod "MarkGuards$Kind" "java/lang/Enum" "ordinal" "()I", .selects "MarkGuards$Kind" ⟨"MarkGuards$Kind", "ordinal", "()I"⟩ (mY a.toNat), .instanceMethod (mY a.toNat), .initialized (mY a.toNat).cls, mcode a.toNat]
  | (89, _, b, _) => [.methodLink own b.toNat yL_block, .static yL_block, .initialized "MarkGuardsLaw", .codeWith yL_block cL_block 5 (some .int) [(0, 10, 13, 13), (0, 10, 17, 15)]]
  | (95, a, b, _) => [.classLink own b.toNat (clN a), .instantiable (clN a) (cnF a), .initialized (clN a)]
  | (96, 100, _) => [.arrayClass .int]
  | (96, 101, _) => [.arrayClass .long]
  | (96, 102, _) => [.arrayClass .boolean]
  | (97, 103, b, _) => [.classLink own b.toNat "MarkGuards$Kind"]
  | (97, 104, b, _) => [.classLink own b.toNat "MarkGuards$Run"]
  | _ => []
def wrdN (own : String) (x : IR) : List Cond := match x with
  | (83, a, b, _) => [.methodLinkNest own b.toNat (mY a.toNat) "MarkGuards"]
  | (84, a, b, _) => [.methodLinkNest own b.toNat (mY a.toNat) "MarkGuards"]
  | _ => []
def inTbl (hs : List Nat) (ws : List Cond) : Bool := decide (ws = hs.filterMap (fun i => lw_tbl[i]?))
/-- all that a method's rows must keep -/
def eOk (m : Nat) (h : List Nat) (e : Nat × List Nat × IR) : Bool := decide (decode (mC m) e.1 = .ok (insOf e.2.2 e.1)) &&
  (if e.2.2.1 < 60 then irOk (mY m).cls (decide ((mY m).name = "<init>")) e.2.2 && (inTbl h (wrd (mY m).cls e.2.2) && (wrd (mY m).cls e.2.2).all goodWord)
   else ctOk m e.1 e.2.2 && (inTbl h (wrdC (mY m).cls e.2.2 ++ wrdN (mY m).cls e.2.2) && (wrdC (mY m).cls e.2.2).all goodWord))
def mOk (m : Nat) : Bool := decide (mL m ≤ 40) && (plainName (mY m).cls && (((hns.getD m []).zip (tabs.getD m [])).all (fun q => eOk m q.1 q.2) && (decide ((hns.getD m []).length = (tabs.getD m []).length) && (goodWord (mcode m)))))
