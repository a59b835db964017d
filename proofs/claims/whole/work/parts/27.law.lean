/-! THE CLAIM OUT OF ONE WALK OF THE LAW'S BODY. Your part is whole_start (and what it stands on); all else here is the same for every law, but numbers. -/
def R_law : String := "MarkGuardsLaw"
def lw_P (b : Addr) (xs : List Int32) (args : Array Value) (s : State) : Prop := args = #[.ref b] ∧ s.IntsAt b xs ∧ xs.length ≤ 3072 ∧ (Jvm.Cond.and given_1 narrow_1).before args s = true
def lw_Q (_ : Array Value) (s : State) (o : Outcome) (t : State) : Prop := o = .returned (some (.int 1)) ∧ Framed s o t [] room_1.cells room_1.slots
def lw_Z (below : List Frame) (a : Array Value) (s : State) : State → Prop := fun t => ∃ o, t.status = .running ∧ Ended t below o ∧ lw_Q a s o t
/-- the law's own end, with 1 on the stack, nothing written that was there before, its room as the claim has it -/
theorem lw_ret {p : Program} {l : Launch} {e : Env} {s : State} {m : MethodId} {below : List Frame} {meth : Method} {c : Code} {b : Nat} (hx : p.tables.exec = Jvm.exec) (hb : c.code = code) (hr : meth.sig.returnType = ret) (hlocks : meth.locks = false) {pc : Nat} {H : Heap} {ls : Array Slot} (hdg : decode code pc = .ok (.ireturn, 1)) : W p l e room_1 s m #[Value.ref b] below meth c H [] room_1.cells room_1.slots (lw_Z below #[Value.ref b] s) (F0 m pc ls [.int 1]) := by
  intro T hT X
  obtain ⟨fs, hret, hrun, hended, hW, hframe⟩ := X.leave (v := some (.int 1)) (hlocks := hlocks) (fun h => by rw [hr] at h; cases h)
  have hmeth' : T.vm.method? m = some meth := X.method'
  refine ⟨T.setFrames fs, ?_, .returned (some (.int 1)), hrun, hended, rfl, ⟨_, rfl⟩, hW, hframe⟩
  jvm_step X.here [X.here.top, hx, hb, hdg, hmeth', hr, ret, narrow_b1]
  (try refine ⟨rfl, ?_⟩); (try refine ⟨rfl, ?_⟩)
  first | (intro acts; rw [hret _ acts rfl rfl rfl]) | rw [hret _ _ rfl rfl rfl]
  exact Steps.refl _
/-- what holds at the law's entry: the machine, the code, the tables' words (any of lw_tbl by 'hts w (by decide +kernel)'), the script of L ints xs at the cell b, what the Statement gives of the start (any of its parts by flat_of_before) -/
def lw_At (p : Program) (s : State) (m : MethodId) (meth : Method) (c : Code) (b L : Nat) (xs : Nat → Int32) : Prop :=
  p.tables.exec = Jvm.exec ∧ c.code = code ∧ meth.sig.returnType = ret ∧ c.maxLocals = 7 ∧ s.vm.findClass R_law = some m.cls ∧ (∀ w ∈ lw_tbl, w.before #[Value.ref b] s = true) ∧ va_X b L xs s s.heap ∧ b < s.heap.size ∧ meth.locks = false ∧ (Jvm.Cond.and given_1 narrow_1).before #[Value.ref b] s = true
/-! The law's run out of the machine of numbers -/
def lawI : Nat := mtab.length - 1
def xsI (L : Nat) (f : Nat → Int32) : Int → Int := fun i => if i = -1 then (L : Int) else (f i.toNat).toInt
def s_in (xs : Int → Int) : Stt := ((0, 0), XL0, XD0 xs)
theorem small_in {l : List Int} (h : l.all (fun x => decide (0 ≤ x) && decide (x < 2147483648)) = true) (i : Nat) : in32 (l.getD i 0) := by
  rw [List.getD_eq_getElem?_getD]
  cases h1 : l[i]? with
  | none => exact in0_32
  | some x =>
    have := List.all_eq_true.mp h x (List.mem_of_getElem? h1)
    simp only [Bool.and_eq_true, decide_eq_true_eq] at this
    simp only [Option.getD_some]
    unfold in32
    omega
theorem kV_in (b j : Nat) : in32 ((kV.getD b []).getD j 0) := by
  have h : kV.all (fun r => r.all (fun x => decide (0 ≤ x) && decide (x < 2147483648))) = true := by decide +kernel
  rw [List.getD_eq_getElem?_getD (l := kV)]
  cases h1 : kV[b]? with
  | none => simp only [Option.getD_none, List.getD_nil]; exact in0_32
  | some r =>
    simp only [Option.getD_some]
    exact small_in (List.all_eq_true.mp h r (List.mem_of_getElem? h1)) j
theorem okS_in {xs : Int → Int} (hx : ∀ i, in32 (xs i)) : okS XL0 (XD0 xs) (s_in xs) := by
  refine ⟨Int.le_refl _, fun a i => ?_, fun a h1 h2 => ?_, fun a h1 => ?_, fun a _ => ⟨rfl, fun _ => rfl⟩, fun a h1 => ?_⟩
  · show okV XL0 (tgk (XL0 a).1 i, XD0 xs a i)
    by_cases c1 : a = -1
    · subst c1
      exact okV.mi (hx i)
    · by_cases c2 : a = -50
      · subst c2
        show okV XL0 (2, if 0 ≤ i ∧ i < 38 then -(2 + i) else 0)
        split
        · rename_i q
          refine okV.mr (Or.inr ?_)
          unfold XL0
          rw [if_neg (by omega), if_neg (by omega), if_neg (by omega), if_neg (by omega), if_pos (by omega)]
          decide
        · exact okV.mr (Or.inl rfl)
      · by_cases c3 : a = -51
        · subst c3
          exact okV.mi (small_in (l := smap) (by decide +kernel) _)
        · by_cases c4 : a = -60
          · subst c4
            exact okV.mi (small_in (l := wbytes) (by decide +kernel) _)
          · by_cases c5 : -39 ≤ a ∧ a ≤ -2
            · have e1 : (XL0 a).1 = 203 := by
                unfold XL0
                rw [if_neg c1, if_neg c2, if_neg c3, if_neg c4, if_pos c5]
              have e2 : XD0 xs a i = (kV.getD i.toNat []).getD (-a - 2).toNat 0 := by
                unfold XD0
                rw [if_neg c1, if_neg c2, if_neg c3, if_neg c4, if_pos c5]
              rw [e1, e2]
              exact okV.mi (kV_in _ _)
            · have e2 : XD0 xs a i = 0 := by
                unfold XD0
                rw [if_neg c1, if_neg c2, if_neg c3, if_neg c4, if_neg c5]
              rw [e2]
              exact okV_0 _ _ _
  · have : a ≤ 0 := h2
    omega
  · show (XL0 a).1 = -1
    have : 0 < a := h1
    unfold XL0
    rw [if_neg (by omega), if_neg (by omega), if_neg (by omega), if_neg (by omega), if_neg (by omega)]
  · show (XL0 a).1 = -1 ∨ 200 ≤ (XL0 a).1
    unfold XL0
    split
    · right; simp
    · split
      · right; simp
      · split
        · right; simp
        · split
          · right; simp
          · split
            · right; simp
            · left; rfl
theorem xsI_in {L : Nat} {f : Nat → Int32} (hL : L ≤ 3072) : ∀ i, in32 (xsI L f i) := by
  intro i
  unfold xsI
  split
  · unfold in32; omega
  · exact toInt_in32 _
set_option maxRecDepth 100000 in
theorem lawC : mC lawI = code := rfl
set_option maxRecDepth 100000 in
theorem lawY : (mY lawI).cls = R_law := rfl
theorem law_start {p : Program} {s : State} {m : MethodId} {meth : Method} {c : Code} {b L : Nat} {f : Nat → Int32} (hL : L ≤ 3072) (C0 : lw_At p s m meth c b L f) :
    ∃ (G : va_G) (cA : Nat → ClassId) (adr : Int → Nat), adr (-1) = b ∧ Cx p s m #[Value.ref b] c (mC lawI) (mY lawI).cls G cA (fun q => s.heap.size ≤ q) adr (xsI L f) ∧ NW s := by
  obtain ⟨hx, hb, hr, hml, hown, hts, hX, hbl, hlocks, hgv⟩ := C0
  have hfl : ∀ w ∈ flN, w.before #[Value.ref b] s = true := flat_of_before _ hgv
  have hA : ∀ a : Nat, a < s.heap.size → ¬ (fun q => s.heap.size ≤ q) a := fun a ha => Nat.not_le.mpr ha
  obtain ⟨ad, hE, had⟩ := st_En (A := fun q => s.heap.size ≤ q) hts hfl hA
  obtain ⟨t1, t2, z1, y1, z2, y2⟩ := st_rows (A := fun q => s.heap.size ≤ q) hts hfl hA had
  obtain ⟨G, cA, hK⟩ := st_K hts
  obtain ⟨w1, w2, w3, w4, hw⟩ := st_strs (A := fun q => s.heap.size ≤ q) hts hfl hA
  let adr : Int → Nat := fun a => if a = -1 then b else if a = -50 then t1 else if a = -51 then t2 else if a = -60 then w1 else if a = -61 then w2 else if a = -62 then w3 else if a = -63 then w4 else ad (-a - 2).toNat
  have e1 : ∀ j : Nat, j < 38 → adr (-(2 + (j : Int))) = ad j := by
    intro j hj
    show (if -(2 + (j : Int)) = -1 then b else if -(2 + (j : Int)) = -50 then t1 else if -(2 + (j : Int)) = -51 then t2 else if -(2 + (j : Int)) = -60 then w1 else if -(2 + (j : Int)) = -61 then w2 else if -(2 + (j : Int)) = -62 then w3 else if -(2 + (j : Int)) = -63 then w4 else ad (-(-(2 + (j : Int))) - 2).toNat) = ad j
    rw [if_neg (by omega), if_neg (by omega), if_neg (by omega), if_neg (by omega), if_neg (by omega), if_neg (by omega), if_neg (by omega)]
    congr 1
    omega
  refine ⟨G, cA, adr, rfl, ⟨hx, by rw [lawC]; exact hb, by rw [lawY]; exact hown, fun w hw => hts w (List.mem_filter.mp hw).1, hK, ?_⟩, st_NW hts⟩
  refine ⟨⟨L, f, hX, hbl, hA b hbl, ?_, hL, fun i hi => ?_⟩, ⟨fun i hi => ?_, fun i j hi hj e => ?_⟩, z1, ?_, z2, y2, hw⟩
  · show xsI L f (-1) = L
    simp [xsI]
  · show f i = Int32.ofInt (xsI L f (i : Int))
    unfold xsI
    rw [if_neg (by omega), Int.toNat_natCast, Int32.ofInt_toInt]
  · have h9 := hE.1 i hi
    rw [kcs_len] at hi
    simp only [e1 i hi]
    exact h9
  · have h9 := hE.2 i j hi hj
    rw [kcs_len] at hi hj
    simp only [e1 i hi, e1 j hj] at e
    exact h9 e
  · obtain ⟨cell, g1, g2, g3, g4, g5, g6, g7⟩ := y1
    exact ⟨cell, g1, g2, g3, g4, g5, fun j hj => by simp only [e1 j hj]; exact g6 j hj, g7⟩
/-- the law's body comes to its end with true, if the machine of numbers does -/
theorem law_of {p : Program} {e : Env} {s : State} {m : MethodId} {below : List Frame} {meth : Method} {c : Code} (l : Launch) {b L : Nat} {f : Nat → Int32} (hL : L ≤ 3072) (C0 : lw_At p s m meth c b L f) {d : Nat} (hd : d + 1 ≤ 600) (hok : mOk lawI = true) (I : SndC l (xsI L f) d) (IX : SndX l (xsI L f) d) {s1 : Stt} (hden : den (d + 1) lawI [(2, -1)] (s_in (xsI L f)) = some ((0, 1), s1)) (h1 : s1.1.1 ≤ 100000) (h2 : s1.1.2 ≤ 100000) :
    W p l e room_1 s m #[Value.ref b] below meth c s.heap [] 0 0 (lw_Z below #[Value.ref b] s) (entryFrame m ([Value.ref b] : List Value).toArray 7) := by
  obtain ⟨G, cA, adr, hadr, C, hN⟩ := law_start hL C0
  obtain ⟨hx, hb, hr, hml, hown, hts, hX, hbl, hlocks, hgv⟩ := C0
  obtain ⟨n, hn⟩ := whl_ex hden
  have hargs : [Value.ref b] = ([((2, -1) : Vv)]).map (cV adr) := by
    show [Value.ref b] = [cV adr (2, -1)]
    rw [cV_ref (by decide), hadr]
  have eL : mL lawI = 7 := by decide +kernel
  rw [lg_entry_eq]
  have hl := lv_entry [Value.ref b] (n := 7) (by simp [lg_sl, Value.category])
  generalize (lg_sl [Value.ref b] ++ List.replicate (7 - (lg_sl [Value.ref b]).length) Slot.unset).toArray = ls at hl ⊢
  have hs := okS_in (xsI_in (f := f) hL)
  have hv : okV (s_in (xsI L f)).2.1 (2, -1) := okV.mr (Or.inr (by show (XL0 (-1)).1 ≠ -1; decide))
  rw [hargs] at hl
  have hl2 := ent_ok (L := (s_in (xsI L f)).2.1) (as := [(2, -1)]) (by decide) (fun w hw => by rw [List.mem_singleton.mp hw]; exact hv) hl
  have hw : wld cA adr (s_in (xsI L f)) = [] := rfl
  have hH : Hok G cA (fun q => s.heap.size ≤ q) adr (s_in (xsI L f)) s.heap s.heap [] := by
    refine ⟨?_, ?_, va_S.rf⟩
    · rw [hw]
      intro k q h
      simp at h
    · rw [hw]
      exact ⟨fun i j p q h => by simp at h, fun k q h => by simp at h⟩
  have key := run_all (p := p) (e := e) (R := room_1) (s0 := s) (m := m) (args := #[Value.ref b]) (below := below) (meth := meth) (c := c) (Q := lw_Z below #[Value.ref b] s) (G := G) (cA := cA) (A := fun q => s.heap.size ≤ q) hok I IX (by rw [eL]; exact hml) (fun h => absurd h (by decide +kernel)) hN (fun q h => h) (show 2 * (d + 1) + 8 ≤ 2048 by omega) (show 128 * (d + 1) + 512 ≤ 84000 by omega) (n0 := 0) (t0 := 0) (vF := (0, 1)) (sF := s1) (adr0 := adr) (LE := XL0) (Int.le_refl _) (Nat.le_trans (show (s1.1.1 - 0).toNat + (s1.1.2 - 0).toNat ≤ 200000 by omega) (Nat.le_of_ble_eq_true rfl)) (Nat.le_trans (show (s1.1.2 - 0).toNat ≤ 200000 by omega) (Nat.le_of_ble_eq_true rfl)) ?_ n 0 (padL (mL lawI) (mkL [(2, -1)])) [] (s_in (xsI L f)) adr s.heap [] ls hn C hs hH (by rw [eL]; exact hl2) (fun w h => by cases h) (Int.le_refl _) (Int.le_refl _) (fun _ _ => rfl) (fun _ _ => rfl)
  · exact key
  · intro pc lo st adr' H locs ls ks x ht hact hsF hHF hlF hstF hle1 hle2 ha hkind
    obtain ⟨hdc, -, -⟩ := tab_ok hok ht
    obtain ⟨-, hc⟩ := act_inr hact
    obtain ⟨k, a, b', z, t⟩ := x
    rcases hc with ⟨hk, w, rfl, hw2, -⟩ | ⟨hk, w, rfl, hw2⟩ | ⟨hk, w, rfl, hw2⟩ | ⟨hk, rfl, hw2⟩ | ⟨hk, -, hw2⟩
    · simp only at hk
      subst hk
      simp only [Prod.mk.injEq, true_and] at hw2
      subst hw2
      refine va_forget hHF.2.2.2.2 ?_
      refine W.widen (k := room_1.cells) (n := room_1.slots) (Nat.le_trans (show (s1.1.1 - 0).toNat + (s1.1.2 - 0).toNat ≤ 200000 by omega) (Nat.le_of_ble_eq_true rfl)) (Nat.le_trans (show (s1.1.2 - 0).toNat ≤ 200000 by omega) (Nat.le_of_ble_eq_true rfl)) ?_
      rw [lawC] at hdc
      exact lw_ret hx hb hr hlocks hdc
    · simp at hw2
    · simp at hw2
    · simp at hw2
    · simp at hw2
