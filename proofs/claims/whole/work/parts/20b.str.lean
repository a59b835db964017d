/-! The JDK's own members of a text: length, charAt, over the one text of the reference -/
def PcS (A : Nat → Prop) (aS aV : Nat) (as : List Value) : Array Value → State → Prop := fun a U => a = as.toArray ∧ StX A aS aV U U.heap
def QcS (v : Option Value) : Array Value → State → Outcome → State → Prop := fun _ st o t => o = .returned v ∧ t.heap = st.heap
def rmS (d : Nat) : Room := { frames := d, cells := 0, slots := 0, locals := 64 * d }
theorem gw {i : Nat} {w : Cond} (h : lw_tbl[i]? = some w) (h2 : goodWord w = true) : w ∈ lw_good := List.mem_filter.mpr ⟨List.mem_of_getElem? h, h2⟩
theorem blind_PcS {A : Nat → Prop} {aS aV : Nat} {as : List Value} : FrameBlind (PcS A aS aV as) := by
  intro a U g mk ⟨h1, h2⟩
  exact ⟨h1, StX.moved (u := U) (U := U.calling g mk a) (Vm.Alike.refl U.vm) h2⟩
theorem sg_len : Cond.code yJ0_length_8abf5 cJ0_length_8abf5 1 (some .int) ∈ lw_good := gw (i := 1795) (by decide +kernel) (by decide +kernel)
theorem sg_cod : Cond.code yJ0_coder_7d493 cJ0_coder_7d493 1 (some .byte) ∈ lw_good := gw (i := 1799) (by decide +kernel) (by decide +kernel)
theorem sg_chr : Cond.code yJ0_charAt_5068e cJ0_charAt_5068e 2 (some .char) ∈ lw_good := gw (i := 1805) (by decide +kernel) (by decide +kernel)
theorem sg_lat : Cond.code yJ0_isLatin1_aae02 cJ0_isLatin1_aae02 1 (some .boolean) ∈ lw_good := gw (i := 1809) (by decide +kernel) (by decide +kernel)
theorem sg_chl : Cond.code yJ1_charAt_3b067 cJ1_charAt_3b067 2 (some .char) ∈ lw_good := gw (i := 1812) (by decide +kernel) (by decide +kernel)
theorem sg_ix : Cond.code yJ0_checkIndex_df160 cJ0_checkIndex_df160 2 none ∈ lw_good := gw (i := 1815) (by decide +kernel) (by decide +kernel)
theorem sg_ix3 : Cond.code yJ3_checkIndex_8e157 cJ3_checkIndex_8e157 3 (some .int) ∈ lw_good := gw (i := 1820) (by decide +kernel) (by decide +kernel)
theorem sg_i0 : Cond.initialized "java/lang/String" ∈ lw_good := gw (i := 148) (by decide +kernel) (by decide +kernel)
theorem sg_i1 : Cond.initialized "java/lang/StringLatin1" ∈ lw_good := gw (i := 149) (by decide +kernel) (by decide +kernel)
theorem sg_i3 : Cond.initialized "jdk/internal/util/Preconditions" ∈ lw_good := gw (i := 150) (by decide +kernel) (by decide +kernel)
theorem sg_fc : Cond.fieldLink "java/lang/String" 38 "java/lang/String" "COMPACT_STRINGS" "Z" ∈ lw_good := gw (i := 1800) (by decide +kernel) (by decide +kernel)
theorem sg_ff : Cond.fieldLink "java/lang/String" 1053 "jdk/internal/util/Preconditions" "SIOOBE_FORMATTER" "Ljava/util/function/BiFunction;" ∈ lw_good := gw (i := 1816) (by decide +kernel) (by decide +kernel)
theorem sg_fv : Cond.fieldLink "java/lang/String" 9 "java/lang/String" "value" "[B" ∈ lw_good := gw (i := 2362) (by decide +kernel) (by decide +kernel)
theorem sg_fo : Cond.fieldLink "java/lang/String" 15 "java/lang/String" "coder" "B" ∈ lw_good := gw (i := 2363) (by decide +kernel) (by decide +kernel)
/-- words of a call of a method of an object of the same name -/
theorem sg_V {own : String} {idx k : Nat} {y : MethodName} {c : ByteArray} {n : Nat} {r : Option FieldType} (h1 : lw_tbl[k]? = some (.methodLink own idx y)) (h2 : lw_tbl[k + 1]? = some (.instanceMethod y)) (h3 : lw_tbl[k + 2]? = some (.selects y.cls y y)) (h5 : Cond.initialized y.cls ∈ lw_good) (h4 : Cond.code y c n r ∈ lw_good) (g1 : goodWord (.methodLink own idx y) = true) (g2 : goodWord (.instanceMethod y) = true) (g3 : goodWord (.selects y.cls y y) = true) : ∀ w ∈ wsV own idx y.cls y (.code y c n r :: lw_good), w ∈ lw_good := by
  intro w hw
  have a1 := gw h1 g1
  have a2 := gw h2 g2
  have a3 := gw h3 g3
  simp only [wsV, List.cons_append, List.nil_append, List.mem_cons] at hw
  rcases hw with rfl | rfl | rfl | rfl | rfl | h <;> assumption
theorem sg_S {own : String} {idx k : Nat} {y : MethodName} {c : ByteArray} {n : Nat} {r : Option FieldType} (h1 : lw_tbl[k]? = some (.methodLink own idx y)) (h2 : lw_tbl[k + 1]? = some (.static y)) (h5 : Cond.initialized y.cls ∈ lw_good) (h4 : Cond.code y c n r ∈ lw_good) (g1 : goodWord (.methodLink own idx y) = true) (g2 : goodWord (.static y) = true) : ∀ w ∈ va_wsS own idx y (.code y c n r :: lw_good), w ∈ lw_good := by
  intro w hw
  have a1 := gw h1 g1
  have a2 := gw h2 g2
  simp only [va_wsS, List.cons_append, List.nil_append, List.mem_cons] at hw
  rcases hw with rfl | rfl | rfl | rfl | h <;> assumption
/-- behind a call that changes nothing -/
theorem dm_pure {p : Program} {l : Launch} {e : Env} {R : Room} {s0 : State} {m : MethodId} {args : Array Value} {below : List Frame} {meth : Method} {c : Code} {Q : State → Prop} {H : Heap} {locs : List Loc} {cells slots pc : Nat} {ls : Array Slot} {st0 rest : List Value} {a : Array Value} {v : Option Value} (hr : va_Run p l e R s0 m args below meth c H locs cells slots 0 0 (F0 m pc ls st0) rest (QcS v a) (fun _ => False))
    (kk : W p l e R s0 m args below meth c H locs cells slots Q (F0 m (pc + 3) ls (v.toList ++ rest))) : W p l e R s0 m args below meth c H locs cells slots Q (F0 m pc ls st0) := by
  intro T hT X
  obtain ⟨v', st₀, t, T', L, h0, X', hL, e1, e2, ⟨hv, hh⟩, stp⟩ := hr T hT X
  cases hv
  have hL0 : L = [] := by
    cases L with
    | nil => rfl
    | cons q L => exact absurd (hL q List.mem_cons_self) id
  subst hL0
  rw [List.append_nil] at X'
  obtain ⟨t2, a1, b1⟩ := kk T' (by rw [e1, hh, h0]) X'
  exact ⟨t2, stp t2 a1, b1⟩
section STR
variable {l : Launch} {A : Nat → Prop} {aS aV : Nat}
theorem st_coder : Met l yJ0_coder_7d493 (.code yJ0_coder_7d493 cJ0_coder_7d493 1 (some .byte) :: lw_good) (rmS 1) (PcS A aS aV [.ref aS]) (QcS (some (.int 0))) 0 0 (fun _ => False) := by
  refine Met.ofW (cc := cJ0_coder_7d493) (maxL := 1) (ret := some .byte) (by decide) rfl ?_
  intro p e s0 mm args below meth c s₁ B hml hv
  obtain ⟨rfl, hX⟩ := hv
  have hts := atoms_spec (ws := Cond.code yJ0_coder_7d493 cJ0_coder_7d493 1 (some .byte) :: lw_good) B.pre
  have hg := fun w (h : w ∈ lw_good) => hts w (List.mem_cons_of_mem _ h)
  have hown : s0.vm.findClass "java/lang/String" = some mm.cls := findClass_of_methodNamed B.named
  have hx := B.exec
  have hb := B.bytes
  have hr := B.returns
  have hlocks := B.notSynchronized
  rw [lg_entry_eq]
  have hl := lv_entry ([.ref aS]) (n := 1) (Nat.le_of_ble_eq_true rfl)
  generalize (lg_sl [Value.ref aS] ++ List.replicate (1 - (lg_sl [Value.ref aS]).length) Slot.unset).toArray = ls at hl ⊢
  refine va_gets hx hb hX.2.2.2.2.1 va_S.rf hown (hg _ sg_fc) (fun x h => h) (by decide +kernel) ?_
  refine lv_if_eq hx hb (off := 10) (tgt := 13) (by decide +kernel) rfl (fun q => absurd q (by decide)) (fun _ => ?_)
  refine lv_aload_n (k := 0) hx hb (by decide +kernel) rfl (lv_at hl 0 rfl) ?_
  refine vk_getf hx hb hX.2.1 va_S.rf hown (hg _ sg_fo) (fun x h => h) (by decide +kernel) ?_
  refine lv_goto hx hb (off := 4) (tgt := 14) (by decide +kernel) rfl ?_
  exact W.zret (v := 0) (ty := .byte) hx hb hr rfl (fun t ht hW => ⟨rfl, ht⟩) (fun q h => by cases h) (by decide +kernel)
theorem st_latin : Met l yJ0_isLatin1_aae02 (.code yJ0_isLatin1_aae02 cJ0_isLatin1_aae02 1 (some .boolean) :: lw_good) (rmS 1) (PcS A aS aV [.ref aS]) (QcS (some (.int 1))) 0 0 (fun _ => False) := by
  refine Met.ofW (cc := cJ0_isLatin1_aae02) (maxL := 1) (ret := some .boolean) (by decide) rfl ?_
  intro p e s0 mm args below meth c s₁ B hml hv
  obtain ⟨rfl, hX⟩ := hv
  have hts := atoms_spec (ws := Cond.code yJ0_isLatin1_aae02 cJ0_isLatin1_aae02 1 (some .boolean) :: lw_good) B.pre
  have hg := fun w (h : w ∈ lw_good) => hts w (List.mem_cons_of_mem _ h)
  have hown : s0.vm.findClass "java/lang/String" = some mm.cls := findClass_of_methodNamed B.named
  have hx := B.exec
  have hb := B.bytes
  have hr := B.returns
  have hlocks := B.notSynchronized
  rw [lg_entry_eq]
  have hl := lv_entry ([.ref aS]) (n := 1) (Nat.le_of_ble_eq_true rfl)
  generalize (lg_sl [Value.ref aS] ++ List.replicate (1 - (lg_sl [Value.ref aS]).length) Slot.unset).toArray = ls at hl ⊢
  refine va_gets hx hb hX.2.2.2.2.1 va_S.rf hown (hg _ sg_fc) (fun x h => h) (by decide +kernel) ?_
  refine lv_if_eq hx hb (off := 14) (tgt := 17) (by decide +kernel) rfl (fun q => absurd q (by decide)) (fun _ => ?_)
  refine lv_aload_n (k := 0) hx hb (by decide +kernel) rfl (lv_at hl 0 rfl) ?_
  refine vk_getf hx hb hX.2.1 va_S.rf hown (hg _ sg_fo) (fun x h => h) (by decide +kernel) ?_
  refine lv_if_ne hx hb (off := 7) (tgt := 17) (by decide +kernel) rfl (fun q => absurd rfl q) (fun _ => ?_)
  refine lv_iconst (n := 1) (v := 1) hx hb (by decide +kernel) (by decide) ?_
  refine lv_goto hx hb (off := 4) (tgt := 18) (by decide +kernel) rfl ?_
  exact W.zret (v := 1) (ty := .boolean) hx hb hr rfl (fun t ht hW => ⟨rfl, ht⟩) (fun q h => by cases h) (by decide +kernel)
theorem st_ix3 {i n : Int32} {f : Value} (h0 : ¬ i < 0) (h1 : i < n) (hf : f = .null ∨ ∃ t, f = .ref t) : Met l yJ3_checkIndex_8e157 (.code yJ3_checkIndex_8e157 cJ3_checkIndex_8e157 3 (some .int) :: lw_good) (rmS 1) (PcS A aS aV [.int i, .int n, f]) (QcS (some (.int i))) 0 0 (fun _ => False) := by
  refine Met.ofW (cc := cJ3_checkIndex_8e157) (maxL := 3) (ret := some .int) (by decide) rfl ?_
  intro p e s0 mm args below meth c s₁ B hml hv
  obtain ⟨rfl, hX⟩ := hv
  have hx := B.exec
  have hb := B.bytes
  have hr := B.returns
  have hlocks := B.notSynchronized
  rw [lg_entry_eq]
  have hl : lv_has (lg_sl [Value.int i, Value.int n, f] ++ List.replicate (3 - (lg_sl [Value.int i, Value.int n, f]).length) Slot.unset).toArray 3 (lv_args 0 [Value.int i, Value.int n, f]) := lv_entry ([.int i, .int n, f]) (n := 3) (by rcases hf with rfl | ⟨t, rfl⟩ <;> exact Nat.le_of_ble_eq_true rfl)
  generalize (lg_sl [Value.int i, Value.int n, f] ++ List.replicate (3 - (lg_sl [Value.int i, Value.int n, f]).length) Slot.unset).toArray = ls at hl ⊢
  refine lv_iload_n (k := 0) hx hb (by decide +kernel) rfl (lv_at hl 0 rfl) ?_
  refine lv_if_lt hx hb (off := 8) (tgt := 9) (by decide +kernel) rfl (fun q => absurd q h0) (fun _ => ?_)
  refine lv_iload_n (k := 0) hx hb (by decide +kernel) rfl (lv_at hl 0 rfl) ?_
  refine lv_iload_n (k := 1) hx hb (by decide +kernel) rfl (lv_at hl 1 rfl) ?_
  refine lv_icmp_lt hx hb (off := 10) (tgt := 16) (by decide +kernel) rfl (fun _ => ?_) (fun q => absurd h1 q)
  refine lv_iload_n (k := 0) hx hb (by decide +kernel) rfl (lv_at hl 0 rfl) ?_
  exact W.iret (v := i) hx hb hr (fun t ht hW => ⟨rfl, ht⟩) (fun q h => by cases h) (by decide +kernel)
theorem st_ix {i n : Int32} (h0 : ¬ i < 0) (h1 : i < n) : Met l yJ0_checkIndex_df160 (.code yJ0_checkIndex_df160 cJ0_checkIndex_df160 2 none :: lw_good) (rmS 2) (PcS A aS aV [.int i, .int n]) (QcS none) 0 0 (fun _ => False) := by
  refine Met.ofW (cc := cJ0_checkIndex_df160) (maxL := 2) (ret := none) (by decide) rfl ?_
  intro p e s0 mm args below meth c s₁ B hml hv
  obtain ⟨rfl, hX⟩ := hv
  have hts := atoms_spec (ws := Cond.code yJ0_checkIndex_df160 cJ0_checkIndex_df160 2 none :: lw_good) B.pre
  have hg := fun w (h : w ∈ lw_good) => hts w (List.mem_cons_of_mem _ h)
  have hown : s0.vm.findClass "java/lang/String" = some mm.cls := findClass_of_methodNamed B.named
  have hx := B.exec
  have hb := B.bytes
  have hr := B.returns
  have hlocks := B.notSynchronized
  rw [lg_entry_eq]
  have hl := lv_entry ([.int i, .int n]) (n := 2) (Nat.le_of_ble_eq_true rfl)
  generalize (lg_sl [Value.int i, Value.int n] ++ List.replicate (2 - (lg_sl [Value.int i, Value.int n]).length) Slot.unset).toArray = ls at hl ⊢
  refine lv_iload_n (k := 0) hx hb (by decide +kernel) rfl (lv_at hl 0 rfl) ?_
  refine lv_iload_n (k := 1) hx hb (by decide +kernel) rfl (lv_at hl 1 rfl) ?_
  have key : ∀ f : Value, (f = .null ∨ ∃ t, f = .ref t) → W p l e (headSpec (Cond.code yJ0_checkIndex_df160 cJ0_checkIndex_df160 2 none :: lw_good) (rmS 2)).room s0 mm [Value.int i, Value.int n].toArray below meth c s0.heap [] 0 0 (MQ below (QcS none) [Value.int i, Value.int n].toArray s0 0 0 (fun _ => False)) (F0 mm 5 ls [f, .int n, .int i]) := by
    intro f hf
    refine dm_pure (va_runS (As := [.int i, .int n, f]) (rest := []) (Ts := lw_good) ⟨hx, hb, hml, hown, hg⟩ (st_ix3 (A := A) (aS := aS) (aV := aV) h0 h1 hf) (va_cwS 3 hg (goodIn_lw (sg_S (k := 1818) (own := "java/lang/String") (idx := 1059) (by decide +kernel) (by decide +kernel) sg_i3 sg_ix3 (by decide +kernel) (by decide +kernel))) rfl rfl rfl (by decide +kernel) ⟨Nat.le_refl _, Nat.le_of_ble_eq_true rfl⟩) ⟨blind_PcS, fun U hU hW => ⟨rfl, by rw [hU]; exact hX.moved hW.alike⟩⟩ rfl rfl hl.1 rfl (by simp) (show decode cJ0_checkIndex_df160 5 = .ok (.invokestatic 1059, 3) by decide +kernel) ⟨Nat.le_refl _, Nat.le_refl _⟩) ?_
    refine lv_pop hx hb (by decide +kernel) rfl ?_
    exact W.vret hx hb hr (fun t ht hW => ⟨rfl, ht⟩) (fun q h => by cases h) (by decide +kernel)
  rcases hX.2.2.2.2.2 with hz | ⟨t, hz⟩
  · refine va_gets hx hb hz va_S.rf hown (hg _ sg_ff) (fun x h => h) (by decide +kernel) (key .null (Or.inl rfl))
  · refine va_gets hx hb hz va_S.rf hown (hg _ sg_ff) (fun x h => h) (by decide +kernel) (key (.ref t) (Or.inr ⟨t, rfl⟩))
theorem wb_ch : ∀ j, j < 106 → ((((Int32.ofInt (wbytes.getD j 0)) &&& 255).toUInt32 % 65536).toInt32 = Int32.ofInt (wbytes.getD j 0)) ∧ narrow .char (.int (Int32.ofInt (wbytes.getD j 0))) = .int (Int32.ofInt (wbytes.getD j 0)) := by decide +kernel
theorem st_chl {i : Int32} (h0 : ¬ i < 0) (h1 : i < 106) (hk : vp_in i 106) : Met l yJ1_charAt_3b067 (.code yJ1_charAt_3b067 cJ1_charAt_3b067 2 (some .char) :: lw_good) (rmS 3) (PcS A aS aV [.ref aV, .int i]) (QcS (some (.int (Int32.ofInt (wbytes.getD i.toNatClampNeg 0))))) 0 0 (fun _ => False) := by
  refine Met.ofW (cc := cJ1_charAt_3b067) (maxL := 2) (ret := some .char) (by decide) rfl ?_
  intro p e s0 mm args below meth c s₁ B hml hv
  obtain ⟨rfl, hX⟩ := hv
  have hts := atoms_spec (ws := Cond.code yJ1_charAt_3b067 cJ1_charAt_3b067 2 (some .char) :: lw_good) B.pre
  have hg := fun w (h : w ∈ lw_good) => hts w (List.mem_cons_of_mem _ h)
  have hown : s0.vm.findClass "java/lang/StringLatin1" = some mm.cls := findClass_of_methodNamed B.named
  have hx := B.exec
  have hb := B.bytes
  have hr := B.returns
  have hlocks := B.notSynchronized
  have hlt : i.toNatClampNeg < 106 := by
    have h2 := Int32.lt_iff_toInt_lt.mp h1
    have : ((106 : Int32)).toInt = 106 := by decide
    rw [this] at h2
    show i.toInt.toNat < 106
    omega
  obtain ⟨b1, b2⟩ := wb_ch _ hlt
  rw [lg_entry_eq]
  have hl := lv_entry ([.ref aV, .int i]) (n := 2) (Nat.le_of_ble_eq_true rfl)
  generalize (lg_sl [Value.ref aV, Value.int i] ++ List.replicate (2 - (lg_sl [Value.ref aV, Value.int i]).length) Slot.unset).toArray = ls at hl ⊢
  refine lv_iload_n (k := 1) hx hb (by decide +kernel) rfl (lv_at hl 1 rfl) ?_
  refine lv_aload_n (k := 0) hx hb (by decide +kernel) rfl (lv_at hl 0 rfl) ?_
  refine va_tlen (v := 106) hx hb hX.2.2.2.1 va_S.rf (by decide) (by decide +kernel) ?_
  refine dm_pure (va_runS (As := [.int i, .int 106]) (rest := []) (Ts := lw_good) ⟨hx, hb, hml, hown, hg⟩ (st_ix (A := A) (aS := aS) (aV := aV) h0 h1) (va_cwS 2 hg (goodIn_lw (sg_S (k := 1813) (own := "java/lang/StringLatin1") (idx := 9) (by decide +kernel) (by decide +kernel) sg_i0 sg_ix (by decide +kernel) (by decide +kernel))) rfl rfl rfl (by decide +kernel) ⟨Nat.le_refl _, Nat.le_of_ble_eq_true rfl⟩) ⟨blind_PcS, fun U hU hW => ⟨rfl, by rw [hU]; exact hX.moved hW.alike⟩⟩ rfl rfl hl.1 rfl (by simp) (show decode cJ1_charAt_3b067 3 = .ok (.invokestatic 9, 3) by decide +kernel) ⟨Nat.le_refl _, Nat.le_refl _⟩) ?_
  refine lv_aload_n (k := 0) hx hb (by decide +kernel) rfl (lv_at hl 0 rfl) ?_
  refine lv_iload_n (k := 1) hx hb (by decide +kernel) rfl (lv_at hl 1 rfl) ?_
  refine va_tb hx hb hX.2.2.2.1 va_S.rf hk rfl (by decide +kernel) ?_
  refine lv_sipush (n := 255) (v := 255) hx hb (by decide +kernel) (by decide) ?_
  refine lv_iand hx hb (by decide +kernel) ?_
  refine lv_i2c hx hb (by decide +kernel) b1 ?_
  exact W.zret (ty := .char) hx hb hr b2 (fun t ht hW => ⟨rfl, ht⟩) (fun q h => by cases h) (by decide +kernel)
theorem st_len : Met l yJ0_length_8abf5 (.code yJ0_length_8abf5 cJ0_length_8abf5 1 (some .int) :: lw_good) (rmS 2) (PcS A aS aV [.ref aS]) (QcS (some (.int 106))) 0 0 (fun _ => False) := by
  refine Met.ofW (cc := cJ0_length_8abf5) (maxL := 1) (ret := some .int) (by decide) rfl ?_
  intro p e s0 mm args below meth c s₁ B hml hv
  obtain ⟨rfl, hX⟩ := hv
  have hts := atoms_spec (ws := Cond.code yJ0_length_8abf5 cJ0_length_8abf5 1 (some .int) :: lw_good) B.pre
  have hg := fun w (h : w ∈ lw_good) => hts w (List.mem_cons_of_mem _ h)
  have hown : s0.vm.findClass "java/lang/String" = some mm.cls := findClass_of_methodNamed B.named
  have hx := B.exec
  have hb := B.bytes
  have hr := B.returns
  have hlocks := B.notSynchronized
  rw [lg_entry_eq]
  have hl := lv_entry ([.ref aS]) (n := 1) (Nat.le_of_ble_eq_true rfl)
  generalize (lg_sl [Value.ref aS] ++ List.replicate (1 - (lg_sl [Value.ref aS]).length) Slot.unset).toArray = ls at hl ⊢
  refine lv_aload_n (k := 0) hx hb (by decide +kernel) rfl (lv_at hl 0 rfl) ?_
  refine vk_getf hx hb hX.2.2.1 va_S.rf hown (hg _ sg_fv) (fun x h => h) (by decide +kernel) ?_
  refine va_tlen (v := 106) hx hb hX.2.2.2.1 va_S.rf (by decide) (by decide +kernel) ?_
  refine lv_aload_n (k := 0) hx hb (by decide +kernel) rfl (lv_at hl 0 rfl) ?_
  refine dm_pure (va_runV (b := aS) (As := []) (rest := [.int 106]) (Ts := lw_good) ⟨hx, hb, hml, hown, hg⟩ (st_coder (A := A) (aS := aS) (aV := aV)) (cwV (C := "java/lang/String") 0 hg (goodIn_lw (sg_V (k := 1796) (own := "java/lang/String") (idx := 335) (y := yJ0_coder_7d493) (by decide +kernel) (by decide +kernel) (by decide +kernel) sg_i0 sg_cod (by decide +kernel) (by decide +kernel) (by decide +kernel))) rfl rfl rfl (by decide +kernel) ⟨Nat.le_refl _, Nat.le_of_ble_eq_true rfl⟩) ⟨blind_PcS, va_Orecv hX.1 va_S.rf, fun U hU hW => ⟨rfl, by rw [hU]; exact hX.moved hW.alike⟩⟩ rfl rfl hl.1 rfl (Nat.le_of_ble_eq_true rfl) (show decode cJ0_length_8abf5 6 = .ok (.invokevirtual 335, 3) by decide +kernel) ⟨Nat.le_refl _, Nat.le_refl _⟩) ?_
  refine lv_ishr hx hb (by decide +kernel) ?_
  exact W.iret (v := 106) hx hb hr (fun t ht hW => ⟨rfl, ht⟩) (fun q h => by cases h) (by decide +kernel)
theorem st_chr {i : Int32} (h0 : ¬ i < 0) (h1 : i < 106) (hk : vp_in i 106) : Met l yJ0_charAt_5068e (.code yJ0_charAt_5068e cJ0_charAt_5068e 2 (some .char) :: lw_good) (rmS 4) (PcS A aS aV [.ref aS, .int i]) (QcS (some (.int (Int32.ofInt (wbytes.getD i.toNatClampNeg 0))))) 0 0 (fun _ => False) := by
  refine Met.ofW (cc := cJ0_charAt_5068e) (maxL := 2) (ret := some .char) (by decide) rfl ?_
  intro p e s0 mm args below meth c s₁ B hml hv
  obtain ⟨rfl, hX⟩ := hv
  have hts := atoms_spec (ws := Cond.code yJ0_charAt_5068e cJ0_charAt_5068e 2 (some .char) :: lw_good) B.pre
  have hg := fun w (h : w ∈ lw_good) => hts w (List.mem_cons_of_mem _ h)
  have hown : s0.vm.findClass "java/lang/String" = some mm.cls := findClass_of_methodNamed B.named
  have hx := B.exec
  have hb := B.bytes
  have hr := B.returns
  have hlocks := B.notSynchronized
  have hlt : i.toNatClampNeg < 106 := by
    have h2 := Int32.lt_iff_toInt_lt.mp h1
    have : ((106 : Int32)).toInt = 106 := by decide
    rw [this] at h2
    show i.toInt.toNat < 106
    omega
  obtain ⟨b1, b2⟩ := wb_ch _ hlt
  rw [lg_entry_eq]
  have hl := lv_entry ([.ref aS, .int i]) (n := 2) (Nat.le_of_ble_eq_true rfl)
  generalize (lg_sl [Value.ref aS, Value.int i] ++ List.replicate (2 - (lg_sl [Value.ref aS, Value.int i]).length) Slot.unset).toArray = ls at hl ⊢
  refine lv_aload_n (k := 0) hx hb (by decide +kernel) rfl (lv_at hl 0 rfl) ?_
  refine dm_pure (va_runV (b := aS) (As := []) (rest := []) (Ts := lw_good) ⟨hx, hb, hml, hown, hg⟩ (st_latin (A := A) (aS := aS) (aV := aV)) (cwV (C := "java/lang/String") 0 hg (goodIn_lw (sg_V (k := 1806) (own := "java/lang/String") (idx := 492) (y := yJ0_isLatin1_aae02) (by decide +kernel) (by decide +kernel) (by decide +kernel) sg_i0 sg_lat (by decide +kernel) (by decide +kernel) (by decide +kernel))) rfl rfl rfl (by decide +kernel) ⟨Nat.le_of_ble_eq_true rfl, Nat.le_of_ble_eq_true rfl⟩) ⟨blind_PcS, va_Orecv hX.1 va_S.rf, fun U hU hW => ⟨rfl, by rw [hU]; exact hX.moved hW.alike⟩⟩ rfl rfl hl.1 rfl (Nat.le_of_ble_eq_true rfl) (show decode cJ0_charAt_5068e 1 = .ok (.invokevirtual 492, 3) by decide +kernel) ⟨Nat.le_refl _, Nat.le_refl _⟩) ?_
  refine lv_if_eq hx hb (off := 12) (tgt := 16) (by decide +kernel) rfl (fun q => absurd q (by decide)) (fun _ => ?_)
  refine lv_aload_n (k := 0) hx hb (by decide +kernel) rfl (lv_at hl 0 rfl) ?_
  refine vk_getf hx hb hX.2.2.1 va_S.rf hown (hg _ sg_fv) (fun x h => h) (by decide +kernel) ?_
  refine lv_iload_n (k := 1) hx hb (by decide +kernel) rfl (lv_at hl 1 rfl) ?_
  refine dm_pure (va_runS (As := [.ref aV, .int i]) (rest := []) (Ts := lw_good) ⟨hx, hb, hml, hown, hg⟩ (st_chl (A := A) (aS := aS) (aV := aV) h0 h1 hk) (va_cwS 2 hg (goodIn_lw (sg_S (k := 1810) (own := "java/lang/String") (idx := 495) (by decide +kernel) (by decide +kernel) sg_i1 sg_chl (by decide +kernel) (by decide +kernel))) rfl rfl rfl (by decide +kernel) ⟨Nat.le_refl _, Nat.le_of_ble_eq_true rfl⟩) ⟨blind_PcS, fun U hU hW => ⟨rfl, by rw [hU]; exact hX.moved hW.alike⟩⟩ rfl rfl hl.1 rfl (by simp) (show decode cJ0_charAt_5068e 12 = .ok (.invokestatic 495, 3) by decide +kernel) ⟨Nat.le_refl _, Nat.le_refl _⟩) ?_
  exact W.zret (ty := .char) hx hb hr b2 (fun t ht hW => ⟨rfl, ht⟩) (fun q h => by cases h) (by decide +kernel)
end STR
