/-! What was there before: the script, the constants, their row, the row of the switch; and the rules of the numbers of an instruction -/
def snm (a : Int) : String × String × String := if a = -50 then ("MarkGuards$Kind", "ALL", "[LMarkGuards$Kind;") else if a = -51 then ("MarkGuards$1", "$SwitchMap$MarkGuards$Kind", "[I") else ("MarkGuards$Kind", kcs.getD (-a - 2).toNat "", "LMarkGuards$Kind;")
def StX (A : Nat → Prop) (aS aV : Nat) (U : State) (H : Heap) : Prop :=
  va_O "java/lang/String" aS A U H ∧ va_OF "java/lang/String" "coder" "B" (.int 0) aS A U H ∧ va_OF "java/lang/String" "value" "[B" (.ref aV) aS A U H ∧ va_T .byte aV 106 (fun j => .int (Int32.ofInt (wbytes.getD j 0))) A U H ∧ va_Z "java/lang/String" "COMPACT_STRINGS" "Z" (.int 1) A U H ∧ va_Zq "jdk/internal/util/Preconditions" "SIOOBE_FORMATTER" "Ljava/util/function/BiFunction;" A U H
theorem StX.moved {A : Nat → Prop} {aS aV : Nat} {u U : State} {H : Heap} (hvm : u.vm.Alike U.vm) (h : StX A aS aV u H) : StX A aS aV U H := by
  obtain ⟨h1, h2, h3, h4, h5, h6⟩ := h
  exact ⟨h1.moved hvm, h2.moved hvm, h3.moved hvm, h4.moved hvm, h5.moved hvm, h6.imp (fun h => va_Z.moved hvm h) (fun ⟨t, h⟩ => ⟨t, va_Z.moved hvm h⟩)⟩
theorem StX.kept {A : Nat → Prop} {aS aV : Nat} {U : State} {H H1 : Heap} (h : StX A aS aV U H) (hq : ∀ a : Nat, a < H.size → ¬ A a → H1[a]? = H[a]?) : StX A aS aV U H1 := by
  obtain ⟨h1, h2, h3, h4, h5, h6⟩ := h
  exact ⟨h1.kept hq, h2.kept hq, h3.kept hq, h4.kept hq, h5.kept hq, h6.imp (fun h => va_Z.kept h hq) (fun ⟨t, h⟩ => ⟨t, va_Z.kept h hq⟩)⟩
def wtx : String := "block edge check base limit jump seed law out turn land or and not work visits mark place ways total step "
def Xf (A : Nat → Prop) (adr : Int → Nat) (xs : Int → Int) (U : State) (H : Heap) : Prop :=
  (∃ (n : Nat) (f : Nat → Int32), va_X (adr (-1)) n f U H ∧ adr (-1) < H.size ∧ ¬ A (adr (-1)) ∧ xs (-1) = n ∧ n ≤ 3072 ∧ ∀ i : Nat, i < n → f i = Int32.ofInt (xs i)) ∧
  va_En "MarkGuards$Kind" "LMarkGuards$Kind;" kcs kF (fun j => adr (-(2 + (j : Int)))) A U H ∧
  va_Z "MarkGuards$Kind" "ALL" "[LMarkGuards$Kind;" (.ref (adr (-50))) A U H ∧
  va_T (.object "MarkGuards$Kind") (adr (-50)) 38 (fun j => .ref (adr (-(2 + (j : Int))))) A U H ∧
  va_Z "MarkGuards$1" "$SwitchMap$MarkGuards$Kind" "[I" (.ref (adr (-51))) A U H ∧
  va_T .int (adr (-51)) 38 (fun j => .int (Int32.ofInt (smap.getD j 0))) A U H ∧
  StX A (adr (-60)) (adr (-61)) U H ∧ vk_R "MarkGuardsModel" 206 wtx (adr (-60)) U ∧ vk_R "MarkGuards" 130 "no such block" (adr (-62)) U ∧ vk_R "MarkGuards" 160 "no such what" (adr (-63)) U ∧
  vx_Zq Bundle.tN "UNASSIGNED_STACK" Bundle.steD A U H ∧ vx_Zq Bundle.tN "SUPPRESSED_SENTINEL" Bundle.listD A U H ∧ va_Nc "java/util/NoSuchElementException" "java/lang/IndexOutOfBoundsException" U
theorem kF_kV : ∀ b, b < 4 → ∀ j, j < 38 → (kF.getD b ("", "", "", [])).2.2.2.getD j 0 = Int32.ofInt ((kV.getD b []).getD j 0) := by decide +kernel
theorem kF_len : kF.length = 4 := by decide +kernel
theorem kcs_len : kcs.length = 38 := by decide +kernel
def irOk (own : String) (ini : Bool) (x : IR) : Bool := match x with
  | (0, a, _) => decide (-1 ≤ a) && decide (a ≤ 5)
  | (1, a, _) => decide (-128 ≤ a) && decide (a ≤ 127)
  | (2, a, _) => decide (-32768 ≤ a) && decide (a ≤ 32767)
  | (3, a, _) => decide (-2147483648 ≤ a) && decide (a < 2147483648)
  | (4, a, _) => decide (-2147483648 ≤ a) && decide (a < 2147483648)
  | (5, a, _) => decide (a = 0) || decide (a = 1)
  | (6, a, _) => decide (-9223372036854775808 ≤ a) && decide (a < 9223372036854775808)
  | (8, a, _) => decide (0 ≤ a) && decide (a < 4)
  | (10, a, _) => decide (0 ≤ a) && decide (a < 4)
  | (12, a, _) => decide (0 ≤ a) && decide (a < 4)
  | (14, a, _) => decide (0 ≤ a) && decide (a < 4)
  | (16, a, _) => decide (0 ≤ a) && decide (a < 4)
  | (18, a, _) => decide (0 ≤ a) && decide (a < 4)
  | (54, a, b, _) => decide (0 ≤ a) && (decide (a < 12) && (decide (0 ≤ b) && decide (b < nfl a)))
  | (55, a, b, _) => decide (0 ≤ a) && (decide (a < 12) && (decide (0 ≤ b) && (decide (b < nfl a) && !(fkey a b).2.2.2)))
  | (56, a, b, _) => decide (0 ≤ a) && (decide (a < 12) && (decide (0 ≤ b) && (decide (b < nfl a) && ((fkey a b).2.2.2 && (ini && decide ((fkey a b).1 = own))))))
  | (57, a, _) => decide (a = -50) || (decide (a = -51) || (decide (-39 ≤ a) && decide (a ≤ -2)))
  | (58, _, b, _) => decide (0 ≤ b) && decide (b < 4)
  | (59, a, b, _) => decide (own = "MarkGuardsModel") && (decide (a = -60) && decide (b = 206))
  | _ => true
/-- the words that an instruction needs -/
def wrd (own : String) (x : IR) : List Cond := match x with
  | (3, a, b, _) => [.constant own b.toNat (Int32.ofInt a)]
  | (4, a, b, _) => [.constant own b.toNat (Int32.ofInt a)]
  | (6, a, b, _) => [.constantLong own b.toNat (Int64.ofInt a)]
  | (54, a, b, c, _) => [.fieldLink own c.toNat (fkey a b).1 (fkey a b).2.1 (fkey a b).2.2.1]
  | (55, a, b, c, _) => [.fieldLink own c.toNat (fkey a b).1 (fkey a b).2.1 (fkey a b).2.2.1]
  | (56, a, b, c, _) => [.fieldLink own c.toNat (fkey a b).1 (fkey a b).2.1 (fkey a b).2.2.1]
  | (57, a, _, c, _) => [.fieldLink own c.toNat (snm a).1 (snm a).2.1 (snm a).2.2]
  | (58, _, b, c, _) => [.fieldLink own c.toNat (kF.getD b.toNat ("", "", "", [])).1 (kF.getD b.toNat ("", "", "", [])).2.1 (kF.getD b.toNat ("", "", "", [])).2.2.1]
  | _ => []
theorem b8_32 {a : Int} (h1 : -128 ≤ a) (h2 : a ≤ 127) : (Int8.ofInt a).toInt32 = Int32.ofInt a := by
  apply Int32.toInt_inj.mp
  rw [Int8.toInt_toInt32, Int8.toInt_ofInt_of_le (by omega) (by omega), t32]
  unfold in32
  omega
theorem b16_32 {a : Int} (h1 : -32768 ≤ a) (h2 : a ≤ 32767) : (Int16.ofInt a).toInt32 = Int32.ofInt a := by
  apply Int32.toInt_inj.mp
  rw [Int16.toInt_toInt32, Int16.toInt_ofInt_of_le (by omega) (by omega), t32]
  unfold in32
  omega
/-- what holds at a method's entry -/
def Cx (p : Program) (s0 : State) (m : MethodId) (args : Array Value) (c : Code) (cc : ByteArray) (own : String) (G : va_G) (cA : Nat → ClassId) (A : Nat → Prop) (adr : Int → Nat) (xs : Int → Int) : Prop :=
  p.tables.exec = Jvm.exec ∧ c.code = cc ∧ s0.vm.findClass own = some m.cls ∧ (∀ w ∈ lw_good, w.before args s0 = true) ∧ va_K G cls0 (tysA cA) s0 ∧ Xf A adr xs s0 s0.heap
theorem okV_up {L : Lay} {D : Sto} {a i v : Int} (f : Int → Int → Nat) (h : ∀ b j, okV L (f b j, D b j)) (hv : okV L (f a i, v)) : ∀ b j, okV L (f b j, up D a i v b j) := by
  intro b j
  unfold up
  by_cases q : b = a ∧ j = i
  · rw [if_pos q, q.1, q.2]
    exact hv
  · rw [if_neg q]
    exact h b j
theorem okS_up {XL : Lay} {XD : Sto} {s : Stt} {a i v : Int} (h : okS XL XD s) (ha : 0 < a) (hv : okV s.2.1 (tgk (kd s a) i, v)) : okS XL XD (s.1, s.2.1, up s.2.2 a i v) := by
  obtain ⟨h1, h2, h3, h4, h5, h6⟩ := h
  refine ⟨h1, okV_up (fun a i => tgk (kd s a) i) h2 hv, h3, h4, fun b hb => ⟨(h5 b hb).1, fun j => ?_⟩, h6⟩
  show up s.2.2 a i v b j = _
  unfold up
  rw [if_neg (by omega)]
  exact (h5 b hb).2 j
