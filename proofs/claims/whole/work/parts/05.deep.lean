def w32 (z : Int) : Int := (z + 2147483648) % 4294967296 - 2147483648
def w64 (z : Int) : Int := (z + 9223372036854775808) % 18446744073709551616 - 9223372036854775808
def in32 (z : Int) : Prop := -2147483648 ≤ z ∧ z < 2147483648
def in64 (z : Int) : Prop := -9223372036854775808 ≤ z ∧ z < 9223372036854775808
def i_and (x y : Int) : Int := (Int32.ofInt x &&& Int32.ofInt y).toInt
def i_or (x y : Int) : Int := (Int32.ofInt x ||| Int32.ofInt y).toInt
def i_xor (x y : Int) : Int := (Int32.ofInt x ^^^ Int32.ofInt y).toInt
def i_shl (x y : Int) : Int := (Int32.ofInt x <<< (Int32.ofInt y &&& 31)).toInt
def i_shr (x y : Int) : Int := (Int32.ofInt x >>> (Int32.ofInt y &&& 31)).toInt
def i_ushr (x y : Int) : Int := ((Int32.ofInt x).toUInt32 >>> ((Int32.ofInt y).toUInt32 &&& Int32.toUInt32 31)).toInt32.toInt
def l_and (x y : Int) : Int := (Int64.ofInt x &&& Int64.ofInt y).toInt
def l_xor (x y : Int) : Int := (Int64.ofInt x ^^^ Int64.ofInt y).toInt
def l_cmp (x y : Int) : Int := if x < y then -1 else if x = y then 0 else 1
def up (D : Sto) (a i v : Int) : Sto := fun b j => if b = a ∧ j = i then v else D b j
def lget (lo : Lcs) (i : Int) : Option Vv := (lo[i.toNat]?).getD none
/-- the slot ahead, where a long lies in it, is lost -/
def lcut (lo : Lcs) (i : Nat) : Lcs := match i with
  | 0 => lo
  | j + 1 => match lo[j]? with
    | some (some (1, _)) => lo.set j none
    | _ => lo
def lset (lo : Lcs) (i : Int) (v : Vv) : Lcs := match v.1 with
  | 1 => ((lcut lo i.toNat).set i.toNat (some v)).set (i.toNat + 1) none
  | _ => (lcut lo i.toNat).set i.toNat (some v)
def kil : List Nat → Lcs → Lcs
  | [], lo => lo
  | j :: js, lo => kil js (lo.set j none)
def bad (c : C4) : C4 := (c.1, c.2.1, c.2.2.1, false)
def push (v : Vv) (c : C4) : C4 := (c.1, v :: c.2.1, c.2.2.1, c.2.2.2)
def bin0 (f : Int → Int → Int) (c : C4) : C4 := match c with
  | (lo, (0, y) :: (0, x) :: st, s, ok) => (lo, (0, f x y) :: st, s, ok)
  | c => bad c
def bin1 (f : Int → Int → Int) (c : C4) : C4 := match c with
  | (lo, (1, y) :: (1, x) :: st, s, ok) => (lo, (1, f x y) :: st, s, ok)
  | c => bad c
def loadV (t : Nat) (i : Int) (c : C4) : C4 := match lget c.1 i with
  | some (u, z) => if u = t then (c.1, (t, z) :: c.2.1, c.2.2.1, c.2.2.2) else bad c
  | none => bad c
def storeV (t : Nat) (i : Int) (c : C4) : C4 := match c with
  | (lo, (u, z) :: st, s, ok) => if u = t then (lset lo i (t, z), st, s, ok && decide (i.toNat + (if t = 1 then 1 else 0) < lo.length)) else bad (lo, (u, z) :: st, s, ok)
  | c => bad c
/-- kinds: below 100 the classes; 100 int, 101 long, 102 boolean, 103 and 104 rows of references; 200 the script; 203 a constant; 204 the row of constants; 205 a row of ints that was there -/
def kd (s : Stt) (a : Int) : Int := (s.2.1 a).1
def ln (s : Stt) (a : Int) : Int := (s.2.1 a).2
def inb (i n : Int) : Bool := decide (0 ≤ i) && decide (i < n)
def alen (s : Stt) (a : Int) : Int := if kd s a = 200 then s.2.2 a (-1) else ln s a
def ald (t : Nat) (ks : List Int) (c : C4) : C4 := match c with
  | (lo, (0, i) :: (2, a) :: st, s, ok) => (lo, (t, s.2.2 a i) :: st, s, ok && (ks.contains (kd s a) && inb i (alen s a)))
  | c => bad c
def ast (t : Nat) (ks : List Int) (g : Stt → Int → Int → Bool) (c : C4) : C4 := match c with
  | (lo, (u, v) :: (0, i) :: (2, a) :: st, s, ok) => if u = t then (lo, st, (s.1, s.2.1, up s.2.2 a i v), ok && (ks.contains (kd s a) && (inb i (ln s a) && g s a v))) else bad (lo, (u, v) :: (0, i) :: (2, a) :: st, s, ok)
  | c => bad c
/-- a field's tag: 3 (a boolean) lies as 0 -/
def fcode (ci k : Int) : Nat := ((ftab.getD ci.toNat []).getD k.toNat 0)
def ftg (ci k : Int) : Nat := if fcode ci k = 3 then 0 else fcode ci k
def bit01 (v : Int) : Bool := decide (v = 0) || decide (v = 1)
def gfld (ci k : Int) (c : C4) : C4 := match c with
  | (lo, (2, r) :: st, s, ok) => (lo, (ftg ci k, s.2.2 r k) :: st, s, ok && decide (kd s r = ci))
  | c => bad c
def pfld (ci k : Int) (c : C4) : C4 := match c with
  | (lo, (u, v) :: (2, r) :: st, s, ok) => if u = ftg ci k then (lo, st, (s.1, s.2.1, up s.2.2 r k v), ok && (decide (kd s r = ci) && (fcode ci k != 3 || bit01 v))) else bad (lo, (u, v) :: (2, r) :: st, s, ok)
  | c => bad c
/-- a constant's field: an int -/
def cfld (k : Int) (c : C4) : C4 := match c with
  | (lo, (2, r) :: st, s, ok) => (lo, (0, s.2.2 r k) :: st, s, ok && decide (kd s r = 203))
  | c => bad c
def iinc' (i n : Int) (c : C4) : C4 := match lget c.1 i with
  | some (0, z) => (lset c.1 i (0, w32 (z + n)), c.2.1, c.2.2.1, c.2.2.2)
  | _ => bad c
def dup' (c : C4) : C4 := match c with
  | (lo, (t, z) :: st, s, ok) => if t = 1 then bad (lo, (t, z) :: st, s, ok) else (lo, (t, z) :: (t, z) :: st, s, ok)
  | c => bad c
def dup2' (c : C4) : C4 := match c with
  | (lo, (t, z) :: (u, y) :: st, s, ok) => if t = 1 then bad (lo, (t, z) :: (u, y) :: st, s, ok) else if u = 1 then bad (lo, (t, z) :: (u, y) :: st, s, ok) else (lo, (t, z) :: (u, y) :: (t, z) :: (u, y) :: st, s, ok)
  | c => bad c
def dup2l (c : C4) : C4 := match c with
  | (lo, (1, z) :: st, s, ok) => (lo, (1, z) :: (1, z) :: st, s, ok)
  | c => bad c
def pop' (c : C4) : C4 := match c with
  | (lo, (t, z) :: st, s, ok) => if t = 1 then bad (lo, (t, z) :: st, s, ok) else (lo, st, s, ok)
  | c => bad c
def div0 (f : Int → Int → Int) (c : C4) : C4 := match c with
  | (lo, (0, y) :: (0, x) :: st, s, ok) => (lo, (0, f x y) :: st, s, ok && !decide (y = 0))
  | c => bad c
def div1 (f : Int → Int → Int) (c : C4) : C4 := match c with
  | (lo, (1, y) :: (1, x) :: st, s, ok) => (lo, (1, f x y) :: st, s, ok && !decide (y = 0))
  | c => bad c
def cmp1 (c : C4) : C4 := match c with
  | (lo, (1, y) :: (1, x) :: st, s, ok) => (lo, (0, l_cmp x y) :: st, s, ok)
  | c => bad c
def i2l' (c : C4) : C4 := match c with
  | (lo, (0, x) :: st, s, ok) => (lo, (1, x) :: st, s, ok)
  | c => bad c
def l2i' (c : C4) : C4 := match c with
  | (lo, (1, x) :: st, s, ok) => (lo, (0, w32 x) :: st, s, ok)
  | c => bad c
def alen' (c : C4) : C4 := match c with
  | (lo, (2, a) :: st, s, ok) => (lo, (0, alen s a) :: st, s, ok && (decide (100 ≤ kd s a) && (!decide (kd s a = 203) && !decide (kd s a = 206))))
  | c => bad c
/-- the quotient towards 0 and what is left, in the bounds of the numbers -/
def i_div (x y : Int) : Int := w32 (x.tdiv y)
def i_rem (x y : Int) : Int := x.tmod y
def l_div (x y : Int) : Int := w64 (x.tdiv y)
def l_rem (x y : Int) : Int := x.tmod y
/-- one straight instruction -/
def ex1 (x : IR) (c : C4) : C4 := match x with
  | (0, a, _) => push (0, a) c
  | (1, a, _) => push (0, a) c
  | (2, a, _) => push (0, a) c
  | (3, a, _) => push (0, a) c
  | (4, a, _) => push (0, a) c
  | (5, a, _) => push (1, a) c
  | (6, a, _) => push (1, a) c
  | (7, _) => push (2, 0) c
  | (8, a, _) => loadV 0 a c
  | (9, a, _) => loadV 0 a c
  | (10, a, _) => loadV 1 a c
  | (11, a, _) => loadV 1 a c
  | (12, a, _) => loadV 2 a c
  | (13, a, _) => loadV 2 a c
  | (14, a, _) => storeV 0 a c
  | (15, a, _) => storeV 0 a c
  | (16, a, _) => storeV 1 a c
  | (17, a, _) => storeV 1 a c
  | (18, a, _) => storeV 2 a c
  | (19, a, _) => storeV 2 a c
  | (20, a, b, _) => iinc' a b c
  | (21, _) => dup' c
  | (22, _) => dup2' c
  | (23, _) => dup2l c
  | (24, _) => pop' c
  | (25, _) => bin0 (fun x y => w32 (x + y)) c
  | (26, _) => bin0 (fun x y => w32 (x - y)) c
  | (27, _) => bin0 (fun x y => w32 (x * y)) c
  | (28, _) => bin0 i_and c
  | (29, _) => bin0 i_or c
  | (30, _) => bin0 i_xor c
  | (31, _) => bin0 i_shl c
  | (32, _) => bin0 i_shr c
  | (33, _) => bin0 i_ushr c
  | (34, _) => div0 i_div c
  | (35, _) => div0 i_rem c
  | (36, _) => bin1 (fun x y => w64 (x + y)) c
  | (37, _) => bin1 (fun x y => w64 (x - y)) c
  | (38, _) => bin1 (fun x y => w64 (x * y)) c
  | (39, a, _) => bin1 (if a = 1 then l_xor else l_and) c
  | (40, _) => div1 l_div c
  | (41, _) => div1 l_rem c
  | (42, _) => cmp1 c
  | (43, _) => i2l' c
  | (44, _) => l2i' c
  | (45, _) => ald 0 [100, 200, 205] c
  | (46, _) => ald 1 [101] c
  | (47, _) => ald 0 [102] c
  | (48, _) => ald 2 [103, 104, 204] c
  | (49, _) => alen' c
  | (50, _) => ast 0 [100] (fun _ _ _ => true) c
  | (51, _) => ast 1 [101] (fun _ _ _ => true) c
  | (52, _) => ast 0 [102] (fun _ _ v => bit01 v) c
  | (53, _) => ast 2 [103, 104] (fun s a v => decide (v = 0) || (decide (kd s a = 103) && decide (kd s v = 203)) || (decide (kd s a = 104) && decide (kd s v = 6))) c
  | (54, a, b, _) => gfld a b c
  | (55, a, b, _) => pfld a b c
  | (56, a, b, _) => pfld a b c
  | (57, a, _) => push (2, a) c
  | (58, _, b, _) => cfld b c
  | (59, a, _) => push (2, a) c
  | _ => bad c
/-- the instruction that a number stands for, and its length -/
def insOf (x : IR) (pc : Nat) : Instr × Nat := match x with
  | (0, a, _) => (.iconst a, 1)
  | (1, a, _) => (.bipush a, 2)
  | (2, a, _) => (.sipush a, 3)
  | (3, _, b, _) => (.ldc b.toNat, 2)
  | (4, _, b, _) => (.ldc_w b.toNat, 3)
  | (5, a, _) => (.lconst (Fin.ofNat 2 a.toNat), 1)
  | (6, _, b, _) => (.ldc2_w b.toNat, 3)
  | (7, _) => (.aconst_null, 1)
  | (8, a, _) => (.iload_n (Fin.ofNat 4 a.toNat), 1)
  | (9, a, _) => (.iload a.toNat, 2)
  | (10, a, _) => (.lload_n (Fin.ofNat 4 a.toNat), 1)
  | (11, a, _) => (.lload a.toNat, 2)
  | (12, a, _) => (.aload_n (Fin.ofNat 4 a.toNat), 1)
  | (13, a, _) => (.aload a.toNat, 2)
  | (14, a, _) => (.istore_n (Fin.ofNat 4 a.toNat), 1)
  | (15, a, _) => (.istore a.toNat, 2)
  | (16, a, _) => (.lstore_n (Fin.ofNat 4 a.toNat), 1)
  | (17, a, _) => (.lstore a.toNat, 2)
  | (18, a, _) => (.astore_n (Fin.ofNat 4 a.toNat), 1)
  | (19, a, _) => (.astore a.toNat, 2)
  | (20, a, b, _) => (.iinc a.toNat b, 3)
  | (21, _) => (.dup, 1)
  | (22, _) => (.dup2, 1)
  | (23, _) => (.dup2, 1)
  | (24, _) => (.pop, 1)
  | (25, _) => (.iadd, 1)
  | (26, _) => (.isub, 1)
  | (27, _) => (.imul, 1)
  | (28, _) => (.iand, 1)
  | (29, _) => (.ior, 1)
  | (30, _) => (.ixor, 1)
  | (31, _) => (.ishl, 1)
  | (32, _) => (.ishr, 1)
  | (33, _) => (.iushr, 1)
  | (34, _) => (.idiv, 1)
  | (35, _) => (.irem, 1)
  | (36, _) => (.ladd, 1)
  | (37, _) => (.lsub, 1)
  | (38, _) => (.lmul, 1)
  | (39, a, _) => (if a = 1 then .lxor else .land, 1)
  | (40, _) => (.ldiv, 1)
  | (41, _) => (.lrem, 1)
  | (42, _) => (.lcmp, 1)
  | (43, _) => (.i2l, 1)
  | (44, _) => (.l2i, 1)
  | (45, _) => (.iaload, 1)
  | (46, _) => (.laload, 1)
  | (47, _) => (.baload, 1)
  | (48, _) => (.aaload, 1)
  | (49, _) => (.arraylength, 1)
  | (50, _) => (.iastore, 1)
  | (51, _) => (.lastore, 1)
  | (52, _) => (.bastore, 1)
  | (53, _) => (.aastore, 1)
  | (54, _, _, c, _) => (.getfield c.toNat, 3)
  | (55, _, _, c, _) => (.putfield c.toNat, 3)
  | (56, _, _, c, _) => (.putfield c.toNat, 3)
  | (57, _, _, c, _) => (.getstatic c.toNat, 3)
  | (58, _, _, c, _) => (.getfield c.toNat, 3)
  | (59, _, b, _) => (.ldc b.toNat, 2)
  | (60, a, _) => (.ifCond .eq a, 3)
  | (61, a, _) => (.ifCond .ne a, 3)
  | (62, a, _) => (.ifCond .lt a, 3)
  | (63, a, _) => (.ifCond .ge a, 3)
  | (64, a, _) => (.ifCond .gt a, 3)
  | (65, a, _) => (.ifCond .le a, 3)
  | (66, a, _) => (.if_icmp .eq a, 3)
  | (67, a, _) => (.if_icmp .ne a, 3)
  | (68, a, _) => (.if_icmp .lt a, 3)
  | (69, a, _) => (.if_icmp .ge a, 3)
  | (70, a, _) => (.if_icmp .gt a, 3)
  | (71, a, _) => (.if_icmp .le a, 3)
  | (72, a, _) => (.if_acmp .eq a, 3)
  | (73, a, _) => (.if_acmp .ne a, 3)
  | (74, a, _) => (.ifnull a, 3)
  | (75, a, _) => (.ifnonnull a, 3)
  | (76, a, _) => (.goto a, 3)
  | (77, a, b, c, l) => (.tableswitch a b (b + l.length - 1) (l.map (fun q => q.2)).toArray, c.toNat)
  | (78, a, _, c, l) => (.lookupswitch a l.toArray, c.toNat)
  | (79, _, b, _) => (.invokestatic b.toNat, 3)
  | (80, _, b, _) => (.invokevirtual b.toNat, 3)
  | (81, _, b, _) => (.invokestatic b.toNat, 3)
  | (82, _, b, _) => (.invokespecial b.toNat, 3)
  | (83, _, b, _) => (.invokestatic b.toNat, 3)
  | (84, _, b, _) => (.invokespecial b.toNat, 3)
  | (85, _, b, _) => (.invokespecial b.toNat, 3)
  | (86, _, b, _) => (.invokestatic b.toNat, 3)
  | (87, _, b, _) => (.invokevirtual b.toNat, 3)
  | (88, _, b, _) => (.invokevirtual b.toNat, 3)
  | (89, _, b, _) => (.invokestatic b.toNat, 3)
  | (90, _) => (.ireturn, 1)
  | (91, _) => (.lreturn, 1)
  | (92, _) => (.areturn, 1)
  | (93, _) => (.return_, 1)
  | (95, _, b, _) => (.new b.toNat, 3)
  | (96, 100, _) => (.newarray .int, 2)
  | (96, 101, _) => (.newarray .long, 2)
  | (96, 102, _) => (.newarray .boolean, 2)
  | (97, _, b, _) => (.anewarray b.toNat, 3)
  | (98, _, b, _) => (.new b.toNat, 3)
  | _ => (.nop, 1)
def tab (m pc : Nat) : Option (List Nat × IR) := ((tabs.getD m []).find? (fun e => e.1 == pc)).map (fun e => e.2)
def mY (m : Nat) : MethodName := (mtab.getD m (yL_law, cL_law, 7, none)).1
def mC (m : Nat) : ByteArray := (mtab.getD m (yL_law, cL_law, 7, none)).2.1
def mL (m : Nat) : Nat := (mtab.getD m (yL_law, cL_law, 7, none)).2.2.1
def mR (m : Nat) : Option FieldType := (mtab.getD m (yL_law, cL_law, 7, none)).2.2.2
def cat (v : Vv) : Nat := if v.1 = 1 then 2 else 1
/-- a state within a method: place, locals, stack, store -/
abbrev Fst : Type := Nat × Lcs × List Vv × Stt
/-- the next state, or the answer -/
abbrev Nxt : Type := Option (Fst ⊕ (Vv × Stt))
def goN (pc : Nat) (lo : Lcs) (st : List Vv) (s : Stt) : Nxt := some (.inl (pc, lo, st, s))
def br (b : Bool) (pc : Nat) (off : Int) (lo : Lcs) (st : List Vv) (s : Stt) : Nxt := if b then goN (pc + off).toNat lo st s else goN (pc + 3) lo st s
def lkup (l : List (Int × Int)) (x : Int) (d : Int) : Int := match l with
  | [] => d
  | (k, t) :: l => if k = x then t else lkup l x d
def mkL (as : List Vv) : Lcs := as.flatMap (fun v => if v.1 = 1 then [some v, none] else [some v])
def padL (n : Nat) (l : Lcs) : Lcs := l ++ List.replicate (n - l.length) none
/-- behind a call: the answer is pushed, if there is one -/
def pushR (v : Vv) (st : List Vv) : List Vv := if v.1 = 9 then st else v :: st
def callN (cal : Nat → List Vv → Stt → Option (Vv × Stt)) (m k : Nat) (pc : Nat) (lo : Lcs) (st : List Vv) (s : Stt) : Nxt :=
  if k ≤ st.length ∧ ((st.drop k).map cat).sum ≤ 8 ∧ (mkL (st.take k).reverse).length ≤ mL m then
    match cal m (st.take k).reverse s with
    | some (v, s1) => if v.1 = 8 then none else goN (pc + 3) lo (pushR v (st.drop k)) s1
    | none => none
  else none
/-- the kind of the cell whose method is called -/
def rck (s : Stt) (st : List Vv) (k : Nat) : Int := match st[k]? with
  | some (2, r) => kd s r
  | _ => -2
def mci (m : Nat) : Int := mcis.getD m (-1)
/-- n elements from a row to another -/
def cpy (D : Sto) (a i b j n : Int) : Sto := fun c k => if c = b ∧ j ≤ k ∧ k < j + n then D a (i + (k - j)) else D c k
def acOk (s : Stt) (v : Int) : Bool := decide (v = 0) || decide (kd s v = 203)
/-- the JDK's own members -/
def bltN (b : Int) (pc : Nat) (lo : Lcs) (st : List Vv) (s : Stt) : Nxt := match b, st with
  | 5, (1, x) :: st => if (st.map cat).sum ≤ 8 then goN (pc + 3) lo ((1, if 0 < x then x else w64 (-x)) :: st) s else none
  | 8, (0, n) :: (0, j) :: (2, b) :: (0, i) :: (2, a) :: st =>
    if (kd s a = 100 ∧ kd s b = 100 ∨ kd s a = 103 ∧ kd s b = 103 ∧ ((List.range n.toNat).all (fun k : Nat => acOk s (s.2.2 a (i + k)))) = true) ∧ 0 ≤ n ∧ 0 ≤ i ∧ 0 ≤ j ∧ i + n ≤ ln s a ∧ j + n ≤ ln s b ∧ (st.map cat).sum ≤ 8 then goN (pc + 3) lo st (s.1, s.2.1, cpy s.2.2 a i b j n) else none
  | _, _ => none
def newS (s : Stt) (k n : Int) : Stt := ((s.1.1 + 1, s.1.2 + n), (fun a => if a = s.1.1 + 1 then (k, n) else s.2.1 a), (fun a i => if a = s.1.1 + 1 then 0 else s.2.2 a i))
def ret01 (m : Nat) (v : Int) : Bool := match mR m with
  | some .int => true
  | some .boolean => bit01 v
  | _ => false
/-- one instruction: straight, a branch, a call, the end -/
def act (cal : Nat → List Vv → Stt → Option (Vv × Stt)) (m : Nat) (x : IR) (pc : Nat) (lo : Lcs) (st : List Vv) (s : Stt) : Nxt :=
  if x.1 < 60 then
    let c := ex1 x (lo, st, s, true)
    if c.2.2.2 then goN (pc + (insOf x pc).2) c.1 c.2.1 c.2.2.1 else none
  else match x, st with
  | (60, a, _), (0, v) :: st => br (decide (v = 0)) pc a lo st s
  | (61, a, _), (0, v) :: st => br (!decide (v = 0)) pc a lo st s
  | (62, a, _), (0, v) :: st => br (decide (v < 0)) pc a lo st s
  | (63, a, _), (0, v) :: st => br (!decide (v < 0)) pc a lo st s
  | (64, a, _), (0, v) :: st => br (decide (0 < v)) pc a lo st s
  | (65, a, _), (0, v) :: st => br (!decide (0 < v)) pc a lo st s
  | (66, a, _), (0, y) :: (0, v) :: st => br (decide (v = y)) pc a lo st s
  | (67, a, _), (0, y) :: (0, v) :: st => br (!decide (v = y)) pc a lo st s
  | (68, a, _), (0, y) :: (0, v) :: st => br (decide (v < y)) pc a lo st s
  | (69, a, _), (0, y) :: (0, v) :: st => br (!decide (v < y)) pc a lo st s
  | (70, a, _), (0, y) :: (0, v) :: st => br (decide (y < v)) pc a lo st s
  | (71, a, _), (0, y) :: (0, v) :: st => br (!decide (y < v)) pc a lo st s
  | (72, a, _), (2, y) :: (2, v) :: st => if acOk s v && acOk s y then br (decide (v = y)) pc a lo st s else none
  | (73, a, _), (2, y) :: (2, v) :: st => if acOk s v && acOk s y then br (!decide (v = y)) pc a lo st s else none
  | (74, a, _), (2, v) :: st => br (decide (v = 0)) pc a lo st s
  | (75, a, _), (2, v) :: st => br (!decide (v = 0)) pc a lo st s
  | (76, a, _), st => goN (pc + a).toNat lo st s
  | (77, a, b, _, l), (0, v) :: st => goN (pc + (if v < b ∨ b + l.length - 1 < v then a else (l.getD (v - b).toNat (0, 0)).2)).toNat lo st s
  | (78, a, _, _, l), (0, v) :: st => goN (pc + lkup l v a).toNat lo st s
  | (79, a, _, c, _), st => callN cal a.toNat c.toNat pc lo st s
  | (80, a, _, c, _), st => if rck s st c.toNat = mci a.toNat then callN cal a.toNat (c.toNat + 1) pc lo st s else none
  | (81, a, _, c, _), st => callN cal a.toNat c.toNat pc lo st s
  | (82, a, _, c, _), st => if rck s st c.toNat = mci a.toNat then callN cal a.toNat (c.toNat + 1) pc lo st s else none
  | (83, a, _, c, _), st => callN cal a.toNat c.toNat pc lo st s
  | (84, a, _, c, _), st => if rck s st c.toNat = mci a.toNat then callN cal a.toNat (c.toNat + 1) pc lo st s else none
  | (85, _), (2, r) :: st => if 0 < r ∧ (st.map cat).sum ≤ 8 then goN (pc + 3) lo st s else none
  | (86, a, _), st => bltN a pc lo st s
  | (87, 1, _), (2, a) :: st => if kd s a = 206 ∧ (st.map cat).sum ≤ 8 then goN (pc + 3) lo ((0, ln s a) :: st) s else none
  | (87, 2, _), (0, i) :: (2, a) :: st => if kd s a = 206 ∧ inb i (ln s a) = true ∧ (st.map cat).sum ≤ 8 then goN (pc + 3) lo ((0, s.2.2 a i) :: st) s else none
  | (88, a, _), st => if rck s st 0 = 203 then callN cal a.toNat 1 pc lo st s else none
  | (89, _), (2, o) :: (0, y) :: (0, z) :: (2, r) :: st => if kd s r = 10 ∧ kd s o = 101 ∧ 0 < ln s o ∧ (st.map cat).sum ≤ 8 then
      match cal 141 [(2, r), (0, z), (0, y)] s with
      | some ((0, v), s1) => goN (pc + 3) lo ((0, 0) :: st) (s1.1, s1.2.1, up s1.2.2 o 0 v)
      | some ((8, k), s1) => goN (pc + 3) lo ((0, k) :: st) ((s1.1.1, s1.1.2 + 8), s1.2)
      | _ => none
    else none
  | (90, _), [(0, v)] => if ret01 m v then some (.inr ((0, v), s)) else none
  | (91, _), [(1, v)] => some (.inr ((1, v), s))
  | (92, _), [(2, v)] => some (.inr ((2, v), s))
  | (93, _), [] => some (.inr ((9, 0), s))
  | (95, a, _), st => goN (pc + 3) lo ((2, s.1.1 + 1) :: st) (newS s a (ftab.getD a.toNat []).length)
  | (96, a, _), (0, n) :: st => if 0 ≤ n ∧ n < 100000 then goN (pc + 2) lo ((2, s.1.1 + 1) :: st) (newS s a n) else none
  | (97, a, _), (0, n) :: st => if 0 ≤ n ∧ n < 100000 then goN (pc + 3) lo ((2, s.1.1 + 1) :: st) (newS s a n) else none
  | (98, a, _), [] => some (.inr ((8, a), s))
  | _, _ => none
def stepF (cal : Nat → List Vv → Stt → Option (Vv × Stt)) (m : Nat) (f : Fst) : Nxt := match tab m f.1 with
  | none => none
  | some (ks, x) => act cal m x f.1 (kil ks f.2.1) f.2.2.1 f.2.2.2
/-- a step again and again, till it answers -/
def loopN {σ ρ : Type} (f : σ → Option (σ ⊕ ρ)) : Nat → σ → Option ρ
  | 0, _ => none
  | n + 1, x => match f x with
    | none => none
    | some (.inl y) => loopN f n y
    | some (.inr r) => some r
noncomputable def whl {σ ρ : Type} (f : σ → Option (σ ⊕ ρ)) (x : σ) : Option ρ :=
  @dite (Option ρ) (∃ r n, loopN f n x = some r) (Classical.propDecidable _) (fun h => some (Classical.choose h)) (fun _ => none)
theorem loopN_det {σ ρ : Type} {f : σ → Option (σ ⊕ ρ)} : ∀ (n k : Nat) (x : σ) (r q : ρ), loopN f n x = some r → loopN f k x = some q → r = q := by
  intro n
  induction n with
  | zero => intro k x r q h; simp [loopN] at h
  | succ n ih =>
    intro k x r q h h2
    cases k with
    | zero => simp [loopN] at h2
    | succ k =>
      simp only [loopN] at h h2
      revert h h2
      cases f x with
      | none => intro h; simp at h
      | some y => cases y with
        | inl y => exact fun h h2 => ih k y r q h h2
        | inr z => intro h h2; simp at h h2; rw [← h, ← h2]
theorem whl_some {σ ρ : Type} {f : σ → Option (σ ⊕ ρ)} {n : Nat} {x : σ} {r : ρ} (h : loopN f n x = some r) : whl f x = some r := by
  have he : ∃ r n, loopN f n x = some r := ⟨r, n, h⟩
  unfold whl
  rw [dif_pos he]
  obtain ⟨k, hk⟩ := Classical.choose_spec he
  rw [loopN_det _ _ _ _ _ hk h]
theorem whl_ex {σ ρ : Type} {f : σ → Option (σ ⊕ ρ)} {x : σ} {r : ρ} (h : whl f x = some r) : ∃ n, loopN f n x = some r := by
  by_cases he : ∃ r n, loopN f n x = some r
  · obtain ⟨q, n, hn⟩ := he
    have := whl_some hn
    rw [h] at this
    exact ⟨n, by rw [hn]; exact this.symm⟩
  · unfold whl at h
    rw [dif_neg he] at h
    cases h
theorem whl_eq {σ ρ : Type} (f : σ → Option (σ ⊕ ρ)) (x : σ) : whl f x = match f x with
    | none => none
    | some (.inl y) => whl f y
    | some (.inr r) => some r := by
  cases hf : f x with
  | none =>
    cases hw : whl f x with
    | none => rfl
    | some r =>
      obtain ⟨n, hn⟩ := whl_ex hw
      cases n with
      | zero => simp [loopN] at hn
      | succ n => simp [loopN, hf] at hn
  | some y => cases y with
    | inl y =>
      show whl f x = whl f y
      cases hw : whl f x with
      | some r =>
        obtain ⟨n, hn⟩ := whl_ex hw
        cases n with
        | zero => simp [loopN] at hn
        | succ n => simp only [loopN, hf] at hn; exact (whl_some hn).symm
      | none =>
        cases hy : whl f y with
        | none => rfl
        | some r =>
          obtain ⟨n, hn⟩ := whl_ex hy
          have : loopN f (n + 1) x = some r := by simp only [loopN, hf]; exact hn
          rw [whl_some this] at hw; cases hw
    | inr r => exact whl_some (n := 1) (by simp [loopN, hf])
/-- a method's answer and the store behind it, by at most d frames -/
noncomputable def den : Nat → Nat → List Vv → Stt → Option (Vv × Stt)
  | 0, _, _, _ => none
  | d + 1, m, as, s => whl (stepF (den d) m) (0, padL (mL m) (mkL as), [], s)
/-- from a place within a method on -/
noncomputable def Rn (d m pc : Nat) (lo : Lcs) (st : List Vv) (s : Stt) : Option (Vv × Stt) := whl (stepF (den d) m) (pc, lo, st, s)
theorem den_succ (d m : Nat) (as : List Vv) (s : Stt) : den (d + 1) m as s = Rn d m 0 (padL (mL m) (mkL as)) [] s := rfl
