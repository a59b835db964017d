/-! From a cut to the next cuts: the run of a stretch as a tree of ifs -/
def cK (o : Option (Vv × Stt)) (f : Vv → Stt → Option (Vv × Stt)) : Option (Vv × Stt) := match o with
  | some (v, s1) => if v.1 = 8 then none else f v s1
  | none => none
def caK (cal : Nat → List Vv → Stt → Option (Vv × Stt)) (m k pc : Nat) (lo : Lcs) (st : List Vv) (s : Stt) (g : Fst → Option (Vv × Stt)) : Option (Vv × Stt) :=
  if k ≤ st.length ∧ ((st.drop k).map cat).sum ≤ 8 ∧ (mkL (st.take k).reverse).length ≤ mL m then cK (cal m (st.take k).reverse s) (fun v s1 => g (pc + 3, lo, pushR v (st.drop k), s1)) else none
def nxK (o : Nxt) (k : Fst → Option (Vv × Stt)) : Option (Vv × Stt) := match o with
  | none => none
  | some (.inl f) => k f
  | some (.inr r) => some r
def brK (c : Prop) [Decidable c] (pc : Nat) (a : Int) (lo : Lcs) (st : List Vv) (s : Stt) (k : Fst → Option (Vv × Stt)) : Option (Vv × Stt) := if c then k (((pc : Int) + a).toNat, lo, st, s) else k (pc + 3, lo, st, s)
theorem nxK_ite {c : Prop} [Decidable c] {x y : Nxt} {k : Fst → Option (Vv × Stt)} : nxK (if c then x else y) k = if c then nxK x k else nxK y k := by
  split <;> rfl
theorem nxK_br {c : Prop} [Decidable c] {pc : Nat} {a : Int} {lo : Lcs} {st : List Vv} {s : Stt} {k : Fst → Option (Vv × Stt)} : nxK (br (decide c) pc a lo st s) k = brK c pc a lo st s k := by
  unfold br brK
  by_cases h : c <;> simp [h, nxK, goN]
theorem nxK_nbr {c : Prop} [Decidable c] {pc : Nat} {a : Int} {lo : Lcs} {st : List Vv} {s : Stt} {k : Fst → Option (Vv × Stt)} : nxK (br (!decide c) pc a lo st s) k = brK (¬ c) pc a lo st s k := by
  unfold br brK
  by_cases h : c <;> simp [h, nxK, goN]
theorem nxK_call {cal : Nat → List Vv → Stt → Option (Vv × Stt)} {m j pc : Nat} {lo : Lcs} {st : List Vv} {s : Stt} {k : Fst → Option (Vv × Stt)} : nxK (callN cal m j pc lo st s) k = caK cal m j pc lo st s k := by
  unfold callN caK
  split
  · cases cal m (st.take j).reverse s with
    | none => rfl
    | some q =>
      obtain ⟨v, s1⟩ := q
      show nxK (if v.1 = 8 then none else _) k = if v.1 = 8 then none else _
      split <;> rfl
  · rfl
/-- a switch as a chain of ifs -/
def tsK (pc : Nat) (a : Int) (lo : Lcs) (st : List Vv) (s : Stt) (k : Fst → Option (Vv × Stt)) (v : Int) : List (Int × Int) → Int → Option (Vv × Stt)
  | [], _ => k (((pc : Int) + a).toNat, lo, st, s)
  | q :: l, b => if v = b then k (((pc : Int) + q.2).toNat, lo, st, s) else tsK pc a lo st s k v l (b + 1)
def lsK (pc : Nat) (a : Int) (lo : Lcs) (st : List Vv) (s : Stt) (k : Fst → Option (Vv × Stt)) (v : Int) : List (Int × Int) → Option (Vv × Stt)
  | [] => k (((pc : Int) + a).toNat, lo, st, s)
  | q :: l => if q.1 = v then k (((pc : Int) + q.2).toNat, lo, st, s) else lsK pc a lo st s k v l
theorem tsK_eq {pc : Nat} {a : Int} {lo : Lcs} {st : List Vv} {s : Stt} {k : Fst → Option (Vv × Stt)} {v : Int} : ∀ (l : List (Int × Int)) (b : Int), tsK pc a lo st s k v l b = k (((pc : Int) + (if v < b ∨ b + l.length - 1 < v then a else (l.getD (v - b).toNat (0, 0)).2)).toNat, lo, st, s) := by
  intro l
  induction l with
  | nil =>
    intro b
    unfold tsK
    rw [if_pos (by simp; omega)]
  | cons q l ih =>
    intro b
    unfold tsK
    by_cases h : v = b
    · rw [if_pos h, if_neg (by simp; omega)]
      have : (v - b).toNat = 0 := by omega
      rw [this]
      rfl
    · rw [if_neg h, ih]
      congr 3
      by_cases h2 : v < b ∨ b + (q :: l).length - 1 < v
      · rw [if_pos h2, if_pos (by simp at h2 ⊢; omega)]
      · rw [if_neg h2, if_neg (by simp at h2 ⊢; omega)]
        have : (v - b).toNat = (v - (b + 1)).toNat + 1 := by omega
        rw [this]
        rfl
theorem lsK_eq {pc : Nat} {a : Int} {lo : Lcs} {st : List Vv} {s : Stt} {k : Fst → Option (Vv × Stt)} {v : Int} : ∀ (l : List (Int × Int)), lsK pc a lo st s k v l = k (((pc : Int) + lkup l v a).toNat, lo, st, s) := by
  intro l
  induction l with
  | nil => rfl
  | cons q l ih =>
    obtain ⟨x, y⟩ := q
    unfold lsK lkup
    split
    · rfl
    · exact ih
/-- a step, what comes behind it as an argument -/
def acK (cal : Nat → List Vv → Stt → Option (Vv × Stt)) (m : Nat) (x : IR) (pc : Nat) (lo : Lcs) (st : List Vv) (s : Stt) (k : Fst → Option (Vv × Stt)) : Option (Vv × Stt) :=
  if x.1 < 60 then
    let c := ex1 x (lo, st, s, true)
    if c.2.2.2 then k (pc + (insOf x pc).2, c.1, c.2.1, c.2.2.1) else none
  else match x, st with
  | (60, a, _), (0, v) :: st => brK (v = 0) pc a lo st s k
  | (61, a, _), (0, v) :: st => brK (¬ v = 0) pc a lo st s k
  | (62, a, _), (0, v) :: st => brK (v < 0) pc a lo st s k
  | (63, a, _), (0, v) :: st => brK (¬ v < 0) pc a lo st s k
  | (64, a, _), (0, v) :: st => brK (0 < v) pc a lo st s k
  | (65, a, _), (0, v) :: st => brK (¬ 0 < v) pc a lo st s k
  | (66, a, _), (0, y) :: (0, v) :: st => brK (v = y) pc a lo st s k
  | (67, a, _), (0, y) :: (0, v) :: st => brK (¬ v = y) pc a lo st s k
  | (68, a, _), (0, y) :: (0, v) :: st => brK (v < y) pc a lo st s k
  | (69, a, _), (0, y) :: (0, v) :: st => brK (¬ v < y) pc a lo st s k
  | (70, a, _), (0, y) :: (0, v) :: st => brK (y < v) pc a lo st s k
  | (71, a, _), (0, y) :: (0, v) :: st => brK (¬ y < v) pc a lo st s k
  | (72, a, _), (2, y) :: (2, v) :: st => if acOk s v && acOk s y then brK (v = y) pc a lo st s k else none
  | (73, a, _), (2, y) :: (2, v) :: st => if acOk s v && acOk s y then brK (¬ v = y) pc a lo st s k else none
  | (74, a, _), (2, v) :: st => brK (v = 0) pc a lo st s k
  | (75, a, _), (2, v) :: st => brK (¬ v = 0) pc a lo st s k
  | (77, a, b, _, l), (0, v) :: st => tsK pc a lo st s k v l b
  | (78, a, _, _, l), (0, v) :: st => lsK pc a lo st s k v l
  | (79, a, _, c, _), st => caK cal a.toNat c.toNat pc lo st s k
  | (80, a, _, c, _), st => if rck s st c.toNat = mci a.toNat then caK cal a.toNat (c.toNat + 1) pc lo st s k else none
  | (81, a, _, c, _), st => caK cal a.toNat c.toNat pc lo st s k
  | (82, a, _, c, _), st => if rck s st c.toNat = mci a.toNat then caK cal a.toNat (c.toNat + 1) pc lo st s k else none
  | (83, a, _, c, _), st => caK cal a.toNat c.toNat pc lo st s k
  | (84, a, _, c, _), st => if rck s st c.toNat = mci a.toNat then caK cal a.toNat (c.toNat + 1) pc lo st s k else none
  | (85, _), (2, r) :: st => if 0 < r ∧ (st.map cat).sum ≤ 8 then k (pc + 3, lo, st, s) else none
  | (86, 8, _), (0, n) :: (0, j) :: (2, b) :: (0, i) :: (2, a) :: st =>
    if (kd s a = 100 ∧ kd s b = 100 ∨ kd s a = 103 ∧ kd s b = 103 ∧ ((List.range n.toNat).all (fun k : Nat => acOk s (s.2.2 a (i + k)))) = true) ∧ 0 ≤ n ∧ 0 ≤ i ∧ 0 ≤ j ∧ i + n ≤ ln s a ∧ j + n ≤ ln s b ∧ (st.map cat).sum ≤ 8 then k (pc + 3, lo, st, (s.1, s.2.1, cpy s.2.2 a i b j n)) else none
  | (90, _), [(0, v)] => if ret01 m v then some ((0, v), s) else none
  | (88, a, _), st => if rck s st 0 = 203 then caK cal a.toNat 1 pc lo st s k else none
  | x, st => nxK (act cal m x pc lo st s) k
set_option maxRecDepth 4000 in
theorem acK_eq {cal : Nat → List Vv → Stt → Option (Vv × Stt)} {m : Nat} {x : IR} {pc : Nat} {lo : Lcs} {st : List Vv} {s : Stt} {k : Fst → Option (Vv × Stt)} : acK cal m x pc lo st s k = nxK (act cal m x pc lo st s) k := by
  by_cases h : x.1 < 60
  · unfold acK act
    rw [if_pos h, if_pos h]
    simp only [nxK_ite]
    rfl
  · unfold acK
    rw [if_neg h]
    split
    all_goals first
      | rfl
      | exact tsK_eq _ _
      | exact lsK_eq _
      | (unfold act; rw [if_neg h]; exact nxK_br.symm)
      | (unfold act; rw [if_neg h]; exact nxK_nbr.symm)
      | (unfold act; rw [if_neg h]; exact nxK_call.symm)
      | (unfold act; rw [if_neg h]; simp only [nxK_ite, nxK_call]; rfl)
      | (unfold act; rw [if_neg h]; simp only [nxK_ite, nxK_br]; rfl)
      | (unfold act; rw [if_neg h]; simp only [nxK_ite, nxK_nbr]; rfl)
      | (unfold act; rw [if_neg h]; simp only [nxK_ite]; rfl)
      | (unfold act bltN; rw [if_neg h]; simp only [nxK_ite]; rfl)
def look (tb : List (Nat × List Nat × IR)) (pc : Nat) : Option (List Nat × IR) := (tb.find? (fun e => e.1 == pc)).map (fun e => e.2)
noncomputable def reg (d m : Nat) (tb : List (Nat × List Nat × IR)) (cuts : List Nat) : Nat → Fst → Option (Vv × Stt)
  | 0, f => Rn d m f.1 f.2.1 f.2.2.1 f.2.2.2
  | n + 1, f => match look tb f.1 with
    | none => none
    | some (ks, x) => acK (den d) m x f.1 (kil ks f.2.1) f.2.2.1 f.2.2.2 (fun g => if cuts.contains g.1 then Rn d m g.1 g.2.1 g.2.2.1 g.2.2.2 else reg d m tb cuts n g)
theorem Rn_eq (d m : Nat) (f : Fst) : Rn d m f.1 f.2.1 f.2.2.1 f.2.2.2 = match tab m f.1 with
    | none => none
    | some (ks, x) => nxK (act (den d) m x f.1 (kil ks f.2.1) f.2.2.1 f.2.2.2) (fun g => Rn d m g.1 g.2.1 g.2.2.1 g.2.2.2) := by
  unfold Rn
  rw [whl_eq]
  unfold stepF
  simp only
  cases tab m f.1 with
  | none => rfl
  | some q =>
    obtain ⟨ks, x⟩ := q
    simp only
    cases act (den d) m x f.1 (kil ks f.2.1) f.2.2.1 f.2.2.2 with
    | none => rfl
    | some r => cases r with
      | inl g => rfl
      | inr v => rfl
theorem reg_eq {d m : Nat} {tb : List (Nat × List Nat × IR)} (ht : tabs.getD m [] = tb) (cuts : List Nat) : ∀ (n : Nat) (f : Fst), reg d m tb cuts n f = Rn d m f.1 f.2.1 f.2.2.1 f.2.2.2 := by
  intro n
  induction n with
  | zero => intro f; rfl
  | succ n ih =>
    intro f
    rw [Rn_eq]
    unfold reg
    have e : tab m f.1 = look tb f.1 := by unfold tab look; rw [ht]
    rw [e]
    cases look tb f.1 with
    | none => rfl
    | some q =>
      obtain ⟨ks, x⟩ := q
      simp only
      rw [acK_eq]
      congr 1
      funext g
      rw [ih]
      split <;> rfl
theorem reg_of {d m : Nat} {tb : List (Nat × List Nat × IR)} (ht : tabs.getD m [] = tb) (cuts : List Nat) (n : Nat) {pc : Nat} {lo : Lcs} {st : List Vv} {s : Stt} {r : Option (Vv × Stt)} (h : reg d m tb cuts n (pc, lo, st, s) = r) : Rn d m pc lo st s = r := by
  rw [← h, reg_eq ht]
def okI (s : Stt) (a i : Int) : Bool := [100, 200, 205].contains (kd s a) && inb i (alen s a)
def okJ (s : Stt) (a i : Int) : Bool := [101].contains (kd s a) && inb i (alen s a)
def okZ (s : Stt) (a i : Int) : Bool := [102].contains (kd s a) && inb i (alen s a)
def okA (s : Stt) (a i : Int) : Bool := [103, 104, 204].contains (kd s a) && inb i (alen s a)
def oF (s : Stt) (r ci : Int) : Bool := decide (kd s r = ci)
def okN (s : Stt) (a : Int) : Bool := decide (100 ≤ kd s a) && (!decide (kd s a = 203) && !decide (kd s a = 206))
def oS0 (s : Stt) (a i : Int) : Bool := [100].contains (kd s a) && (inb i (ln s a) && true)
def oS1 (s : Stt) (a i : Int) : Bool := [101].contains (kd s a) && (inb i (ln s a) && true)
def oSZ (s : Stt) (a i v : Int) : Bool := [102].contains (kd s a) && (inb i (ln s a) && bit01 v)
def oSA (s : Stt) (a i v : Int) : Bool := [103, 104].contains (kd s a) && (inb i (ln s a) && (decide (v = 0) || (decide (kd s a = 103) && decide (kd s v = 203)) || (decide (kd s a = 104) && decide (kd s v = 6))))
def oP (s : Stt) (r ci : Int) : Bool := decide (kd s r = ci) && true
def oPz (s : Stt) (r ci v : Int) : Bool := decide (kd s r = ci) && bit01 v
def sU (s : Stt) (a i v : Int) : Stt := (s.1, s.2.1, up s.2.2 a i v)
def oC (s : Stt) (n j b i a : Int) : Bool := decide ((kd s a = 100 ∧ kd s b = 100 ∨ kd s a = 103 ∧ kd s b = 103 ∧ ((List.range n.toNat).all (fun k : Nat => acOk s (s.2.2 a (i + k)))) = true) ∧ 0 ≤ n ∧ 0 ≤ i ∧ 0 ≤ j ∧ i + n ≤ ln s a ∧ j + n ≤ ln s b)
def sC (s : Stt) (a i b j n : Int) : Stt := (s.1, s.2.1, cpy s.2.2 a i b j n)
