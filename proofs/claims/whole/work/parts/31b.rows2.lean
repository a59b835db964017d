/-! More rows to rewrite with: switches, the JDK's own members, texts, the throw, the catching call -/
section RW2
variable {d m pc pc' : Nat} {tb : List (Nat × List Nat × IR)} {ks : List Nat} {lo lo' lo2 : Lcs} {st : List Vv} {s : Stt} {a b c : Int} {l : List (Int × Int)}
theorem r39 (ht : tabs.getD m [] = tb) (hl : look tb pc = some (ks, (39, 0, b, c, l))) (hk : kil ks lo = lo') (hp : pc + 1 = pc') {x y : Int} : Rn d m pc lo ((1, y) :: (1, x) :: st) s = Rn d m pc' lo' ((1, l_and x y) :: st) s := by
  rw [Rn_s ht hl, hk]; subst hp; rfl
theorem r77 (ht : tabs.getD m [] = tb) (hl : look tb pc = some (ks, (77, a, b, c, l))) (hk : kil ks lo = lo') {v : Int} {T : Option (Vv × Stt)} (hT : tsK pc a lo' st s (fun g => Rn d m g.1 g.2.1 g.2.2.1 g.2.2.2) v l b = T) : Rn d m pc lo ((0, v) :: st) s = T := by
  rw [Rn_s ht hl, hk]; exact hT
theorem r78 (ht : tabs.getD m [] = tb) (hl : look tb pc = some (ks, (78, a, b, c, l))) (hk : kil ks lo = lo') {v : Int} {T : Option (Vv × Stt)} (hT : lsK pc a lo' st s (fun g => Rn d m g.1 g.2.1 g.2.2.1 g.2.2.2) v l = T) : Rn d m pc lo ((0, v) :: st) s = T := by
  rw [Rn_s ht hl, hk]; exact hT
theorem r86a (ht : tabs.getD m [] = tb) (hl : look tb pc = some (ks, (86, 5, b, c, l))) (hk : kil ks lo = lo') (hp : pc + 3 = pc') (hc : decide ((st.map cat).sum ≤ 8) = true) {x : Int} : Rn d m pc lo ((1, x) :: st) s = Rn d m pc' lo' ((1, if 0 < x then x else w64 (-x)) :: st) s := by
  rw [Rn_s ht hl, hk]; subst hp
  show nxK (if (st.map cat).sum ≤ 8 then goN (pc + 3) lo' ((1, if 0 < x then x else w64 (-x)) :: st) s else none) _ = _
  rw [if_pos (of_decide_eq_true hc)]
  rfl
theorem r86c (ht : tabs.getD m [] = tb) (hl : look tb pc = some (ks, (86, 8, b, c, l))) (hk : kil ks lo = lo') (hp : pc + 3 = pc') (hc : decide ((st.map cat).sum ≤ 8) = true) {n j i x y : Int} : Rn d m pc lo ((0, n) :: (0, j) :: (2, y) :: (0, i) :: (2, x) :: st) s = if oC s n j y i x then Rn d m pc' lo' st (sC s x i y j n) else none := by
  rw [Rn_s ht hl, hk]; subst hp
  have h8 := of_decide_eq_true hc
  show (if (kd s x = 100 ∧ kd s y = 100 ∨ kd s x = 103 ∧ kd s y = 103 ∧ ((List.range n.toNat).all (fun k : Nat => acOk s (s.2.2 x (i + k)))) = true) ∧ 0 ≤ n ∧ 0 ≤ i ∧ 0 ≤ j ∧ i + n ≤ ln s x ∧ j + n ≤ ln s y ∧ (st.map cat).sum ≤ 8 then Rn d m (pc + 3) lo' st (s.1, s.2.1, cpy s.2.2 x i y j n) else none) = _
  by_cases h : oC s n j y i x = true
  · rw [if_pos h]
    have h := of_decide_eq_true h
    rw [if_pos ⟨h.1, h.2.1, h.2.2.1, h.2.2.2.1, h.2.2.2.2.1, h.2.2.2.2.2, h8⟩]
    rfl
  · rw [if_neg h, if_neg (fun q => h (decide_eq_true ⟨q.1, q.2.1, q.2.2.1, q.2.2.2.1, q.2.2.2.2.1, q.2.2.2.2.2.1⟩))]
theorem r59 (ht : tabs.getD m [] = tb) (hl : look tb pc = some (ks, (59, a, b, c, l))) (hk : kil ks lo = lo') (hp : pc + 2 = pc') : Rn d m pc lo st s = Rn d m pc' lo' ((2, a) :: st) s := by
  rw [Rn_s ht hl, hk]; subst hp; rfl
theorem r87l (ht : tabs.getD m [] = tb) (hl : look tb pc = some (ks, (87, 1, b, c, l))) (hk : kil ks lo = lo') (hp : pc + 3 = pc') (hc : decide ((st.map cat).sum ≤ 8) = true) {x : Int} : Rn d m pc lo ((2, x) :: st) s = if kd s x = 206 then Rn d m pc' lo' ((0, ln s x) :: st) s else none := by
  rw [Rn_s ht hl, hk]; subst hp
  have h8 := of_decide_eq_true hc
  show nxK (if kd s x = 206 ∧ (st.map cat).sum ≤ 8 then goN (pc + 3) lo' ((0, ln s x) :: st) s else none) _ = _
  by_cases h : kd s x = 206
  · rw [if_pos h, if_pos ⟨h, h8⟩]; rfl
  · rw [if_neg h, if_neg (fun q => h q.1)]; rfl
theorem r87c (ht : tabs.getD m [] = tb) (hl : look tb pc = some (ks, (87, 2, b, c, l))) (hk : kil ks lo = lo') (hp : pc + 3 = pc') (hc : decide ((st.map cat).sum ≤ 8) = true) {i x : Int} : Rn d m pc lo ((0, i) :: (2, x) :: st) s = if kd s x = 206 ∧ inb i (ln s x) = true then Rn d m pc' lo' ((0, s.2.2 x i) :: st) s else none := by
  rw [Rn_s ht hl, hk]; subst hp
  have h8 := of_decide_eq_true hc
  show nxK (if kd s x = 206 ∧ inb i (ln s x) = true ∧ (st.map cat).sum ≤ 8 then goN (pc + 3) lo' ((0, s.2.2 x i) :: st) s else none) _ = _
  by_cases h : kd s x = 206 ∧ inb i (ln s x) = true
  · rw [if_pos h, if_pos ⟨h.1, h.2, h8⟩]; rfl
  · rw [if_neg h, if_neg (fun q => h ⟨q.1, q.2.1⟩)]; rfl
theorem r98 (ht : tabs.getD m [] = tb) (hl : look tb pc = some (ks, (98, a, b, c, l))) : Rn d m pc lo [] s = some ((8, a), s) := by
  rw [Rn_s ht hl]; rfl
/-- behind the call that catches -/
def bK (o : Option (Vv × Stt)) (q : Int) (f : Int → Stt → Option (Vv × Stt)) : Option (Vv × Stt) := match o with
  | some ((0, v), s1) => f 0 (sU s1 q 0 v)
  | some ((8, k), s1) => f k ((s1.1.1, s1.1.2 + 8), s1.2)
  | _ => none
theorem r89 (ht : tabs.getD m [] = tb) (hl : look tb pc = some (ks, (89, a, b, c, l))) (hk : kil ks lo = lo') (hp : pc + 3 = pc') (hc : decide ((st.map cat).sum ≤ 8) = true) {q y z r : Int} : Rn d m pc lo ((2, q) :: (0, y) :: (0, z) :: (2, r) :: st) s = if kd s r = 10 ∧ kd s q = 101 ∧ 0 < ln s q then bK (den d 141 [(2, r), (0, z), (0, y)] s) q (fun k s1 => Rn d m pc' lo' ((0, k) :: st) s1) else none := by
  rw [Rn_s ht hl, hk]; subst hp
  have h8 := of_decide_eq_true hc
  show nxK (if kd s r = 10 ∧ kd s q = 101 ∧ 0 < ln s q ∧ (st.map cat).sum ≤ 8 then
      match den d 141 [(2, r), (0, z), (0, y)] s with
      | some ((0, v), s1) => goN (pc + 3) lo' ((0, 0) :: st) (s1.1, s1.2.1, up s1.2.2 q 0 v)
      | some ((8, k), s1) => goN (pc + 3) lo' ((0, k) :: st) ((s1.1.1, s1.1.2 + 8), s1.2)
      | _ => none
    else none) _ = _
  by_cases h : kd s r = 10 ∧ kd s q = 101 ∧ 0 < ln s q
  · rw [if_pos h, if_pos ⟨h.1, h.2.1, h.2.2, h8⟩]
    unfold bK
    split <;> rfl
  · rw [if_neg h, if_neg (fun q => h ⟨q.1, q.2.1, q.2.2.1⟩)]; rfl
end RW2
