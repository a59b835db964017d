/-! The store behind the constructors: cells at their places -/
def layL : List (Int × Int) := [(10, 10), (5, 7), (8, 8), (100, 700), (4, 13), (100, 8), (100, 8), (100, 8), (0, 11), (100, 16), (100, 16), (100, 8), (100, 8), (100, 8), (100, 8), (100, 24), (100, 8), (100, 8), (2, 8), (103, 64), (100, 64), (100, 3), (100, 3), (101, 64), (103, 72), (4, 13), (100, 8), (100, 8), (100, 8), (0, 11), (100, 16), (100, 16), (100, 8), (100, 8), (100, 8), (100, 8), (100, 24), (100, 8), (100, 8), (2, 8), (103, 64), (100, 64), (100, 3), (100, 3), (101, 64), (6, 12), (100, 8), (100, 8), (6, 12), (100, 8), (100, 8), (9, 6), (101, 7), (7, 4), (100, 8), (100, 8), (100, 8), (3, 11), (100, 24), (100, 24), (102, 24), (100, 24), (100, 256), (1, 5), (104, 20), (6, 12), (100, 8), (100, 8), (6, 12), (100, 8), (100, 8), (6, 12), (100, 8), (100, 8), (6, 12), (100, 8), (100, 8), (6, 12), (100, 8), (100, 8), (6, 12), (100, 8), (100, 8), (6, 12), (100, 8), (100, 8), (6, 12), (100, 8), (100, 8), (6, 12), (100, 8), (100, 8), (6, 12), (100, 8), (100, 8), (6, 12), (100, 8), (100, 8), (6, 12), (100, 8), (100, 8), (6, 12), (100, 8), (100, 8), (6, 12), (100, 8), (100, 8), (6, 12), (100, 8), (100, 8), (6, 12), (100, 8), (100, 8), (6, 12), (100, 8), (100, 8), (6, 12), (100, 8), (100, 8), (6, 12), (100, 8), (100, 8), (6, 12), (100, 8), (100, 8), (6, 12), (100, 8), (100, 8), (11, 72), (100, 700), (100, 14), (100, 16), (100, 16), (100, 16), (100, 16), (100, 32), (100, 32), (100, 6), (100, 6), (100, 128), (100, 128), (101, 7), (101, 64), (100, 23), (100, 23), (100, 23), (100, 23), (100, 23), (100, 23), (100, 23), (100, 23), (100, 23), (100, 23), (100, 184), (100, 184), (100, 8), (100, 600), (100, 600), (100, 600), (100, 600), (100, 600), (100, 16), (100, 8), (102, 8), (100, 8), (100, 24), (102, 128), (100, 8), (100, 24), (100, 24), (102, 24), (100, 24), (102, 24), (100, 16), (101, 1)]
def L0 : Lay := fun a => if a ≤ 0 then XL0 a else layL.getD (a.toNat - 1) (-1, 0)
def cstL : List (Int × List (Int × Int)) := [(1, [(0, 2), (1, 26), (2, 46), (3, 49), (4, 52), (5, 54), (6, 58), (7, 64)]), (2, [(0, 3), (1, 5), (4, 25)]), (3, [(0, 4)]), (5, [(0, 6), (1, 7), (2, 8), (3, 9), (4, 19)]), (9, [(2, 10), (3, 11), (4, 12), (5, 13), (6, 14), (7, 15), (8, 16), (9, 17), (10, 18)]), (19, [(1, 20), (2, 21), (3, 22), (4, 23), (5, 24)]), (26, [(0, 27), (1, 28), (2, 29), (3, 30), (4, 40)]), (30, [(2, 31), (3, 32), (4, 33), (5, 34), (6, 35), (7, 36), (8, 37), (9, 38), (10, 39)]), (40, [(1, 41), (2, 42), (3, 43), (4, 44), (5, 45)]), (46, [(0, 47), (1, 48)]), (49, [(0, 50), (1, 51)]), (52, [(0, 26), (1, 53)]), (54, [(0, 30), (1, 55), (2, 56), (3, 57)]), (58, [(5, 54), (6, 59), (7, 60), (8, 61), (9, 62), (10, 63)]), (64, [(1, 65), (2, 66)]), (65, [(0, 69), (1, 72), (2, 75), (3, 78), (4, 81), (5, 84), (6, 87), (7, 90), (8, 93), (9, 96), (10, 99), (11, 102), (12, 105), (13, 108), (14, 111), (15, 114), (16, 117), (17, 120), (18, 123), (19, 126)]), (66, [(0, 67), (1, 68)]), (69, [(0, 70), (1, 71)]), (72, [(0, 73), (1, 74)]), (75, [(0, 76), (1, 77)]), (78, [(0, 79), (1, 80)]), (81, [(0, 82), (1, 83)]), (84, [(0, 85), (1, 86)]), (87, [(0, 88), (1, 89)]), (90, [(0, 91), (1, 92)]), (93, [(0, 94), (1, 95)]), (96, [(0, 97), (1, 98)]), (99, [(0, 100), (1, 101)]), (102, [(0, 103), (1, 104)]), (105, [(0, 106), (1, 107)]), (108, [(0, 109), (1, 110)]), (111, [(0, 112), (1, 113)]), (114, [(0, 115), (1, 116)]), (117, [(0, 118), (1, 119)]), (120, [(0, 121), (1, 122)]), (123, [(0, 124), (1, 125)]), (126, [(0, 127), (1, 128)]), (129, [(1, 130), (3, 131), (4, 132), (5, 133), (6, 134), (7, 135), (8, 136), (9, 137), (10, 138), (11, 139), (12, 140), (13, 141), (27, 142), (28, 143), (30, 144), (31, 145), (32, 146), (33, 147), (34, 148), (35, 149), (36, 150), (37, 151), (38, 152), (39, 153), (40, 154), (41, 155), (44, 156), (50, 157), (51, 158), (52, 159), (53, 160), (54, 161), (57, 162), (58, 163), (59, 164), (60, 165), (61, 166), (62, 167), (63, 168), (66, 169), (67, 170), (68, 171), (69, 172), (70, 173), (71, 174)])]
def cst (a i : Int) : Option Int := match cstL.find? (fun q => q.1 == a) with
  | none => none
  | some q => (q.2.find? (fun r => r.1 == i)).map (fun r => r.2)
def fz (xs : Int → Int) (D : Sto) : Sto := fun a i => if a ≤ 0 then XD0 xs a i else match cst a i with
  | some v => v
  | none => D a i
/-- the store: counts, the known layout, contents whose references to things are known -/
def Sg (xs : Int → Int) (n : Int × Int) (D : Sto) : Stt := (n, L0, fz xs D)
def okK (k : Int) : Bool := decide (-39 ≤ k) && decide (k ≤ -2)
def okK0 (k : Int) : Bool := decide (k = 0) || okK k
def kf (b k : Int) : Int := (kV.getD b.toNat []).getD (-k - 2).toNat 0
def kAll (i : Int) : Int := if 0 ≤ i ∧ i < 38 then -(2 + i) else 0
def kSw (i : Int) : Int := smap.getD i.toNat 0
def wb (i : Int) : Int := wbytes.getD i.toNat 0
theorem kd_neg {xs : Int → Int} {n : Int × Int} {D : Sto} {k : Int} (h : k ≤ 0) : kd (Sg xs n D) k = (XL0 k).1 := by
  show (L0 k).1 = _
  unfold L0
  rw [if_pos h]
theorem kd_pos {xs : Int → Int} {n : Int × Int} {D : Sto} {k : Int} (h : 0 < k) : kd (Sg xs n D) k ≠ 203 := by
  show (L0 k).1 ≠ 203
  unfold L0
  rw [if_neg (by omega)]
  have hl : layL.all (fun q => decide (q.1 ≠ 203)) = true := by decide +kernel
  rw [List.getD_eq_getElem?_getD]
  cases h1 : layL[k.toNat - 1]? with
  | none => simp
  | some q =>
    have := List.all_eq_true.mp hl q (List.mem_of_getElem? h1)
    simpa using this
theorem okK_eq {xs : Int → Int} {n : Int × Int} {D : Sto} {k : Int} : oF (Sg xs n D) k 203 = okK k := by
  unfold oF okK
  by_cases h : k ≤ 0
  · rw [kd_neg h]
    unfold XL0
    by_cases h2 : -39 ≤ k ∧ k ≤ -2
    · rw [if_neg (by omega), if_neg (by omega), if_neg (by omega), if_neg (by omega), if_pos h2]
      simp [h2]
    · have e : (if k = -1 then ((200, 0) : Int × Int) else if k = -50 then (204, 38) else if k = -51 then (205, 38) else if k = -60 then (206, 106) else if -39 ≤ k ∧ k ≤ -2 then (203, 0) else (-1, 0)).1 ≠ 203 := by
        split
        · simp
        · split
          · simp
          · split
            · simp
            · split
              · simp
              · simp
      rw [decide_eq_false e]
      symm
      rw [Bool.and_eq_false_iff]
      by_cases h3 : -39 ≤ k
      · right; exact decide_eq_false (fun q => h2 ⟨h3, q⟩)
      · left; exact decide_eq_false h3
  · rw [decide_eq_false (kd_pos (by omega))]
    symm
    rw [Bool.and_eq_false_iff]
    right
    exact decide_eq_false (by omega)
theorem acOk_eq {xs : Int → Int} {n : Int × Int} {D : Sto} {k : Int} : acOk (Sg xs n D) k = okK0 k := by
  unfold acOk okK0
  rw [← okK_eq (xs := xs) (n := n) (D := D)]
  rfl
theorem kd203 {xs : Int → Int} {n : Int × Int} {D : Sto} {k : Int} : kd (Sg xs n D) k = 203 ↔ okK k = true := by
  rw [← okK_eq (xs := xs) (n := n) (D := D)]
  unfold oF
  simp
theorem fz_kf {xs : Int → Int} {D : Sto} {k b : Int} (h : okK k = true) : fz xs D k b = kf b k := by
  simp only [okK, Bool.and_eq_true, decide_eq_true_eq] at h
  unfold fz
  rw [if_pos (by omega)]
  unfold XD0
  rw [if_neg (by omega), if_neg (by omega), if_neg (by omega), if_neg (by omega), if_pos h]
  rfl
theorem sU_S {xs : Int → Int} {n : Int × Int} {D : Sto} {a i v : Int} (h0 : decide (0 < a) = true) (h : cst a i = none) : sU (Sg xs n D) a i v = Sg xs n (up D a i v) := by
  have h0 := of_decide_eq_true h0
  unfold sU Sg
  simp only
  congr 2
  funext b j
  unfold up fz
  by_cases q : b = a ∧ j = i
  · rw [if_pos q, q.1, q.2, if_neg (by omega), h]
    simp
  · rw [if_neg q]
    split
    · rfl
    · split
      · rfl
      · simp only [if_neg q]
theorem sC_S {xs : Int → Int} {n : Int × Int} {D : Sto} {a i b j k : Int} (h0 : decide (0 < b) = true) (h : ∀ z, cst b z = none) (ha : ∀ z, fz xs D a z = D a z) : sC (Sg xs n D) a i b j k = Sg xs n (cpy D a i b j k) := by
  have h0 := of_decide_eq_true h0
  unfold sC Sg
  simp only
  congr 2
  funext c z
  unfold cpy
  by_cases q : c = b ∧ j ≤ z ∧ z < j + k
  · rw [if_pos q, ha]
    unfold fz
    rw [q.1, if_neg (by omega), h]
    simp [q.2]
  · rw [if_neg q]
    unfold fz
    split
    · rfl
    · split
      · rfl
      · simp only [if_neg q]
theorem inb_eq {i k : Int} : inb i k = decide (0 ≤ i ∧ i < k) := by
  unfold inb
  by_cases h : 0 ≤ i <;> by_cases h2 : i < k <;> simp [h, h2]
section RW3
variable {d m pc pc' : Nat} {tb : List (Nat × List Nat × IR)} {ks : List Nat} {lo lo' lo2 : Lcs} {st : List Vv} {a b c : Int} {l : List (Int × Int)} {xs : Int → Int} {n : Int × Int} {D : Sto}
theorem h45 (ht : tabs.getD m [] = tb) (hl : look tb pc = some (ks, (45, a, b, c, l))) (hk : kil ks lo = lo') (hp : pc + 1 = pc') {i q e k : Int} (hc : okI (Sg xs n D) q i = inb i k) (hv : fz xs D q i = e) : Rn d m pc lo ((0, i) :: (2, q) :: st) (Sg xs n D) = if inb i k then Rn d m pc' lo' ((0, e) :: st) (Sg xs n D) else none := by
  rw [r45 ht hl hk hp, hc, show (Sg xs n D).2.2 q i = e from hv]
theorem h45k (ht : tabs.getD m [] = tb) (hl : look tb pc = some (ks, (45, a, b, c, l))) (hk : kil ks lo = lo') (hp : pc + 1 = pc') {i q e : Int} (hc : okI (Sg xs n D) q i = true) (hv : fz xs D q i = e) : Rn d m pc lo ((0, i) :: (2, q) :: st) (Sg xs n D) = Rn d m pc' lo' ((0, e) :: st) (Sg xs n D) := by
  rw [r45 ht hl hk hp, hc, show (Sg xs n D).2.2 q i = e from hv]; rfl
theorem h46 (ht : tabs.getD m [] = tb) (hl : look tb pc = some (ks, (46, a, b, c, l))) (hk : kil ks lo = lo') (hp : pc + 1 = pc') {i q e k : Int} (hc : okJ (Sg xs n D) q i = inb i k) (hv : fz xs D q i = e) : Rn d m pc lo ((0, i) :: (2, q) :: st) (Sg xs n D) = if inb i k then Rn d m pc' lo' ((1, e) :: st) (Sg xs n D) else none := by
  rw [r46 ht hl hk hp, hc, show (Sg xs n D).2.2 q i = e from hv]
theorem h46k (ht : tabs.getD m [] = tb) (hl : look tb pc = some (ks, (46, a, b, c, l))) (hk : kil ks lo = lo') (hp : pc + 1 = pc') {i q e : Int} (hc : okJ (Sg xs n D) q i = true) (hv : fz xs D q i = e) : Rn d m pc lo ((0, i) :: (2, q) :: st) (Sg xs n D) = Rn d m pc' lo' ((1, e) :: st) (Sg xs n D) := by
  rw [r46 ht hl hk hp, hc, show (Sg xs n D).2.2 q i = e from hv]; rfl
theorem h47 (ht : tabs.getD m [] = tb) (hl : look tb pc = some (ks, (47, a, b, c, l))) (hk : kil ks lo = lo') (hp : pc + 1 = pc') {i q e k : Int} (hc : okZ (Sg xs n D) q i = inb i k) (hv : fz xs D q i = e) : Rn d m pc lo ((0, i) :: (2, q) :: st) (Sg xs n D) = if inb i k then Rn d m pc' lo' ((0, e) :: st) (Sg xs n D) else none := by
  rw [r47 ht hl hk hp, hc, show (Sg xs n D).2.2 q i = e from hv]
theorem h47k (ht : tabs.getD m [] = tb) (hl : look tb pc = some (ks, (47, a, b, c, l))) (hk : kil ks lo = lo') (hp : pc + 1 = pc') {i q e : Int} (hc : okZ (Sg xs n D) q i = true) (hv : fz xs D q i = e) : Rn d m pc lo ((0, i) :: (2, q) :: st) (Sg xs n D) = Rn d m pc' lo' ((0, e) :: st) (Sg xs n D) := by
  rw [r47 ht hl hk hp, hc, show (Sg xs n D).2.2 q i = e from hv]; rfl
theorem h48 (ht : tabs.getD m [] = tb) (hl : look tb pc = some (ks, (48, a, b, c, l))) (hk : kil ks lo = lo') (hp : pc + 1 = pc') {i q e k : Int} (hc : okA (Sg xs n D) q i = inb i k) (hv : fz xs D q i = e) : Rn d m pc lo ((0, i) :: (2, q) :: st) (Sg xs n D) = if inb i k then Rn d m pc' lo' ((2, e) :: st) (Sg xs n D) else none := by
  rw [r48 ht hl hk hp, hc, show (Sg xs n D).2.2 q i = e from hv]
theorem h48k (ht : tabs.getD m [] = tb) (hl : look tb pc = some (ks, (48, a, b, c, l))) (hk : kil ks lo = lo') (hp : pc + 1 = pc') {i q e : Int} (hc : okA (Sg xs n D) q i = true) (hv : fz xs D q i = e) : Rn d m pc lo ((0, i) :: (2, q) :: st) (Sg xs n D) = Rn d m pc' lo' ((2, e) :: st) (Sg xs n D) := by
  rw [r48 ht hl hk hp, hc, show (Sg xs n D).2.2 q i = e from hv]; rfl
theorem h49 (ht : tabs.getD m [] = tb) (hl : look tb pc = some (ks, (49, a, b, c, l))) (hk : kil ks lo = lo') (hp : pc + 1 = pc') {q e : Int} (hc : okN (Sg xs n D) q = true) (hv : alen (Sg xs n D) q = e) : Rn d m pc lo ((2, q) :: st) (Sg xs n D) = Rn d m pc' lo' ((0, e) :: st) (Sg xs n D) := by
  rw [r49 ht hl hk hp, hc, hv]; rfl
theorem h50 (ht : tabs.getD m [] = tb) (hl : look tb pc = some (ks, (50, a, b, c, l))) (hk : kil ks lo = lo') (hp : pc + 1 = pc') {v i q k : Int} (hc : oS0 (Sg xs n D) q i = (inb i k && true)) (h0 : (decide (0 < q) && (cst q i).isNone) = true) : Rn d m pc lo ((0, v) :: (0, i) :: (2, q) :: st) (Sg xs n D) = if inb i k then Rn d m pc' lo' st (Sg xs n (up D q i v)) else none := by
  rw [Bool.and_eq_true] at h0
  rw [r50 ht hl hk hp, hc, Bool.and_true, sU_S h0.1 (Option.isNone_iff_eq_none.mp h0.2)]
theorem h50k (ht : tabs.getD m [] = tb) (hl : look tb pc = some (ks, (50, a, b, c, l))) (hk : kil ks lo = lo') (hp : pc + 1 = pc') {v i q : Int} (hc : oS0 (Sg xs n D) q i = true) (h0 : (decide (0 < q) && (cst q i).isNone) = true) : Rn d m pc lo ((0, v) :: (0, i) :: (2, q) :: st) (Sg xs n D) = Rn d m pc' lo' st (Sg xs n (up D q i v)) := by
  rw [Bool.and_eq_true] at h0
  rw [r50 ht hl hk hp, hc, sU_S h0.1 (Option.isNone_iff_eq_none.mp h0.2)]; rfl
theorem h51 (ht : tabs.getD m [] = tb) (hl : look tb pc = some (ks, (51, a, b, c, l))) (hk : kil ks lo = lo') (hp : pc + 1 = pc') {v i q k : Int} (hc : oS1 (Sg xs n D) q i = (inb i k && true)) (h0 : (decide (0 < q) && (cst q i).isNone) = true) : Rn d m pc lo ((1, v) :: (0, i) :: (2, q) :: st) (Sg xs n D) = if inb i k then Rn d m pc' lo' st (Sg xs n (up D q i v)) else none := by
  rw [Bool.and_eq_true] at h0
  rw [r51 ht hl hk hp, hc, Bool.and_true, sU_S h0.1 (Option.isNone_iff_eq_none.mp h0.2)]
theorem h51k (ht : tabs.getD m [] = tb) (hl : look tb pc = some (ks, (51, a, b, c, l))) (hk : kil ks lo = lo') (hp : pc + 1 = pc') {v i q : Int} (hc : oS1 (Sg xs n D) q i = true) (h0 : (decide (0 < q) && (cst q i).isNone) = true) : Rn d m pc lo ((1, v) :: (0, i) :: (2, q) :: st) (Sg xs n D) = Rn d m pc' lo' st (Sg xs n (up D q i v)) := by
  rw [Bool.and_eq_true] at h0
  rw [r51 ht hl hk hp, hc, sU_S h0.1 (Option.isNone_iff_eq_none.mp h0.2)]; rfl
theorem h52 (ht : tabs.getD m [] = tb) (hl : look tb pc = some (ks, (52, a, b, c, l))) (hk : kil ks lo = lo') (hp : pc + 1 = pc') {v i q k : Int} (hc : oSZ (Sg xs n D) q i v = (inb i k && bit01 v)) (h0 : (decide (0 < q) && (cst q i).isNone) = true) : Rn d m pc lo ((0, v) :: (0, i) :: (2, q) :: st) (Sg xs n D) = if inb i k && bit01 v then Rn d m pc' lo' st (Sg xs n (up D q i v)) else none := by
  rw [Bool.and_eq_true] at h0
  rw [r52 ht hl hk hp, hc, sU_S h0.1 (Option.isNone_iff_eq_none.mp h0.2)]
theorem oSA_eq {i q k v : Int} (h1 : kd (Sg xs n D) q = 103) (h2 : ln (Sg xs n D) q = k) : oSA (Sg xs n D) q i v = (inb i k && okK0 v) := by
  have e : decide (kd (Sg xs n D) v = 203) = okK v := okK_eq
  unfold oSA okK0
  rw [h1, h2, e]
  simp
theorem h53 (ht : tabs.getD m [] = tb) (hl : look tb pc = some (ks, (53, a, b, c, l))) (hk : kil ks lo = lo') (hp : pc + 1 = pc') {v i q k : Int} (h1 : kd (Sg xs n D) q = 103) (h2 : ln (Sg xs n D) q = k) (h0 : (decide (0 < q) && (cst q i).isNone) = true) : Rn d m pc lo ((2, v) :: (0, i) :: (2, q) :: st) (Sg xs n D) = if inb i k && okK0 v then Rn d m pc' lo' st (Sg xs n (up D q i v)) else none := by
  rw [Bool.and_eq_true] at h0
  rw [r53 ht hl hk hp, oSA_eq h1 h2, sU_S h0.1 (Option.isNone_iff_eq_none.mp h0.2)]
theorem h54 (ht : tabs.getD m [] = tb) (hl : look tb pc = some (ks, (54, a, b, c, l))) (hk : kil ks lo = lo') (hp : pc + 3 = pc') {t : Nat} (hf : ftg a b = t) {r e : Int} (hc : oF (Sg xs n D) r a = true) (hv : fz xs D r b = e) : Rn d m pc lo ((2, r) :: st) (Sg xs n D) = Rn d m pc' lo' ((t, e) :: st) (Sg xs n D) := by
  rw [r54 ht hl hk hp hf, hc, show (Sg xs n D).2.2 r b = e from hv]; rfl
theorem h55 (ht : tabs.getD m [] = tb) (hl : look tb pc = some (ks, (55, a, b, c, l))) (hk : kil ks lo = lo') (hp : pc + 3 = pc') {t : Nat} (hf : ftg a b = t) (hc : (fcode a b != 3) = true) {v r : Int} (h1 : oP (Sg xs n D) r a = true) (h0 : (decide (0 < r) && (cst r b).isNone) = true) : Rn d m pc lo ((t, v) :: (2, r) :: st) (Sg xs n D) = Rn d m pc' lo' st (Sg xs n (up D r b v)) := by
  rw [Bool.and_eq_true] at h0
  rw [r55 ht hl hk hp hf hc, h1, sU_S h0.1 (Option.isNone_iff_eq_none.mp h0.2)]; rfl
theorem h55z (ht : tabs.getD m [] = tb) (hl : look tb pc = some (ks, (55, a, b, c, l))) (hk : kil ks lo = lo') (hp : pc + 3 = pc') {t : Nat} (hf : ftg a b = t) (hc : (fcode a b != 3) = false) {v r : Int} (h1 : oPz (Sg xs n D) r a v = bit01 v) (h0 : (decide (0 < r) && (cst r b).isNone) = true) : Rn d m pc lo ((t, v) :: (2, r) :: st) (Sg xs n D) = if bit01 v then Rn d m pc' lo' st (Sg xs n (up D r b v)) else none := by
  rw [Bool.and_eq_true] at h0
  rw [r55z ht hl hk hp hf hc, h1, sU_S h0.1 (Option.isNone_iff_eq_none.mp h0.2)]
theorem h55q (ht : tabs.getD m [] = tb) (hl : look tb pc = some (ks, (55, a, b, c, l))) (hk : kil ks lo = lo') (hp : pc + 3 = pc') {t : Nat} (hf : ftg a b = t) (hc : (fcode a b != 3) = false) {v r : Int} (h1 : oPz (Sg xs n D) r a v = true) (h0 : (decide (0 < r) && (cst r b).isNone) = true) : Rn d m pc lo ((t, v) :: (2, r) :: st) (Sg xs n D) = Rn d m pc' lo' st (Sg xs n (up D r b v)) := by
  rw [Bool.and_eq_true] at h0
  rw [r55z ht hl hk hp hf hc, h1, sU_S h0.1 (Option.isNone_iff_eq_none.mp h0.2)]; rfl
theorem h56 (ht : tabs.getD m [] = tb) (hl : look tb pc = some (ks, (56, a, b, c, l))) (hk : kil ks lo = lo') (hp : pc + 3 = pc') {t : Nat} (hf : ftg a b = t) (hc : (fcode a b != 3) = true) {v r : Int} (h1 : oP (Sg xs n D) r a = true) (h0 : (decide (0 < r) && (cst r b).isNone) = true) : Rn d m pc lo ((t, v) :: (2, r) :: st) (Sg xs n D) = Rn d m pc' lo' st (Sg xs n (up D r b v)) := by
  rw [Bool.and_eq_true] at h0
  rw [r56 ht hl hk hp hf hc, h1, sU_S h0.1 (Option.isNone_iff_eq_none.mp h0.2)]; rfl
theorem h56z (ht : tabs.getD m [] = tb) (hl : look tb pc = some (ks, (56, a, b, c, l))) (hk : kil ks lo = lo') (hp : pc + 3 = pc') {t : Nat} (hf : ftg a b = t) (hc : (fcode a b != 3) = false) {v r : Int} (h1 : oPz (Sg xs n D) r a v = bit01 v) (h0 : (decide (0 < r) && (cst r b).isNone) = true) : Rn d m pc lo ((t, v) :: (2, r) :: st) (Sg xs n D) = if bit01 v then Rn d m pc' lo' st (Sg xs n (up D r b v)) else none := by
  rw [Bool.and_eq_true] at h0
  rw [r56z ht hl hk hp hf hc, h1, sU_S h0.1 (Option.isNone_iff_eq_none.mp h0.2)]
theorem h56q (ht : tabs.getD m [] = tb) (hl : look tb pc = some (ks, (56, a, b, c, l))) (hk : kil ks lo = lo') (hp : pc + 3 = pc') {t : Nat} (hf : ftg a b = t) (hc : (fcode a b != 3) = false) {v r : Int} (h1 : oPz (Sg xs n D) r a v = true) (h0 : (decide (0 < r) && (cst r b).isNone) = true) : Rn d m pc lo ((t, v) :: (2, r) :: st) (Sg xs n D) = Rn d m pc' lo' st (Sg xs n (up D r b v)) := by
  rw [Bool.and_eq_true] at h0
  rw [r56z ht hl hk hp hf hc, h1, sU_S h0.1 (Option.isNone_iff_eq_none.mp h0.2)]; rfl
theorem h58k (ht : tabs.getD m [] = tb) (hl : look tb pc = some (ks, (58, a, b, c, l))) (hk : kil ks lo = lo') (hp : pc + 3 = pc') {r e : Int} (h1 : okK r = true) (hv : kf b r = e) : Rn d m pc lo ((2, r) :: st) (Sg xs n D) = Rn d m pc' lo' ((0, e) :: st) (Sg xs n D) := by
  rw [r58 ht hl hk hp, okK_eq, h1, show (Sg xs n D).2.2 r b = e from (fz_kf h1).trans hv]; rfl
theorem h58 (ht : tabs.getD m [] = tb) (hl : look tb pc = some (ks, (58, a, b, c, l))) (hk : kil ks lo = lo') (hp : pc + 3 = pc') {r : Int} : Rn d m pc lo ((2, r) :: st) (Sg xs n D) = if okK r then Rn d m pc' lo' ((0, kf b r) :: st) (Sg xs n D) else none := by
  rw [r58 ht hl hk hp, okK_eq]
  by_cases h : okK r = true
  · rw [if_pos h, if_pos h, show (Sg xs n D).2.2 r b = kf b r from fz_kf h]
  · rw [if_neg h, if_neg h]
theorem h72 (ht : tabs.getD m [] = tb) (hl : look tb pc = some (ks, (72, a, b, c, l))) (hk : kil ks lo = lo') (hp : pc + 3 = pc') {pt : Nat} (hq : ((pc : Int) + a).toNat = pt) {y v : Int} : Rn d m pc lo ((2, y) :: (2, v) :: st) (Sg xs n D) = if okK0 v && okK0 y then (if v = y then Rn d m pt lo' st (Sg xs n D) else Rn d m pc' lo' st (Sg xs n D)) else none := by
  rw [r72 ht hl hk hp hq, acOk_eq, acOk_eq]
theorem h73 (ht : tabs.getD m [] = tb) (hl : look tb pc = some (ks, (73, a, b, c, l))) (hk : kil ks lo = lo') (hp : pc + 3 = pc') {pt : Nat} (hq : ((pc : Int) + a).toNat = pt) {y v : Int} : Rn d m pc lo ((2, y) :: (2, v) :: st) (Sg xs n D) = if okK0 v && okK0 y then (if ¬ v = y then Rn d m pt lo' st (Sg xs n D) else Rn d m pc' lo' st (Sg xs n D)) else none := by
  rw [r73 ht hl hk hp hq, acOk_eq, acOk_eq]
theorem h80 (ht : tabs.getD m [] = tb) (hl : look tb pc = some (ks, (80, a, b, c, l))) (hk : kil ks lo = lo') (hp : pc + 3 = pc') {mm : Nat} (hm : a.toNat = mm) {as rest : List Vv} (h1 : (st.take (c.toNat + 1)).reverse = as) (h2 : st.drop (c.toNat + 1) = rest) {r ci : Int} (hr : st[c.toNat]? = some (2, r)) (hi : mci a.toNat = ci) (hc : decide (c.toNat + 1 ≤ st.length ∧ ((st.drop (c.toNat + 1)).map cat).sum ≤ 8 ∧ (mkL (st.take (c.toNat + 1)).reverse).length ≤ mL a.toNat) = true) (hkd : decide (kd (Sg xs n D) r = ci) = true) : Rn d m pc lo st (Sg xs n D) = cK (den d mm as (Sg xs n D)) (fun v s1 => Rn d m pc' lo' (pushR v rest) s1) := by
  rw [r80 ht hl hk hp hm h1 h2 hr hi hc, if_pos (of_decide_eq_true hkd)]
theorem h82 (ht : tabs.getD m [] = tb) (hl : look tb pc = some (ks, (82, a, b, c, l))) (hk : kil ks lo = lo') (hp : pc + 3 = pc') {mm : Nat} (hm : a.toNat = mm) {as rest : List Vv} (h1 : (st.take (c.toNat + 1)).reverse = as) (h2 : st.drop (c.toNat + 1) = rest) {r ci : Int} (hr : st[c.toNat]? = some (2, r)) (hi : mci a.toNat = ci) (hc : decide (c.toNat + 1 ≤ st.length ∧ ((st.drop (c.toNat + 1)).map cat).sum ≤ 8 ∧ (mkL (st.take (c.toNat + 1)).reverse).length ≤ mL a.toNat) = true) (hkd : decide (kd (Sg xs n D) r = ci) = true) : Rn d m pc lo st (Sg xs n D) = cK (den d mm as (Sg xs n D)) (fun v s1 => Rn d m pc' lo' (pushR v rest) s1) := by
  rw [r82 ht hl hk hp hm h1 h2 hr hi hc, if_pos (of_decide_eq_true hkd)]
theorem h84 (ht : tabs.getD m [] = tb) (hl : look tb pc = some (ks, (84, a, b, c, l))) (hk : kil ks lo = lo') (hp : pc + 3 = pc') {mm : Nat} (hm : a.toNat = mm) {as rest : List Vv} (h1 : (st.take (c.toNat + 1)).reverse = as) (h2 : st.drop (c.toNat + 1) = rest) {r ci : Int} (hr : st[c.toNat]? = some (2, r)) (hi : mci a.toNat = ci) (hc : decide (c.toNat + 1 ≤ st.length ∧ ((st.drop (c.toNat + 1)).map cat).sum ≤ 8 ∧ (mkL (st.take (c.toNat + 1)).reverse).length ≤ mL a.toNat) = true) (hkd : decide (kd (Sg xs n D) r = ci) = true) : Rn d m pc lo st (Sg xs n D) = cK (den d mm as (Sg xs n D)) (fun v s1 => Rn d m pc' lo' (pushR v rest) s1) := by
  rw [r84 ht hl hk hp hm h1 h2 hr hi hc, if_pos (of_decide_eq_true hkd)]
theorem h88 (ht : tabs.getD m [] = tb) (hl : look tb pc = some (ks, (88, a, b, c, l))) (hk : kil ks lo = lo') (hp : pc + 3 = pc') {mm : Nat} (hm : a.toNat = mm) {r : Int} (hc : decide (1 ≤ ((2, r) :: st).length ∧ ((((2, r) :: st).drop 1).map cat).sum ≤ 8 ∧ (mkL (((2, r) :: st).take 1).reverse).length ≤ mL a.toNat) = true) : Rn d m pc lo ((2, r) :: st) (Sg xs n D) = if okK r then cK (den d mm [(2, r)] (Sg xs n D)) (fun v s1 => Rn d m pc' lo' (pushR v st) s1) else none := by
  rw [r88 ht hl hk hp hm hc]
  by_cases h : okK r = true
  · rw [if_pos h, if_pos (kd203.mpr h)]
  · rw [if_neg h, if_neg (fun q => h (kd203.mp q))]
theorem h86k (ht : tabs.getD m [] = tb) (hl : look tb pc = some (ks, (86, 8, b, c, l))) (hk : kil ks lo = lo') (hp : pc + 3 = pc') (hc : decide ((st.map cat).sum ≤ 8) = true) {k j i x y : Int} (h1 : oC (Sg xs n D) k j y i x = true) (h0 : decide (0 < y) = true) (h2 : (fun z => cst y z) = fun _ => none) (h3 : (fun z => fz xs D x z) = fun z => D x z) : Rn d m pc lo ((0, k) :: (0, j) :: (2, y) :: (0, i) :: (2, x) :: st) (Sg xs n D) = Rn d m pc' lo' st (Sg xs n (cpy D x i y j k)) := by
  rw [r86c ht hl hk hp hc, h1, sC_S h0 (fun z => congrFun h2 z) (fun z => congrFun h3 z)]; rfl
theorem h86 (ht : tabs.getD m [] = tb) (hl : look tb pc = some (ks, (86, 8, b, c, l))) (hk : kil ks lo = lo') (hp : pc + 3 = pc') (hc : decide ((st.map cat).sum ≤ 8) = true) {z x y k : Int} (h1 : decide (kd (Sg xs n D) x = 100 ∧ kd (Sg xs n D) y = 100 ∧ ln (Sg xs n D) x = k ∧ ln (Sg xs n D) y = k) = true) (h0 : decide (0 < y) = true) (h2 : (fun z => cst y z) = fun _ => none) (h3 : (fun z => fz xs D x z) = fun z => D x z) : Rn d m pc lo ((0, z) :: (0, 0) :: (2, y) :: (0, 0) :: (2, x) :: st) (Sg xs n D) = if decide (0 ≤ z ∧ z ≤ k) then Rn d m pc' lo' st (Sg xs n (cpy D x 0 y 0 z)) else none := by
  have h1 := of_decide_eq_true h1
  have e : oC (Sg xs n D) z 0 y 0 x = decide (0 ≤ z ∧ z ≤ k) := by
    unfold oC
    rw [h1.1, h1.2.1, h1.2.2.1, h1.2.2.2]
    simp
  rw [r86c ht hl hk hp hc, e, sC_S h0 (fun z => congrFun h2 z) (fun z => congrFun h3 z)]
theorem h86r (ht : tabs.getD m [] = tb) (hl : look tb pc = some (ks, (86, 8, b, c, l))) (hk : kil ks lo = lo') (hp : pc + 3 = pc') (hc : decide ((st.map cat).sum ≤ 8) = true) {k j i x y : Int} (h1 : decide (kd (Sg xs n D) x = 103 ∧ kd (Sg xs n D) y = 103 ∧ 0 ≤ k ∧ 0 ≤ i ∧ 0 ≤ j ∧ i + k ≤ ln (Sg xs n D) x ∧ j + k ≤ ln (Sg xs n D) y) = true) (h0 : decide (0 < y) = true) (h2 : (fun z => cst y z) = fun _ => none) (h3 : (fun z => fz xs D x z) = fun z => D x z) : Rn d m pc lo ((0, k) :: (0, j) :: (2, y) :: (0, i) :: (2, x) :: st) (Sg xs n D) = if (List.range k.toNat).all (fun z : Nat => okK0 (D x (i + z))) then Rn d m pc' lo' st (Sg xs n (cpy D x i y j k)) else none := by
  have h1 := of_decide_eq_true h1
  have e : oC (Sg xs n D) k j y i x = (List.range k.toNat).all (fun z : Nat => okK0 (D x (i + z))) := by
    have e2 : (fun z : Nat => acOk (Sg xs n D) ((Sg xs n D).2.2 x (i + z))) = fun z : Nat => okK0 (D x (i + z)) := by
      funext z
      rw [acOk_eq]
      exact congrArg okK0 (congrFun h3 (i + z))
    unfold oC
    rw [e2, h1.1, h1.2.1]
    simp [h1.2.2]
  rw [r86c ht hl hk hp hc, e, sC_S h0 (fun z => congrFun h2 z) (fun z => congrFun h3 z)]
theorem h87l (ht : tabs.getD m [] = tb) (hl : look tb pc = some (ks, (87, 1, b, c, l))) (hk : kil ks lo = lo') (hp : pc + 3 = pc') (hc : decide ((st.map cat).sum ≤ 8) = true) : Rn d m pc lo ((2, -60) :: st) (Sg xs n D) = Rn d m pc' lo' ((0, 106) :: st) (Sg xs n D) := by
  rw [r87l ht hl hk hp hc]; rfl
theorem h87c (ht : tabs.getD m [] = tb) (hl : look tb pc = some (ks, (87, 2, b, c, l))) (hk : kil ks lo = lo') (hp : pc + 3 = pc') (hc : decide ((st.map cat).sum ≤ 8) = true) {i : Int} : Rn d m pc lo ((0, i) :: (2, -60) :: st) (Sg xs n D) = if inb i 106 then Rn d m pc' lo' ((0, wb i) :: st) (Sg xs n D) else none := by
  rw [r87c ht hl hk hp hc]
  by_cases h : inb i 106 = true
  · rw [if_pos h, if_pos ⟨rfl, h⟩]; rfl
  · rw [if_neg h, if_neg (fun q => h q.2)]
theorem h89 (ht : tabs.getD m [] = tb) (hl : look tb pc = some (ks, (89, a, b, c, l))) (hk : kil ks lo = lo') (hp : pc + 3 = pc') (hc : decide ((st.map cat).sum ≤ 8) = true) {q y z r : Int} (h1 : decide (kd (Sg xs n D) r = 10 ∧ kd (Sg xs n D) q = 101 ∧ 0 < ln (Sg xs n D) q) = true) : Rn d m pc lo ((2, q) :: (0, y) :: (0, z) :: (2, r) :: st) (Sg xs n D) = bK (den d 141 [(2, r), (0, z), (0, y)] (Sg xs n D)) q (fun k s1 => Rn d m pc' lo' ((0, k) :: st) s1) := by
  rw [r89 ht hl hk hp hc, if_pos (of_decide_eq_true h1)]
theorem h90 (ht : tabs.getD m [] = tb) (hl : look tb pc = some (ks, (90, a, b, c, l))) {v : Int} {s : Stt} (hr : ret01 m v = true) : Rn d m pc lo [(0, v)] s = some ((0, v), s) := by
  rw [r90 ht hl, hr]; rfl
end RW3
theorem cK0 {x : Int} {s : Stt} {f : Vv → Stt → Option (Vv × Stt)} : cK (some ((0, x), s)) f = f (0, x) s := rfl
theorem cK1 {x : Int} {s : Stt} {f : Vv → Stt → Option (Vv × Stt)} : cK (some ((1, x), s)) f = f (1, x) s := rfl
theorem cK2 {x : Int} {s : Stt} {f : Vv → Stt → Option (Vv × Stt)} : cK (some ((2, x), s)) f = f (2, x) s := rfl
theorem cK9 {x : Int} {s : Stt} {f : Vv → Stt → Option (Vv × Stt)} : cK (some ((9, x), s)) f = f (9, x) s := rfl
theorem pR0 {x : Int} {st : List Vv} : pushR (0, x) st = (0, x) :: st := rfl
theorem pR1 {x : Int} {st : List Vv} : pushR (1, x) st = (1, x) :: st := rfl
theorem pR2 {x : Int} {st : List Vv} : pushR (2, x) st = (2, x) :: st := rfl
theorem pR9 {x : Int} {st : List Vv} : pushR (9, x) st = st := rfl
theorem Rn_iter {d m pc : Nat} (lo : Nat → Lcs) (s : Nat → Stt) : ∀ (n : Nat), (∀ k, k < n → Rn d m pc (lo k) [] (s k) = Rn d m pc (lo (k + 1)) [] (s (k + 1))) → Rn d m pc (lo 0) [] (s 0) = Rn d m pc (lo n) [] (s n) := by
  intro n
  induction n with
  | zero => intro _; rfl
  | succ n ih => intro h; rw [ih (fun k hk => h k (by omega)), h n (by omega)]
