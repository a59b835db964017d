/-! A row for each kind of instruction, to rewrite with -/
theorem Rn_s {d m pc : Nat} {tb : List (Nat × List Nat × IR)} {ks : List Nat} {x : IR} {lo : Lcs} {st : List Vv} {s : Stt} (ht : tabs.getD m [] = tb) (hl : look tb pc = some (ks, x)) : Rn d m pc lo st s = acK (den d) m x pc (kil ks lo) st s (fun g => Rn d m g.1 g.2.1 g.2.2.1 g.2.2.2) := by
  have e : tab m pc = look tb pc := by unfold tab look; rw [ht]
  have h := Rn_eq d m (pc, lo, st, s)
  simp only at h
  rw [h, e, hl, acK_eq]
section RW
variable {d m pc pc' : Nat} {tb : List (Nat × List Nat × IR)} {ks : List Nat} {lo lo' lo2 : Lcs} {st : List Vv} {s : Stt} {a b c : Int} {l : List (Int × Int)}




theorem r0 (ht : tabs.getD m [] = tb) (hl : look tb pc = some (ks, (0, a, b, c, l))) (hk : kil ks lo = lo') (hp : pc + 1 = pc') : Rn d m pc lo st s = Rn d m pc' lo' ((0, a) :: st) s := by
  rw [Rn_s ht hl, hk]; subst hp; rfl

theorem r1 (ht : tabs.getD m [] = tb) (hl : look tb pc = some (ks, (1, a, b, c, l))) (hk : kil ks lo = lo') (hp : pc + 2 = pc') : Rn d m pc lo st s = Rn d m pc' lo' ((0, a) :: st) s := by
  rw [Rn_s ht hl, hk]; subst hp; rfl

theorem r2 (ht : tabs.getD m [] = tb) (hl : look tb pc = some (ks, (2, a, b, c, l))) (hk : kil ks lo = lo') (hp : pc + 3 = pc') : Rn d m pc lo st s = Rn d m pc' lo' ((0, a) :: st) s := by
  rw [Rn_s ht hl, hk]; subst hp; rfl

theorem r3 (ht : tabs.getD m [] = tb) (hl : look tb pc = some (ks, (3, a, b, c, l))) (hk : kil ks lo = lo') (hp : pc + 2 = pc') : Rn d m pc lo st s = Rn d m pc' lo' ((0, a) :: st) s := by
  rw [Rn_s ht hl, hk]; subst hp; rfl

theorem r4 (ht : tabs.getD m [] = tb) (hl : look tb pc = some (ks, (4, a, b, c, l))) (hk : kil ks lo = lo') (hp : pc + 3 = pc') : Rn d m pc lo st s = Rn d m pc' lo' ((0, a) :: st) s := by
  rw [Rn_s ht hl, hk]; subst hp; rfl

theorem r5 (ht : tabs.getD m [] = tb) (hl : look tb pc = some (ks, (5, a, b, c, l))) (hk : kil ks lo = lo') (hp : pc + 1 = pc') : Rn d m pc lo st s = Rn d m pc' lo' ((1, a) :: st) s := by
  rw [Rn_s ht hl, hk]; subst hp; rfl

theorem r6 (ht : tabs.getD m [] = tb) (hl : look tb pc = some (ks, (6, a, b, c, l))) (hk : kil ks lo = lo') (hp : pc + 3 = pc') : Rn d m pc lo st s = Rn d m pc' lo' ((1, a) :: st) s := by
  rw [Rn_s ht hl, hk]; subst hp; rfl

theorem r57 (ht : tabs.getD m [] = tb) (hl : look tb pc = some (ks, (57, a, b, c, l))) (hk : kil ks lo = lo') (hp : pc + 3 = pc') : Rn d m pc lo st s = Rn d m pc' lo' ((2, a) :: st) s := by
  rw [Rn_s ht hl, hk]; subst hp; rfl

theorem r7 (ht : tabs.getD m [] = tb) (hl : look tb pc = some (ks, (7, a, b, c, l))) (hk : kil ks lo = lo') (hp : pc + 1 = pc') : Rn d m pc lo st s = Rn d m pc' lo' ((2, 0) :: st) s := by
  rw [Rn_s ht hl, hk]; subst hp; rfl

theorem r8 (ht : tabs.getD m [] = tb) (hl : look tb pc = some (ks, (8, a, b, c, l))) (hk : kil ks lo = lo') (hp : pc + 1 = pc') {z : Int} (hg : lget lo' a = some (0, z)) : Rn d m pc lo st s = Rn d m pc' lo' ((0, z) :: st) s := by
  rw [Rn_s ht hl, hk]; subst hp
  have e : ex1 (8, a, b, c, l) (lo', st, s, true) = (lo', (0, z) :: st, s, true) := by
    show loadV 0 a (lo', st, s, true) = _
    unfold loadV
    simp only [hg, if_true]
  unfold acK
  rw [if_pos (by simp)]
  simp only [e, if_true]
  rfl

theorem r9 (ht : tabs.getD m [] = tb) (hl : look tb pc = some (ks, (9, a, b, c, l))) (hk : kil ks lo = lo') (hp : pc + 2 = pc') {z : Int} (hg : lget lo' a = some (0, z)) : Rn d m pc lo st s = Rn d m pc' lo' ((0, z) :: st) s := by
  rw [Rn_s ht hl, hk]; subst hp
  have e : ex1 (9, a, b, c, l) (lo', st, s, true) = (lo', (0, z) :: st, s, true) := by
    show loadV 0 a (lo', st, s, true) = _
    unfold loadV
    simp only [hg, if_true]
  unfold acK
  rw [if_pos (by simp)]
  simp only [e, if_true]
  rfl

theorem r10 (ht : tabs.getD m [] = tb) (hl : look tb pc = some (ks, (10, a, b, c, l))) (hk : kil ks lo = lo') (hp : pc + 1 = pc') {z : Int} (hg : lget lo' a = some (1, z)) : Rn d m pc lo st s = Rn d m pc' lo' ((1, z) :: st) s := by
  rw [Rn_s ht hl, hk]; subst hp
  have e : ex1 (10, a, b, c, l) (lo', st, s, true) = (lo', (1, z) :: st, s, true) := by
    show loadV 1 a (lo', st, s, true) = _
    unfold loadV
    simp only [hg, if_true]
  unfold acK
  rw [if_pos (by simp)]
  simp only [e, if_true]
  rfl

theorem r11 (ht : tabs.getD m [] = tb) (hl : look tb pc = some (ks, (11, a, b, c, l))) (hk : kil ks lo = lo') (hp : pc + 2 = pc') {z : Int} (hg : lget lo' a = some (1, z)) : Rn d m pc lo st s = Rn d m pc' lo' ((1, z) :: st) s := by
  rw [Rn_s ht hl, hk]; subst hp
  have e : ex1 (11, a, b, c, l) (lo', st, s, true) = (lo', (1, z) :: st, s, true) := by
    show loadV 1 a (lo', st, s, true) = _
    unfold loadV
    simp only [hg, if_true]
  unfold acK
  rw [if_pos (by simp)]
  simp only [e, if_true]
  rfl

theorem r12 (ht : tabs.getD m [] = tb) (hl : look tb pc = some (ks, (12, a, b, c, l))) (hk : kil ks lo = lo') (hp : pc + 1 = pc') {z : Int} (hg : lget lo' a = some (2, z)) : Rn d m pc lo st s = Rn d m pc' lo' ((2, z) :: st) s := by
  rw [Rn_s ht hl, hk]; subst hp
  have e : ex1 (12, a, b, c, l) (lo', st, s, true) = (lo', (2, z) :: st, s, true) := by
    show loadV 2 a (lo', st, s, true) = _
    unfold loadV
    simp only [hg, if_true]
  unfold acK
  rw [if_pos (by simp)]
  simp only [e, if_true]
  rfl

theorem r13 (ht : tabs.getD m [] = tb) (hl : look tb pc = some (ks, (13, a, b, c, l))) (hk : kil ks lo = lo') (hp : pc + 2 = pc') {z : Int} (hg : lget lo' a = some (2, z)) : Rn d m pc lo st s = Rn d m pc' lo' ((2, z) :: st) s := by
  rw [Rn_s ht hl, hk]; subst hp
  have e : ex1 (13, a, b, c, l) (lo', st, s, true) = (lo', (2, z) :: st, s, true) := by
    show loadV 2 a (lo', st, s, true) = _
    unfold loadV
    simp only [hg, if_true]
  unfold acK
  rw [if_pos (by simp)]
  simp only [e, if_true]
  rfl

theorem r14 (ht : tabs.getD m [] = tb) (hl : look tb pc = some (ks, (14, a, b, c, l))) (hk : kil ks lo = lo') (hp : pc + 1 = pc') {z : Int} (hs : lset lo' a (0, z) = lo2) (hn : decide (a.toNat + (if 0 = 1 then 1 else 0) < lo'.length) = true) : Rn d m pc lo ((0, z) :: st) s = Rn d m pc' lo2 st s := by
  rw [Rn_s ht hl, hk]; subst hp hs
  have e : ex1 (14, a, b, c, l) (lo', (0, z) :: st, s, true) = (lset lo' a (0, z), st, s, true) := by
    show (lset lo' a (0, z), st, s, true && decide (a.toNat + (if 0 = 1 then 1 else 0) < lo'.length)) = _
    rw [hn]
    rfl
  unfold acK
  rw [if_pos (by simp)]
  simp only [e, if_true]
  rfl

theorem r15 (ht : tabs.getD m [] = tb) (hl : look tb pc = some (ks, (15, a, b, c, l))) (hk : kil ks lo = lo') (hp : pc + 2 = pc') {z : Int} (hs : lset lo' a (0, z) = lo2) (hn : decide (a.toNat + (if 0 = 1 then 1 else 0) < lo'.length) = true) : Rn d m pc lo ((0, z) :: st) s = Rn d m pc' lo2 st s := by
  rw [Rn_s ht hl, hk]; subst hp hs
  have e : ex1 (15, a, b, c, l) (lo', (0, z) :: st, s, true) = (lset lo' a (0, z), st, s, true) := by
    show (lset lo' a (0, z), st, s, true && decide (a.toNat + (if 0 = 1 then 1 else 0) < lo'.length)) = _
    rw [hn]
    rfl
  unfold acK
  rw [if_pos (by simp)]
  simp only [e, if_true]
  rfl

theorem r16 (ht : tabs.getD m [] = tb) (hl : look tb pc = some (ks, (16, a, b, c, l))) (hk : kil ks lo = lo') (hp : pc + 1 = pc') {z : Int} (hs : lset lo' a (1, z) = lo2) (hn : decide (a.toNat + (if 1 = 1 then 1 else 0) < lo'.length) = true) : Rn d m pc lo ((1, z) :: st) s = Rn d m pc' lo2 st s := by
  rw [Rn_s ht hl, hk]; subst hp hs
  have e : ex1 (16, a, b, c, l) (lo', (1, z) :: st, s, true) = (lset lo' a (1, z), st, s, true) := by
    show (lset lo' a (1, z), st, s, true && decide (a.toNat + (if 1 = 1 then 1 else 0) < lo'.length)) = _
    rw [hn]
    rfl
  unfold acK
  rw [if_pos (by simp)]
  simp only [e, if_true]
  rfl

theorem r17 (ht : tabs.getD m [] = tb) (hl : look tb pc = some (ks, (17, a, b, c, l))) (hk : kil ks lo = lo') (hp : pc + 2 = pc') {z : Int} (hs : lset lo' a (1, z) = lo2) (hn : decide (a.toNat + (if 1 = 1 then 1 else 0) < lo'.length) = true) : Rn d m pc lo ((1, z) :: st) s = Rn d m pc' lo2 st s := by
  rw [Rn_s ht hl, hk]; subst hp hs
  have e : ex1 (17, a, b, c, l) (lo', (1, z) :: st, s, true) = (lset lo' a (1, z), st, s, true) := by
    show (lset lo' a (1, z), st, s, true && decide (a.toNat + (if 1 = 1 then 1 else 0) < lo'.length)) = _
    rw [hn]
    rfl
  unfold acK
  rw [if_pos (by simp)]
  simp only [e, if_true]
  rfl

theorem r18 (ht : tabs.getD m [] = tb) (hl : look tb pc = some (ks, (18, a, b, c, l))) (hk : kil ks lo = lo') (hp : pc + 1 = pc') {z : Int} (hs : lset lo' a (2, z) = lo2) (hn : decide (a.toNat + (if 2 = 1 then 1 else 0) < lo'.length) = true) : Rn d m pc lo ((2, z) :: st) s = Rn d m pc' lo2 st s := by
  rw [Rn_s ht hl, hk]; subst hp hs
  have e : ex1 (18, a, b, c, l) (lo', (2, z) :: st, s, true) = (lset lo' a (2, z), st, s, true) := by
    show (lset lo' a (2, z), st, s, true && decide (a.toNat + (if 2 = 1 then 1 else 0) < lo'.length)) = _
    rw [hn]
    rfl
  unfold acK
  rw [if_pos (by simp)]
  simp only [e, if_true]
  rfl

theorem r19 (ht : tabs.getD m [] = tb) (hl : look tb pc = some (ks, (19, a, b, c, l))) (hk : kil ks lo = lo') (hp : pc + 2 = pc') {z : Int} (hs : lset lo' a (2, z) = lo2) (hn : decide (a.toNat + (if 2 = 1 then 1 else 0) < lo'.length) = true) : Rn d m pc lo ((2, z) :: st) s = Rn d m pc' lo2 st s := by
  rw [Rn_s ht hl, hk]; subst hp hs
  have e : ex1 (19, a, b, c, l) (lo', (2, z) :: st, s, true) = (lset lo' a (2, z), st, s, true) := by
    show (lset lo' a (2, z), st, s, true && decide (a.toNat + (if 2 = 1 then 1 else 0) < lo'.length)) = _
    rw [hn]
    rfl
  unfold acK
  rw [if_pos (by simp)]
  simp only [e, if_true]
  rfl

theorem r20 (ht : tabs.getD m [] = tb) (hl : look tb pc = some (ks, (20, a, b, c, l))) (hk : kil ks lo = lo') (hp : pc + 3 = pc') {z : Int} (hg : lget lo' a = some (0, z)) (hs : lset lo' a (0, w32 (z + b)) = lo2) : Rn d m pc lo st s = Rn d m pc' lo2 st s := by
  rw [Rn_s ht hl, hk]; subst hp hs
  have e : ex1 (20, a, b, c, l) (lo', st, s, true) = (lset lo' a (0, w32 (z + b)), st, s, true) := by
    show iinc' a b (lo', st, s, true) = _
    unfold iinc'
    simp only [hg]
  unfold acK
  rw [if_pos (by simp)]
  simp only [e, if_true]
  rfl

theorem r21_0 (ht : tabs.getD m [] = tb) (hl : look tb pc = some (ks, (21, a, b, c, l))) (hk : kil ks lo = lo') (hp : pc + 1 = pc') {z : Int} : Rn d m pc lo ((0, z) :: st) s = Rn d m pc' lo' ((0, z) :: (0, z) :: st) s := by
  rw [Rn_s ht hl, hk]; subst hp; rfl

theorem r24_0 (ht : tabs.getD m [] = tb) (hl : look tb pc = some (ks, (24, a, b, c, l))) (hk : kil ks lo = lo') (hp : pc + 1 = pc') {z : Int} : Rn d m pc lo ((0, z) :: st) s = Rn d m pc' lo' st s := by
  rw [Rn_s ht hl, hk]; subst hp; rfl

theorem r21_2 (ht : tabs.getD m [] = tb) (hl : look tb pc = some (ks, (21, a, b, c, l))) (hk : kil ks lo = lo') (hp : pc + 1 = pc') {z : Int} : Rn d m pc lo ((2, z) :: st) s = Rn d m pc' lo' ((2, z) :: (2, z) :: st) s := by
  rw [Rn_s ht hl, hk]; subst hp; rfl

theorem r24_2 (ht : tabs.getD m [] = tb) (hl : look tb pc = some (ks, (24, a, b, c, l))) (hk : kil ks lo = lo') (hp : pc + 1 = pc') {z : Int} : Rn d m pc lo ((2, z) :: st) s = Rn d m pc' lo' st s := by
  rw [Rn_s ht hl, hk]; subst hp; rfl

theorem r22_00 (ht : tabs.getD m [] = tb) (hl : look tb pc = some (ks, (22, a, b, c, l))) (hk : kil ks lo = lo') (hp : pc + 1 = pc') {z y : Int} : Rn d m pc lo ((0, z) :: (0, y) :: st) s = Rn d m pc' lo' ((0, z) :: (0, y) :: (0, z) :: (0, y) :: st) s := by
  rw [Rn_s ht hl, hk]; subst hp; rfl

theorem r22_02 (ht : tabs.getD m [] = tb) (hl : look tb pc = some (ks, (22, a, b, c, l))) (hk : kil ks lo = lo') (hp : pc + 1 = pc') {z y : Int} : Rn d m pc lo ((0, z) :: (2, y) :: st) s = Rn d m pc' lo' ((0, z) :: (2, y) :: (0, z) :: (2, y) :: st) s := by
  rw [Rn_s ht hl, hk]; subst hp; rfl

theorem r22_20 (ht : tabs.getD m [] = tb) (hl : look tb pc = some (ks, (22, a, b, c, l))) (hk : kil ks lo = lo') (hp : pc + 1 = pc') {z y : Int} : Rn d m pc lo ((2, z) :: (0, y) :: st) s = Rn d m pc' lo' ((2, z) :: (0, y) :: (2, z) :: (0, y) :: st) s := by
  rw [Rn_s ht hl, hk]; subst hp; rfl

theorem r22_22 (ht : tabs.getD m [] = tb) (hl : look tb pc = some (ks, (22, a, b, c, l))) (hk : kil ks lo = lo') (hp : pc + 1 = pc') {z y : Int} : Rn d m pc lo ((2, z) :: (2, y) :: st) s = Rn d m pc' lo' ((2, z) :: (2, y) :: (2, z) :: (2, y) :: st) s := by
  rw [Rn_s ht hl, hk]; subst hp; rfl

theorem r23 (ht : tabs.getD m [] = tb) (hl : look tb pc = some (ks, (23, a, b, c, l))) (hk : kil ks lo = lo') (hp : pc + 1 = pc') {z : Int} : Rn d m pc lo ((1, z) :: st) s = Rn d m pc' lo' ((1, z) :: (1, z) :: st) s := by
  rw [Rn_s ht hl, hk]; subst hp; rfl

theorem r25 (ht : tabs.getD m [] = tb) (hl : look tb pc = some (ks, (25, a, b, c, l))) (hk : kil ks lo = lo') (hp : pc + 1 = pc') {x y : Int} : Rn d m pc lo ((0, y) :: (0, x) :: st) s = Rn d m pc' lo' ((0, w32 (x + y)) :: st) s := by
  rw [Rn_s ht hl, hk]; subst hp; rfl

theorem r26 (ht : tabs.getD m [] = tb) (hl : look tb pc = some (ks, (26, a, b, c, l))) (hk : kil ks lo = lo') (hp : pc + 1 = pc') {x y : Int} : Rn d m pc lo ((0, y) :: (0, x) :: st) s = Rn d m pc' lo' ((0, w32 (x - y)) :: st) s := by
  rw [Rn_s ht hl, hk]; subst hp; rfl

theorem r27 (ht : tabs.getD m [] = tb) (hl : look tb pc = some (ks, (27, a, b, c, l))) (hk : kil ks lo = lo') (hp : pc + 1 = pc') {x y : Int} : Rn d m pc lo ((0, y) :: (0, x) :: st) s = Rn d m pc' lo' ((0, w32 (x * y)) :: st) s := by
  rw [Rn_s ht hl, hk]; subst hp; rfl

theorem r28 (ht : tabs.getD m [] = tb) (hl : look tb pc = some (ks, (28, a, b, c, l))) (hk : kil ks lo = lo') (hp : pc + 1 = pc') {x y : Int} : Rn d m pc lo ((0, y) :: (0, x) :: st) s = Rn d m pc' lo' ((0, i_and x y) :: st) s := by
  rw [Rn_s ht hl, hk]; subst hp; rfl

theorem r29 (ht : tabs.getD m [] = tb) (hl : look tb pc = some (ks, (29, a, b, c, l))) (hk : kil ks lo = lo') (hp : pc + 1 = pc') {x y : Int} : Rn d m pc lo ((0, y) :: (0, x) :: st) s = Rn d m pc' lo' ((0, i_or x y) :: st) s := by
  rw [Rn_s ht hl, hk]; subst hp; rfl

theorem r30 (ht : tabs.getD m [] = tb) (hl : look tb pc = some (ks, (30, a, b, c, l))) (hk : kil ks lo = lo') (hp : pc + 1 = pc') {x y : Int} : Rn d m pc lo ((0, y) :: (0, x) :: st) s = Rn d m pc' lo' ((0, i_xor x y) :: st) s := by
  rw [Rn_s ht hl, hk]; subst hp; rfl

theorem r31 (ht : tabs.getD m [] = tb) (hl : look tb pc = some (ks, (31, a, b, c, l))) (hk : kil ks lo = lo') (hp : pc + 1 = pc') {x y : Int} : Rn d m pc lo ((0, y) :: (0, x) :: st) s = Rn d m pc' lo' ((0, i_shl x y) :: st) s := by
  rw [Rn_s ht hl, hk]; subst hp; rfl

theorem r32 (ht : tabs.getD m [] = tb) (hl : look tb pc = some (ks, (32, a, b, c, l))) (hk : kil ks lo = lo') (hp : pc + 1 = pc') {x y : Int} : Rn d m pc lo ((0, y) :: (0, x) :: st) s = Rn d m pc' lo' ((0, i_shr x y) :: st) s := by
  rw [Rn_s ht hl, hk]; subst hp; rfl

theorem r33 (ht : tabs.getD m [] = tb) (hl : look tb pc = some (ks, (33, a, b, c, l))) (hk : kil ks lo = lo') (hp : pc + 1 = pc') {x y : Int} : Rn d m pc lo ((0, y) :: (0, x) :: st) s = Rn d m pc' lo' ((0, i_ushr x y) :: st) s := by
  rw [Rn_s ht hl, hk]; subst hp; rfl

theorem r34 (ht : tabs.getD m [] = tb) (hl : look tb pc = some (ks, (34, a, b, c, l))) (hk : kil ks lo = lo') (hp : pc + 1 = pc') {x y : Int} : Rn d m pc lo ((0, y) :: (0, x) :: st) s = if !decide (y = 0) then Rn d m pc' lo' ((0, i_div x y) :: st) s else none := by
  rw [Rn_s ht hl, hk]; subst hp; rfl

theorem r35 (ht : tabs.getD m [] = tb) (hl : look tb pc = some (ks, (35, a, b, c, l))) (hk : kil ks lo = lo') (hp : pc + 1 = pc') {x y : Int} : Rn d m pc lo ((0, y) :: (0, x) :: st) s = if !decide (y = 0) then Rn d m pc' lo' ((0, i_rem x y) :: st) s else none := by
  rw [Rn_s ht hl, hk]; subst hp; rfl

theorem r36 (ht : tabs.getD m [] = tb) (hl : look tb pc = some (ks, (36, a, b, c, l))) (hk : kil ks lo = lo') (hp : pc + 1 = pc') {x y : Int} : Rn d m pc lo ((1, y) :: (1, x) :: st) s = Rn d m pc' lo' ((1, w64 (x + y)) :: st) s := by
  rw [Rn_s ht hl, hk]; subst hp; rfl

theorem r37 (ht : tabs.getD m [] = tb) (hl : look tb pc = some (ks, (37, a, b, c, l))) (hk : kil ks lo = lo') (hp : pc + 1 = pc') {x y : Int} : Rn d m pc lo ((1, y) :: (1, x) :: st) s = Rn d m pc' lo' ((1, w64 (x - y)) :: st) s := by
  rw [Rn_s ht hl, hk]; subst hp; rfl

theorem r38 (ht : tabs.getD m [] = tb) (hl : look tb pc = some (ks, (38, a, b, c, l))) (hk : kil ks lo = lo') (hp : pc + 1 = pc') {x y : Int} : Rn d m pc lo ((1, y) :: (1, x) :: st) s = Rn d m pc' lo' ((1, w64 (x * y)) :: st) s := by
  rw [Rn_s ht hl, hk]; subst hp; rfl

theorem r40 (ht : tabs.getD m [] = tb) (hl : look tb pc = some (ks, (40, a, b, c, l))) (hk : kil ks lo = lo') (hp : pc + 1 = pc') {x y : Int} : Rn d m pc lo ((1, y) :: (1, x) :: st) s = if !decide (y = 0) then Rn d m pc' lo' ((1, l_div x y) :: st) s else none := by
  rw [Rn_s ht hl, hk]; subst hp; rfl

theorem r41 (ht : tabs.getD m [] = tb) (hl : look tb pc = some (ks, (41, a, b, c, l))) (hk : kil ks lo = lo') (hp : pc + 1 = pc') {x y : Int} : Rn d m pc lo ((1, y) :: (1, x) :: st) s = if !decide (y = 0) then Rn d m pc' lo' ((1, l_rem x y) :: st) s else none := by
  rw [Rn_s ht hl, hk]; subst hp; rfl

theorem r42 (ht : tabs.getD m [] = tb) (hl : look tb pc = some (ks, (42, a, b, c, l))) (hk : kil ks lo = lo') (hp : pc + 1 = pc') {x y : Int} : Rn d m pc lo ((1, y) :: (1, x) :: st) s = Rn d m pc' lo' ((0, l_cmp x y) :: st) s := by
  rw [Rn_s ht hl, hk]; subst hp; rfl

theorem r43 (ht : tabs.getD m [] = tb) (hl : look tb pc = some (ks, (43, a, b, c, l))) (hk : kil ks lo = lo') (hp : pc + 1 = pc') {x : Int} : Rn d m pc lo ((0, x) :: st) s = Rn d m pc' lo' ((1, x) :: st) s := by
  rw [Rn_s ht hl, hk]; subst hp; rfl

theorem r44 (ht : tabs.getD m [] = tb) (hl : look tb pc = some (ks, (44, a, b, c, l))) (hk : kil ks lo = lo') (hp : pc + 1 = pc') {x : Int} : Rn d m pc lo ((1, x) :: st) s = Rn d m pc' lo' ((0, w32 x) :: st) s := by
  rw [Rn_s ht hl, hk]; subst hp; rfl

theorem r45 (ht : tabs.getD m [] = tb) (hl : look tb pc = some (ks, (45, a, b, c, l))) (hk : kil ks lo = lo') (hp : pc + 1 = pc') {i q : Int} : Rn d m pc lo ((0, i) :: (2, q) :: st) s = if okI s q i then Rn d m pc' lo' ((0, s.2.2 q i) :: st) s else none := by
  rw [Rn_s ht hl, hk]; subst hp; rfl

theorem r46 (ht : tabs.getD m [] = tb) (hl : look tb pc = some (ks, (46, a, b, c, l))) (hk : kil ks lo = lo') (hp : pc + 1 = pc') {i q : Int} : Rn d m pc lo ((0, i) :: (2, q) :: st) s = if okJ s q i then Rn d m pc' lo' ((1, s.2.2 q i) :: st) s else none := by
  rw [Rn_s ht hl, hk]; subst hp; rfl

theorem r47 (ht : tabs.getD m [] = tb) (hl : look tb pc = some (ks, (47, a, b, c, l))) (hk : kil ks lo = lo') (hp : pc + 1 = pc') {i q : Int} : Rn d m pc lo ((0, i) :: (2, q) :: st) s = if okZ s q i then Rn d m pc' lo' ((0, s.2.2 q i) :: st) s else none := by
  rw [Rn_s ht hl, hk]; subst hp; rfl

theorem r48 (ht : tabs.getD m [] = tb) (hl : look tb pc = some (ks, (48, a, b, c, l))) (hk : kil ks lo = lo') (hp : pc + 1 = pc') {i q : Int} : Rn d m pc lo ((0, i) :: (2, q) :: st) s = if okA s q i then Rn d m pc' lo' ((2, s.2.2 q i) :: st) s else none := by
  rw [Rn_s ht hl, hk]; subst hp; rfl

theorem r49 (ht : tabs.getD m [] = tb) (hl : look tb pc = some (ks, (49, a, b, c, l))) (hk : kil ks lo = lo') (hp : pc + 1 = pc') {q : Int} : Rn d m pc lo ((2, q) :: st) s = if okN s q then Rn d m pc' lo' ((0, alen s q) :: st) s else none := by
  rw [Rn_s ht hl, hk]; subst hp; rfl

theorem r50 (ht : tabs.getD m [] = tb) (hl : look tb pc = some (ks, (50, a, b, c, l))) (hk : kil ks lo = lo') (hp : pc + 1 = pc') {v i q : Int} : Rn d m pc lo ((0, v) :: (0, i) :: (2, q) :: st) s = if oS0 s q i then Rn d m pc' lo' st (sU s q i v) else none := by
  rw [Rn_s ht hl, hk]; subst hp; rfl

theorem r51 (ht : tabs.getD m [] = tb) (hl : look tb pc = some (ks, (51, a, b, c, l))) (hk : kil ks lo = lo') (hp : pc + 1 = pc') {v i q : Int} : Rn d m pc lo ((1, v) :: (0, i) :: (2, q) :: st) s = if oS1 s q i then Rn d m pc' lo' st (sU s q i v) else none := by
  rw [Rn_s ht hl, hk]; subst hp; rfl

theorem r52 (ht : tabs.getD m [] = tb) (hl : look tb pc = some (ks, (52, a, b, c, l))) (hk : kil ks lo = lo') (hp : pc + 1 = pc') {v i q : Int} : Rn d m pc lo ((0, v) :: (0, i) :: (2, q) :: st) s = if oSZ s q i v then Rn d m pc' lo' st (sU s q i v) else none := by
  rw [Rn_s ht hl, hk]; subst hp; rfl

theorem r53 (ht : tabs.getD m [] = tb) (hl : look tb pc = some (ks, (53, a, b, c, l))) (hk : kil ks lo = lo') (hp : pc + 1 = pc') {v i q : Int} : Rn d m pc lo ((2, v) :: (0, i) :: (2, q) :: st) s = if oSA s q i v then Rn d m pc' lo' st (sU s q i v) else none := by
  rw [Rn_s ht hl, hk]; subst hp; rfl

theorem r54 (ht : tabs.getD m [] = tb) (hl : look tb pc = some (ks, (54, a, b, c, l))) (hk : kil ks lo = lo') (hp : pc + 3 = pc') {t : Nat} (hf : ftg a b = t) {r : Int} : Rn d m pc lo ((2, r) :: st) s = if oF s r a then Rn d m pc' lo' ((t, s.2.2 r b) :: st) s else none := by
  rw [Rn_s ht hl, hk]; subst hp hf; rfl

theorem r58 (ht : tabs.getD m [] = tb) (hl : look tb pc = some (ks, (58, a, b, c, l))) (hk : kil ks lo = lo') (hp : pc + 3 = pc') {r : Int} : Rn d m pc lo ((2, r) :: st) s = if oF s r 203 then Rn d m pc' lo' ((0, s.2.2 r b) :: st) s else none := by
  rw [Rn_s ht hl, hk]; subst hp; rfl

theorem r60 (ht : tabs.getD m [] = tb) (hl : look tb pc = some (ks, (60, a, b, c, l))) (hk : kil ks lo = lo') (hp : pc + 3 = pc') {pt : Nat} (hq : ((pc : Int) + a).toNat = pt) {v : Int} : Rn d m pc lo ((0, v) :: st) s = if v = 0 then Rn d m pt lo' st s else Rn d m pc' lo' st s := by
  rw [Rn_s ht hl, hk]; subst hp hq; rfl

theorem r61 (ht : tabs.getD m [] = tb) (hl : look tb pc = some (ks, (61, a, b, c, l))) (hk : kil ks lo = lo') (hp : pc + 3 = pc') {pt : Nat} (hq : ((pc : Int) + a).toNat = pt) {v : Int} : Rn d m pc lo ((0, v) :: st) s = if ¬ v = 0 then Rn d m pt lo' st s else Rn d m pc' lo' st s := by
  rw [Rn_s ht hl, hk]; subst hp hq; rfl

theorem r62 (ht : tabs.getD m [] = tb) (hl : look tb pc = some (ks, (62, a, b, c, l))) (hk : kil ks lo = lo') (hp : pc + 3 = pc') {pt : Nat} (hq : ((pc : Int) + a).toNat = pt) {v : Int} : Rn d m pc lo ((0, v) :: st) s = if v < 0 then Rn d m pt lo' st s else Rn d m pc' lo' st s := by
  rw [Rn_s ht hl, hk]; subst hp hq; rfl

theorem r63 (ht : tabs.getD m [] = tb) (hl : look tb pc = some (ks, (63, a, b, c, l))) (hk : kil ks lo = lo') (hp : pc + 3 = pc') {pt : Nat} (hq : ((pc : Int) + a).toNat = pt) {v : Int} : Rn d m pc lo ((0, v) :: st) s = if ¬ v < 0 then Rn d m pt lo' st s else Rn d m pc' lo' st s := by
  rw [Rn_s ht hl, hk]; subst hp hq; rfl

theorem r64 (ht : tabs.getD m [] = tb) (hl : look tb pc = some (ks, (64, a, b, c, l))) (hk : kil ks lo = lo') (hp : pc + 3 = pc') {pt : Nat} (hq : ((pc : Int) + a).toNat = pt) {v : Int} : Rn d m pc lo ((0, v) :: st) s = if 0 < v then Rn d m pt lo' st s else Rn d m pc' lo' st s := by
  rw [Rn_s ht hl, hk]; subst hp hq; rfl

theorem r65 (ht : tabs.getD m [] = tb) (hl : look tb pc = some (ks, (65, a, b, c, l))) (hk : kil ks lo = lo') (hp : pc + 3 = pc') {pt : Nat} (hq : ((pc : Int) + a).toNat = pt) {v : Int} : Rn d m pc lo ((0, v) :: st) s = if ¬ 0 < v then Rn d m pt lo' st s else Rn d m pc' lo' st s := by
  rw [Rn_s ht hl, hk]; subst hp hq; rfl

theorem r74 (ht : tabs.getD m [] = tb) (hl : look tb pc = some (ks, (74, a, b, c, l))) (hk : kil ks lo = lo') (hp : pc + 3 = pc') {pt : Nat} (hq : ((pc : Int) + a).toNat = pt) {v : Int} : Rn d m pc lo ((2, v) :: st) s = if v = 0 then Rn d m pt lo' st s else Rn d m pc' lo' st s := by
  rw [Rn_s ht hl, hk]; subst hp hq; rfl

theorem r75 (ht : tabs.getD m [] = tb) (hl : look tb pc = some (ks, (75, a, b, c, l))) (hk : kil ks lo = lo') (hp : pc + 3 = pc') {pt : Nat} (hq : ((pc : Int) + a).toNat = pt) {v : Int} : Rn d m pc lo ((2, v) :: st) s = if ¬ v = 0 then Rn d m pt lo' st s else Rn d m pc' lo' st s := by
  rw [Rn_s ht hl, hk]; subst hp hq; rfl

theorem r66 (ht : tabs.getD m [] = tb) (hl : look tb pc = some (ks, (66, a, b, c, l))) (hk : kil ks lo = lo') (hp : pc + 3 = pc') {pt : Nat} (hq : ((pc : Int) + a).toNat = pt) {y v : Int} : Rn d m pc lo ((0, y) :: (0, v) :: st) s = if v = y then Rn d m pt lo' st s else Rn d m pc' lo' st s := by
  rw [Rn_s ht hl, hk]; subst hp hq; rfl

theorem r67 (ht : tabs.getD m [] = tb) (hl : look tb pc = some (ks, (67, a, b, c, l))) (hk : kil ks lo = lo') (hp : pc + 3 = pc') {pt : Nat} (hq : ((pc : Int) + a).toNat = pt) {y v : Int} : Rn d m pc lo ((0, y) :: (0, v) :: st) s = if ¬ v = y then Rn d m pt lo' st s else Rn d m pc' lo' st s := by
  rw [Rn_s ht hl, hk]; subst hp hq; rfl

theorem r68 (ht : tabs.getD m [] = tb) (hl : look tb pc = some (ks, (68, a, b, c, l))) (hk : kil ks lo = lo') (hp : pc + 3 = pc') {pt : Nat} (hq : ((pc : Int) + a).toNat = pt) {y v : Int} : Rn d m pc lo ((0, y) :: (0, v) :: st) s = if v < y then Rn d m pt lo' st s else Rn d m pc' lo' st s := by
  rw [Rn_s ht hl, hk]; subst hp hq; rfl

theorem r69 (ht : tabs.getD m [] = tb) (hl : look tb pc = some (ks, (69, a, b, c, l))) (hk : kil ks lo = lo') (hp : pc + 3 = pc') {pt : Nat} (hq : ((pc : Int) + a).toNat = pt) {y v : Int} : Rn d m pc lo ((0, y) :: (0, v) :: st) s = if ¬ v < y then Rn d m pt lo' st s else Rn d m pc' lo' st s := by
  rw [Rn_s ht hl, hk]; subst hp hq; rfl

theorem r70 (ht : tabs.getD m [] = tb) (hl : look tb pc = some (ks, (70, a, b, c, l))) (hk : kil ks lo = lo') (hp : pc + 3 = pc') {pt : Nat} (hq : ((pc : Int) + a).toNat = pt) {y v : Int} : Rn d m pc lo ((0, y) :: (0, v) :: st) s = if y < v then Rn d m pt lo' st s else Rn d m pc' lo' st s := by
  rw [Rn_s ht hl, hk]; subst hp hq; rfl

theorem r71 (ht : tabs.getD m [] = tb) (hl : look tb pc = some (ks, (71, a, b, c, l))) (hk : kil ks lo = lo') (hp : pc + 3 = pc') {pt : Nat} (hq : ((pc : Int) + a).toNat = pt) {y v : Int} : Rn d m pc lo ((0, y) :: (0, v) :: st) s = if ¬ y < v then Rn d m pt lo' st s else Rn d m pc' lo' st s := by
  rw [Rn_s ht hl, hk]; subst hp hq; rfl

theorem r72 (ht : tabs.getD m [] = tb) (hl : look tb pc = some (ks, (72, a, b, c, l))) (hk : kil ks lo = lo') (hp : pc + 3 = pc') {pt : Nat} (hq : ((pc : Int) + a).toNat = pt) {y v : Int} : Rn d m pc lo ((2, y) :: (2, v) :: st) s = if acOk s v && acOk s y then (if v = y then Rn d m pt lo' st s else Rn d m pc' lo' st s) else none := by
  rw [Rn_s ht hl, hk]; subst hp hq; rfl

theorem r73 (ht : tabs.getD m [] = tb) (hl : look tb pc = some (ks, (73, a, b, c, l))) (hk : kil ks lo = lo') (hp : pc + 3 = pc') {pt : Nat} (hq : ((pc : Int) + a).toNat = pt) {y v : Int} : Rn d m pc lo ((2, y) :: (2, v) :: st) s = if acOk s v && acOk s y then (if ¬ v = y then Rn d m pt lo' st s else Rn d m pc' lo' st s) else none := by
  rw [Rn_s ht hl, hk]; subst hp hq; rfl

theorem r76 (ht : tabs.getD m [] = tb) (hl : look tb pc = some (ks, (76, a, b, c, l))) (hk : kil ks lo = lo') (hq : ((pc : Int) + a).toNat = pc') : Rn d m pc lo st s = Rn d m pc' lo' st s := by
  rw [Rn_s ht hl, hk]; subst hq; rfl
theorem r90 (ht : tabs.getD m [] = tb) (hl : look tb pc = some (ks, (90, a, b, c, l))) {v : Int} : Rn d m pc lo [(0, v)] s = if ret01 m v then some ((0, v), s) else none := by
  rw [Rn_s ht hl]; rfl
theorem r91 (ht : tabs.getD m [] = tb) (hl : look tb pc = some (ks, (91, a, b, c, l))) {v : Int} : Rn d m pc lo [(1, v)] s = some ((1, v), s) := by
  rw [Rn_s ht hl]; rfl
theorem r92 (ht : tabs.getD m [] = tb) (hl : look tb pc = some (ks, (92, a, b, c, l))) {v : Int} : Rn d m pc lo [(2, v)] s = some ((2, v), s) := by
  rw [Rn_s ht hl]; rfl
theorem r93 (ht : tabs.getD m [] = tb) (hl : look tb pc = some (ks, (93, a, b, c, l))) : Rn d m pc lo [] s = some ((9, 0), s) := by
  rw [Rn_s ht hl]; rfl

theorem r55 (ht : tabs.getD m [] = tb) (hl : look tb pc = some (ks, (55, a, b, c, l))) (hk : kil ks lo = lo') (hp : pc + 3 = pc') {t : Nat} (hf : ftg a b = t) (hc : (fcode a b != 3) = true) {v r : Int} : Rn d m pc lo ((t, v) :: (2, r) :: st) s = if oP s r a then Rn d m pc' lo' st (sU s r b v) else none := by
  rw [Rn_s ht hl, hk]; subst hp hf
  have e : ex1 (55, a, b, c, l) (lo', (ftg a b, v) :: (2, r) :: st, s, true) = (lo', st, sU s r b v, oP s r a) := by
    show (if ftg a b = ftg a b then (lo', st, (s.1, s.2.1, up s.2.2 r b v), true && (decide (kd s r = a) && (fcode a b != 3 || bit01 v))) else bad _) = _
    rw [if_pos rfl, hc]
    rfl
  unfold acK
  rw [if_pos (by simp)]
  simp only [e]
  rfl
theorem r55z (ht : tabs.getD m [] = tb) (hl : look tb pc = some (ks, (55, a, b, c, l))) (hk : kil ks lo = lo') (hp : pc + 3 = pc') {t : Nat} (hf : ftg a b = t) (hc : (fcode a b != 3) = false) {v r : Int} : Rn d m pc lo ((t, v) :: (2, r) :: st) s = if oPz s r a v then Rn d m pc' lo' st (sU s r b v) else none := by
  rw [Rn_s ht hl, hk]; subst hp hf
  have e : ex1 (55, a, b, c, l) (lo', (ftg a b, v) :: (2, r) :: st, s, true) = (lo', st, sU s r b v, oPz s r a v) := by
    show (if ftg a b = ftg a b then (lo', st, (s.1, s.2.1, up s.2.2 r b v), true && (decide (kd s r = a) && (fcode a b != 3 || bit01 v))) else bad _) = _
    rw [if_pos rfl, hc]
    rfl
  unfold acK
  rw [if_pos (by simp)]
  simp only [e]
  rfl

theorem r56 (ht : tabs.getD m [] = tb) (hl : look tb pc = some (ks, (56, a, b, c, l))) (hk : kil ks lo = lo') (hp : pc + 3 = pc') {t : Nat} (hf : ftg a b = t) (hc : (fcode a b != 3) = true) {v r : Int} : Rn d m pc lo ((t, v) :: (2, r) :: st) s = if oP s r a then Rn d m pc' lo' st (sU s r b v) else none := by
  rw [Rn_s ht hl, hk]; subst hp hf
  have e : ex1 (56, a, b, c, l) (lo', (ftg a b, v) :: (2, r) :: st, s, true) = (lo', st, sU s r b v, oP s r a) := by
    show (if ftg a b = ftg a b then (lo', st, (s.1, s.2.1, up s.2.2 r b v), true && (decide (kd s r = a) && (fcode a b != 3 || bit01 v))) else bad _) = _
    rw [if_pos rfl, hc]
    rfl
  unfold acK
  rw [if_pos (by simp)]
  simp only [e]
  rfl
theorem r56z (ht : tabs.getD m [] = tb) (hl : look tb pc = some (ks, (56, a, b, c, l))) (hk : kil ks lo = lo') (hp : pc + 3 = pc') {t : Nat} (hf : ftg a b = t) (hc : (fcode a b != 3) = false) {v r : Int} : Rn d m pc lo ((t, v) :: (2, r) :: st) s = if oPz s r a v then Rn d m pc' lo' st (sU s r b v) else none := by
  rw [Rn_s ht hl, hk]; subst hp hf
  have e : ex1 (56, a, b, c, l) (lo', (ftg a b, v) :: (2, r) :: st, s, true) = (lo', st, sU s r b v, oPz s r a v) := by
    show (if ftg a b = ftg a b then (lo', st, (s.1, s.2.1, up s.2.2 r b v), true && (decide (kd s r = a) && (fcode a b != 3 || bit01 v))) else bad _) = _
    rw [if_pos rfl, hc]
    rfl
  unfold acK
  rw [if_pos (by simp)]
  simp only [e]
  rfl

theorem r79 (ht : tabs.getD m [] = tb) (hl : look tb pc = some (ks, (79, a, b, c, l))) (hk : kil ks lo = lo') (hp : pc + 3 = pc') {mm : Nat} (hm : a.toNat = mm) {as rest : List Vv} (h1 : (st.take (c.toNat)).reverse = as) (h2 : st.drop (c.toNat) = rest) (hc : decide (c.toNat ≤ st.length ∧ ((st.drop (c.toNat)).map cat).sum ≤ 8 ∧ (mkL (st.take (c.toNat)).reverse).length ≤ mL a.toNat) = true) : Rn d m pc lo st s = cK (den d mm as s) (fun v s1 => Rn d m pc' lo' (pushR v rest) s1) := by
  rw [Rn_s ht hl, hk]; subst hp hm h1 h2
  show caK (den d) a.toNat (c.toNat) pc lo' st s _ = _
  unfold caK
  rw [if_pos (of_decide_eq_true hc)]
  rfl

theorem r81 (ht : tabs.getD m [] = tb) (hl : look tb pc = some (ks, (81, a, b, c, l))) (hk : kil ks lo = lo') (hp : pc + 3 = pc') {mm : Nat} (hm : a.toNat = mm) {as rest : List Vv} (h1 : (st.take (c.toNat)).reverse = as) (h2 : st.drop (c.toNat) = rest) (hc : decide (c.toNat ≤ st.length ∧ ((st.drop (c.toNat)).map cat).sum ≤ 8 ∧ (mkL (st.take (c.toNat)).reverse).length ≤ mL a.toNat) = true) : Rn d m pc lo st s = cK (den d mm as s) (fun v s1 => Rn d m pc' lo' (pushR v rest) s1) := by
  rw [Rn_s ht hl, hk]; subst hp hm h1 h2
  show caK (den d) a.toNat (c.toNat) pc lo' st s _ = _
  unfold caK
  rw [if_pos (of_decide_eq_true hc)]
  rfl

theorem r83 (ht : tabs.getD m [] = tb) (hl : look tb pc = some (ks, (83, a, b, c, l))) (hk : kil ks lo = lo') (hp : pc + 3 = pc') {mm : Nat} (hm : a.toNat = mm) {as rest : List Vv} (h1 : (st.take (c.toNat)).reverse = as) (h2 : st.drop (c.toNat) = rest) (hc : decide (c.toNat ≤ st.length ∧ ((st.drop (c.toNat)).map cat).sum ≤ 8 ∧ (mkL (st.take (c.toNat)).reverse).length ≤ mL a.toNat) = true) : Rn d m pc lo st s = cK (den d mm as s) (fun v s1 => Rn d m pc' lo' (pushR v rest) s1) := by
  rw [Rn_s ht hl, hk]; subst hp hm h1 h2
  show caK (den d) a.toNat (c.toNat) pc lo' st s _ = _
  unfold caK
  rw [if_pos (of_decide_eq_true hc)]
  rfl

theorem r80 (ht : tabs.getD m [] = tb) (hl : look tb pc = some (ks, (80, a, b, c, l))) (hk : kil ks lo = lo') (hp : pc + 3 = pc') {mm : Nat} (hm : a.toNat = mm) {as rest : List Vv} (h1 : (st.take (c.toNat + 1)).reverse = as) (h2 : st.drop (c.toNat + 1) = rest) {r ci : Int} (hr : st[c.toNat]? = some (2, r)) (hi : mci a.toNat = ci) (hc : decide (c.toNat + 1 ≤ st.length ∧ ((st.drop (c.toNat + 1)).map cat).sum ≤ 8 ∧ (mkL (st.take (c.toNat + 1)).reverse).length ≤ mL a.toNat) = true) : Rn d m pc lo st s = if kd s r = ci then cK (den d mm as s) (fun v s1 => Rn d m pc' lo' (pushR v rest) s1) else none := by
  rw [Rn_s ht hl, hk]; subst hp hm h1 h2 hi
  show (if rck s st c.toNat = mci a.toNat then caK (den d) a.toNat (c.toNat + 1) pc lo' st s _ else none) = _
  have e : rck s st c.toNat = kd s r := by
    unfold rck
    simp only [hr]
  unfold caK
  rw [e, if_pos (of_decide_eq_true hc)]

theorem r82 (ht : tabs.getD m [] = tb) (hl : look tb pc = some (ks, (82, a, b, c, l))) (hk : kil ks lo = lo') (hp : pc + 3 = pc') {mm : Nat} (hm : a.toNat = mm) {as rest : List Vv} (h1 : (st.take (c.toNat + 1)).reverse = as) (h2 : st.drop (c.toNat + 1) = rest) {r ci : Int} (hr : st[c.toNat]? = some (2, r)) (hi : mci a.toNat = ci) (hc : decide (c.toNat + 1 ≤ st.length ∧ ((st.drop (c.toNat + 1)).map cat).sum ≤ 8 ∧ (mkL (st.take (c.toNat + 1)).reverse).length ≤ mL a.toNat) = true) : Rn d m pc lo st s = if kd s r = ci then cK (den d mm as s) (fun v s1 => Rn d m pc' lo' (pushR v rest) s1) else none := by
  rw [Rn_s ht hl, hk]; subst hp hm h1 h2 hi
  show (if rck s st c.toNat = mci a.toNat then caK (den d) a.toNat (c.toNat + 1) pc lo' st s _ else none) = _
  have e : rck s st c.toNat = kd s r := by
    unfold rck
    simp only [hr]
  unfold caK
  rw [e, if_pos (of_decide_eq_true hc)]

theorem r84 (ht : tabs.getD m [] = tb) (hl : look tb pc = some (ks, (84, a, b, c, l))) (hk : kil ks lo = lo') (hp : pc + 3 = pc') {mm : Nat} (hm : a.toNat = mm) {as rest : List Vv} (h1 : (st.take (c.toNat + 1)).reverse = as) (h2 : st.drop (c.toNat + 1) = rest) {r ci : Int} (hr : st[c.toNat]? = some (2, r)) (hi : mci a.toNat = ci) (hc : decide (c.toNat + 1 ≤ st.length ∧ ((st.drop (c.toNat + 1)).map cat).sum ≤ 8 ∧ (mkL (st.take (c.toNat + 1)).reverse).length ≤ mL a.toNat) = true) : Rn d m pc lo st s = if kd s r = ci then cK (den d mm as s) (fun v s1 => Rn d m pc' lo' (pushR v rest) s1) else none := by
  rw [Rn_s ht hl, hk]; subst hp hm h1 h2 hi
  show (if rck s st c.toNat = mci a.toNat then caK (den d) a.toNat (c.toNat + 1) pc lo' st s _ else none) = _
  have e : rck s st c.toNat = kd s r := by
    unfold rck
    simp only [hr]
  unfold caK
  rw [e, if_pos (of_decide_eq_true hc)]

theorem r88 (ht : tabs.getD m [] = tb) (hl : look tb pc = some (ks, (88, a, b, c, l))) (hk : kil ks lo = lo') (hp : pc + 3 = pc') {mm : Nat} (hm : a.toNat = mm) {r : Int} (hc : decide (1 ≤ ((2, r) :: st).length ∧ ((((2, r) :: st).drop 1).map cat).sum ≤ 8 ∧ (mkL (((2, r) :: st).take 1).reverse).length ≤ mL a.toNat) = true) : Rn d m pc lo ((2, r) :: st) s = if kd s r = 203 then cK (den d mm [(2, r)] s) (fun v s1 => Rn d m pc' lo' (pushR v st) s1) else none := by
  rw [Rn_s ht hl, hk]; subst hp hm
  show (if kd s r = 203 then caK (den d) a.toNat 1 pc lo' ((2, r) :: st) s _ else none) = _
  unfold caK
  rw [if_pos (of_decide_eq_true hc)]
  rfl
theorem r85 (ht : tabs.getD m [] = tb) (hl : look tb pc = some (ks, (85, a, b, c, l))) (hk : kil ks lo = lo') (hp : pc + 3 = pc') {r : Int} (hc : decide ((st.map cat).sum ≤ 8) = true) : Rn d m pc lo ((2, r) :: st) s = if 0 < r then Rn d m pc' lo' st s else none := by
  rw [Rn_s ht hl, hk]; subst hp
  show (if 0 < r ∧ (st.map cat).sum ≤ 8 then Rn d m (pc + 3) lo' st s else none) = _
  have := of_decide_eq_true hc
  by_cases h : 0 < r
  · rw [if_pos h, if_pos ⟨h, this⟩]
  · rw [if_neg h, if_neg (fun q => h q.1)]

theorem r95 (ht : tabs.getD m [] = tb) (hl : look tb pc = some (ks, (95, a, b, c, l))) (hk : kil ks lo = lo') (hp : pc + 3 = pc') {n : Int} (hn : (((ftab.getD a.toNat []).length : Nat) : Int) = n) : Rn d m pc lo st s = Rn d m pc' lo' ((2, s.1.1 + 1) :: st) (newS s a n) := by
  rw [Rn_s ht hl, hk]; subst hp hn; rfl

theorem r96 (ht : tabs.getD m [] = tb) (hl : look tb pc = some (ks, (96, a, b, c, l))) (hk : kil ks lo = lo') (hp : pc + 2 = pc') {n : Int} (hn : decide (0 ≤ n ∧ n < 100000) = true) : Rn d m pc lo ((0, n) :: st) s = Rn d m pc' lo' ((2, s.1.1 + 1) :: st) (newS s a n) := by
  rw [Rn_s ht hl, hk]; subst hp
  show nxK (if 0 ≤ n ∧ n < 100000 then goN (pc + 2) lo' ((2, s.1.1 + 1) :: st) (newS s a n) else none) _ = _
  rw [if_pos (of_decide_eq_true hn)]
  rfl

theorem r97 (ht : tabs.getD m [] = tb) (hl : look tb pc = some (ks, (97, a, b, c, l))) (hk : kil ks lo = lo') (hp : pc + 3 = pc') {n : Int} (hn : decide (0 ≤ n ∧ n < 100000) = true) : Rn d m pc lo ((0, n) :: st) s = Rn d m pc' lo' ((2, s.1.1 + 1) :: st) (newS s a n) := by
  rw [Rn_s ht hl, hk]; subst hp
  show nxK (if 0 ≤ n ∧ n < 100000 then goN (pc + 3) lo' ((2, s.1.1 + 1) :: st) (newS s a n) else none) _ = _
  rw [if_pos (of_decide_eq_true hn)]
  rfl

end RW
