/-! The constructors -/
def alS (l : List (Int × Int × Int)) : Sto := fun a i => match l.find? (fun q => q.1 == a && q.2.1 == i) with
  | some q => q.2.2
  | none => 0
def Sp (xs : Int → Int) (c n : Int) (l : List (Int × Int × Int)) : Stt := ((c, n), (fun a => if a ≤ c then L0 a else (-1, 0)), (fun a i => if a ≤ 0 then XD0 xs a i else alS l a i))
def fr (l : List (Int × Int × Int)) (c : Int) : Prop := ∀ q ∈ l, q.1 ≤ c
theorem fr_c {l : List (Int × Int × Int)} {c a i v : Int} (h : a ≤ c) (f : fr l c) : fr ((a, i, v) :: l) c := fun q hq => by
  obtain z | z := List.mem_cons.mp hq
  · rw [z]; exact h
  · exact f q z
theorem fr_m {l : List (Int × Int × Int)} {c c' : Int} (h : c ≤ c') (f : fr l c) : fr l c' := fun q hq => Int.le_trans (f q hq) h
theorem alZ {l : List (Int × Int × Int)} {c a i : Int} (f : fr l c) (h : c < a) : alS l a i = 0 := by
  unfold alS
  have e : l.find? (fun q => q.1 == a && q.2.1 == i) = none := by
    rw [List.find?_eq_none]
    intro q hq z
    rw [Bool.and_eq_true, beq_iff_eq] at z
    have := f q hq
    omega
  rw [e]
section S99zl
variable {xs : Int → Int} {l : List (Int × Int × Int)}
theorem nwT {c n k len : Int} (h : L0 (c + 1) = (k, len)) (h0 : 0 ≤ c) (f : fr l c) : newS (Sp xs c n l) k len = Sp xs (c + 1) (n + len) l := by
  unfold newS Sp
  refine Prod.ext rfl (Prod.ext (funext fun a => ?_) (funext fun a => funext fun i => ?_))
  · show (if a = c + 1 then (k, len) else (if a ≤ c then L0 a else (-1, 0))) = if a ≤ c + 1 then L0 a else (-1, 0)
    by_cases q : a = c + 1
    · rw [if_pos q, if_pos (by omega), q, h]
    · rw [if_neg q]
      by_cases z : a ≤ c
      · rw [if_pos z, if_pos (by omega)]
      · rw [if_neg z, if_neg (by omega)]
  · show (if a = c + 1 then 0 else (if a ≤ 0 then XD0 xs a i else alS l a i)) = if a ≤ 0 then XD0 xs a i else alS l a i
    by_cases q : a = c + 1
    · rw [if_pos q, if_neg (by omega), alZ f (by omega)]
    · rw [if_neg q]
theorem suT {c n a i v : Int} (h : 0 < a) : sU (Sp xs c n l) a i v = Sp xs c n ((a, i, v) :: l) := by
  unfold sU Sp
  refine Prod.ext rfl (Prod.ext rfl (funext fun b => funext fun j => ?_))
  show up (fun a i => if a ≤ 0 then XD0 xs a i else alS l a i) a i v b j = if b ≤ 0 then XD0 xs b j else alS ((a, i, v) :: l) b j
  unfold up
  by_cases q : b = a ∧ j = i
  · rw [if_pos q, if_neg (by omega), q.1, q.2]
    unfold alS
    rw [List.find?_cons_of_pos (by simp)]
  · rw [if_neg q]
    show (if b ≤ 0 then XD0 xs b j else alS l b j) = if b ≤ 0 then XD0 xs b j else alS ((a, i, v) :: l) b j
    by_cases z : b ≤ 0
    · rw [if_pos z, if_pos z]
    · rw [if_neg z, if_neg z]
      unfold alS
      rw [List.find?_cons_of_neg (by
        intro y
        rw [Bool.and_eq_true, beq_iff_eq, beq_iff_eq] at y
        exact q ⟨y.1.symm, y.2.symm⟩)]
theorem kt1_0 (f0 : fr l 9) (d : Nat) : den (d + 1) 0 [(2, 9)] (Sp xs 9 1035 l) = some ((9, 0), Sp xs 18 1139 ((9, 10, 18) :: (9, 9, 17) :: (9, 8, 16) :: (9, 7, 15) :: (9, 6, 14) :: (9, 5, 13) :: (9, 4, 12) :: (9, 3, 11) :: (9, 2, 10) :: l)) := by
  show Rn d 0 0 [some (2, 9)] [] (Sp xs 9 1035 (l)) = _
  rw [e0_0, if_pos (show (0 : Int) < 9 by decide), nwT (c := 9) (n := 1035) (k := 100) (len := 16) rfl (by decide) f0]
  have f1 : fr (l) 10 := fr_m (by decide) f0
  show Rn d 0 9 [some (2, 9)] [(2, 10), (2, 9)] (Sp xs 10 1051 (l)) = _
  rw [e0_9, if_pos (show oP (Sp xs 10 1051 (l)) 9 0 = true from rfl), suT (by decide)]
  have f2 : fr ((9, 2, 10) :: l) 10 := fr_c (by decide) f1
  show Rn d 0 12 [some (2, 9)] [] (Sp xs 10 1051 ((9, 2, 10) :: l)) = _
  rw [e0_12, nwT (c := 10) (n := 1051) (k := 100) (len := 16) rfl (by decide) f2]
  have f3 : fr ((9, 2, 10) :: l) 11 := fr_m (by decide) f2
  show Rn d 0 17 [some (2, 9)] [(2, 11), (2, 9)] (Sp xs 11 1067 ((9, 2, 10) :: l)) = _
  rw [e0_17, if_pos (show oP (Sp xs 11 1067 ((9, 2, 10) :: l)) 9 0 = true from rfl), suT (by decide)]
  have f4 : fr ((9, 3, 11) :: (9, 2, 10) :: l) 11 := fr_c (by decide) f3
  show Rn d 0 20 [some (2, 9)] [] (Sp xs 11 1067 ((9, 3, 11) :: (9, 2, 10) :: l)) = _
  rw [e0_20, nwT (c := 11) (n := 1067) (k := 100) (len := 8) rfl (by decide) f4]
  have f5 : fr ((9, 3, 11) :: (9, 2, 10) :: l) 12 := fr_m (by decide) f4
  show Rn d 0 25 [some (2, 9)] [(2, 12), (2, 9)] (Sp xs 12 1075 ((9, 3, 11) :: (9, 2, 10) :: l)) = _
  rw [e0_25, if_pos (show oP (Sp xs 12 1075 ((9, 3, 11) :: (9, 2, 10) :: l)) 9 0 = true from rfl), suT (by decide)]
  have f6 : fr ((9, 4, 12) :: (9, 3, 11) :: (9, 2, 10) :: l) 12 := fr_c (by decide) f5
  show Rn d 0 28 [some (2, 9)] [] (Sp xs 12 1075 ((9, 4, 12) :: (9, 3, 11) :: (9, 2, 10) :: l)) = _
  rw [e0_28, nwT (c := 12) (n := 1075) (k := 100) (len := 8) rfl (by decide) f6]
  have f7 : fr ((9, 4, 12) :: (9, 3, 11) :: (9, 2, 10) :: l) 13 := fr_m (by decide) f6
  show Rn d 0 33 [some (2, 9)] [(2, 13), (2, 9)] (Sp xs 13 1083 ((9, 4, 12) :: (9, 3, 11) :: (9, 2, 10) :: l)) = _
  rw [e0_33, if_pos (show oP (Sp xs 13 1083 ((9, 4, 12) :: (9, 3, 11) :: (9, 2, 10) :: l)) 9 0 = true from rfl), suT (by decide)]
  have f8 : fr ((9, 5, 13) :: (9, 4, 12) :: (9, 3, 11) :: (9, 2, 10) :: l) 13 := fr_c (by decide) f7
  show Rn d 0 36 [some (2, 9)] [] (Sp xs 13 1083 ((9, 5, 13) :: (9, 4, 12) :: (9, 3, 11) :: (9, 2, 10) :: l)) = _
  rw [e0_36, nwT (c := 13) (n := 1083) (k := 100) (len := 8) rfl (by decide) f8]
  have f9 : fr ((9, 5, 13) :: (9, 4, 12) :: (9, 3, 11) :: (9, 2, 10) :: l) 14 := fr_m (by decide) f8
  show Rn d 0 41 [some (2, 9)] [(2, 14), (2, 9)] (Sp xs 14 1091 ((9, 5, 13) :: (9, 4, 12) :: (9, 3, 11) :: (9, 2, 10) :: l)) = _
  rw [e0_41, if_pos (show oP (Sp xs 14 1091 ((9, 5, 13) :: (9, 4, 12) :: (9, 3, 11) :: (9, 2, 10) :: l)) 9 0 = true from rfl), suT (by decide)]
  have f10 : fr ((9, 6, 14) :: (9, 5, 13) :: (9, 4, 12) :: (9, 3, 11) :: (9, 2, 10) :: l) 14 := fr_c (by decide) f9
  show Rn d 0 44 [some (2, 9)] [] (Sp xs 14 1091 ((9, 6, 14) :: (9, 5, 13) :: (9, 4, 12) :: (9, 3, 11) :: (9, 2, 10) :: l)) = _
  rw [e0_44, nwT (c := 14) (n := 1091) (k := 100) (len := 8) rfl (by decide) f10]
  have f11 : fr ((9, 6, 14) :: (9, 5, 13) :: (9, 4, 12) :: (9, 3, 11) :: (9, 2, 10) :: l) 15 := fr_m (by decide) f10
  show Rn d 0 49 [some (2, 9)] [(2, 15), (2, 9)] (Sp xs 15 1099 ((9, 6, 14) :: (9, 5, 13) :: (9, 4, 12) :: (9, 3, 11) :: (9, 2, 10) :: l)) = _
  rw [e0_49, if_pos (show oP (Sp xs 15 1099 ((9, 6, 14) :: (9, 5, 13) :: (9, 4, 12) :: (9, 3, 11) :: (9, 2, 10) :: l)) 9 0 = true from rfl), suT (by decide)]
  have f12 : fr ((9, 7, 15) :: (9, 6, 14) :: (9, 5, 13) :: (9, 4, 12) :: (9, 3, 11) :: (9, 2, 10) :: l) 15 := fr_c (by decide) f11
  show Rn d 0 52 [some (2, 9)] [] (Sp xs 15 1099 ((9, 7, 15) :: (9, 6, 14) :: (9, 5, 13) :: (9, 4, 12) :: (9, 3, 11) :: (9, 2, 10) :: l)) = _
  rw [e0_52, nwT (c := 15) (n := 1099) (k := 100) (len := 24) rfl (by decide) f12]
  have f13 : fr ((9, 7, 15) :: (9, 6, 14) :: (9, 5, 13) :: (9, 4, 12) :: (9, 3, 11) :: (9, 2, 10) :: l) 16 := fr_m (by decide) f12
  show Rn d 0 57 [some (2, 9)] [(2, 16), (2, 9)] (Sp xs 16 1123 ((9, 7, 15) :: (9, 6, 14) :: (9, 5, 13) :: (9, 4, 12) :: (9, 3, 11) :: (9, 2, 10) :: l)) = _
  rw [e0_57, if_pos (show oP (Sp xs 16 1123 ((9, 7, 15) :: (9, 6, 14) :: (9, 5, 13) :: (9, 4, 12) :: (9, 3, 11) :: (9, 2, 10) :: l)) 9 0 = true from rfl), suT (by decide)]
  have f14 : fr ((9, 8, 16) :: (9, 7, 15) :: (9, 6, 14) :: (9, 5, 13) :: (9, 4, 12) :: (9, 3, 11) :: (9, 2, 10) :: l) 16 := fr_c (by decide) f13
  show Rn d 0 60 [some (2, 9)] [] (Sp xs 16 1123 ((9, 8, 16) :: (9, 7, 15) :: (9, 6, 14) :: (9, 5, 13) :: (9, 4, 12) :: (9, 3, 11) :: (9, 2, 10) :: l)) = _
  rw [e0_60, nwT (c := 16) (n := 1123) (k := 100) (len := 8) rfl (by decide) f14]
  have f15 : fr ((9, 8, 16) :: (9, 7, 15) :: (9, 6, 14) :: (9, 5, 13) :: (9, 4, 12) :: (9, 3, 11) :: (9, 2, 10) :: l) 17 := fr_m (by decide) f14
  show Rn d 0 65 [some (2, 9)] [(2, 17), (2, 9)] (Sp xs 17 1131 ((9, 8, 16) :: (9, 7, 15) :: (9, 6, 14) :: (9, 5, 13) :: (9, 4, 12) :: (9, 3, 11) :: (9, 2, 10) :: l)) = _
  rw [e0_65, if_pos (show oP (Sp xs 17 1131 ((9, 8, 16) :: (9, 7, 15) :: (9, 6, 14) :: (9, 5, 13) :: (9, 4, 12) :: (9, 3, 11) :: (9, 2, 10) :: l)) 9 0 = true from rfl), suT (by decide)]
  have f16 : fr ((9, 9, 17) :: (9, 8, 16) :: (9, 7, 15) :: (9, 6, 14) :: (9, 5, 13) :: (9, 4, 12) :: (9, 3, 11) :: (9, 2, 10) :: l) 17 := fr_c (by decide) f15
  show Rn d 0 68 [some (2, 9)] [] (Sp xs 17 1131 ((9, 9, 17) :: (9, 8, 16) :: (9, 7, 15) :: (9, 6, 14) :: (9, 5, 13) :: (9, 4, 12) :: (9, 3, 11) :: (9, 2, 10) :: l)) = _
  rw [e0_68, nwT (c := 17) (n := 1131) (k := 100) (len := 8) rfl (by decide) f16]
  have f17 : fr ((9, 9, 17) :: (9, 8, 16) :: (9, 7, 15) :: (9, 6, 14) :: (9, 5, 13) :: (9, 4, 12) :: (9, 3, 11) :: (9, 2, 10) :: l) 18 := fr_m (by decide) f16
  show Rn d 0 73 [some (2, 9)] [(2, 18), (2, 9)] (Sp xs 18 1139 ((9, 9, 17) :: (9, 8, 16) :: (9, 7, 15) :: (9, 6, 14) :: (9, 5, 13) :: (9, 4, 12) :: (9, 3, 11) :: (9, 2, 10) :: l)) = _
  rw [e0_73, if_pos (show oP (Sp xs 18 1139 ((9, 9, 17) :: (9, 8, 16) :: (9, 7, 15) :: (9, 6, 14) :: (9, 5, 13) :: (9, 4, 12) :: (9, 3, 11) :: (9, 2, 10) :: l)) 9 0 = true from rfl), suT (by decide)]
  have f18 : fr ((9, 10, 18) :: (9, 9, 17) :: (9, 8, 16) :: (9, 7, 15) :: (9, 6, 14) :: (9, 5, 13) :: (9, 4, 12) :: (9, 3, 11) :: (9, 2, 10) :: l) 18 := fr_c (by decide) f17
  show Rn d 0 76 [some (2, 9)] [] (Sp xs 18 1139 ((9, 10, 18) :: (9, 9, 17) :: (9, 8, 16) :: (9, 7, 15) :: (9, 6, 14) :: (9, 5, 13) :: (9, 4, 12) :: (9, 3, 11) :: (9, 2, 10) :: l)) = _
  rw [e0_76]
theorem kt2_35 (f0 : fr l 19) (d : Nat) : den (d + 1) 35 [(2, 19)] (Sp xs 19 1147 l) = some ((9, 0), Sp xs 24 1345 ((19, 5, 24) :: (19, 4, 23) :: (19, 3, 22) :: (19, 2, 21) :: (19, 1, 20) :: l)) := by
  show Rn d 35 0 [some (2, 19)] [] (Sp xs 19 1147 (l)) = _
  rw [e35_0, if_pos (show (0 : Int) < 19 by decide), nwT (c := 19) (n := 1147) (k := 103) (len := 64) rfl (by decide) f0]
  have f1 : fr (l) 20 := fr_m (by decide) f0
  show Rn d 35 10 [some (2, 19)] [(2, 20), (2, 19)] (Sp xs 20 1211 (l)) = _
  rw [e35_10, if_pos (show oP (Sp xs 20 1211 (l)) 19 2 = true from rfl), suT (by decide)]
  have f2 : fr ((19, 1, 20) :: l) 20 := fr_c (by decide) f1
  show Rn d 35 13 [some (2, 19)] [] (Sp xs 20 1211 ((19, 1, 20) :: l)) = _
  rw [e35_13, nwT (c := 20) (n := 1211) (k := 100) (len := 64) rfl (by decide) f2]
  have f3 : fr ((19, 1, 20) :: l) 21 := fr_m (by decide) f2
  show Rn d 35 18 [some (2, 19)] [(2, 21), (2, 19)] (Sp xs 21 1275 ((19, 1, 20) :: l)) = _
  rw [e35_18, if_pos (show oP (Sp xs 21 1275 ((19, 1, 20) :: l)) 19 2 = true from rfl), suT (by decide)]
  have f4 : fr ((19, 2, 21) :: (19, 1, 20) :: l) 21 := fr_c (by decide) f3
  show Rn d 35 21 [some (2, 19)] [] (Sp xs 21 1275 ((19, 2, 21) :: (19, 1, 20) :: l)) = _
  rw [e35_21, nwT (c := 21) (n := 1275) (k := 100) (len := 3) rfl (by decide) f4]
  have f5 : fr ((19, 2, 21) :: (19, 1, 20) :: l) 22 := fr_m (by decide) f4
  show Rn d 35 25 [some (2, 19)] [(2, 22), (2, 19)] (Sp xs 22 1278 ((19, 2, 21) :: (19, 1, 20) :: l)) = _
  rw [e35_25, if_pos (show oP (Sp xs 22 1278 ((19, 2, 21) :: (19, 1, 20) :: l)) 19 2 = true from rfl), suT (by decide)]
  have f6 : fr ((19, 3, 22) :: (19, 2, 21) :: (19, 1, 20) :: l) 22 := fr_c (by decide) f5
  show Rn d 35 28 [some (2, 19)] [] (Sp xs 22 1278 ((19, 3, 22) :: (19, 2, 21) :: (19, 1, 20) :: l)) = _
  rw [e35_28, nwT (c := 22) (n := 1278) (k := 100) (len := 3) rfl (by decide) f6]
  have f7 : fr ((19, 3, 22) :: (19, 2, 21) :: (19, 1, 20) :: l) 23 := fr_m (by decide) f6
  show Rn d 35 32 [some (2, 19)] [(2, 23), (2, 19)] (Sp xs 23 1281 ((19, 3, 22) :: (19, 2, 21) :: (19, 1, 20) :: l)) = _
  rw [e35_32, if_pos (show oP (Sp xs 23 1281 ((19, 3, 22) :: (19, 2, 21) :: (19, 1, 20) :: l)) 19 2 = true from rfl), suT (by decide)]
  have f8 : fr ((19, 4, 23) :: (19, 3, 22) :: (19, 2, 21) :: (19, 1, 20) :: l) 23 := fr_c (by decide) f7
  show Rn d 35 35 [some (2, 19)] [] (Sp xs 23 1281 ((19, 4, 23) :: (19, 3, 22) :: (19, 2, 21) :: (19, 1, 20) :: l)) = _
  rw [e35_35, nwT (c := 23) (n := 1281) (k := 101) (len := 64) rfl (by decide) f8]
  have f9 : fr ((19, 4, 23) :: (19, 3, 22) :: (19, 2, 21) :: (19, 1, 20) :: l) 24 := fr_m (by decide) f8
  show Rn d 35 40 [some (2, 19)] [(2, 24), (2, 19)] (Sp xs 24 1345 ((19, 4, 23) :: (19, 3, 22) :: (19, 2, 21) :: (19, 1, 20) :: l)) = _
  rw [e35_40, if_pos (show oP (Sp xs 24 1345 ((19, 4, 23) :: (19, 3, 22) :: (19, 2, 21) :: (19, 1, 20) :: l)) 19 2 = true from rfl), suT (by decide)]
  have f10 : fr ((19, 5, 24) :: (19, 4, 23) :: (19, 3, 22) :: (19, 2, 21) :: (19, 1, 20) :: l) 24 := fr_c (by decide) f9
  show Rn d 35 43 [some (2, 19)] [] (Sp xs 24 1345 ((19, 5, 24) :: (19, 4, 23) :: (19, 3, 22) :: (19, 2, 21) :: (19, 1, 20) :: l)) = _
  rw [e35_43]
theorem kt3_61 (f0 : fr l 5) (d : Nat) : den (d + 2) 61 [(2, 5)] (Sp xs 5 1000 l) = some ((9, 0), Sp xs 24 1345 ((5, 6, 10) :: (5, 4, 19) :: (19, 5, 24) :: (19, 4, 23) :: (19, 3, 22) :: (19, 2, 21) :: (19, 1, 20) :: (5, 3, 9) :: (9, 10, 18) :: (9, 9, 17) :: (9, 8, 16) :: (9, 7, 15) :: (9, 6, 14) :: (9, 5, 13) :: (9, 4, 12) :: (9, 3, 11) :: (9, 2, 10) :: (5, 2, 8) :: (5, 1, 7) :: (5, 0, 6) :: l)) := by
  show Rn (d + 1) 61 0 [some (2, 5)] [] (Sp xs 5 1000 (l)) = _
  rw [e61_0, if_pos (show (0 : Int) < 5 by decide), nwT (c := 5) (n := 1000) (k := 100) (len := 8) rfl (by decide) f0]
  have f1 : fr (l) 6 := fr_m (by decide) f0
  show Rn (d + 1) 61 9 [some (2, 5)] [(2, 6), (2, 5)] (Sp xs 6 1008 (l)) = _
  rw [e61_9, if_pos (show oP (Sp xs 6 1008 (l)) 5 4 = true from rfl), suT (by decide)]
  have f2 : fr ((5, 0, 6) :: l) 6 := fr_c (by decide) f1
  show Rn (d + 1) 61 12 [some (2, 5)] [] (Sp xs 6 1008 ((5, 0, 6) :: l)) = _
  rw [e61_12, nwT (c := 6) (n := 1008) (k := 100) (len := 8) rfl (by decide) f2]
  have f3 : fr ((5, 0, 6) :: l) 7 := fr_m (by decide) f2
  show Rn (d + 1) 61 17 [some (2, 5)] [(2, 7), (2, 5)] (Sp xs 7 1016 ((5, 0, 6) :: l)) = _
  rw [e61_17, if_pos (show oP (Sp xs 7 1016 ((5, 0, 6) :: l)) 5 4 = true from rfl), suT (by decide)]
  have f4 : fr ((5, 1, 7) :: (5, 0, 6) :: l) 7 := fr_c (by decide) f3
  show Rn (d + 1) 61 20 [some (2, 5)] [] (Sp xs 7 1016 ((5, 1, 7) :: (5, 0, 6) :: l)) = _
  rw [e61_20, nwT (c := 7) (n := 1016) (k := 100) (len := 8) rfl (by decide) f4]
  have f5 : fr ((5, 1, 7) :: (5, 0, 6) :: l) 8 := fr_m (by decide) f4
  show Rn (d + 1) 61 25 [some (2, 5)] [(2, 8), (2, 5)] (Sp xs 8 1024 ((5, 1, 7) :: (5, 0, 6) :: l)) = _
  rw [e61_25, if_pos (show oP (Sp xs 8 1024 ((5, 1, 7) :: (5, 0, 6) :: l)) 5 4 = true from rfl), suT (by decide)]
  have f6 : fr ((5, 2, 8) :: (5, 1, 7) :: (5, 0, 6) :: l) 8 := fr_c (by decide) f5
  show Rn (d + 1) 61 28 [some (2, 5)] [] (Sp xs 8 1024 ((5, 2, 8) :: (5, 1, 7) :: (5, 0, 6) :: l)) = _
  rw [e61_28, nwT (c := 8) (n := 1024) (k := 0) (len := 11) rfl (by decide) f6]
  have f7 : fr ((5, 2, 8) :: (5, 1, 7) :: (5, 0, 6) :: l) 9 := fr_m (by decide) f6
  show Rn (d + 1) 61 32 [some (2, 5)] [(2, 9), (2, 5)] (Sp xs 9 1035 ((5, 2, 8) :: (5, 1, 7) :: (5, 0, 6) :: l)) = _
  rw [e61_32, if_pos (show kd (Sp xs 9 1035 ((5, 2, 8) :: (5, 1, 7) :: (5, 0, 6) :: l)) 9 = 0 from rfl), kt1_0 (l := (5, 2, 8) :: (5, 1, 7) :: (5, 0, 6) :: l) f7 d, cK9]
  have f8 : fr ((9, 10, 18) :: (9, 9, 17) :: (9, 8, 16) :: (9, 7, 15) :: (9, 6, 14) :: (9, 5, 13) :: (9, 4, 12) :: (9, 3, 11) :: (9, 2, 10) :: (5, 2, 8) :: (5, 1, 7) :: (5, 0, 6) :: l) 18 := fr_c (by decide) (fr_c (by decide) (fr_c (by decide) (fr_c (by decide) (fr_c (by decide) (fr_c (by decide) (fr_c (by decide) (fr_c (by decide) (fr_c (by decide) (fr_m (by decide) f7)))))))))
  show Rn (d + 1) 61 36 [some (2, 5)] [(2, 9), (2, 5)] (Sp xs 18 1139 ((9, 10, 18) :: (9, 9, 17) :: (9, 8, 16) :: (9, 7, 15) :: (9, 6, 14) :: (9, 5, 13) :: (9, 4, 12) :: (9, 3, 11) :: (9, 2, 10) :: (5, 2, 8) :: (5, 1, 7) :: (5, 0, 6) :: l)) = _
  rw [e61_36, if_pos (show oP (Sp xs 18 1139 ((9, 10, 18) :: (9, 9, 17) :: (9, 8, 16) :: (9, 7, 15) :: (9, 6, 14) :: (9, 5, 13) :: (9, 4, 12) :: (9, 3, 11) :: (9, 2, 10) :: (5, 2, 8) :: (5, 1, 7) :: (5, 0, 6) :: l)) 5 4 = true from rfl), suT (by decide)]
  have f9 : fr ((5, 3, 9) :: (9, 10, 18) :: (9, 9, 17) :: (9, 8, 16) :: (9, 7, 15) :: (9, 6, 14) :: (9, 5, 13) :: (9, 4, 12) :: (9, 3, 11) :: (9, 2, 10) :: (5, 2, 8) :: (5, 1, 7) :: (5, 0, 6) :: l) 18 := fr_c (by decide) f8
  show Rn (d + 1) 61 39 [some (2, 5)] [] (Sp xs 18 1139 ((5, 3, 9) :: (9, 10, 18) :: (9, 9, 17) :: (9, 8, 16) :: (9, 7, 15) :: (9, 6, 14) :: (9, 5, 13) :: (9, 4, 12) :: (9, 3, 11) :: (9, 2, 10) :: (5, 2, 8) :: (5, 1, 7) :: (5, 0, 6) :: l)) = _
  rw [e61_39, nwT (c := 18) (n := 1139) (k := 2) (len := 8) rfl (by decide) f9]
  have f10 : fr ((5, 3, 9) :: (9, 10, 18) :: (9, 9, 17) :: (9, 8, 16) :: (9, 7, 15) :: (9, 6, 14) :: (9, 5, 13) :: (9, 4, 12) :: (9, 3, 11) :: (9, 2, 10) :: (5, 2, 8) :: (5, 1, 7) :: (5, 0, 6) :: l) 19 := fr_m (by decide) f9
  show Rn (d + 1) 61 43 [some (2, 5)] [(2, 19), (2, 5)] (Sp xs 19 1147 ((5, 3, 9) :: (9, 10, 18) :: (9, 9, 17) :: (9, 8, 16) :: (9, 7, 15) :: (9, 6, 14) :: (9, 5, 13) :: (9, 4, 12) :: (9, 3, 11) :: (9, 2, 10) :: (5, 2, 8) :: (5, 1, 7) :: (5, 0, 6) :: l)) = _
  rw [e61_43, if_pos (show kd (Sp xs 19 1147 ((5, 3, 9) :: (9, 10, 18) :: (9, 9, 17) :: (9, 8, 16) :: (9, 7, 15) :: (9, 6, 14) :: (9, 5, 13) :: (9, 4, 12) :: (9, 3, 11) :: (9, 2, 10) :: (5, 2, 8) :: (5, 1, 7) :: (5, 0, 6) :: l)) 19 = 2 from rfl), kt2_35 (l := (5, 3, 9) :: (9, 10, 18) :: (9, 9, 17) :: (9, 8, 16) :: (9, 7, 15) :: (9, 6, 14) :: (9, 5, 13) :: (9, 4, 12) :: (9, 3, 11) :: (9, 2, 10) :: (5, 2, 8) :: (5, 1, 7) :: (5, 0, 6) :: l) f10 d, cK9]
  have f11 : fr ((19, 5, 24) :: (19, 4, 23) :: (19, 3, 22) :: (19, 2, 21) :: (19, 1, 20) :: (5, 3, 9) :: (9, 10, 18) :: (9, 9, 17) :: (9, 8, 16) :: (9, 7, 15) :: (9, 6, 14) :: (9, 5, 13) :: (9, 4, 12) :: (9, 3, 11) :: (9, 2, 10) :: (5, 2, 8) :: (5, 1, 7) :: (5, 0, 6) :: l) 24 := fr_c (by decide) (fr_c (by decide) (fr_c (by decide) (fr_c (by decide) (fr_c (by decide) (fr_m (by decide) f10)))))
  show Rn (d + 1) 61 47 [some (2, 5)] [(2, 19), (2, 5)] (Sp xs 24 1345 ((19, 5, 24) :: (19, 4, 23) :: (19, 3, 22) :: (19, 2, 21) :: (19, 1, 20) :: (5, 3, 9) :: (9, 10, 18) :: (9, 9, 17) :: (9, 8, 16) :: (9, 7, 15) :: (9, 6, 14) :: (9, 5, 13) :: (9, 4, 12) :: (9, 3, 11) :: (9, 2, 10) :: (5, 2, 8) :: (5, 1, 7) :: (5, 0, 6) :: l)) = _
  rw [e61_47, if_pos (show oP (Sp xs 24 1345 ((19, 5, 24) :: (19, 4, 23) :: (19, 3, 22) :: (19, 2, 21) :: (19, 1, 20) :: (5, 3, 9) :: (9, 10, 18) :: (9, 9, 17) :: (9, 8, 16) :: (9, 7, 15) :: (9, 6, 14) :: (9, 5, 13) :: (9, 4, 12) :: (9, 3, 11) :: (9, 2, 10) :: (5, 2, 8) :: (5, 1, 7) :: (5, 0, 6) :: l)) 5 4 = true from rfl), suT (by decide)]
  have f12 : fr ((5, 4, 19) :: (19, 5, 24) :: (19, 4, 23) :: (19, 3, 22) :: (19, 2, 21) :: (19, 1, 20) :: (5, 3, 9) :: (9, 10, 18) :: (9, 9, 17) :: (9, 8, 16) :: (9, 7, 15) :: (9, 6, 14) :: (9, 5, 13) :: (9, 4, 12) :: (9, 3, 11) :: (9, 2, 10) :: (5, 2, 8) :: (5, 1, 7) :: (5, 0, 6) :: l) 24 := fr_c (by decide) f11
  show Rn (d + 1) 61 50 [some (2, 5)] [] (Sp xs 24 1345 ((5, 4, 19) :: (19, 5, 24) :: (19, 4, 23) :: (19, 3, 22) :: (19, 2, 21) :: (19, 1, 20) :: (5, 3, 9) :: (9, 10, 18) :: (9, 9, 17) :: (9, 8, 16) :: (9, 7, 15) :: (9, 6, 14) :: (9, 5, 13) :: (9, 4, 12) :: (9, 3, 11) :: (9, 2, 10) :: (5, 2, 8) :: (5, 1, 7) :: (5, 0, 6) :: l)) = _
  rw [e61_50, if_pos (show oP (Sp xs 24 1345 ((5, 4, 19) :: (19, 5, 24) :: (19, 4, 23) :: (19, 3, 22) :: (19, 2, 21) :: (19, 1, 20) :: (5, 3, 9) :: (9, 10, 18) :: (9, 9, 17) :: (9, 8, 16) :: (9, 7, 15) :: (9, 6, 14) :: (9, 5, 13) :: (9, 4, 12) :: (9, 3, 11) :: (9, 2, 10) :: (5, 2, 8) :: (5, 1, 7) :: (5, 0, 6) :: l)) 5 4 = true from rfl), suT (by decide)]
  have f13 : fr ((5, 6, 10) :: (5, 4, 19) :: (19, 5, 24) :: (19, 4, 23) :: (19, 3, 22) :: (19, 2, 21) :: (19, 1, 20) :: (5, 3, 9) :: (9, 10, 18) :: (9, 9, 17) :: (9, 8, 16) :: (9, 7, 15) :: (9, 6, 14) :: (9, 5, 13) :: (9, 4, 12) :: (9, 3, 11) :: (9, 2, 10) :: (5, 2, 8) :: (5, 1, 7) :: (5, 0, 6) :: l) 24 := fr_c (by decide) f12
  show Rn (d + 1) 61 56 [some (2, 5)] [] (Sp xs 24 1345 ((5, 6, 10) :: (5, 4, 19) :: (19, 5, 24) :: (19, 4, 23) :: (19, 3, 22) :: (19, 2, 21) :: (19, 1, 20) :: (5, 3, 9) :: (9, 10, 18) :: (9, 9, 17) :: (9, 8, 16) :: (9, 7, 15) :: (9, 6, 14) :: (9, 5, 13) :: (9, 4, 12) :: (9, 3, 11) :: (9, 2, 10) :: (5, 2, 8) :: (5, 1, 7) :: (5, 0, 6) :: l)) = _
  rw [e61_56]
end S99zl
