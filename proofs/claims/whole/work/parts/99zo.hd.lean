/-! The law's head: the first store -/
def kM : List (Int × Int × Int) := (148, 0, 0) :: (147, 0, 0) :: (146, 0, 0) :: (155, 7, 0) :: (154, 7, 0) :: (155, 6, 0) :: (154, 6, 0) :: (155, 5, 0) :: (154, 5, 0) :: (155, 4, 0) :: (154, 4, 0) :: (155, 3, 0) :: (154, 3, 0) :: (155, 2, 0) :: (154, 2, 0) :: (155, 1, 0) :: (154, 1, 0) :: (155, 0, 0) :: (154, 0, 0) :: (153, 0, 0) :: (152, 0, 0) :: (151, 0, 0) :: (150, 0, 0) :: (149, 0, 0) :: (145, 0, 0) :: (144, 0, 0) :: (129, 71, 174) :: (129, 70, 173) :: (129, 69, 172) :: (129, 68, 171) :: (129, 67, 170) :: (129, 66, 169) :: (129, 65, -1) :: (129, 63, 168) :: (129, 62, 167) :: (129, 61, 166) :: (129, 60, 165) :: (129, 59, 164) :: (129, 58, 163) :: (129, 57, 162) :: (129, 54, 161) :: (129, 53, 160) :: (129, 52, 159) :: (129, 51, 158) :: (129, 50, 157) :: (129, 49, -1) :: (129, 46, -1) :: (129, 44, 156) :: (129, 41, 155) :: (129, 40, 154) :: (129, 39, 153) :: (129, 38, 152) :: (129, 37, 151) :: (129, 36, 150) :: (129, 35, 149) :: (129, 34, 148) :: (129, 33, 147) :: (129, 32, 146) :: (129, 31, 145) :: (129, 30, 144) :: (129, 28, 143) :: (129, 27, 142) :: (129, 24, -1) :: (129, 13, 141) :: (129, 12, 140) :: (129, 11, 139) :: (129, 10, 138) :: (129, 9, 137) :: (129, 8, 136) :: (129, 7, 135) :: (129, 6, 134) :: (129, 5, 133) :: (129, 4, 132) :: (129, 3, 131) :: (129, 1, 130) :: kL
theorem kM_c : (cstL.all (fun q => q.2.all (fun r => decide (alS kM q.1 r.1 = r.2)))) = true := by decide +kernel
theorem kM_l : layL.length = 175 := by decide +kernel
section S99zo
variable {xs : Int → Int}
theorem Sp_S : Sp xs 175 7782 kM = Sg xs (175, 7782) (alS kM) := by
  unfold Sp Sg
  refine Prod.ext rfl (Prod.ext (funext fun a => ?_) (funext fun a => funext fun i => ?_))
  · show (if a ≤ 175 then L0 a else (-1, 0)) = L0 a
    by_cases q : a ≤ 175
    · rw [if_pos q]
    · rw [if_neg q]
      unfold L0
      rw [if_neg (by omega), List.getD_eq_getElem?_getD, List.getElem?_eq_none (by rw [kM_l]; omega)]
      rfl
  · show (if a ≤ 0 then XD0 xs a i else alS kM a i) = fz xs (alS kM) a i
    unfold fz
    by_cases q : a ≤ 0
    · rw [if_pos q, if_pos q]
    · rw [if_neg q, if_neg q]
      unfold cst
      have k := kM_c
      rw [List.all_eq_true] at k
      cases h : cstL.find? (fun q => q.1 == a) with
      | none => rfl
      | some p =>
        have hp := List.mem_of_find?_eq_some h
        have ha' := List.find?_some h
        have ha : (p.1 == a) = true := ha'
        have k2 := k p hp
        rw [List.all_eq_true] at k2
        show alS kM a i = match (p.2.find? (fun r => r.1 == i)).map (fun r => r.2) with
          | some v => v
          | none => alS kM a i
        cases g : p.2.find? (fun r => r.1 == i) with
        | none => rfl
        | some r =>
          have hr := List.mem_of_find?_eq_some g
          have hi' := List.find?_some g
          have hi : (r.1 == i) = true := hi'
          have k3 := k2 r hr
          rw [decide_eq_true_eq, beq_iff_eq.mp ha, beq_iff_eq.mp hi] at k3
          exact k3
theorem HEAD (d : Nat) : den (d + 201) 326 [(2, (-1))] (Sp xs 0 0 []) = Rn (d + 200) 326 23 [some (2, (-1)), some (2, 1), some (2, 129), some (2, 175), some (0, 0), none, none] [] (Sg xs (175, 7782) (alS kM)) := by
  have f0 : fr [] 0 := fun q hq => absurd hq (List.not_mem_nil)
  have f1 : fr [] 1 := fr_m (by decide) f0
  have fL : fr kL 129 := fr_m (by decide) kL_f
  have fM : fr kM 174 := by
    unfold fr
    decide +kernel
  show Rn (d + 200) 326 0 [some (2, (-1)), none, none, none, none, none, none] [] (Sp xs 0 0 []) = _
  rw [e326_0, nwT (c := 0) (n := 0) (k := 10) (len := 10) rfl (by decide) f0]
  show Rn (d + 200) 326 3 [some (2, (-1)), none, none, none, none, none, none] [(2, 1)] (Sp xs 1 10 []) = _
  rw [e326_3, if_pos (show kd (Sp xs 1 10 []) 1 = 10 from rfl), kt36_136 f1 (d + 196), cK9]
  show Rn (d + 200) 326 7 [some (2, (-1)), none, none, none, none, none, none] [(2, 1)] (Sp xs 128 2586 kL) = _
  rw [e326_7, nwT (c := 128) (n := 2586) (k := 11) (len := 72) rfl (by decide) kL_f]
  show Rn (d + 200) 326 11 [some (2, (-1)), some (2, 1), none, none, none, none, none] [(2, 129)] (Sp xs 129 2658 kL) = _
  rw [e326_11, if_pos (show kd (Sp xs 129 2658 kL) 129 = 11 from rfl), km40_183 fL (d + 196), cK9]
  show Rn (d + 200) 326 15 [some (2, (-1)), some (2, 1), none, none, none, none, none] [(2, 129)] (Sp xs 174 7781 kM) = _
  rw [e326_15, nwT (c := 174) (n := 7781) (k := 101) (len := 1) rfl (by decide) fM]
  show Rn (d + 200) 326 19 [some (2, (-1)), some (2, 1), some (2, 129), none, none, none, none] [(2, 175)] (Sp xs 175 7782 kM) = _
  rw [e326_19, Sp_S]
end S99zo
