/-! Twins: check, jump -/
section S94
variable {xs : Int → Int} {n : Int × Int} {F D E G : Sto} {nb m : Nat} {p : PSt}
theorem kp_up0 {C : Sto} {u : Nat} {z j : Int} (hu : u ≤ 20) (x : ¬ scr z j) : kpQ (up C 129 0 0) u z j = kpQ C u z j := by
  by_cases q : z = 129
  · rw [q]
    rw [q] at x
    by_cases q2 : j = 43
    · rw [q2, kp_43 hu, kp_43 hu]
    · rw [kp_129 q2, kp_129 q2, up_ni (by unfold scr at x; omega)]
  · exact kp_ex hu q (funext (fun j => up_ne q))
theorem ts_check (R : Rel D) (d : Nat) (l1 : Int) : tws xs n (d + 40) 0 147 261 [(0, l1)] D := by
  have R0 := R
  obtain ⟨nb, m, K, X⟩ := R
  have h8 := RelK_8 K
  have U := X.2.2.2.1
  obtain ⟨g, hB, hS, h46, h45, hRB⟩ := RelK_G K
  obtain ⟨u, t, ⟨u1', u2, u3, u4, u5⟩, hh, i1, i2, i3⟩ := X.2.2.2.2.1
  have HG : ∀ {F : Sto}, sim F D → RG F nb m := fun h => (RelK_G (RelK_sim K h)).1.2.1
  by_cases hI : ¬ (0 ≤ l1 ∧ l1 < (nb : Int))
  · refine tws_sim (D1 := D) (D2 := up D 129 0 0) (a := -1) R0 ?_ ?_ sim_129_0
    · rw [n147, h147_0, c6n _ _ g.1, cK0, pR0, h147_11, bB_f hI, if_neg (fun z => z rfl)]
    · rw [n261, h261_0, c230n _ _ (HG sim_129_0), cK0, pR0, h261_10, bB_f hI, if_neg (fun z => z rfl)]
  have hI := Classical.not_not.mp hI
  have hm : (t + 1) % 20 < 20 := Nat.mod_lt _ (by decide)
  have re : ∀ z : Int, ¬ (64 ≤ z ∧ z ≤ 128) → reC D t u z = D z := fun z a => re_ne (by omega) (by omega) (by omega) (by omega)
  obtain ⟨ck1, ck2, ck3⟩ := U.2.1
  have ep : (2 : Int) ^ nb = ((2 ^ nb : Nat) : Int) := by simp
  rw [ep] at ck3
  have p256 := pw256 h8
  rw [ep] at p256
  have ec : D 153 0 = (((D 153 0).toNat : Nat) : Int) := (Int.toNat_of_nonneg ck2).symm
  have el : l1 = ((l1.toNat : Nat) : Int) := (Int.toNat_of_nonneg hI.1).symm
  generalize hc : (D 153 0).toNat = c at ec
  generalize hl : l1.toNat = l at el
  have hlt : c < 2 ^ nb := by omega
  have hl8 : l < 8 := by omega
  have hp2 : 2 ^ l < 2 ^ nb := Nat.pow_lt_pow_right (by decide) (by omega)
  have hx : c ^^^ 2 ^ l < 2 ^ nb := Nat.xor_lt_two_pow hlt hp2
  have ex : i_xor (c : Int) ((2 ^ l : Nat) : Int) = ((c ^^^ 2 ^ l : Nat) : Int) := i_xor_nat (by omega) (by omega)
  generalize hxx : c ^^^ 2 ^ l = x at hx ex
  have st1 : den (d + 40) 147 [(2, 1), (0, l1)] (Sg xs n D) = some ((0, bB (x.testBit l = true)), Sg xs n (up (reC D t u) 46 2 x)) := by
    rw [n147, h147_0, c6n _ _ g.1, cK0, pR0, h147_11, bB_t hI, if_pos (by decide), c29 (d + 37) t u u2 u1' u5 u3, cK9]
    show Rn (d + 39) 147 27 [some (2, 1), some (0, l1)] [] (Sg xs n (reC D t u)) = _
    rw [h147_27, el, c180 _ l (by omega), cK0]
    show Rn (d + 39) 147 39 [some (2, 1), some (0, (l : Int))] [(0, ((2 ^ l : Nat) : Int)), (0, reC D t u 46 2), (2, 46)] (Sg xs n (reC D t u)) = _
    rw [h147_39, re 46 (by omega), ck1, ec, ex, c181 _ x l (by omega) (by omega), cK0, pR0, h147_54]
    by_cases q : x.testBit l = true
    · rw [bB_t q, if_neg (by decide), h147_62]
    · rw [bB_f q, if_pos rfl, h147_62]
  generalize hC : up (reC D t u) 46 2 (x : Int) = C at st1
  have c1 : ∀ z j : Int, ¬ (z = 46 ∧ j = 2) → C z j = reC D t u z j := fun z j a => by
    rw [← hC]
    unfold up
    rw [if_neg a]
  have c2 : ∀ z j : Int, ¬ (z = 46 ∧ j = 2) → ¬ (64 ≤ z ∧ z ≤ 128) → C z j = D z j := fun z j a b => by rw [c1 z j a, re z b]
  have HC : RG (up C 129 0 0) nb m := by
    have h := g.2.1
    unfold RG at h ⊢
    have e : ∀ z : Int, z = 131 ∨ z = 136 ∨ z = 137 → (up C 129 0 0) z = D z := fun z hz => funext (fun j => by rw [up_ne (by omega), c2 z j (by omega) (by omega)])
    rw [e 131 (by omega), e 136 (by omega), e 137 (by omega)]
    exact h
  have e43 : (up C 129 0 0) 129 43 = u := by rw [up_ni (by decide), c2 129 43 (by omega) (by omega), u4]
  have ko : ∀ z j : Int, ¬ z = 129 → (144 ≤ z ∧ z ≤ 153 → j < 3) → (z = 154 ∨ z = 155 → j < 24) → kpQ (up C 129 0 0) u z j = C z j := fun z j a b c => by rw [kp_lo u1' a b c, up_ne a]
  have st2 : den (d + 40) 261 [(2, 129), (0, l1)] (Sg xs n C) = some ((0, bB (x.testBit l = true)), Sg xs n (up (kpQ (up C 129 0 0) u) 153 0 x)) := by
    rw [n261, h261_0, c230n _ _ HC, cK0, pR0, h261_10, bB_t hI, if_pos (by decide), c259 (d + 37) u u1' e43, cK9]
    show Rn (d + 39) 261 19 [some (2, 129), some (0, l1)] [] (Sg xs n (kpQ (up C 129 0 0) u)) = _
    rw [h261_19, ko 153 0 (by omega) (by omega) (by omega), c2 153 0 (by omega) (by omega), el, i_shl_bit (show l < 31 by omega), ec, ex, tb_val (by omega) (by omega)]
  refine ⟨C, _, _, st1, st2, ?_⟩
  generalize hF : up (kpQ (up C 129 0 0) u) 153 0 (x : Int) = F
  have f1 : ∀ z j : Int, ¬ (z = 153 ∧ j = 0) → F z j = kpQ (up C 129 0 0) u z j := fun z j a => by
    rw [← hF]
    unfold up
    rw [if_neg a]
  have f2 : ∀ z j : Int, ¬ (z = 153 ∧ j = 0) → ¬ z = 129 → (144 ≤ z ∧ z ≤ 153 → j < 3) → (z = 154 ∨ z = 155 → j < 24) → F z j = C z j := fun z j a b c e => by rw [f1 z j a, ko z j b c e]
  refine tw_rem (u := u) (t := t) (C := C) K X u1' u2 u4 hh i1 i2 i3 (fun z j x y => c1 z j (by omega)) (fun z a b => funext (fun j => c2 z j (by omega) (by omega))) (fun z j x y w => ?_) ?_
  · rw [f1 z j (by omega), kp_up0 u1' x]
  · refine ⟨fun b hb => ⟨?_, ?_⟩, ?_⟩
    · rw [f2 (46 + 1) b (by omega) (by omega) (by omega) (by omega), c2 (46 + 1) b (by omega) (by omega), f2 154 _ (by omega) (by omega) (by omega) (by omega), c2 154 _ (by omega) (by omega)]
      exact (U.1 b hb).1
    · rw [f2 (46 + 2) b (by omega) (by omega) (by omega) (by omega), c2 (46 + 2) b (by omega) (by omega), f2 155 _ (by omega) (by omega) (by omega) (by omega), c2 155 _ (by omega) (by omega)]
      exact (U.1 b hb).2
    · have a46 : ∀ j : Int, ¬ j = 2 → F 46 j = D 46 j := fun j hj => by rw [f2 46 j (by omega) (by omega) (by omega) (by omega), c2 46 j (by omega) (by omega)]
      have az : ∀ z : Int, 144 ≤ z → z ≤ 152 → F z 0 = D z 0 := fun z a b => by rw [f2 z 0 (by omega) (by omega) (by omega) (by omega), c2 z 0 (by omega) (by omega)]
      have a462 : F 46 2 = x := by rw [f2 46 2 (by omega) (by omega) (by omega) (by omega), ← hC, up_at]
      have a153 : F 153 0 = x := by rw [← hF, up_at]
      unfold RunF
      rw [a462, a153, a46 3 (by decide), a46 4 (by decide), a46 5 (by decide), a46 6 (by decide), a46 7 (by decide), a46 8 (by decide), a46 9 (by decide), a46 10 (by decide), a46 11 (by decide), az 144 (by omega) (by omega), az 145 (by omega) (by omega), az 146 (by omega) (by omega), az 147 (by omega) (by omega), az 148 (by omega) (by omega), az 149 (by omega) (by omega), az 150 (by omega) (by omega), az 151 (by omega) (by omega), az 152 (by omega) (by omega)]
      refine ⟨⟨rfl, by omega, by rw [ep]; omega⟩, U.2.2⟩
theorem ts_jump (R : Rel D) (d : Nat) (l1 : Int) : tws xs n (d + 40) 0 146 260 [(0, l1)] D := by
  have hr : ret01 146 0 = true ∧ ret01 146 1 = true ∧ ret01 260 0 = true ∧ ret01 260 1 = true := ⟨rfl, rfl, rfl, rfl⟩
  have R0 := R
  obtain ⟨nb, m, K, X⟩ := R
  have h8 := RelK_8 K
  have U := X.2.2.2.1
  obtain ⟨B, h3⟩ := pC_B U
  obtain ⟨g, hB, hS, h46, h45, hRB⟩ := RelK_G K
  obtain ⟨u, t, ⟨u1', u2, u3, u4, u5⟩, hh, i1, i2, i3⟩ := X.2.2.2.2.1
  have HG : ∀ {F : Sto}, sim F D → RG F nb m := fun h => (RelK_G (RelK_sim K h)).1.2.1
  by_cases hI : ¬ (0 ≤ l1 ∧ l1 < (nb : Int))
  · refine tws_sim (D1 := D) (D2 := up D 129 0 0) (a := 0) R0 ?_ ?_ sim_129_0
    · rw [n146, h146_0, c6n _ _ g.1, cK0, pR0, h146_11, bB_f hI, if_neg (fun z => z rfl)]
    · rw [n260, h260_0, c230n _ _ (HG sim_129_0), cK0, pR0, h260_10, bB_f hI, if_neg (fun z => z rfl)]
  have hI := Classical.not_not.mp hI
  have hm : (t + 1) % 20 < 20 := Nat.mod_lt _ (by decide)
  have re : ∀ z : Int, ¬ (64 ≤ z ∧ z ≤ 128) → reC D t u z = D z := fun z a => re_ne (by omega) (by omega) (by omega) (by omega)
  -- the class
  have s1 : simH (sw0 (reC D t u)) D := simH_t (simH_of sw0_sim) re_sim
  have f1 : ∀ z : Int, ¬ z = 52 → ¬ (64 ≤ z ∧ z ≤ 128) → sw0 (reC D t u) z = D z := fun z a b => by rw [sw0_ne a, re z b]
  have C0 := CE_H K X s1 (fun b _ => by rw [f1 47 (by decide) (by decide)])
  have cr : CR (sw0 (reC D t u)) 46 nb (pC D 46) := ⟨fun j _ _ => by rw [f1 46 (by decide) (by decide)]; rfl, fun b _ => by rw [f1 (46 + 2) (by decide) (by decide)]; rfl⟩
  have P := PBd_I B h8 (by omega) (by omega)
  have P1 : PI nb (u1 (pC D 46).1 9 (w32 ((pC D 46).1 9 + 1)), (pC D 46).2) := by
    obtain ⟨p1, p2, p3, p4, p5, p6, p7, p8', p9⟩ := P
    exact ⟨p1, p2, p3, p4, p5, p6, ⟨p7.1, w32_inP _, p7.2.2⟩, p8', p9⟩
  obtain ⟨C, a1, a2, a3⟩ := k132a (xs := xs) (n := n) (D := sw0 (reC D t u)) (d + 32) l1 (ofR_f (i := 9) (v := w32 ((pC D 46).1 9 + 1)) (fun _ _ _ _ _ _ _ => rfl : ofR 46 (sw0 (reC D t u)) (sw0 (reC D t u)))) C0 sw0_W (CR_f cr) P1 hI.1 hI.2
  rw [enP_D (sP_H K s1)] at a2
  rw [e2P_D (sP_H K s1), e1P_D (sP_H K s1)] at a3
  generalize hp1 : (u1 (pC D 46).1 9 (w32 ((pC D 46).1 9 + 1)), (pC D 46).2) = p1 at a2 a3 P1
  have st1 : den (d + 40) 146 [(2, 1), (0, l1)] (Sg xs n D) = some ((0, bB (¬ alP (D 47) (e2P D m 0 0 (e1P D m (D 47) p1 l1) l1) l1 = true)), Sg xs n C) := by
    have e9 : sw0 (reC D t u) 46 9 = (pC D 46).1 9 := by
      rw [f1 46 (by decide) (by decide)]
      rfl
    rw [n146, h146_0, c6n _ _ g.1, cK0, pR0, h146_11, bB_t hI, if_pos (by decide), c29 (d + 37) t u u2 u1' u5 u3, cK9]
    show Rn (d + 39) 146 27 [some (2, 1), some (0, l1)] [] (Sg xs n (reC D t u)) = _
    rw [h146_27, c123, cK9]
    show Rn (d + 39) 146 34 [some (2, 1), some (0, l1)] [] (Sg xs n (sw0 (reC D t u))) = _
    rw [h146_34, e9, a3, cK0, pR0, h146_59]
    by_cases q : alP (D 47) (e2P D m 0 0 (e1P D m (D 47) p1 l1) l1) l1 = true
    · rw [bB_t q, if_pos (by decide), h146_67, if_pos hr.1, bB_f (fun z => z q)]
    · rw [bB_f q, if_neg (fun z => z rfl), h146_67, if_pos hr.2.1, bB_t q]
  have c0 : ∀ z j : Int, ¬ scr z j → ¬ (46 ≤ z ∧ z ≤ 48) → C z j = reC D t u z j := fun z j x y => by
    rw [a1 z j (by omega) (by omega) (by unfold scr at x; omega) (by unfold scr at x; omega) (by unfold scr at x; omega), sw0_ne (by unfold scr at x; omega)]
  have c2 : ∀ z : Int, 129 ≤ z → C z = D z := fun z a => by rw [ofR_z a1 (by omega) z (by omega), f1 z (by omega) (by omega)]
  have c47 : C 47 = D 47 := by rw [ofR_z a1 (by omega) 47 (by omega), f1 47 (by omega) (by omega)]
  have sC : simH C D := fun z j x y => by rw [c0 z j x (by unfold scH at y; omega), re_sim z j x y]
  have HC : RG (up C 129 0 0) nb m := by
    have h := g.2.1
    unfold RG at h ⊢
    have e : ∀ z : Int, z = 131 ∨ z = 136 ∨ z = 137 → (up C 129 0 0) z = D z := fun z hz => funext (fun j => by rw [up_ne (by omega), c2 z (by omega)])
    rw [e 131 (by omega), e 136 (by omega), e 137 (by omega)]
    exact h
  have e43 : (up C 129 0 0) 129 43 = u := by rw [up_ni (by decide), c2 129 (by omega), u4]
  -- the reference
  have sQ : simH (kpQ (up C 129 0 0) u) D := simH_t (kp_sim u1') (simH_t (simH_of sim_129_0) sC)
  have q0 : ∀ z j : Int, 144 ≤ z → (z ≤ 153 → j < 3) → (z = 154 ∨ z = 155 → j < 24) → kpQ (up C 129 0 0) u z j = D z j := fun z j a b c => by rw [kp_lo u1' (by omega) (by omega) c, up_ne (by omega), c2 z (by omega)]
  have V := RV_H (s := 0) K X sQ (fun b hb => by
    rw [q0 154 _ (by omega) (by omega) (by omega)]
    exact (U.1 b hb).1.1.symm) (by omega)
  have rr : RR (kpQ (up C 129 0 0) u) 0 nb 0 (pC D 46) := by
    obtain ⟨r1, r2, r3⟩ := pC_RR (w := 0) U (by decide)
    refine ⟨?_, fun j x y => ?_, fun b hb => ?_⟩
    · rw [q0 153 0 (by omega) (by omega) (by omega)]
      exact r1
    · have := fc_b x y
      rw [q0 (fc j) 0 (by omega) (by omega) (by omega)]
      exact r2 j x y
    · rw [q0 155 _ (by omega) (by omega) (by omega)]
      exact r3 b hb
  have rr1 := RR_f (i := 9) (v := w32 ((pC D 46).1 9 + 1)) (by omega) (by omega) rr
  rw [hp1] at rr1
  obtain ⟨F, b1, b2, b3⟩ := k246 (xs := xs) (n := n) (d + 34) l1 (ofQ_f (i := 9) (v := w32 ((pC D 46).1 9 + 1)) (by omega) (by omega) (fun _ _ _ _ _ _ _ => rfl : ofQ 0 (kpQ (up C 129 0 0) u) (kpQ (up C 129 0 0) u))) V rr1 P1 hI.1 hI.2
  rw [enP_D (sP_H K sQ)] at b2
  rw [e2P_D (sP_H K sQ), e1P_D (sP_H K sQ)] at b3
  have b3' : den (d + 39) 246 [(2, 129), (0, 0), (0, l1)] (Sg xs n (up (kpQ (up C 129 0 0) u) 151 0 (w32 ((pC D 46).1 9 + 1)))) = some ((0, bB (¬ alP (D 47) (e2P D m 0 0 (e1P D m (D 47) p1 l1) l1) l1 = true)), Sg xs n F) := b3
  have st2 : den (d + 40) 260 [(2, 129), (0, l1)] (Sg xs n C) = some ((0, bB (¬ alP (D 47) (e2P D m 0 0 (e1P D m (D 47) p1 l1) l1) l1 = true)), Sg xs n F) := by
    have e9 : kpQ (up C 129 0 0) u 151 0 = (pC D 46).1 9 := rr.2.1 9 (by omega) (by omega)
    rw [n260, h260_0, c230n _ _ HC, cK0, pR0, h260_10, bB_t hI, if_pos (by decide), c259 (d + 37) u u1' e43, cK9]
    show Rn (d + 39) 260 19 [some (2, 129), some (0, l1)] [] (Sg xs n (kpQ (up C 129 0 0) u)) = _
    rw [h260_19, e9, b3', cK0, pR0, h260_35]
    by_cases q : alP (D 47) (e2P D m 0 0 (e1P D m (D 47) p1 l1) l1) l1 = true
    · rw [bB_f (fun z => z q), if_pos hr.2.2.1]
    · rw [bB_t q, if_pos hr.2.2.2]
  refine ⟨C, F, _, st1, st2, ?_⟩
  have ff : ∀ z : Int, ¬ z = 129 → ¬ (142 ≤ z ∧ z ≤ 155) → F z = C z := fun z a b => by
    funext j
    rw [b1 z j (by omega) (by omega) (by omega) (by omega) (by omega), kp_lo u1' a (by omega) (by omega), up_ne a]
  refine tw_rem (u := u) (t := t) (C := C) K X u1' u2 u4 hh i1 i2 i3 c0 (fun z a b => c2 z (by omega)) (fun z j x y w => ?_) ?_
  · rw [b1 z j (by omega) (by omega) (by unfold scr at x; omega) (by unfold scr at x; omega) (by unfold scr at x; omega), kp_up0 u1' x]
  · have I := enP_I (w := 0) (tb := 0) (EV_of K X) P1 hI.1 hI.2
    have B1 : PBd nb p1 := by
      rw [← hp1]
      obtain ⟨b1, b2, b3, b4, b5, b6, b7, b8'⟩ := B
      exact ⟨b1, b2, b3, b4, b5, ⟨b6.1, w32_inP _, b6.2.2⟩, b7, b8'⟩
    have h3p : p1.1 3 = (pC D 46).1 3 := by
      rw [← hp1]
      rfl
    refine RunE_of (p := enP D m (D 47) 0 0 p1 l1) ⟨fun j x y => ?_, fun b hb => ?_⟩ b2 (PI_B B1 I (enP_2 p1 l1)) (by rw [enP_3, h3p]; exact h3) ?_
    · rw [ff 46 (by decide) (by decide)]
      exact a2.1 j x y
    · rw [ff (46 + 2) (by decide) (by decide)]
      exact a2.2 b hb
    · intro b hb
      rw [ff (46 + 1) (by decide) (by decide), ofQ_z b1 154 (by omega), q0 154 _ (by omega) (by omega) (by omega)]
      have e : C (46 + 1) = D (46 + 1) := c47
      rw [e]
      exact (U.1 b hb).1
end S94
