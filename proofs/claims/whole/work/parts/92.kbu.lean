/-! Twins: keep, back, undo -/
section S92
variable {xs : Int → Int} {n : Int × Int} {F D E G : Sto} {nb m : Nat}
theorem HE_3 {r s : Int} (h8 : nb ≤ 8) (hc : ∀ z j : Int, r ≤ z → z ≤ r + 2 → F z j = D z j) (hr : ∀ z : Int, 144 ≤ z → z ≤ 153 → F z s = D z s) (hv : ∀ z b : Int, z = 154 ∨ z = 155 → 0 ≤ b → b < 8 → F z (8 * s + b) = D z (8 * s + b)) (R : RunE D nb r s) : RunE F nb r s := RunE_c hc hr hv h8 R
theorem ts_keep (R : Rel D) (d : Nat) : tws xs n (d + 40) 0 175 315 [] D := by
  obtain ⟨nb, m, K, X⟩ := R
  have h8 := RelK_8 K
  have U := X.2.2.2.1
  have e3 : D 46 3 = D 144 0 := U.2.2.1.1
  obtain ⟨u, t, ⟨u1', u2, u3, u4, u5⟩, hh, i1, i2, i3⟩ := X.2.2.2.2.1
  have st1 : den (d + 40) 175 [(2, 1)] (Sg xs n D) = some ((0, D 46 3), Sg xs n (up (cpR D 66 46) 64 3 1)) := by
    rw [n175, h175_0, n31, h31_0, c94d, cK9]
    show cK (Rn (d + 38) 31 8 [some (2, 64), some (2, 46)] [] (Sg xs n (cpR D 66 46))) _ = _
    rw [h31_8, cK9]
    show Rn (d + 39) 175 11 [some (2, 1)] [] (Sg xs n (up (cpR D 66 46) 64 3 1)) = _
    rw [h175_11, up_ne (by decide), cpR_ne (by decide) (by decide) (by decide)]
  generalize hE : up (up (cpR D 66 46) 64 3 1) 129 0 0 = E
  have f1 : ∀ z j : Int, ¬ (66 ≤ z ∧ z ≤ 68) → ¬ (z = 64 ∧ j = 3) → ¬ (z = 129 ∧ j = 0) → E z j = D z j := fun z j a b c => by
    rw [← hE]
    have e : up (up (cpR D 66 46) 64 3 1) 129 0 0 z j = cpR D 66 46 z j := by
      unfold up
      rw [if_neg c, if_neg b]
    rw [e, cpR_ne (by omega) (by omega) (by omega)]
  have st2 : den (d + 40) 315 [(2, 129)] (Sg xs n (up (cpR D 66 46) 64 3 1)) = some ((0, D 46 3), Sg xs n (up (cpQ E 2 0) 129 42 1)) := by
    rw [n315, h315_0, hE, c229 (d + 38) 2 0 (by omega) (by omega) (by omega), cK9]
    show Rn (d + 39) 315 11 [some (2, 129)] [] (Sg xs n (cpQ E 2 0)) = _
    rw [h315_11, cpQ_ne (by omega) (by omega), f1 144 0 (by omega) (by omega) (by omega), e3]
  have f2 : ∀ z j : Int, ¬ (66 ≤ z ∧ z ≤ 68) → ¬ (z = 64 ∧ j = 3) → ¬ (z = 129 ∧ (j = 0 ∨ j = 42)) → ¬ (144 ≤ z ∧ z ≤ 153 ∧ j = 2) → ¬ ((z = 154 ∨ z = 155) ∧ 16 ≤ j ∧ j < 24) → (up (cpQ E 2 0) 129 42 1) z j = D z j := fun z j a b c x y => by
    have e : up (cpQ E 2 0) 129 42 1 z j = cpQ E 2 0 z j := by
      unfold up
      rw [if_neg (by omega)]
    rw [e, cpQ_ne x (by omega), f1 z j a b (by omega)]
  have x64 : (up (cpQ E 2 0) 129 42 1) 64 3 = 1 := by
    rw [up_ne (by decide), cpQ_ne (by omega) (by omega), ← hE, up_ne (by decide), up_at]
  generalize hF : up (cpQ E 2 0) 129 42 1 = F at st2 f2 x64
  have x42 : F 129 42 = 1 := by rw [← hF, up_at]
  have sF : simH F D := fun z j x y => f2 z j (by unfold scH at y; omega) (by unfold scH at y; omega) (by unfold scr at x; unfold scH at y; omega) (by unfold scH at y; omega) (by unfold scH at y; omega)
  have UF : RunE F nb 46 0 := HE_3 h8 (fun z j a b => f2 z j (by omega) (by omega) (by omega) (by omega) (by omega)) (fun z a b => f2 z 0 (by omega) (by omega) (by omega) (by omega) (by omega)) (fun z b a c e => f2 z _ (by omega) (by omega) (by omega) (by omega) (by omega)) U
  refine ⟨_, F, D 46 3, st1, st2, Rel_H K X sF UF ⟨u, t, ⟨u1', u2, ?_, ?_, ?_⟩, fun k hk => ?_, ?_, Or.inr x42, fun _ => ?_⟩⟩
  · rw [f2 64 0 (by omega) (by omega) (by omega) (by omega) (by omega)]
    exact u3
  · rw [f2 129 43 (by omega) (by omega) (by omega) (by omega) (by omega)]
    exact u4
  · rw [f2 64 4 (by omega) (by omega) (by omega) (by omega) (by omega)]
    exact u5
  · exact HE_3 h8 (fun z j a b => f2 z j (by omega) (by omega) (by omega) (by omega) (by omega)) (fun z a b => f2 z _ (by omega) (by omega) (by omega) (by omega) (by omega)) (fun z b a c e => f2 z _ (by omega) (by omega) (by omega) (by omega) (by omega)) (hh k hk)
  · rw [x64, x42]
  · have g1 : ∀ z j : Int, 66 ≤ z → z ≤ 68 → F z j = cpR D 66 46 z j := fun z j a b => by
      rw [← hF, up_ne (by omega), cpQ_ne (by omega) (by omega), ← hE, up_ne (by omega), up_ne (by omega)]
    refine RunE_m (r := 46) (s := 0) (fun j a b => ?_) (fun b hb => ?_) (fun z a b => ?_) (fun z b a c w => ?_) h8 U
    · rw [g1 66 j (by decide) (by decide), cpR_0 j a b]
    · rw [g1 (66 + 1) b (by decide) (by decide), g1 (66 + 2) b (by decide) (by decide), cpR_1 b hb, cpR_2 (by decide) b hb]
      exact ⟨rfl, rfl⟩
    · rw [← hF, up_ne (by omega), cpQ_f ⟨a, b⟩, f1 z 0 (by omega) (by omega) (by omega)]
    · rw [← hF, up_ne (by omega), cpQ_v a c w, f1 z _ (by omega) (by omega) (by omega)]
theorem ts_back (R : Rel D) (d : Nat) : tws xs n (d + 40) 0 176 316 [] D := by
  have R0 := R
  obtain ⟨nb, m, K, X⟩ := R
  have h8 := RelK_8 K
  obtain ⟨u, t, ⟨u1', u2, u3, u4, u5⟩, hh, i1, i2, i3⟩ := X.2.2.2.2.1
  by_cases q : D 64 3 = 0
  · refine tws_sim (D1 := D) (D2 := up D 129 0 0) (a := -1) R0 ?_ ?_ sim_129_0
    · rw [n176, h176_0, n32, h32_0, if_neg (fun z => z q), cK0, pR0, h176_11, if_pos rfl, h176_25]
    · rw [n316, h316_0, if_neg (by omega)]
  have U := i3 (by omega)
  have e3 : D 66 3 = D 144 2 := U.2.2.1.1
  have st1 : den (d + 40) 176 [(2, 1)] (Sg xs n D) = some ((0, D 66 3), Sg xs n (up (cpR D 46 66) 64 0 0)) := by
    rw [n176, h176_0, n32, h32_0, if_pos q, c94a, cK9]
    show cK (Rn (d + 38) 32 17 [some (2, 64), some (2, 46)] [] (Sg xs n (cpR D 46 66))) _ = _
    rw [h32_17, cK0, pR0, h176_11, if_neg (by decide), h176_25, up_ne (by decide), cpR_0 3 (by omega) (by omega)]
  generalize hE : up (up (cpR D 46 66) 64 0 0) 129 0 0 = E
  have f1 : ∀ z j : Int, ¬ (46 ≤ z ∧ z ≤ 48) → ¬ (z = 64 ∧ j = 0) → ¬ (z = 129 ∧ j = 0) → E z j = D z j := fun z j a b c => by
    rw [← hE]
    have e : up (up (cpR D 46 66) 64 0 0) 129 0 0 z j = cpR D 46 66 z j := by
      unfold up
      rw [if_neg c, if_neg b]
    rw [e, cpR_ne (by omega) (by omega) (by omega)]
  have st2 : den (d + 40) 316 [(2, 129)] (Sg xs n (up (cpR D 46 66) 64 0 0)) = some ((0, D 66 3), Sg xs n (up (cpQ E 0 2) 129 43 0)) := by
    rw [n316, h316_0, up_ne (by decide), cpR_ne (by decide) (by decide) (by decide), if_pos (by omega), hE, c229 (d + 38) 0 2 (by omega) (by omega) (by omega), cK9]
    show Rn (d + 39) 316 20 [some (2, 129)] [] (Sg xs n (cpQ E 0 2)) = _
    rw [h316_20, cpQ_f (by omega), f1 144 2 (by omega) (by omega) (by omega), e3]
  have f2 : ∀ z j : Int, ¬ (46 ≤ z ∧ z ≤ 48) → ¬ (z = 64 ∧ j = 0) → ¬ (z = 129 ∧ (j = 0 ∨ j = 43)) → ¬ (144 ≤ z ∧ z ≤ 153 ∧ j = 0) → ¬ ((z = 154 ∨ z = 155) ∧ 0 ≤ j ∧ j < 8) → (up (cpQ E 0 2) 129 43 0) z j = D z j := fun z j a b c x y => by
    have e : up (cpQ E 0 2) 129 43 0 z j = cpQ E 0 2 z j := by
      unfold up
      rw [if_neg (by omega)]
    rw [e, cpQ_ne x (by omega), f1 z j a b (by omega)]
  have x64 : (up (cpQ E 0 2) 129 43 0) 64 0 = 0 := by
    rw [up_ne (by decide), cpQ_ne (by omega) (by omega), ← hE, up_ne (by decide), up_at]
  generalize hF : up (cpQ E 0 2) 129 43 0 = F at st2 f2 x64
  have x43 : F 129 43 = 0 := by rw [← hF, up_at]
  have sF : simH F D := fun z j x y => f2 z j (by unfold scH at y; omega) (by unfold scH at y; omega) (by unfold scr at x; unfold scH at y; omega) (by unfold scH at y; omega) (by unfold scH at y; omega)
  have g1 : ∀ z j : Int, 46 ≤ z → z ≤ 48 → F z j = cpR D 46 66 z j := fun z j a b => by
    rw [← hF, up_ne (by omega), cpQ_ne (by omega) (by omega), ← hE, up_ne (by omega), up_ne (by omega)]
  have UF : RunE F nb 46 0 := by
    refine RunE_m (r := 66) (s := 2) (fun j a b => ?_) (fun b hb => ?_) (fun z a b => ?_) (fun z b a c w => ?_) h8 U
    · rw [g1 46 j (by decide) (by decide), cpR_0 j a b]
    · rw [g1 (46 + 1) b (by decide) (by decide), g1 (46 + 2) b (by decide) (by decide), cpR_1 b hb, cpR_2 (by decide) b hb]
      exact ⟨rfl, rfl⟩
    · rw [← hF, up_ne (by omega), cpQ_f ⟨a, b⟩, f1 z 2 (by omega) (by omega) (by omega)]
    · rw [← hF, up_ne (by omega), cpQ_v a c w, f1 z _ (by omega) (by omega) (by omega)]
  refine ⟨_, F, D 66 3, st1, st2, Rel_H K X sF UF ?_⟩
  exact HE_c h8 X.2.2.2.2.1 ⟨f2 64 4 (by omega) (by omega) (by omega) (by omega) (by omega), f2 64 3 (by omega) (by omega) (by omega) (by omega) (by omega)⟩ (Or.inr ⟨x64, x43⟩) (f2 129 42 (by omega) (by omega) (by omega) (by omega) (by omega)) (fun z a b => funext (fun j => f2 z j (by omega) (by omega) (by omega) (by omega) (by omega))) (fun z s a b c => f2 z s (by omega) (by omega) (by omega) (by omega) (by omega)) (fun z j a b => f2 z j (by omega) (by omega) (by omega) (by omega) (by omega))
theorem ts_undo (R : Rel D) (d : Nat) : tws xs n (d + 40) 0 174 314 [] D := by
  have R0 := R
  obtain ⟨nb, m, K, X⟩ := R
  have h8 := RelK_8 K
  obtain ⟨u, t, ⟨u1', u2, u3, u4, u5⟩, hh, i1, i2, i3⟩ := X.2.2.2.2.1
  have it : inb (D 64 4) 20 = true := by
    rw [u5]
    exact inb_t (by omega) (by omega)
  by_cases q : u = 0
  · refine tws_sim (D1 := D) (D2 := up D 129 0 0) (a := -1) R0 ?_ ?_ sim_129_0
    · rw [n174, h174_0, n30, h30_0, if_pos it, if_pos (by omega), h30_21, cK0, pR0, h174_11]
    · rw [n314, h314_0, if_neg (by omega)]
  have U := hh 0 (by omega)
  rw [show (t + 20 - 0) % 20 = t by omega, Nat.sub_zero] at U
  have er : i_rem (w32 (w32 (D 64 4 + 20) - 1)) 20 = (((t + 19) % 20 : Nat) : Int) := by
    rw [u5, w32_idP (z := (t : Int) + 20) (by omega) (by omega), w32_idP (by omega) (by omega)]
    unfold i_rem
    rw [Int.tmod_eq_emod_of_nonneg (by omega)]
    omega
  have c64 : ∀ j : Int, (cpR D 46 (69 + 3 * (t : Int))) 64 j = D 64 j := fun j => by rw [cpR_ne (by decide) (by decide) (by decide)]
  have st1 : den (d + 40) 174 [(2, 1)] (Sg xs n D) = some ((0, (u : Int) - 1), Sg xs n (up (up (cpR D 46 (69 + 3 * (t : Int))) 64 4 (((t + 19) % 20 : Nat) : Int)) 64 0 ((u : Int) - 1))) := by
    have hf : fz xs D 65 (D 64 4) = 69 + 3 * (t : Int) := by
      rw [u5]
      exact fz65 t u2
    rw [n174, h174_0, n30, h30_0, if_pos it, if_neg (by omega), hf, if_pos (by omega), c94b (d + 37) t u2, cK9]
    show cK (Rn (d + 38) 30 28 [some (2, 64), some (2, 46), some (2, 69 + 3 * (t : Int))] [] (Sg xs n (cpR D 46 (69 + 3 * (t : Int))))) _ = _
    rw [h30_28, if_pos (by decide), c64, c64, er, u3, w32_idP (by omega) (by omega), cK0, pR0, h174_11]
  generalize hC : up (up (cpR D 46 (69 + 3 * (t : Int))) 64 4 (((t + 19) % 20 : Nat) : Int)) 64 0 ((u : Int) - 1) = C at st1
  have f0 : ∀ z j : Int, ¬ (46 ≤ z ∧ z ≤ 48) → ¬ (z = 64 ∧ (j = 0 ∨ j = 4)) → C z j = D z j := fun z j a b => by
    rw [← hC]
    have e : up (up (cpR D 46 (69 + 3 * (t : Int))) 64 4 (((t + 19) % 20 : Nat) : Int)) 64 0 ((u : Int) - 1) z j = cpR D 46 (69 + 3 * (t : Int)) z j := by
      unfold up
      rw [if_neg (by omega), if_neg (by omega)]
    rw [e, cpR_ne (by omega) (by omega) (by omega)]
  generalize hE : up (up C 129 0 0) 129 43 ((u : Int) - 1) = E
  have f1 : ∀ z j : Int, ¬ (46 ≤ z ∧ z ≤ 48) → ¬ (z = 64 ∧ (j = 0 ∨ j = 4)) → ¬ (z = 129 ∧ (j = 0 ∨ j = 43)) → E z j = D z j := fun z j a b c => by
    rw [← hE]
    have e : up (up C 129 0 0) 129 43 ((u : Int) - 1) z j = C z j := by
      unfold up
      rw [if_neg (by omega), if_neg (by omega)]
    rw [e, f0 z j a b]
  have e43 : C 129 43 = u := by rw [f0 129 43 (by omega) (by omega), u4]
  have ew : w32 (3 + ((u : Int) - 1)) = 3 + ((u - 1 : Nat) : Int) := by rw [w32_idP (by omega) (by omega)]; omega
  have st2 : den (d + 40) 314 [(2, 129)] (Sg xs n C) = some ((0, (u : Int) - 1), Sg xs n (cpQ E 0 (3 + ((u - 1 : Nat) : Int)))) := by
    rw [n314, h314_0, e43, if_pos (by omega), w32_idP (z := (u : Int) - 1) (by omega) (by omega), ew, hE, c229 (d + 38) 0 _ (by omega) (by omega) (by omega), cK9]
    show Rn (d + 39) 314 35 [some (2, 129)] [] (Sg xs n (cpQ E 0 (3 + ((u - 1 : Nat) : Int)))) = _
    rw [h314_35, cpQ_ne (by omega) (by omega), ← hE, up_at]
  generalize hF : cpQ E 0 (3 + ((u - 1 : Nat) : Int)) = F at st2
  have f2 : ∀ z j : Int, ¬ (46 ≤ z ∧ z ≤ 48) → ¬ (z = 64 ∧ (j = 0 ∨ j = 4)) → ¬ (z = 129 ∧ (j = 0 ∨ j = 43)) → ¬ (144 ≤ z ∧ z ≤ 153 ∧ j = 0) → ¬ ((z = 154 ∨ z = 155) ∧ 0 ≤ j ∧ j < 8) → F z j = D z j := fun z j a b c x y => by
    rw [← hF, cpQ_ne x (by omega), f1 z j a b c]
  have sF : simH F D := fun z j x y => f2 z j (by unfold scH at y; omega) (by unfold scH at y; omega) (by unfold scr at x; unfold scH at y; omega) (by unfold scH at y; omega) (by unfold scH at y; omega)
  have g1 : ∀ z j : Int, 46 ≤ z → z ≤ 48 → F z j = cpR D 46 (69 + 3 * (t : Int)) z j := fun z j a b => by
    rw [← hF, cpQ_ne (by omega) (by omega), ← hE, up_ne (by omega), up_ne (by omega), ← hC, up_ne (by omega), up_ne (by omega)]
  have UF : RunE F nb 46 0 := by
    refine RunE_m (r := 69 + 3 * (t : Int)) (s := 3 + ((u - 1 : Nat) : Int)) (fun j a b => ?_) (fun b hb => ?_) (fun z a b => ?_) (fun z b a c w => ?_) h8 U
    · rw [g1 46 j (by decide) (by decide), cpR_0 j a b]
    · rw [g1 (46 + 1) b (by decide) (by decide), g1 (46 + 2) b (by decide) (by decide), cpR_1 b hb, cpR_2 (by omega) b hb]
      exact ⟨rfl, rfl⟩
    · rw [← hF, cpQ_f ⟨a, b⟩, f1 z _ (by omega) (by omega) (by omega)]
    · rw [← hF, cpQ_v a c w, f1 z _ (by omega) (by omega) (by omega)]
  have hm : (t + 19) % 20 < 20 := Nat.mod_lt _ (by decide)
  have y64 : ∀ j : Int, F 64 j = C 64 j := fun j => by rw [← hF, cpQ_ne (by omega) (by omega), ← hE, up_ne (by decide), up_ne (by decide)]
  refine ⟨C, F, (u : Int) - 1, st1, st2, Rel_H K X sF UF ⟨u - 1, (t + 19) % 20, ⟨by omega, hm, ?_, ?_, ?_⟩, fun k hk => ?_, ?_, ?_, fun q2 => ?_⟩⟩
  · rw [y64, ← hC, up_at]
    omega
  · rw [← hF, cpQ_ne (by omega) (by omega), ← hE, up_at]
    omega
  · rw [y64, ← hC, up_ni (by decide), up_at]
  · have := hh (k + 1) (by omega)
    have e : ((t + 19) % 20 + 20 - k) % 20 = (t + 20 - (k + 1)) % 20 := by omega
    rw [e, show u - 1 - 1 - k = u - 1 - (k + 1) by omega]
    have e3 : (t + 20 - (k + 1)) % 20 < 20 := Nat.mod_lt _ (by decide)
    exact HE_3 h8 (fun z j a b => f2 z j (by omega) (by omega) (by omega) (by omega) (by omega)) (fun z a b => f2 z _ (by omega) (by omega) (by omega) (by omega) (by omega)) (fun z b a c e => f2 z _ (by omega) (by omega) (by omega) (by omega) (by omega)) this
  · rw [f2 64 3 (by omega) (by omega) (by omega) (by omega) (by omega), f2 129 42 (by omega) (by omega) (by omega) (by omega) (by omega)]
    exact i1
  · rw [f2 129 42 (by omega) (by omega) (by omega) (by omega) (by omega)]
    exact i2
  · rw [f2 129 42 (by omega) (by omega) (by omega) (by omega) (by omega)] at q2
    exact HE_3 h8 (fun z j a b => f2 z j (by omega) (by omega) (by omega) (by omega) (by omega)) (fun z a b => f2 z _ (by omega) (by omega) (by omega) (by omega) (by omega)) (fun z b a c e => f2 z _ (by omega) (by omega) (by omega) (by omega) (by omega)) (i3 q2)
end S92
