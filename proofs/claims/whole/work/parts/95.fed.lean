/-! Twins: feed -/
def scT (z j : Int) : Prop := z = 3 ∨ z = 4 ∨ z = 130 ∨ (z = 129 ∧ j = 2)
def simT (F D : Sto) : Prop := ∀ z j : Int, ¬ scr z j → ¬ scT z j → F z j = D z j
theorem i_and_255 (z : Int) : i_and z 255 = z % 256 := by
  show (BitVec.ofInt 32 z &&& BitVec.ofInt 32 255).toInt = _
  have e : (BitVec.ofInt 32 z &&& BitVec.ofInt 32 255).toNat = (z % 256).toNat := by
    rw [BitVec.toNat_and, show (BitVec.ofInt 32 255).toNat = 2 ^ 8 - 1 from rfl, Nat.and_two_pow_sub_one_eq_mod, BitVec.toNat_ofInt]
    omega
  rw [BitVec.toInt_eq_toNat_of_lt (by rw [e]; omega), e]
  omega
section S95
variable {xs : Int → Int} {n : Int × Int} {F D E G : Sto} {nb m : Nat}
theorem RelK_T (R : RelK D nb m) (h : simT F D) : RelK F nb m := by
  obtain ⟨q, q', ⟨⟨g1, g2, g3, g4⟩, hB, hS, h46, ⟨n1, n2, n3, n4, n5, n6⟩, n7, n8⟩, ⟨k1, k2, k3, k4, k5⟩, s⟩ := R
  have h8 := g1.2.1
  have f : ∀ z : Int, ¬ scz z → ¬ (z = 3 ∨ z = 4 ∨ z = 130) → F z = D z := fun z hz a => funext (fun j => h z j (ns z hz j) (by unfold scz at hz; unfold scT; omega))
  have e58 : ∀ j : Int, ¬ (1 ≤ j ∧ j ≤ 3) → F 58 j = D 58 j := fun j hj => h 58 j (by unfold scr; omega) (by unfold scT; omega)
  have e129 : ∀ j : Int, ¬ (j = 0 ∨ j = 29 ∨ j = 47 ∨ j = 49 ∨ j = 55 ∨ j = 56 ∨ j = 2) → F 129 j = D 129 j := fun j hj => h 129 j (by unfold scr; omega) (by unfold scT; omega)
  have hbs : ∀ c, rbs F m c = rbs D m c := by
    intro c
    unfold rbs
    rw [e129 45 (by decide), n8, if_pos rfl, if_pos rfl, f 135 (by unfold scz; omega) (by decide), f 136 (by unfold scz; omega) (by decide), f 137 (by unfold scz; omega) (by decide)]
  refine ⟨q, q', ⟨⟨?_, ?_, ?_, ?_⟩, ?_, ?_, ?_, ⟨?_, ?_, ?_, n4, ?_, ?_⟩, ?_, ?_⟩, ⟨?_, ?_, ?_, ?_, ?_⟩, ?_⟩
  · unfold EG
    rw [f 30 (by unfold scz; omega) (by decide), f 31 (by unfold scz; omega) (by decide), f 32 (by unfold scz; omega) (by decide)]
    exact g1
  · unfold RG
    rw [f 131 (by unfold scz; omega) (by decide), f 136 (by unfold scz; omega) (by decide), f 137 (by unfold scz; omega) (by decide)]
    exact g2
  · rw [f 31 (by unfold scz; omega) (by decide), f 32 (by unfold scz; omega) (by decide), f 136 (by unfold scz; omega) (by decide), f 137 (by unfold scz; omega) (by decide)]
    exact g3
  · rw [f 34 (by unfold scz; omega) (by decide), f 137 (by unfold scz; omega) (by decide)]
    exact g4
  · intro b hb
    rw [hbs, f 36 (by unfold scz; omega) (by decide), f 137 (by unfold scz; omega) (by decide)]
    exact hB b hb
  · intro b hb
    have := hS b hb
    unfold rsg at this ⊢
    rw [h46, if_neg (by omega)] at this
    rw [e129 46 (by decide), h46, if_neg (by omega), f 47 (by unfold scz; omega) (by decide), h 154 _ (by unfold scr; omega) (by unfold scT; omega)]
    exact this
  · rw [e129 46 (by decide)]
    exact h46
  · rw [e58 0 (by decide)]
    exact n1
  · unfold knC
    rw [e58 0 (by decide), e58 4 (by decide)]
    exact n2
  · unfold rkC
    rw [e129 64 (by decide), e129 65 (by decide)]
    exact n3
  · unfold NT
    rw [f 62 (by unfold scz; omega) (by decide), f 59 (by unfold scz; omega) (by decide), f 60 (by unfold scz; omega) (by decide)]
    exact n5
  · rw [f 62 (by unfold scz; omega) (by decide), f 59 (by unfold scz; omega) (by decide), f 60 (by unfold scz; omega) (by decide), f 61 (by unfold scz; omega) (by decide), f 172 (by unfold scz; omega) (by decide), f 169 (by unfold scz; omega) (by decide), f 170 (by unfold scz; omega) (by decide), f 171 (by unfold scz; omega) (by decide)]
    exact n6
  · rw [f 135 (by unfold scz; omega) (by decide)]
    exact n7
  · rw [e129 45 (by decide)]
    exact n8
  · rw [e58 0 (by decide)]
    exact k1
  · rw [e129 64 (by decide)]
    exact k2
  · rw [e58 4 (by decide), e129 65 (by decide)]
    exact k3
  · rw [e58 4 (by decide)]
    exact k4
  · rw [e58 4 (by decide)]
    exact k5
  · rw [f 47 (by unfold scz; omega) (by decide)]
    exact s
theorem RelX_T (R : RelX D nb m) (h8 : nb ≤ 8) (h : simT F D) (T : TE F) : RelX F nb m := by
  obtain ⟨g, p, ⟨l0, l1, l2⟩, U, H, _, z1, z2⟩ := R
  have f : ∀ z : Int, ¬ scz z → ¬ (z = 3 ∨ z = 4 ∨ z = 130) → F z = D z := fun z hz a => funext (fun j => h z j (ns z hz j) (by unfold scz at hz; unfold scT; omega))
  have e129 : ∀ j : Int, ¬ (j = 0 ∨ j = 29 ∨ j = 47 ∨ j = 49 ∨ j = 55 ∨ j = 56 ∨ j = 2) → F 129 j = D 129 j := fun j hj => h 129 j (by unfold scr; omega) (by unfold scT; omega)
  have e40 : ∀ j : Int, ¬ j = 7 → F 40 j = D 40 j := fun j hj => h 40 j (by unfold scr; omega) (by unfold scT; omega)
  refine ⟨?_, ?_, LE_D (fun z hz => f z (by unfold scz; omega) (by omega)) ⟨l0, l1, l2⟩, ?_, ?_, T, ?_, ?_⟩
  · unfold G2
    rw [f 135 (by unfold scz; omega) (by omega), f 33 (by unfold scz; omega) (by omega), f 37 (by unfold scz; omega) (by omega), f 35 (by unfold scz; omega) (by omega), f 136 (by unfold scz; omega) (by omega), f 137 (by unfold scz; omega) (by omega)]
    exact g
  · unfold PE
    rw [f 27 (by unfold scz; omega) (by omega), f 29 (by unfold scz; omega) (by omega), f 26 (by unfold scz; omega) (by omega), f 131 (by unfold scz; omega) (by omega), f 132 (by unfold scz; omega) (by omega), f 134 (by unfold scz; omega) (by omega), e40 0 (by decide)]
    exact p
  · exact RunE_c (fun z j x y => h z j (by unfold scr; omega) (by unfold scT; omega)) (fun z x y => h z 0 (by unfold scr; omega) (by unfold scT; omega)) (fun z b x y w => h z _ (by unfold scr; omega) (by unfold scT; omega)) h8 U
  · exact HE_c h8 H ⟨by rw [f 64 (by unfold scz; omega) (by omega)], by rw [f 64 (by unfold scz; omega) (by omega)]⟩ (Or.inl ⟨by rw [f 64 (by unfold scz; omega) (by omega)], e129 43 (by decide)⟩) (e129 42 (by decide)) (fun z x y => funext (fun j => h z j (by unfold scr; omega) (by unfold scT; omega))) (fun z s x y w => h z s (by unfold scr; omega) (by unfold scT; omega)) (fun z j x y => h z j (by unfold scr; omega) (by unfold scT; omega))
  · rw [e129 48 (by decide)]
    exact z1
  · rw [f 20 (by unfold scz; omega) (by omega)]
    exact z2
def feC (D : Sto) (L : Int) (f : Nat → Int) (k : Nat) : Sto := fun z j => if z = 3 ∧ j = 1 then L + k else if z = 4 ∧ L ≤ j ∧ j < L + k then f (j - L).toNat else D z j
theorem feC_s {L : Int} {f : Nat → Int} {k : Nat} : up (up (feC D L f k) 4 (L + k) (f k)) 3 1 (L + k + 1) = feC D L f (k + 1) := by
  funext z j
  unfold up feC
  by_cases a : z = 3 ∧ j = 1
  · rw [if_pos a, if_pos a]
    omega
  · rw [if_neg a, if_neg a, if_neg a]
    by_cases b : z = 4 ∧ j = L + k
    · rw [if_pos b, if_pos (by omega), b.2]
      congr 1
      omega
    · rw [if_neg b]
      by_cases c : z = 4 ∧ L ≤ j ∧ j < L + k
      · rw [if_pos c, if_pos (by omega)]
      · rw [if_neg c, if_neg (by omega)]
theorem k114 (d : Nat) {L : Int} {f : Nat → Int} {k : Nat} (v sh : Int) (h0 : 0 ≤ L) (h1 : L + k < 700) (hs : 0 ≤ sh) (hs2 : sh < 100) (hf : f k = i_and (i_shr v sh) 255) : Rn d 114 3 [some (2, 3), some (0, v), some (0, sh)] [] (Sg xs n (feC D L f k)) = Rn d 114 3 [some (2, 3), some (0, v), some (0, sh - 8)] [] (Sg xs n (feC D L f (k + 1))) := by
  have e : feC D L f k 3 1 = L + k := by
    unfold feC
    rw [if_pos ⟨rfl, rfl⟩]
  rw [h114_3, if_neg (by omega), e, if_neg (by omega), if_pos (inb_t (by omega) (by omega)), ← hf, w32_idP (z := L + k + 1) (by omega) (by omega), feC_s, w32_idP (by omega) (by omega)]
  rfl
theorem c114 (d : Nat) {L : Int} {f : Nat → Int} {k : Nat} (v : Int) (h0 : 0 ≤ L) (h1 : L + k + 4 ≤ 700) (f0 : f k = i_and (i_shr v 24) 255) (f1 : f (k + 1) = i_and (i_shr v 16) 255) (f2 : f (k + 2) = i_and (i_shr v 8) 255) (f3 : f (k + 3) = i_and (i_shr v 0) 255) : den (d + 1) 114 [(2, 3), (0, v)] (Sg xs n (feC D L f k)) = some ((9, 0), Sg xs n (feC D L f (k + 4))) := by
  rw [n114, h114_0, k114 d v 24 h0 (by omega) (by omega) (by omega) f0, show (24 : Int) - 8 = 16 from rfl, k114 d v 16 h0 (by omega) (by omega) (by omega) f1, show (16 : Int) - 8 = 8 from rfl, k114 d v 8 h0 (by omega) (by omega) (by omega) f2, show (8 : Int) - 8 = 0 from rfl, k114 d v 0 h0 (by omega) (by omega) (by omega) f3, h114_3, if_pos (by decide), h114_49]
def feR (D : Sto) (L : Int) (f : Nat → Int) (k : Nat) : Sto := fun z j => if z = 130 ∧ L ≤ j ∧ j < L + k then f (j - L).toNat else D z j
theorem feR_s {L : Int} {f : Nat → Int} {k : Nat} : up (feR D L f k) 130 (L + k) (f k) = feR D L f (k + 1) := by
  funext z j
  unfold up feR
  by_cases b : z = 130 ∧ j = L + k
  · rw [if_pos b, if_pos (by omega), b.2]
    congr 1
    omega
  · rw [if_neg b]
    by_cases c : z = 130 ∧ L ≤ j ∧ j < L + k
    · rw [if_pos c, if_pos (by omega)]
    · rw [if_neg c, if_neg (by omega)]
def fdW (l1 l2 l3 l4 l5 : Int) (k : Nat) : Int := if k < 4 then l1 else if k < 8 then l2 else if k < 12 then l3 else if k < 16 then l4 else l5
def fdF (l1 l2 l3 l4 l5 : Int) (k : Nat) : Int := i_and (i_shr (fdW l1 l2 l3 l4 l5 k) (24 - 8 * ((k % 4 : Nat) : Int))) 255
theorem k185 (d : Nat) {L : Int} (l1 l2 l3 l4 l5 : Int) (h0 : 0 ≤ L) (h1 : L ≤ 680) (hL : D 129 2 = L) : ∀ (r k : Nat) (o7 : Option Vv), k + r = 20 → Rn d 185 20 [some (2, 129), some (0, l1), some (0, l2), some (0, l3), some (0, l4), some (0, l5), some (0, (k : Int)), o7] [] (Sg xs n (feR D L (fdF l1 l2 l3 l4 l5) k)) = some ((0, L + 20), Sg xs n (up (feR D L (fdF l1 l2 l3 l4 l5) 20) 129 2 (L + 20))) := by
  have e2 : ∀ k : Nat, feR D L (fdF l1 l2 l3 l4 l5) k 129 2 = L := fun k => by
    unfold feR
    rw [if_neg (by omega), hL]
  intro r
  induction r with
  | zero =>
    intro k o7 hk
    have : k = 20 := by omega
    subst this
    rw [h185_20, if_pos (by decide), e2, w32_idP (by omega) (by omega)]
  | succ r ih =>
    intro k o7 hk
    have key : Rn d 185 20 [some (2, 129), some (0, l1), some (0, l2), some (0, l3), some (0, l4), some (0, l5), some (0, (k : Int)), o7] [] (Sg xs n (feR D L (fdF l1 l2 l3 l4 l5) k)) = Rn d 185 73 [some (2, 129), some (0, l1), some (0, l2), some (0, l3), some (0, l4), some (0, l5), some (0, (k : Int)), none] [(0, fdW l1 l2 l3 l4 l5 k)] (Sg xs n (feR D L (fdF l1 l2 l3 l4 l5) k)) := by
      rw [h185_20, if_neg (by omega)]
      unfold fdW
      by_cases a : k < 4
      · rw [if_neg (by omega), if_pos a]
      · rw [if_pos (by omega), if_neg a]
        by_cases b : k < 8
        · rw [if_neg (by omega), if_pos b]
        · rw [if_pos (by omega), if_neg b]
          by_cases c : k < 12
          · rw [if_neg (by omega), if_pos c]
          · rw [if_pos (by omega), if_neg c]
            by_cases e : k < 16
            · rw [if_neg (by omega), if_pos e]
            · rw [if_pos (by omega), if_neg e]
    have er : i_rem (k : Int) 4 = ((k % 4 : Nat) : Int) := by
      unfold i_rem
      rw [Int.tmod_eq_emod_of_nonneg (by omega)]
      omega
    have hm : k % 4 < 4 := Nat.mod_lt _ (by decide)
    rw [key, h185_73, if_pos (by decide), e2, w32_idP (z := L + k) (by omega) (by omega), if_pos (inb_t (by omega) (by omega)), er, w32_idP (z := 8 * ((k % 4 : Nat) : Int)) (by omega) (by omega), w32_idP (z := 24 - 8 * ((k % 4 : Nat) : Int)) (by omega) (by omega)]
    have ef : i_and (i_shr (fdW l1 l2 l3 l4 l5 k) (24 - 8 * ((k % 4 : Nat) : Int))) 255 = fdF l1 l2 l3 l4 l5 k := rfl
    rw [ef, feR_s, w1 (by omega)]
    exact ih (k + 1) _ (by omega)
theorem ts_feed (R : Rel D) (d : Nat) (l1 l2 l3 l4 l5 : Int) : tws xs n (d + 40) 0 137 185 [(0, l1), (0, l2), (0, l3), (0, l4), (0, l5)] D := by
  have R0 := R
  obtain ⟨nb, m, K, X⟩ := R
  obtain ⟨L, ⟨t1, t1', t1''⟩, t2, t3, t4⟩ := X.2.2.2.2.2.1
  by_cases q : 680 < L
  · refine tws_sim (D1 := D) (D2 := up D 129 0 0) (a := -1) R0 ?_ ?_ sim_129_0
    · rw [n137, h137_0, n113, h113_0, cK0, pR0, h137_14, t1, w32_idP (by omega) (by omega), if_neg (by omega)]
    · rw [n185, h185_0, t1', if_neg (by omega)]
  · have ez : Sg xs n D = Sg xs n (feC D L (fdF l1 l2 l3 l4 l5) 0) := by
      congr 1
      funext z j
      unfold feC
      by_cases a : z = 3 ∧ j = 1
      · rw [if_pos a, a.1, a.2, t1]
        omega
      · rw [if_neg a, if_neg (by omega)]
    have st1 : den (d + 40) 137 [(2, 1), (0, l1), (0, l2), (0, l3), (0, l4), (0, l5)] (Sg xs n D) = some ((0, (L : Int) + 20), Sg xs n (feC D L (fdF l1 l2 l3 l4 l5) 20)) := by
      rw [n137, h137_0, n113, h113_0, cK0, pR0, h137_14, t1, w32_idP (by omega) (by omega), if_pos (by omega), ez, c114 (d + 38) (k := 0) l1 (by omega) (by omega) rfl rfl rfl rfl, cK9]
      show Rn (d + 39) 137 27 [some (2, 1), some (0, l1), some (0, l2), some (0, l3), some (0, l4), some (0, l5), some (2, 3)] [] (Sg xs n (feC D L (fdF l1 l2 l3 l4 l5) 4)) = _
      rw [h137_27, c114 (d + 38) (k := 4) l2 (by omega) (by omega) rfl rfl rfl rfl, cK9]
      show Rn (d + 39) 137 33 [some (2, 1), some (0, l1), some (0, l2), some (0, l3), some (0, l4), some (0, l5), some (2, 3)] [] (Sg xs n (feC D L (fdF l1 l2 l3 l4 l5) 8)) = _
      rw [h137_33, c114 (d + 38) (k := 8) l3 (by omega) (by omega) rfl rfl rfl rfl, cK9]
      show Rn (d + 39) 137 39 [some (2, 1), some (0, l1), some (0, l2), some (0, l3), some (0, l4), some (0, l5), some (2, 3)] [] (Sg xs n (feC D L (fdF l1 l2 l3 l4 l5) 12)) = _
      rw [h137_39, c114 (d + 38) (k := 12) l4 (by omega) (by omega) rfl rfl rfl rfl, cK9]
      show Rn (d + 39) 137 46 [some (2, 1), some (0, l1), some (0, l2), some (0, l3), some (0, l4), some (0, l5), some (2, 3)] [] (Sg xs n (feC D L (fdF l1 l2 l3 l4 l5) 16)) = _
      rw [h137_46, c114 (d + 38) (k := 16) l5 (by omega) (by omega) rfl rfl rfl rfl, cK9]
      show Rn (d + 39) 137 53 [some (2, 1), some (0, l1), some (0, l2), some (0, l3), some (0, l4), some (0, l5), some (2, 3)] [] (Sg xs n (feC D L (fdF l1 l2 l3 l4 l5) 20)) = _
      rw [h137_53]
      congr 3
    generalize hC : feC D L (fdF l1 l2 l3 l4 l5) 20 = C at st1
    have c1 : ∀ z j : Int, ¬ (z = 3 ∧ j = 1) → ¬ (z = 4 ∧ (L : Int) ≤ j ∧ j < L + 20) → C z j = D z j := fun z j a b => by
      rw [← hC]
      unfold feC
      rw [if_neg a, if_neg (by omega)]
    have e2 : (up C 129 0 0) 129 2 = L := by rw [up_ni (by decide), c1 129 2 (by omega) (by omega), t1']
    have ez2 : Sg xs n (up C 129 0 0) = Sg xs n (feR (up C 129 0 0) L (fdF l1 l2 l3 l4 l5) 0) := by
      congr 1
      funext z j
      unfold feR
      rw [if_neg (by omega)]
    have st2 : den (d + 40) 185 [(2, 129), (0, l1), (0, l2), (0, l3), (0, l4), (0, l5)] (Sg xs n C) = some ((0, (L : Int) + 20), Sg xs n (up (feR (up C 129 0 0) L (fdF l1 l2 l3 l4 l5) 20) 129 2 (L + 20))) := by
      have e2' : C 129 2 = L := by rw [c1 129 2 (by omega) (by omega), t1']
      rw [n185, h185_0, e2', if_pos (by omega), ez2]
      exact k185 (d + 39) l1 l2 l3 l4 l5 (by omega) (by omega) e2 20 0 none (by omega)
    refine ⟨C, _, _, st1, st2, nb, m, ?_⟩
    generalize hF : up (feR (up C 129 0 0) L (fdF l1 l2 l3 l4 l5) 20) 129 2 ((L : Int) + 20) = F
    have f1 : ∀ z j : Int, ¬ (z = 129 ∧ (j = 0 ∨ j = 2)) → ¬ (z = 130 ∧ (L : Int) ≤ j ∧ j < L + 20) → F z j = C z j := fun z j a b => by
      rw [← hF]
      have e : up (feR (up C 129 0 0) L (fdF l1 l2 l3 l4 l5) 20) 129 2 ((L : Int) + 20) z j = (up C 129 0 0) z j := by
        unfold up feR
        rw [if_neg (by omega), if_neg (by omega)]
      rw [e]
      unfold up
      rw [if_neg (by omega)]
    have sT : simT F D := fun z j x y => by
      rw [f1 z j (by unfold scr at x; unfold scT at y; omega) (by unfold scT at y; omega), c1 z j (by unfold scT at y; omega) (by unfold scT at y; omega)]
    have T : TE F := by
      refine ⟨L + 20, ⟨?_, ?_, by omega⟩, fun j hj => ?_, ?_, ?_⟩
      · rw [f1 3 1 (by omega) (by omega), ← hC]
        show (L : Int) + ((20 : Nat) : Int) = _
        omega
      · rw [← hF, up_at]
        omega
      · by_cases w : j < L
        · rw [f1 4 j (by omega) (by omega), c1 4 j (by omega) (by omega), f1 130 j (by omega) (by omega), c1 130 j (by omega) (by omega)]
          exact t2 j w
        · have x1 : F 4 j = fdF l1 l2 l3 l4 l5 ((j : Int) - L).toNat := by
            rw [f1 4 j (by omega) (by omega), ← hC]
            unfold feC
            rw [if_neg (by omega), if_pos (by omega)]
          have x2 : F 130 j = fdF l1 l2 l3 l4 l5 ((j : Int) - L).toNat := by
            rw [← hF, up_ne (by decide)]
            unfold feR
            rw [if_pos (by omega)]
          rw [x1, x2]
          unfold fdF
          rw [i_and_255]
          omega
      · rw [f1 1 8 (by omega) (by omega), c1 1 8 (by omega) (by omega), f1 129 23 (by omega) (by omega), c1 129 23 (by omega) (by omega)]
        exact t3
      · rw [f1 1 9 (by omega) (by omega), c1 1 9 (by omega) (by omega), f1 129 24 (by omega) (by omega), c1 129 24 (by omega) (by omega)]
        exact t4
    exact ⟨RelK_T K sT, RelX_T X (RelK_8 K) sT T⟩
end S95
