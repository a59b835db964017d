/-! Twins: check, sign, jump -/
section S93
variable {xs : Int → Int} {n : Int × Int} {F D E G : Sto} {nb m : Nat} {p : PSt}
theorem kp_ex {u : Nat} {z j : Int} (hu : u ≤ 20) (hz : ¬ z = 129) (h : E z = D z) : kpQ E u z j = kpQ D u z j := by
  by_cases q : u < 20
  · rw [kp_lt q hz, kp_lt q hz]
    unfold cpQ
    rw [h]
  · have e : u = 20 := by omega
    rw [e, kp_20 hz, kp_20 hz]
    unfold cpQ
    rw [up_ne hz, up_ne hz, up_ne hz, up_ne hz, up_ne hz, up_ne hz]
    unfold shQ
    rw [h]
theorem re_sim {t u : Nat} : simH (reC D t u) D := fun z j _ y => by
  have hm : (t + 1) % 20 < 20 := Nat.mod_lt _ (by decide)
  rw [re_ne (by unfold scH at y; omega) (by unfold scH at y; omega) (by unfold scH at y; omega) (by unfold scH at y; omega)]
theorem kp_out {u : Nat} {z j : Int} (hu : u ≤ 20) (h1 : ¬ (144 ≤ z ∧ z ≤ 155)) (h2 : ¬ (z = 129 ∧ j = 43)) : kpQ E u z j = E z j := by
  by_cases q : z = 129
  · rw [q, kp_129 (by omega)]
  · rw [kp_lo hu q (by omega) (by omega)]
theorem kp_sim {u : Nat} (hu : u ≤ 20) : simH (kpQ E u) E := fun z j _ y => kp_out hu (by unfold scH at y; omega) (by unfold scH at y; omega)
/-- a run is remembered, then both move theirs -/
theorem tw_rem {u t : Nat} {C : Sto} (K : RelK D nb m) (X : RelX D nb m) (hu : u ≤ 20) (ht : t < 20) (u4 : D 129 43 = u) (hh : ∀ k : Nat, k < u → RunE D nb (69 + 3 * (((t + 20 - k) % 20 : Nat) : Int)) (3 + ((u - 1 - k : Nat) : Int))) (i1 : D 64 3 = D 129 42) (i2 : D 129 42 = 0 ∨ D 129 42 = 1) (i3 : D 129 42 = 1 → RunE D nb 66 2) (hC : ∀ z j : Int, ¬ scr z j → ¬ (46 ≤ z ∧ z ≤ 48) → C z j = reC D t u z j) (hC2 : ∀ z : Int, 144 ≤ z → z ≤ 155 → C z = D z) (hF : ∀ z j : Int, ¬ scr z j → ¬ (144 ≤ z ∧ z ≤ 153 ∧ j = 0) → ¬ ((z = 154 ∨ z = 155) ∧ 0 ≤ j ∧ j < 8) → F z j = kpQ C u z j) (U : RunE F nb 46 0) : Rel F := by
  have hm : (t + 1) % 20 < 20 := Nat.mod_lt _ (by decide)
  have sF : simH F D := fun z j x y => by
    rw [hF z j x (by unfold scH at y; omega) (by unfold scH at y; omega), kp_sim hu z j x y, hC z j x (by unfold scH at y; omega), re_sim z j x y]
  have kk : ∀ z j : Int, 144 ≤ z → z ≤ 153 → 2 ≤ j → kpQ C u z j = kpQ D u z j := fun z j a b c => kp_ex hu (by omega) (hC2 z a (by omega))
  have kv : ∀ z j : Int, z = 154 ∨ z = 155 → 16 ≤ j → kpQ C u z j = kpQ D u z j := fun z j a c => kp_ex hu (by omega) (hC2 z (by omega) (by omega))
  refine Rel_H K X sF U (HE_rem (D := D) (u := u) (t := t) (RelK_8 K) hu ht hh i1 i2 i3 X.2.2.2.1 ?_ ?_ ?_ ?_ ?_)
  · intro z a b
    funext j
    rw [hF z j (by unfold scr; omega) (by omega) (by omega), kp_out hu (by omega) (by omega), hC z j (by unfold scr; omega) (by omega)]
  · intro z j a b c
    rw [hF z j (by unfold scr; omega) (by omega) (by omega), kk z j a b c]
  · intro z j a c
    rw [hF z j (by unfold scr; omega) (by omega) (by omega), kv z j a c]
  · rw [hF 129 43 (by unfold scr; omega) (by omega) (by omega), kp_43 hu, kp_43 hu]
  · rw [hF 129 42 (by unfold scr; omega) (by omega) (by omega), kp_129 (by decide), hC 129 42 (by unfold scr; omega) (by omega), re_ne (by omega) (by omega) (by omega) (by omega)]
theorem ts_sign (R : Rel D) (d : Nat) (l1 l2 : Int) : tws xs n (d + 40) 0 148 262 [(0, l1), (0, l2)] D := by
  have R0 := R
  obtain ⟨nb, m, K, X⟩ := R
  have h8 := RelK_8 K
  have U := X.2.2.2.1
  obtain ⟨g, hB, hS, h46, h45, hRB⟩ := RelK_G K
  obtain ⟨u, t, ⟨u1', u2, u3, u4, u5⟩, hh, i1, i2, i3⟩ := X.2.2.2.2.1
  have HG : ∀ {F : Sto}, sim F D → RG F nb m := fun h => (RelK_G (RelK_sim K h)).1.2.1
  by_cases hI : ¬ (0 ≤ l1 ∧ l1 < (nb : Int))
  · refine tws_sim (D1 := D) (D2 := up D 129 0 0) (a := -1) R0 ?_ ?_ sim_129_0
    · rw [n148, h148_0, c6n _ _ g.1, cK0, pR0, h148_11, bB_f hI, if_pos rfl, h148_25]
    · rw [n262, h262_0, c230n _ _ (HG sim_129_0), cK0, pR0, h262_10, bB_f hI, if_pos rfl, h262_24]
  have hI := Classical.not_not.mp hI
  by_cases hL : ¬ (0 ≤ l2 ∧ l2 ≤ 255)
  · refine tws_sim (D1 := D) (D2 := up D 129 0 0) (a := -1) R0 ?_ ?_ sim_129_0
    · rw [n148, h148_0, c6n _ _ g.1, cK0, pR0, h148_11, bB_t hI, if_neg (by decide), c179, cK0, pR0, h148_22, bB_f hL, if_neg (fun z => z rfl), h148_25]
    · rw [n262, h262_0, c230n _ _ (HG sim_129_0), cK0, pR0, h262_10, bB_t hI, if_neg (by decide)]
      by_cases q : l2 < 0
      · rw [if_pos q, h262_24]
      · rw [if_neg q, if_neg (by omega), h262_24]
  have hL := Classical.not_not.mp hL
  have hm : (t + 1) % 20 < 20 := Nat.mod_lt _ (by decide)
  have re : ∀ z : Int, ¬ (64 ≤ z ∧ z ≤ 128) → reC D t u z = D z := fun z a => re_ne (by omega) (by omega) (by omega) (by omega)
  have st1 : den (d + 40) 148 [(2, 1), (0, l1), (0, l2)] (Sg xs n D) = some ((0, D 47 l1), Sg xs n (up (reC D t u) 47 l1 l2)) := by
    rw [n148, h148_0, c6n _ _ g.1, cK0, pR0, h148_11, bB_t hI, if_neg (by decide), c179, cK0, pR0, h148_22, bB_t hL, if_pos (by decide), c29 (d + 37) t u u2 u1' u5 u3, cK9]
    show Rn (d + 39) 148 38 [some (2, 1), some (0, l1), some (0, l2), none] [] (Sg xs n (reC D t u)) = _
    rw [h148_38, if_pos (inb_t (by omega) (by omega)), if_pos (inb_t (by omega) (by omega)), re 47 (by omega)]
  generalize hC : up (reC D t u) 47 l1 l2 = C at st1
  have c1 : ∀ z j : Int, ¬ (z = 47 ∧ j = l1) → C z j = reC D t u z j := fun z j a => by
    rw [← hC]
    unfold up
    rw [if_neg a]
  have c2 : ∀ z j : Int, ¬ (z = 47 ∧ j = l1) → ¬ (64 ≤ z ∧ z ≤ 128) → C z j = D z j := fun z j a b => by rw [c1 z j a, re z b]
  have HC : RG (up C 129 0 0) nb m := by
    have h := g.2.1
    unfold RG at h ⊢
    have e : ∀ z : Int, z = 131 ∨ z = 136 ∨ z = 137 → (up C 129 0 0) z = D z := fun z hz => funext (fun j => by rw [up_ne (by omega), c2 z j (by omega) (by omega)])
    rw [e 131 (by omega), e 136 (by omega), e 137 (by omega)]
    exact h
  have e43 : (up C 129 0 0) 129 43 = u := by rw [up_ni (by decide), c2 129 43 (by omega) (by omega), u4]
  have ko : ∀ z j : Int, ¬ z = 129 → (144 ≤ z ∧ z ≤ 153 → j < 3) → (z = 154 ∨ z = 155 → j < 24) → kpQ (up C 129 0 0) u z j = C z j := fun z j a b c => by rw [kp_lo u1' a b c, up_ne a]
  have eS : D 47 l1 = D 154 l1 := by
    have := (U.1 l1.toNat (by omega)).1.1
    rw [Int.toNat_of_nonneg hI.1] at this
    have e : D 47 l1 = D 154 (8 * 0 + l1) := this
    rw [e]
    congr 1
    omega
  have st2 : den (d + 40) 262 [(2, 129), (0, l1), (0, l2)] (Sg xs n C) = some ((0, D 47 l1), Sg xs n (up (kpQ (up C 129 0 0) u) 154 l1 l2)) := by
    rw [n262, h262_0, c230n _ _ HC, cK0, pR0, h262_10, bB_t hI, if_neg (by decide), if_neg (by omega), if_pos (by omega), c259 (d + 37) u u1' e43, cK9]
    show Rn (d + 39) 262 30 [some (2, 129), some (0, l1), some (0, l2), none] [] (Sg xs n (kpQ (up C 129 0 0) u)) = _
    rw [h262_30, if_pos (inb_t (by omega) (by omega)), if_pos (inb_t (by omega) (by omega)), ko 154 l1 (by omega) (by omega) (by omega), c2 154 l1 (by omega) (by omega), eS]
  refine ⟨C, _, D 47 l1, st1, st2, ?_⟩
  generalize hF : up (kpQ (up C 129 0 0) u) 154 l1 l2 = F
  have f1 : ∀ z j : Int, ¬ (z = 154 ∧ j = l1) → F z j = kpQ (up C 129 0 0) u z j := fun z j a => by
    rw [← hF]
    unfold up
    rw [if_neg a]
  have f2 : ∀ z j : Int, ¬ (z = 154 ∧ j = l1) → ¬ z = 129 → (144 ≤ z ∧ z ≤ 153 → j < 3) → (z = 154 ∨ z = 155 → j < 24) → F z j = C z j := fun z j a b c e => by rw [f1 z j a, ko z j b c e]
  refine tw_rem (u := u) (t := t) (C := C) K X u1' u2 u4 hh i1 i2 i3 (fun z j x y => c1 z j (by omega)) (fun z a b => funext (fun j => c2 z j (by omega) (by omega))) (fun z j x y w => ?_) ?_
  · rw [f1 z j (by omega)]
    by_cases q : z = 129
    · rw [q]
      rw [q] at x
      by_cases q2 : j = 43
      · rw [q2, kp_43 u1', kp_43 u1']
      · rw [kp_129 q2, kp_129 q2, up_ni (by unfold scr at x; omega)]
    · exact kp_ex u1' q (funext (fun j => up_ne q))
  · refine ⟨fun b hb => ⟨?_, ?_⟩, ?_⟩
    · by_cases q : (b : Int) = l1
      · have e1 : F (46 + 1) b = l2 := by
          rw [f2 (46 + 1) b (by omega) (by omega) (by omega) (by omega), ← hC, q]
          exact up_at
        have e2 : F 154 (8 * 0 + b) = l2 := by
          rw [show (8 * 0 + (b : Int)) = l1 by omega, ← hF, up_at]
        rw [e1, e2]
        omega
      · have e1 : F (46 + 1) b = D (46 + 1) b := by
          rw [f2 (46 + 1) b (by omega) (by omega) (by omega) (by omega), c2 (46 + 1) b (by omega) (by omega)]
        have e2 : F 154 (8 * 0 + b) = D 154 (8 * 0 + b) := by
          rw [f2 154 _ (by omega) (by omega) (by omega) (by omega), c2 154 _ (by omega) (by omega)]
        rw [e1, e2]
        exact (U.1 b hb).1
    · rw [f2 (46 + 2) b (by omega) (by omega) (by omega) (by omega), c2 (46 + 2) b (by omega) (by omega), f2 155 _ (by omega) (by omega) (by omega) (by omega), c2 155 _ (by omega) (by omega)]
      exact (U.1 b hb).2
    · have a46 : ∀ j : Int, F 46 j = D 46 j := fun j => by rw [f2 46 j (by omega) (by omega) (by omega) (by omega), c2 46 j (by omega) (by omega)]
      have az : ∀ z : Int, 144 ≤ z → z ≤ 153 → F z 0 = D z 0 := fun z a b => by rw [f2 z 0 (by omega) (by omega) (by omega) (by omega), c2 z 0 (by omega) (by omega)]
      unfold RunF
      rw [a46 2, a46 3, a46 4, a46 5, a46 6, a46 7, a46 8, a46 9, a46 10, a46 11, az 144 (by omega) (by omega), az 145 (by omega) (by omega), az 146 (by omega) (by omega), az 147 (by omega) (by omega), az 148 (by omega) (by omega), az 149 (by omega) (by omega), az 150 (by omega) (by omega), az 151 (by omega) (by omega), az 152 (by omega) (by omega), az 153 (by omega) (by omega)]
      exact U.2
end S93
