/-! Runs: the history once the run is remembered -/
section S91a
variable {xs : Int → Int} {n : Int × Int} {F D E G : Sto} {nb m : Nat}
theorem kp_lt {u : Nat} {z j : Int} (hu : u < 20) (hz : ¬ z = 129) : kpQ D u z j = cpQ D (3 + (u : Int)) 0 z j := by
  unfold kpQ
  rw [if_pos hu, up_ne hz]
theorem kp_20 {z j : Int} (hz : ¬ z = 129) : kpQ D 20 z j = cpQ (up (shQ D 19) 129 43 19) 22 0 z j := by
  unfold kpQ
  rw [if_neg (by decide), up_ne hz]
theorem sh_lo {k z j : Int} (h1 : 144 ≤ z ∧ z ≤ 153 → j < 3 ∨ 3 + k ≤ j) (h2 : z = 154 ∨ z = 155 → j < 24 ∨ 24 + 8 * k ≤ j) : shQ D k z j = D z j := by
  unfold shQ
  rw [if_neg (by omega), if_neg (by omega)]
theorem kp_43 {u : Nat} (hu : u ≤ 20) : kpQ D u 129 43 = ((min (u + 1) 20 : Nat) : Int) := by
  unfold kpQ
  by_cases q : u < 20
  · rw [if_pos q, up_at]
    omega
  · rw [if_neg q, up_at]
    omega
theorem kp_new {u : Nat} {z : Int} (hu : u ≤ 20) (hz : 144 ≤ z ∧ z ≤ 153) : kpQ D u z (3 + ((min (u + 1) 20 - 1 : Nat) : Int)) = D z 0 := by
  by_cases q : u < 20
  · rw [kp_lt q (by omega), show (3 + ((min (u + 1) 20 - 1 : Nat) : Int)) = 3 + (u : Int) by omega, cpQ_f hz]
  · have e : u = 20 := by omega
    rw [e, kp_20 (by omega), show (3 + ((min (20 + 1) 20 - 1 : Nat) : Int)) = 22 by decide, cpQ_f hz, up_ne (by omega), sh_lo (by omega) (by omega)]
theorem kp_nev {u : Nat} {z b : Int} (hu : u ≤ 20) (hz : z = 154 ∨ z = 155) (h0 : 0 ≤ b) (hb : b < 8) : kpQ D u z (8 * (3 + ((min (u + 1) 20 - 1 : Nat) : Int)) + b) = D z (8 * 0 + b) := by
  by_cases q : u < 20
  · rw [kp_lt q (by omega), show (3 + ((min (u + 1) 20 - 1 : Nat) : Int)) = 3 + (u : Int) by omega, cpQ_v hz h0 hb]
  · have e : u = 20 := by omega
    rw [e, kp_20 (by omega), show (3 + ((min (20 + 1) 20 - 1 : Nat) : Int)) = 22 by decide, cpQ_v hz h0 hb, up_ne (by omega), sh_lo (by omega) (by omega)]
theorem kp_old {u k : Nat} {z : Int} (hu : u ≤ 20) (hk : 1 ≤ k) (hk2 : k < min (u + 1) 20) (hz : 144 ≤ z ∧ z ≤ 153) : kpQ D u z (3 + ((min (u + 1) 20 - 1 - k : Nat) : Int)) = D z (3 + ((u - 1 - (k - 1) : Nat) : Int)) := by
  by_cases q : u < 20
  · rw [kp_lt q (by omega), cpQ_ne (by omega) (by omega)]
    congr 1
    omega
  · have e : u = 20 := by omega
    subst e
    rw [kp_20 (by omega), cpQ_ne (by omega) (by omega), up_ne (by omega)]
    unfold shQ
    rw [if_pos (by omega)]
    congr 1
    omega
theorem kp_olv {u k : Nat} {z b : Int} (hu : u ≤ 20) (hk : 1 ≤ k) (hk2 : k < min (u + 1) 20) (hz : z = 154 ∨ z = 155) (h0 : 0 ≤ b) (hb : b < 8) : kpQ D u z (8 * (3 + ((min (u + 1) 20 - 1 - k : Nat) : Int)) + b) = D z (8 * (3 + ((u - 1 - (k - 1) : Nat) : Int)) + b) := by
  by_cases q : u < 20
  · rw [kp_lt q (by omega), cpQ_ne (by omega) (by omega)]
    congr 1
    omega
  · have e : u = 20 := by omega
    subst e
    rw [kp_20 (by omega), cpQ_ne (by omega) (by omega), up_ne (by omega)]
    unfold shQ
    rw [if_neg (by omega), if_pos (by omega)]
    congr 1
    omega
theorem kp_lo {u : Nat} {z j : Int} (hu : u ≤ 20) (hz : ¬ z = 129) (h1 : 144 ≤ z ∧ z ≤ 153 → j < 3) (h2 : z = 154 ∨ z = 155 → j < 24) : kpQ D u z j = D z j := by
  by_cases q : u < 20
  · rw [kp_lt q hz, cpQ_ne (by omega) (by omega)]
  · have e : u = 20 := by omega
    rw [e, kp_20 hz, cpQ_ne (by omega) (by omega), up_ne hz, sh_lo (by omega) (by omega)]
theorem kp_129 {u : Nat} {j : Int} (hj : ¬ j = 43) : kpQ D u 129 j = D 129 j := by
  unfold kpQ
  by_cases q : u < 20
  · rw [if_pos q, up_ni hj, cpQ_ne (by omega) (by omega)]
  · rw [if_neg q, up_ni hj, cpQ_ne (by omega) (by omega), up_ni hj, sh_lo (by omega) (by omega)]
theorem re_ne {t u : Nat} {z : Int} (h64 : ¬ z = 64) (h0 : ¬ z = 69 + 3 * (((t + 1) % 20 : Nat) : Int)) (h1 : ¬ z = 69 + 3 * (((t + 1) % 20 : Nat) : Int) + 1) (h2 : ¬ z = 69 + 3 * (((t + 1) % 20 : Nat) : Int) + 2) : reC D t u z = D z := by
  funext j
  unfold reC
  rw [up_ne h64, cpR_ne h0 h1 h2, up_ne h64]
theorem re_64 {t u : Nat} : reC D t u 64 4 = (((t + 1) % 20 : Nat) : Int) ∧ reC D t u 64 0 = ((min (u + 1) 20 : Nat) : Int) ∧ reC D t u 64 3 = D 64 3 := by
  have hm : (t + 1) % 20 < 20 := Nat.mod_lt _ (by decide)
  unfold reC
  refine ⟨?_, up_at, ?_⟩
  · rw [up_ni (by decide), cpR_ne (by omega) (by omega) (by omega), up_at]
  · rw [up_ni (by decide), cpR_ne (by omega) (by omega) (by omega), up_ni (by decide)]
theorem re_0 {t u : Nat} {j : Int} (h1 : 2 ≤ j) (h2 : j ≤ 11) : reC D t u (69 + 3 * (((t + 1) % 20 : Nat) : Int)) j = D 46 j := by
  unfold reC
  rw [up_ne (by omega), cpR_0 j h1 h2, up_ne (by decide)]
theorem re_12 {t u : Nat} {b : Nat} (hb : b < 8) : reC D t u (69 + 3 * (((t + 1) % 20 : Nat) : Int) + 1) b = D (46 + 1) b ∧ reC D t u (69 + 3 * (((t + 1) % 20 : Nat) : Int) + 2) b = D (46 + 2) b := by
  unfold reC
  rw [up_ne (by omega), cpR_1 b hb, up_ne (by decide), up_ne (by omega), cpR_2 (by omega) b hb, up_ne (by decide)]
  exact ⟨rfl, rfl⟩
theorem HE_rem {u t : Nat} (h8 : nb ≤ 8) (hu : u ≤ 20) (ht : t < 20) (hh : ∀ k : Nat, k < u → RunE D nb (69 + 3 * (((t + 20 - k) % 20 : Nat) : Int)) (3 + ((u - 1 - k : Nat) : Int))) (i1 : D 64 3 = D 129 42) (i2 : D 129 42 = 0 ∨ D 129 42 = 1) (i3 : D 129 42 = 1 → RunE D nb 66 2) (U : RunE D nb 46 0) (hC : ∀ z : Int, 64 ≤ z → z ≤ 128 → F z = reC D t u z) (hR : ∀ z j : Int, 144 ≤ z → z ≤ 153 → 2 ≤ j → F z j = kpQ D u z j) (hV : ∀ z j : Int, z = 154 ∨ z = 155 → 16 ≤ j → F z j = kpQ D u z j) (h43 : F 129 43 = kpQ D u 129 43) (h42 : F 129 42 = D 129 42) : HE F nb := by
  have hm : (t + 1) % 20 < 20 := Nat.mod_lt _ (by decide)
  obtain ⟨r4, r0, r3⟩ := re_64 (D := D) (t := t) (u := u)
  refine ⟨min (u + 1) 20, (t + 1) % 20, ⟨by omega, hm, ?_, ?_, ?_⟩, ?_, ?_, ?_, ?_⟩
  · rw [hC 64 (by decide) (by decide), r0]
  · rw [h43, kp_43 hu]
  · rw [hC 64 (by decide) (by decide), r4]
  · intro k hk
    by_cases q : k = 0
    · have e : ((t + 1) % 20 + 20 - k) % 20 = (t + 1) % 20 := by
        rw [q]
        omega
      rw [e, q]
      refine RunE_m (r := 46) (s := 0) (fun j x y => ?_) (fun b hb => ?_) (fun z x y => ?_) (fun z b x y w => ?_) h8 U
      · rw [hC _ (by omega) (by omega), re_0 x y]
      · rw [hC _ (by omega) (by omega), hC _ (by omega) (by omega)]
        exact re_12 hb
      · rw [hR z _ x y (by omega), Nat.sub_zero, kp_new hu ⟨x, y⟩]
      · rw [hV z _ x (by omega), Nat.sub_zero, kp_nev hu x y w]
    · have e : ((t + 1) % 20 + 20 - k) % 20 = (t + 20 - (k - 1)) % 20 := by omega
      have e2 : ¬ (t + 20 - (k - 1)) % 20 = (t + 1) % 20 := by omega
      have e3 : (t + 20 - (k - 1)) % 20 < 20 := Nat.mod_lt _ (by decide)
      rw [e]
      generalize hx : (t + 20 - (k - 1)) % 20 = x at e2 e3
      have := hh (k - 1) (by omega)
      rw [hx] at this
      generalize hy : (t + 1) % 20 = y at e2 hm
      have re : ∀ z : Int, 69 + 3 * (x : Int) ≤ z → z ≤ 69 + 3 * (x : Int) + 2 → F z = D z := fun z a b => by
        rw [hC z (by omega) (by omega), re_ne (by omega) (by omega) (by omega) (by omega)]
      refine RunE_m (r := 69 + 3 * (x : Int)) (s := 3 + ((u - 1 - (k - 1) : Nat) : Int)) (fun j a b => ?_) (fun b hb => ?_) (fun z a b => ?_) (fun z b a c w => ?_) h8 this
      · rw [re _ (by omega) (by omega)]
      · rw [re _ (by omega) (by omega), re _ (by omega) (by omega)]
        exact ⟨rfl, rfl⟩
      · rw [hR z _ a b (by omega), kp_old hu (by omega) hk ⟨a, b⟩]
      · rw [hV z _ a (by omega), kp_olv hu (by omega) hk a c w]
  · rw [hC 64 (by decide) (by decide), r3, h42]
    exact i1
  · rw [h42]
    exact i2
  · intro q
    rw [h42] at q
    have re : ∀ z : Int, 66 ≤ z → z ≤ 68 → F z = D z := fun z a b => by
      rw [hC z (by omega) (by omega), re_ne (by omega) (by omega) (by omega) (by omega)]
    refine RunE_m (r := 66) (s := 2) (fun j a b => ?_) (fun b hb => ?_) (fun z a b => ?_) (fun z b a c w => ?_) h8 (i3 q)
    · rw [re _ (by omega) (by omega)]
    · rw [re _ (by omega) (by omega), re _ (by omega) (by omega)]
      exact ⟨rfl, rfl⟩
    · rw [hR z _ a b (by omega), kp_lo hu (by omega) (by omega) (by omega)]
    · rw [hV z _ a (by omega), kp_lo hu (by omega) (by omega) (by omega)]
end S91a
