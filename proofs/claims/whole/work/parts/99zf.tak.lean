/-! Text: the reader's draft is taken over -/
theorem mix_cpy {C R : Sto} {a b k : Int} (ha : a < 129) (hb : b < 129) : cpy (mix C R) a 0 b 0 k = mix (cpy C a 0 b 0 k) R := by
  funext y j
  unfold cpy mix
  by_cases q : y = b ∧ 0 ≤ j ∧ j < 0 + k
  · rw [if_pos q, if_pos ha, if_pos (show y < 129 by omega)]
    exact (if_pos q).symm
  · rw [if_neg q]
    by_cases w : y < 129
    · rw [if_pos w, if_pos w]
      exact (if_neg q).symm
    · rw [if_neg w, if_neg w]
def kA (C : Sto) : Sto := cpy (cpy (cpy C 6 0 27 0 8) 7 0 28 0 8) 8 0 29 0 8
def kB (C : Sto) : Sto := cpy (cpy (cpy (cpy (cpy (cpy (cpy (up (up C 30 0 (C 9 0)) 30 1 (C 9 1)) 10 0 31 0 16) 11 0 32 0 16) 12 0 33 0 8) 13 0 34 0 8) 14 0 35 0 8) 15 0 36 0 8) 16 0 37 0 24
def kC (C : Sto) : Sto := cpy (cpy (cpy (cpy (up C 40 0 (C 19 0)) 20 0 41 0 64) 21 0 42 0 64) 22 0 43 0 3) 23 0 44 0 3
def kDT (C : Sto) : Sto := up (up (up (up (up C 26 5 (C 5 5)) 26 6 (C 5 6)) 26 7 (C 5 7)) 26 8 (C 5 8)) 26 9 (C 5 9)
section S99zf
variable {xs : Int → Int} {n : Int × Int} {C R : Sto} {nb m : Nat}
theorem cp_n {D : Sto} {a b k c : Int} (h : ¬ c = b) : cpy D a 0 b 0 k c = D c := by
  funext j
  exact cpy_ne h
theorem kA_f {z : Int} (h : ¬ (z = 27 ∨ z = 28 ∨ z = 29)) : kA C z = C z := by
  unfold kA
  rw [cp_n (by omega), cp_n (by omega), cp_n (by omega)]
theorem kB_f {z : Int} (h : ¬ (z = 30 ∨ (31 ≤ z ∧ z ≤ 37))) : kB C z = C z := by
  unfold kB
  rw [cp_n (by omega), cp_n (by omega), cp_n (by omega), cp_n (by omega), cp_n (by omega), cp_n (by omega), cp_n (by omega)]
  funext j
  rw [up_ne (by omega), up_ne (by omega)]
theorem kC_f {z : Int} (h : ¬ (40 ≤ z ∧ z ≤ 44)) : kC C z = C z := by
  unfold kC
  rw [cp_n (by omega), cp_n (by omega), cp_n (by omega), cp_n (by omega)]
  funext j
  rw [up_ne (by omega)]
theorem kD_f {z : Int} (h : ¬ z = 26) : kDT C z = C z := by
  unfold kDT
  funext j
  rw [up_ne h, up_ne h, up_ne h, up_ne h, up_ne h]
theorem kA_v {j : Int} (h0 : 0 ≤ j) (h1 : j < 8) : kA C 27 j = C 6 j ∧ kA C 28 j = C 7 j ∧ kA C 29 j = C 8 j := by
  unfold kA
  refine ⟨?_, ?_, ?_⟩
  · rw [cp_n (by decide), cp_n (by decide), cpy_at h0 h1]
  · rw [cp_n (by decide), cpy_at h0 h1, cp_n (by decide)]
  · rw [cpy_at h0 h1, cp_n (by decide), cp_n (by decide)]
theorem kB_0 : kB C 30 0 = C 9 0 ∧ kB C 30 1 = C 9 1 := by
  unfold kB
  rw [cp_n (by decide), cp_n (by decide), cp_n (by decide), cp_n (by decide), cp_n (by decide), cp_n (by decide), cp_n (by decide)]
  exact ⟨by rw [up_ni (by decide), up_at], by rw [up_at]⟩
theorem kB_16 {j : Int} (h0 : 0 ≤ j) (h1 : j < 16) : kB C 31 j = C 10 j ∧ kB C 32 j = C 11 j := by
  unfold kB
  refine ⟨?_, ?_⟩
  · rw [cp_n (by decide), cp_n (by decide), cp_n (by decide), cp_n (by decide), cp_n (by decide), cp_n (by decide), cpy_at h0 h1, up_ne (by decide), up_ne (by decide)]
  · rw [cp_n (by decide), cp_n (by decide), cp_n (by decide), cp_n (by decide), cp_n (by decide), cpy_at h0 h1, cp_n (by decide), up_ne (by decide), up_ne (by decide)]
theorem kB_8 {j : Int} (h0 : 0 ≤ j) (h1 : j < 8) : kB C 33 j = C 12 j ∧ kB C 34 j = C 13 j ∧ kB C 35 j = C 14 j ∧ kB C 36 j = C 15 j := by
  unfold kB
  refine ⟨?_, ?_, ?_, ?_⟩
  · rw [cp_n (by decide), cp_n (by decide), cp_n (by decide), cp_n (by decide), cpy_at h0 h1, cp_n (by decide), cp_n (by decide), up_ne (by decide), up_ne (by decide)]
  · rw [cp_n (by decide), cp_n (by decide), cp_n (by decide), cpy_at h0 h1, cp_n (by decide), cp_n (by decide), cp_n (by decide), up_ne (by decide), up_ne (by decide)]
  · rw [cp_n (by decide), cp_n (by decide), cpy_at h0 h1, cp_n (by decide), cp_n (by decide), cp_n (by decide), cp_n (by decide), up_ne (by decide), up_ne (by decide)]
  · rw [cp_n (by decide), cpy_at h0 h1, cp_n (by decide), cp_n (by decide), cp_n (by decide), cp_n (by decide), cp_n (by decide), up_ne (by decide), up_ne (by decide)]
theorem kB_24 {j : Int} (h0 : 0 ≤ j) (h1 : j < 24) : kB C 37 j = C 16 j := by
  unfold kB
  rw [cpy_at h0 h1, cp_n (by decide), cp_n (by decide), cp_n (by decide), cp_n (by decide), cp_n (by decide), cp_n (by decide), up_ne (by decide), up_ne (by decide)]
theorem kC_0 : kC C 40 0 = C 19 0 := by
  unfold kC
  rw [cp_n (by decide), cp_n (by decide), cp_n (by decide), cp_n (by decide), up_at]
theorem kC_64 {j : Int} (h0 : 0 ≤ j) (h1 : j < 64) : kC C 41 j = C 20 j ∧ kC C 42 j = C 21 j := by
  unfold kC
  refine ⟨?_, ?_⟩
  · rw [cp_n (by decide), cp_n (by decide), cp_n (by decide), cpy_at h0 h1, up_ne (by decide)]
  · rw [cp_n (by decide), cp_n (by decide), cpy_at h0 h1, cp_n (by decide), up_ne (by decide)]
theorem kC_3 {j : Int} (h0 : 0 ≤ j) (h1 : j < 3) : kC C 43 j = C 22 j ∧ kC C 44 j = C 23 j := by
  unfold kC
  refine ⟨?_, ?_⟩
  · rw [cp_n (by decide), cpy_at h0 h1, cp_n (by decide), cp_n (by decide), up_ne (by decide)]
  · rw [cpy_at h0 h1, cp_n (by decide), cp_n (by decide), cp_n (by decide), up_ne (by decide)]
theorem kD_v : kDT C 26 5 = C 5 5 ∧ kDT C 26 6 = C 5 6 ∧ kDT C 26 7 = C 5 7 ∧ kDT C 26 8 = C 5 8 ∧ kDT C 26 9 = C 5 9 := ⟨rfl, rfl, rfl, rfl, rfl⟩
theorem e63 (d : Nat) (ok : ok20 C) : dcl xs n (d + 2) 63 [(2, 26), (2, 5)] C (9, 0) (kDT (kC (kB (kA C)))) := by
  intro R0
  have al : ((List.range (Int.toNat 64)).all (fun k : Nat => okK0 ((up (mix (kB (kA C)) R0) 40 0 (mix (kB (kA C)) R0 19 0)) 20 (0 + k)))) = true := by
    rw [List.all_eq_true]
    intro k hk
    have := List.mem_range.mp hk
    rw [up_ne (by decide), mc20, kB_f (by decide), kA_f (by decide), Int.zero_add]
    exact ok k this
  rw [n63, h63_0, mix_cpy (by decide) (by decide), mix_cpy (by decide) (by decide), mix_cpy (by decide) (by decide)]
  show cK (den (d + 1) 2 [(2, 30), (2, 9)] (Sg xs n (mix (kA C) R0))) _ = _
  rw [n2, h2_0, mix_uc (by decide), mix_uc (by decide), mix_cpy (by decide) (by decide), mix_cpy (by decide) (by decide), mix_cpy (by decide) (by decide), mix_cpy (by decide) (by decide), mix_cpy (by decide) (by decide), mix_cpy (by decide) (by decide), mix_cpy (by decide) (by decide), cK9, pRv, mc9]
  show Rn (d + 1) 63 56 _ [] (Sg xs n (mix (kB (kA C)) R0)) = _
  rw [h63_56, n37, h37_0, if_pos al, mix_uc (by decide), mix_cpy (by decide) (by decide), mix_cpy (by decide) (by decide), mix_cpy (by decide) (by decide), mix_cpy (by decide) (by decide), cK9, pRv, mc19]
  show Rn (d + 1) 63 67 _ [] (Sg xs n (mix (kC (kB (kA C))) R0)) = _
  rw [h63_67, mix_uc (by decide), mix_uc (by decide), mix_uc (by decide), mix_uc (by decide), mix_uc (by decide), mc5]
  rfl
end S99zf
