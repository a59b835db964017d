/-! Twins: ask, notes, strikes, what is known -/
/-- how many notes there are and are known, in both -/
def KN (D : Sto) (q : Nat) : Prop := D 58 0 = q ∧ D 129 64 = q ∧ D 58 4 = D 129 65 ∧ -1 ≤ D 58 4 ∧ D 58 4 ≤ q
def RelK (D : Sto) (nb m : Nat) : Prop := ∃ q q' : Nat, RelN D nb m q q' ∧ KN D q ∧ ∀ b : Nat, b < nb → 0 ≤ D 47 b ∧ D 47 b < 256
theorem mrk_r {D : Sto} : mrk D D := ⟨rfl, rfl, rfl, rfl, rfl, rfl, rfl⟩
section T2
variable {xs : Int → Int} {n : Int × Int} {D F : Sto} {nb m q q' : Nat}
theorem KN_sim (K : KN D q) (h : sim F D) : KN F q := by
  obtain ⟨k1, k2, k3, k4, k5⟩ := K
  have e1 : F 58 0 = D 58 0 := sim_58 h 0 (by decide)
  have e2 : F 58 4 = D 58 4 := sim_58 h 4 (by decide)
  have e3 : F 129 64 = D 129 64 := sim_129 h 64 (by decide)
  have e4 : F 129 65 = D 129 65 := sim_129 h 65 (by decide)
  unfold KN
  rw [e1, e2, e3, e4]
  exact ⟨k1, k2, k3, k4, k5⟩
theorem RelK_sim (R : RelK D nb m) (h : sim F D) : RelK F nb m := by
  obtain ⟨q, q', r, k, s⟩ := R
  refine ⟨q, q', RelN_sim r h, KN_sim k h, ?_⟩
  rw [sim_z h 47 (by unfold scz; omega)]
  exact s
theorem kn_of (K : KN D q) : ∃ q' : Nat, knC D = q' ∧ rkC D = q' ∧ q' ≤ q := by
  obtain ⟨k1, k2, k3, k4, k5⟩ := K
  unfold knC rkC
  by_cases h : D 58 4 < 0
  · refine ⟨q, ?_, ?_, Nat.le_refl q⟩
    · rw [if_pos h]
      exact k1
    · rw [if_pos (by omega)]
      exact k2
  · refine ⟨(D 58 4).toNat, ?_, ?_, by omega⟩
    · rw [if_neg h]
      omega
    · rw [if_neg (by omega)]
      omega
theorem tw_signsK (R : RelK D nb m) (d : Nat) (c : Int) : ∃ D2, sim D2 D ∧ twin xs n (d + 40) 170 309 [(0, c)] D D2 := by
  obtain ⟨q, q', r, k, s⟩ := R
  obtain ⟨D2, a1, a2⟩ := tw_signs (xs := xs) (n := n) r d c
  exact ⟨D2, a1, a2⟩
theorem qP_ex {T U : Int → Int} (h : ∀ k : Nat, k < m → T k = U k) : qP T nb m = qP U nb m := by
  funext k
  unfold qP
  by_cases hk : k / 8 < m
  · rw [h _ hk]
  · rw [decide_eq_false hk]
    simp
theorem tw_ask (R : RelK D nb m) (d : Nat) (c l2 : Int) : ∃ D2, sim D2 D ∧ twin xs n (d + 40) 171 311 [(0, c), (0, l2)] D D2 := by
  have RK := R
  obtain ⟨q, q', r, k, s⟩ := R
  have R' := r
  obtain ⟨⟨g1, g2, g3, g4⟩, hB, hS, h46, ⟨n1, n2, n3, n4, n5, n6⟩, n7, n8⟩ := r
  obtain ⟨F, f1, f2, f3⟩ := c171 (xs := xs) (n := n) (d + 32) c l2 (qF D c) n1 n2 n4 g1 n5 (fun _ => qF_c R' s c)
  have hsF : sim F D := by
    intro z j hz
    unfold scr at hz
    by_cases h : z = 58
    · rw [h]
      exact f2 j (by omega)
    · rw [f1 z (by omega) (by omega) h (by omega)]
  have R1 := RelN_sim R' hsF
  obtain ⟨G, b1, b2, b3⟩ := c311 (xs := xs) (n := n) (E := F) (d + 31) c l2 (qF D c) R1.2.2.2.2.1.2.2.1 R1.1.2.1 (RelN_RB R1) (RN_of R1.2.2.2.2.1) (by
    intro hc e he b hb v hv
    have h1 := qF_r R' f1 (mrk_r (D := F)) c.toNat e he b hb v hv
    rw [Int.toNat_of_nonneg hc] at h1
    rw [← h1]
    exact (qF_c R' s c e he b hb v hv).1)
  have hE : RelN (up F 129 0 0) nb m q q' := RelN_sim R1 sim_0
  have hsl : 0 ≤ c → slC (tkS D) q q' c = slR (up F 129 0 0) m q' c := by
    intro hc
    obtain ⟨a1, a2, a3, a4⟩ := RelN_E R' f1 (E := up F 129 0 0) (mrk_v (by decide)) hE.2.2.2.1 hE.2.2.2.2.1.2.2.1 (fun z hz => funext (fun j => up_ne (by omega)))
    have := sl_eq a1 a2 a3 hE.2.2.2.1 a4 c.toNat
    rw [Int.toNat_of_nonneg hc] at this
    exact this
  have hqp : qP (D 32) nb m = qP (F 137) nb m := qP_ex (fun k hk => by rw [f1 137 (by decide) (by decide) (by decide) (by decide)]; exact (g3 k hk).2)
  refine ⟨G, sim_t (sim_agQ b1 (by rw [b2 R1.2.2.2.1, R1.2.2.2.1])) hsF, F, _, f3, ?_⟩
  refine b3.trans ?_
  by_cases h : (0 ≤ c ∧ c < (nb : Int)) ∧ 0 ≤ l2 ∧ l2 ≤ 2
  · rw [if_pos h, if_pos h, hqp, hsl h.1.1]
  · rw [if_neg h, if_neg h]
end T2
