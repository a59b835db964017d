/-! Text: lines of blocks -/
theorem or_bit {T w k : Nat} (h : ¬ w = k) : (T ||| 2 ^ w).testBit k = T.testBit k := by
  rw [Nat.testBit_or, Nat.testBit_two_pow, decide_eq_false h, Bool.or_false]
theorem or_bit1 {T w : Nat} : (T ||| 2 ^ w).testBit w = true := by
  rw [Nat.testBit_or, Nat.testBit_two_pow, decide_eq_true rfl, Bool.or_true]
theorem or_19 {T w : Nat} (h : T < 524288) (hw : w < 19) : T ||| 2 ^ w < 524288 := Nat.or_lt_two_pow (n := 19) h (Nat.pow_lt_pow_right (by decide) hw)
theorem cnt_0P {f : Int → Int} {v : Int} : ∀ m : Nat, (∀ k : Nat, k < m → ¬ f k = v) → cntE f v m = 0 := by
  intro m
  induction m with
  | zero => intro _; rfl
  | succ m ih =>
    intro h
    rw [show cntE f v (m + 1) = cntE f v m + (if f (m : Int) = v then 1 else 0) from rfl, ih (fun k hk => h k (by omega)), if_neg (h m (by omega))]
    rfl
theorem nx_0 {F G : Int → Int} {v : Int} : ∀ m : Nat, (∀ k : Nat, k < m → ¬ F k = v) → nxE F G v m = 0 := by
  intro m
  induction m with
  | zero => intro _; rfl
  | succ m ih =>
    intro h
    rw [show nxE F G v (m + 1) = if F m = v then nxE F G v m ||| 2 ^ (G m).toNat else nxE F G v m from rfl, if_neg (h m (by omega))]
    exact ih (fun k hk => h k (by omega))
section S99u
variable {xs : Int → Int} {n : Int × Int} {C C' R R' : Sto} {N : Int} {nb m i T d0 : Nat}
theorem DS_T {T' : Nat} (h : ∀ k : Nat, (k = 4 ∨ k = 5 ∨ k = 6 ∨ (16 ≤ k ∧ k < 19)) → T'.testBit k = T.testBit k) (s : DS nb i T C R) : DS nb i T' C R := by
  obtain ⟨s1, s2, s3, s4, s5, s6, s7⟩ := s
  refine ⟨s1, s2, s3, s4, s5, ?_, fun k hk => ?_⟩
  · rw [h 4 (by omega), h 5 (by omega), h 6 (by omega)]
    exact s6
  · rw [h (16 + k) (by omega)]
    exact s7 k hk
theorem RX_T {T' : Nat} (h : ∀ k : Nat, (k = 4 ∨ k = 5 ∨ k = 6 ∨ (16 ≤ k ∧ k < 19)) → T'.testBit k = T.testBit k) (X : RX nb m i T C R) : RX nb m i T' C R := ⟨X.1, X.2.1, DS_T h X.2.2.1, X.2.2.2⟩
theorem RX_14 {v : Int} (X : RX nb m i T C R) : RX nb m i T C (up R 129 14 v) := by
  obtain ⟨⟨y1, y2, y3, y4, y5⟩, g, s, l⟩ := X
  have rz : ∀ z : Int, ¬ z = 129 → up R 129 14 v z = R z := fun z hz => by funext j; rw [up_ne hz]
  exact ⟨⟨by rw [up_ni (by decide)]; exact y1, y2, y3, by rw [up_ni (by decide)]; exact y4, by rw [up_ni (by decide)]; exact y5⟩, DG_c (fun _ _ _ => rfl) (fun z _ _ => rz z (by omega)) (by rw [rz 131 (by decide)]) (by rw [rz 131 (by decide)]) g, DS_c rfl rfl rfl (fun j _ _ => by rw [rz 131 (by decide)]) (up_ni (by decide)) s, DL_c rfl rfl (fun _ _ _ => rfl) (fun z _ _ => rz z (by omega)) (up_ni (by decide)) (by rw [rz 131 (by decide)]) l⟩
theorem RTk_c (h3 : C' 3 = C 3) (h4 : C' 4 = C 4) (h130 : R' 130 = R 130) (h129 : ∀ j : Int, 16 ≤ j → j ≤ 20 → R' 129 j = R 129 j) (t : RTk N C R) : RTk N C' R' := by
  unfold RTk at t ⊢
  rw [h3, h4, h130, h129 16 (by decide) (by decide), h129 17 (by decide) (by decide), h129 18 (by decide) (by decide), h129 19 (by decide) (by decide), h129 20 (by decide) (by decide)]
  exact t
/-- a line's word is read -/
theorem BEG {w : Nat} (hw : w ≤ 7) (hT : RTk N C R) (X : RX nb m i T C R) (hk : R 129 19 = 0) (hv : R 129 20 = (w : Int)) (h14 : R 129 14 = (T : Int)) (h19 : T < 524288) (nf : ¬ (((w : Int) = 0 ∧ R 131 7 = 8) ∨ ((w : Int) = 1 ∧ R 131 8 = 16))) (nt : (w = 4 ∨ w = 5 ∨ w = 6) → ¬ T.testBit w = true) : ∃ C2 R2 : Sto, (∀ d : Nat, dcl xs n (d + 3) 116 [(2, 3)] C (9, 0) C2) ∧ (∀ (e : Nat) (C0 : Sto), den (e + 5) 205 [(2, 129)] (Sg xs n (mix C0 R)) = Rn (e + 4) 205 91 [some (2, 129), some (0, (w : Int)), none, none] [] (Sg xs n (mix C0 R2))) ∧ RTk N C2 R2 ∧ RX nb m i T C2 R2 ∧ R2 129 14 = ((T ||| 2 ^ w : Nat) : Int) ∧ fC0 C C2 ∧ fR0 R R2 ∧ C 3 3 ≤ C2 3 3 ∧ (∀ z : Int, ¬ z = 3 → C2 z = C z) ∧ (C2 3 4 = -38 ∨ C 3 3 < C2 3 3) := by
  have rz : ∀ z : Int, ¬ z = 129 → up R 129 14 ((T ||| 2 ^ w : Nat) : Int) z = R z := fun z hz => by funext j; rw [up_ne hz]
  have t0 : RTk N C (up R 129 14 ((T ||| 2 ^ w : Nat) : Int)) := RTk_c rfl rfl (rz 130 (by decide)) (fun j _ _ => up_ni (by omega)) hT
  obtain ⟨C2, R2, t1, t2, t3, t4, t5, t6, t7⟩ := tokX (xs := xs) (n := n) t0 (RX_14 (v := ((T ||| 2 ^ w : Nat) : Int)) X)
  refine ⟨C2, R2, t1, fun e C0 => r205 hw X.1.1 hk hv h14 h19 nf nt t2 e C0, t3, t4, ?_, fC0_tk t5, fR0_t (fR0_u (by omega)) (fR0_tk t5), t7, t5.1, t6⟩
  rw [t5.2.2.2 14 (by decide), up_at]
theorem e72w {w : Nat} (hw : w ≤ 7) (hT : RTk N C R) (hk : R 129 19 = 0) (hv : R 129 20 = (w : Int)) : C 3 4 = -(2 + (w : Int)) := by
  have tg := (tP_of hT.2.2.2).2.2.2.2.2.2.1.1
  rw [← hv]
  exact (tg hk (by omega)).1
theorem e72_0 {b : Int} {C1 : Sto} (h : C 3 4 = -2) (hb : b = 0 ∨ b = 1) (c : ∀ d : Nat, dcl xs n (d + 11) 73 [(2, 2)] C (0, b) C1) : ∀ d : Nat, dcl xs n (d + 12) 72 [(2, 2)] C (0, b) C1 := by
  intro d R0
  have hr : ret01 72 b = true := by
    obtain z | z := hb <;> (rw [z]; rfl)
  rw [e72 d (k := 0) (by decide) h R0, h72_13, if_pos (inb_t (by decide) (by decide)), if_pos (show kSw ((0 : Nat) : Int) = 1 from rfl), c d R0, cK0, pR0, h72_64, if_pos hr]
theorem DG_add {x y z : Int} (G : DG nb m C R) (h8 : nb < 8) (c90 : C' 9 0 = ((nb + 1 : Nat) : Int)) (c91 : C' 9 1 = C 9 1) (r7 : R' 131 7 = ((nb + 1 : Nat) : Int)) (r8 : R' 131 8 = R 131 8) (cb : ∀ b : Nat, b < nb → C' 6 b = C 6 b ∧ C' 7 b = C 7 b ∧ C' 8 b = C 8 b ∧ C' 12 b = C 12 b ∧ C' 13 b = C 13 b ∧ C' 14 b = C 14 b ∧ C' 15 b = C 15 b) (c10 : C' 10 = C 10) (c11 : C' 11 = C 11) (c16 : C' 16 = C 16) (rb : ∀ b : Nat, b < nb → R' 132 (8 + b) = R 132 (8 + b) ∧ R' 133 (8 + b) = R 133 (8 + b) ∧ R' 134 (8 + b) = R 134 (8 + b) ∧ R' 135 (8 + b) = R 135 (8 + b)) (r136 : R' 136 = R 136) (r137 : R' 137 = R 137) (n6 : C' 6 nb = x ∧ R' 132 (8 + (nb : Int)) = x) (n7 : C' 7 nb = y ∧ R' 133 (8 + (nb : Int)) = y ∧ 0 ≤ y ∧ y ≤ 255) (n8 : C' 8 nb = z ∧ R' 134 (8 + (nb : Int)) = z ∧ 0 ≤ z ∧ z ≤ 99) (n15 : C' 15 nb = -1 ∧ R' 135 (8 + (nb : Int)) = 0) (n12 : C' 12 nb = 0 ∧ C' 13 nb = 0 ∧ C' 14 nb = 0) : DG (nb + 1) m C' R' := by
  obtain ⟨⟨g1, g2, g3, g4, g5, g6⟩, gb, ge, gc⟩ := G
  have nf : ∀ k : Nat, k < m → ¬ C 10 k = ((nb : Nat) : Int) := fun k hk => by have := (ge k hk).1; omega
  have nt : ∀ k : Nat, k < m → ¬ C 11 k = ((nb : Nat) : Int) := fun k hk => by have := (ge k hk).2; omega
  refine ⟨⟨c90, r7, by omega, by rw [c91]; exact g4, by rw [r8]; exact g5, g6⟩, fun b hb => ?_, fun k hk => ?_, fun b hb => ?_⟩
  · by_cases q : b = nb
    · subst q
      rw [n6.1, n6.2, n7.1, n7.2.1, n8.1, n8.2.1, n15.1, n15.2]
      exact ⟨rfl, ⟨rfl, by omega, by omega⟩, ⟨rfl, by omega, by omega⟩, rfl, by omega, by omega⟩
    · obtain ⟨e1, e2, e3, _, _, _, e7⟩ := cb b (by omega)
      obtain ⟨f1, f2, f3, f4⟩ := rb b (by omega)
      have := gb b (by omega)
      rw [e1, e2, e3, e7, f1, f2, f3, f4]
      exact ⟨this.1, this.2.1, this.2.2.1, this.2.2.2.1, by omega, by omega⟩
  · rw [c10, c11, r136, r137]
    have := ge k hk
    exact ⟨⟨this.1.1, by omega, by omega⟩, ⟨this.2.1, by omega, by omega⟩⟩
  · rw [c10, c11, c16]
    by_cases q : b = nb
    · subst q
      rw [n12.1, n12.2.1, n12.2.2, n15.1, cnt_0P m nf, cnt_0P m nt, nx_0 m nf]
      exact ⟨⟨rfl, by omega⟩, rfl, rfl, fun k hk => by omega, fun z => absurd rfl z⟩
    · obtain ⟨_, _, _, e4, e5, e6, e7⟩ := cb b (by omega)
      rw [e4, e5, e6, e7]
      exact gc b (by omega)
theorem DS_n (s : DS nb i T C R) : DS (nb + 1) i T C R := by
  obtain ⟨⟨K, k1, k2, k3⟩, s⟩ := s
  exact ⟨⟨K, k1, k2, Nat.lt_of_lt_of_le k3 (Nat.pow_le_pow_right (by decide) (by omega))⟩, s⟩
/-- a write beyond the blocks that are told -/
theorem RX_hi {z v : Int} (hz : z = 132 ∨ z = 133 ∨ z = 134 ∨ z = 135) (X : RX nb m i T C R) : RX nb m i T C (up R z (8 + (nb : Int)) v) := by
  obtain ⟨⟨y1, y2, y3, y4, y5⟩, ⟨ga, gb, ge, gc⟩, s, l⟩ := X
  have ru : ∀ y : Int, ¬ y = z → up R z (8 + (nb : Int)) v y = R y := fun y hy => by funext j; rw [up_ne hy]
  have rb : ∀ (y : Int) (b : Nat), b < nb → up R z (8 + (nb : Int)) v y (8 + (b : Int)) = R y (8 + (b : Int)) := fun y b hb => by rw [up_ni (by omega)]
  refine ⟨⟨by rw [ru 129 (by omega)]; exact y1, y2, y3, by rw [ru 129 (by omega)]; exact y4, by rw [ru 129 (by omega)]; exact y5⟩, ⟨by rw [ru 131 (by omega)]; exact ga, fun b hb => ?_, by rw [ru 136 (by omega), ru 137 (by omega)]; exact ge, gc⟩, DS_c rfl rfl rfl (fun j _ _ => by rw [ru 131 (by omega)]) (by rw [ru 129 (by omega)]) s, DL_c rfl rfl (fun _ _ _ => rfl) (fun y _ _ => ru y (by omega)) (by rw [ru 129 (by omega)]) (by rw [ru 131 (by omega)]) l⟩
  rw [rb 132 b hb, rb 133 b hb, rb 134 b hb, rb 135 b hb]
  exact gb b hb
theorem RTk_hi {z j v : Int} (hz : 131 ≤ z) (t : RTk N C R) : RTk N C (up R z j v) := RTk_c rfl rfl (by funext k; rw [up_ne (by omega)]) (fun k _ _ => by rw [up_ne (by omega)]) t
/-- the reference's block behind its works -/
theorem r192b (e : Nat) {v : Int} (h7 : R 131 7 = (nb : Int)) (h8 : nb < 8) (C0 : Sto) : ∃ o1 o2 o3 : Option Vv, Rn (e + 4) 205 192 [some (2, 129), some (0, 0), some (0, 8 + (nb : Int)), none] [(0, v), (0, 8 + (nb : Int)), (2, 134)] (Sg xs n (mix C0 R)) = Rn (e + 4) 205 329 [some (2, 129), o1, o2, o3] [] (Sg xs n (mix C0 (up (up (up R 134 (8 + (nb : Int)) v) 135 (8 + (nb : Int)) 0) 131 7 ((nb + 1 : Nat) : Int)))) := by
  have i1 := inb_t (show 0 ≤ 8 + (nb : Int) by omega) (show 8 + (nb : Int) < 16 by omega)
  have e0 := r200 (xs := xs) (n := n) (R := up (up R 134 (8 + (nb : Int)) v) 135 (8 + (nb : Int)) 0) (e + 3) (k := 0) (by decide) (by decide) C0
  have e1 := r201 (xs := xs) (n := n) (R := up (up R 134 (8 + (nb : Int)) v) 135 (8 + (nb : Int)) 0) (e + 3) (k := 0) (v := ((nb + 1 : Nat) : Int)) (by decide) (by decide) C0
  rw [show (7 : Int) + 0 = 7 from rfl, up_ne (by decide), up_ne (by decide), h7] at e0
  rw [show (7 : Int) + 0 = 7 from rfl] at e1
  refine ⟨some (0, 0), some (0, 8 + (nb : Int)), none, ?_⟩
  rw [h205_192, if_pos i1, if_pos i1]
  simp only [ur134, ur135]
  rw [e0, cK0]
  show Rn (e + 4) 205 207 [some (2, 129), some (0, 0), some (0, 8 + (nb : Int)), none] [(0, (nb : Int)), (0, 0), (2, 129)] _ = _
  rw [h205_207, w1 (by omega), e1, cK9, pRv, h205_212]
/-- the reference's block with a fault, behind its sign -/
theorem r179b (e : Nat) {v : Int} (h7 : R 131 7 = (nb : Int)) (h8 : nb < 8) (hf : ¬ R 129 21 = 0) (C0 : Sto) : ∃ (o1 o2 o3 : Option Vv), Rn (e + 4) 205 179 [some (2, 129), some (0, 0), some (0, 8 + (nb : Int)), none] [(0, v), (0, 8 + (nb : Int)), (2, 133)] (Sg xs n (mix C0 R)) = Rn (e + 4) 205 329 [some (2, 129), o1, o2, o3] [] (Sg xs n (mix C0 (up (up (up (up R 133 (8 + (nb : Int)) v) 134 (8 + (nb : Int)) 0) 135 (8 + (nb : Int)) 0) 131 7 ((nb + 1 : Nat) : Int)))) := by
  have i1 := inb_t (show 0 ≤ 8 + (nb : Int) by omega) (show 8 + (nb : Int) < 16 by omega)
  have hf' : ¬ up R 133 (8 + (nb : Int)) v 129 21 = 0 := by rw [up_ne (by decide)]; exact hf
  have k := r192b (xs := xs) (n := n) (R := up R 133 (8 + (nb : Int)) v) e (v := 0) (nb := nb) (by rw [up_ne (by decide)]; exact h7) h8 C0
  obtain ⟨o1, o2, o3, k⟩ := k
  refine ⟨o1, o2, o3, ?_⟩
  rw [h205_179, if_pos i1, ur133, r197n (e + 3) hf' C0, cK0]
  exact k
end S99u
