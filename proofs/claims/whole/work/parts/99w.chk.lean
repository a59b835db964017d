/-! Text: lines of checks and of what is set -/
section S99w
variable {xs : Int → Int} {n : Int × Int} {C C' R R' : Sto} {N : Int} {nb m i T d0 : Nat}
theorem FT_0 {f : Int} (hT : RTk N C R) (hf : ¬ f = 0) : FT (flS C f) (wrgS R f) := by
  unfold FT flS wrgS
  rw [up_ni (show ¬ (2 : Int) = 3 by decide), up_at, up_at, up_at, up_ni (show ¬ (21 : Int) = 22 by decide), up_at]
  exact ⟨rfl, hT.2.2.1.1, hf⟩
theorem FT_u {z j v : Int} (hz : ¬ z = 129) (h : FT C R) : FT C (up R z j v) := by
  unfold FT at h ⊢
  rw [up_ne (fun q => hz q.symm), up_ne (fun q => hz q.symm)]
  exact h
theorem e72_2 {b : Int} {C1 : Sto} (h : C 3 4 = -4) (hb : b = 0 ∨ b = 1) (c : ∀ d : Nat, dcl xs n (d + 11) 77 [(2, 2)] C (0, b) C1) : ∀ d : Nat, dcl xs n (d + 12) 72 [(2, 2)] C (0, b) C1 := by
  intro d R0
  have hr : ret01 72 b = true := by
    obtain z | z := hb <;> (rw [z]; rfl)
  have s : kSw ((2 : Nat) : Int) = 3 := rfl
  rw [e72 d (k := 2) (by decide) h R0, h72_13, if_pos (inb_t (by decide) (by decide)), s, if_neg (by decide), if_neg (by decide), if_pos rfl, c d R0, cK0, pR0, h72_74, if_pos hr]
theorem RX_u {T' : Nat} {z j v : Int} (hz : (z = 131 ∧ 9 ≤ j ∧ j ≤ 12)) (X : RX nb m i T C R) (s : DS nb i T' C' (up R z j v)) (h5 : ∀ y : Int, ¬ y = 5 → C' y = C y) : RX nb m i T' C' (up R z j v) := by
  obtain ⟨⟨y1, y2, y3, y4, y5⟩, g, _, l⟩ := X
  have ru : ∀ y : Int, ¬ y = z → up R z j v y = R y := fun y hy => by funext k; rw [up_ne hy]
  exact ⟨⟨by rw [ru 129 (by omega)]; exact y1, by rw [h5 2 (by decide)]; exact y2, by rw [h5 2 (by decide)]; exact y3, by rw [ru 129 (by omega)]; exact y4, by rw [ru 129 (by omega)]; exact y5⟩, DG_c (fun y _ _ => h5 y (by omega)) (fun y _ _ => ru y (by omega)) (up_ni (by omega)) (up_ni (by omega)) g, s, DL_c (by rw [h5 19 (by decide)]) (by rw [h5 19 (by decide)]) (fun y _ _ => h5 y (by omega)) (fun y _ _ => ru y (by omega)) (by rw [ru 129 (by omega)]) (up_ni (by omega)) l⟩
theorem BO_check (hT : RTk N C R) (X : RX nb m i T C R) (hk : R 129 19 = 0) (hv : R 129 20 = ((2 : Nat) : Int)) (h14 : R 129 14 = (T : Int)) (h19 : T < 524288) : BO xs n d0 N i C R := by
  have kc : C 3 4 = -4 := e72w (w := 2) (by decide) hT hk hv
  have g3 : nb ≤ 8 := X.2.1.1.2.2.1
  obtain ⟨C2, R2, t1, t2, T2, X2, q14, fc2, fr2, le2, z2⟩ := BEG (xs := xs) (n := n) (w := 2) (by decide) hT X hk hv h14 h19 (by omega) (by omega)
  have ok2 := X2.2.2.2.choose_spec.2.2.1
  obtain ⟨K, k1, k2, k3⟩ := X2.2.2.1.1
  have p8 : (2 : Nat) ^ nb ≤ 256 := Nat.pow_le_pow_right (by decide) g3
  have K8 : K < 256 := Nat.lt_of_lt_of_le k3 p8
  have x1 := X2.1.1
  have at91 : ∀ (e : Nat) (C0 : Sto), den (e + 5) 205 [(2, 129)] (Sg xs n (mix C0 R)) = cK (den (e + 4) 202 [(2, 129)] (Sg xs n (mix C0 R2))) (fun v s1 => Rn (e + 4) 205 226 [some (2, 129), some (0, 2), none, none] (pushR v []) s1) := by
    intro e C0
    rw [t2 e C0, h205_91, if_neg (by decide), if_neg (by decide), if_pos (show ((2 : Nat) : Int) = 2 from rfl)]
    rfl
  have tail : ∀ (e : Nat) (C0 : Sto) (F : Sto) (k K' : Nat) (o1 : Option Vv), F 131 9 = (K' : Int) → K' < 256 → k < 8 → Rn (e + 4) 205 256 [some (2, 129), none, none, some (0, (k : Int))] [] (Sg xs n (mix C0 F)) = Rn (e + 4) 205 329 [some (2, 129), none, none, some (0, (k : Int))] [] (Sg xs n (mix C0 (up F 131 9 ((K' ||| 2 ^ k : Nat) : Int)))) := by
    intro e C0 F k K' o1 h9 h8 hk8
    have e2 := r200 (xs := xs) (n := n) (R := F) (e + 3) (k := 2) (by decide) (by decide) C0
    rw [show (7 : Int) + 2 = 9 from rfl, h9] at e2
    have e3 := r201 (xs := xs) (n := n) (R := F) (e + 3) (k := 2) (v := ((K' ||| 2 ^ k : Nat) : Int)) (by decide) (by decide) C0
    rw [show (7 : Int) + 2 = 9 from rfl] at e3
    have pk : 2 ^ k < 2147483648 := Nat.lt_of_le_of_lt (Nat.pow_le_pow_right (by decide) (show k ≤ 8 by omega)) (by decide)
    rw [h205_256, e2, cK0]
    show Rn (e + 4) 205 263 [some (2, 129), none, none, some (0, (k : Int))] [(0, (K' : Int)), (0, 2), (2, 129)] (Sg xs n (mix C0 F)) = _
    rw [h205_263, i_shl_bit (by omega), i_or_nat (by omega) pk, e3, cK9, pRv, h205_270]
  obtain ⟨k, hkb, c1, r1⟩ | ⟨f, hf, c1, r1⟩ := NB (xs := xs) (n := n) T2 X2
  · have k8 : k < 8 := by omega
    by_cases bt : K.testBit k = true
    · -- told already
      have wf := wr_f (R := R2) (k := 3) (by decide)
      refine ⟨flS C2 3, up (wrgS R2 3) 131 9 ((K ||| 2 ^ k : Nat) : Int), fun e C0 he => ?_, fC0_t fc2 fC0_fl, fR0_t (fR0_t fr2 fR0_wr) (fR0_u (by omega)), Or.inl ⟨e72_2 kc (Or.inl rfl) (fun d R0 => ?_) d0, FT_u (by decide) (FT_0 T2 (by decide)), ok20_fl ok2⟩⟩
      · obtain ⟨e', rfl⟩ : ∃ e', e = e' + 4 := ⟨e - 4, by omega⟩
        have e2 := r200 (xs := xs) (n := n) (R := R2) (e' + 3) (k := 2) (by decide) (by decide) C0
        rw [show (7 : Int) + 2 = 9 from rfl, k2] at e2
        refine ⟨none, none, some (0, (k : Int)), ?_⟩
        rw [at91 e' C0, r1 (e' + 2) C0, cK0, pR0, h205_226]
        simp only [mr129]
        rw [if_neg (fun z => z x1), e2, cK0, pR0, h205_239, tb_val (by omega) (by omega), bB_t bt, if_neg (fun z => z rfl), r193 (e' + 3) x1 C0, cK9, pRv, h205_252, r196n (e' + 3) wf C0, cK9, pRv]
        exact tail e' C0 _ k K none (by unfold wrgS; rw [up_ne (by decide), up_ne (by decide)]; exact k2) K8 k8
      · rw [n77, h77_0, t1 (d + 7) R0, cK9, pRv, h77_7, c1 (d + 8) R0, cK0, pR0, h77_11, if_pos (by omega)]
        simp only [mc5]
        rw [k1, c181 (d + 9) K k (by omega) (by omega), cK0, pR0, h77_29, bB_t bt, if_neg (by decide), e70 (d + 9) 3 R0, cK0, pR0, h77_37, if_pos (show ret01 77 0 = true from rfl)]
    · -- a check
      have T3 : RTk N (up C2 5 5 ((K ||| 2 ^ k : Nat) : Int)) R2 := RTk_c (by funext j; rw [up_ne (by decide)]) (by funext j; rw [up_ne (by decide)]) rfl (fun _ _ _ => rfl) T2
      obtain ⟨C4, R3, p1, p2, T4, tf, _, le4⟩ := tok (xs := xs) (n := n) T3
      have c33 : up C2 5 5 ((K ||| 2 ^ k : Nat) : Int) 3 3 = C2 3 3 := up_ne (by decide)
      have X3 : RX nb m i T (up C2 5 5 ((K ||| 2 ^ k : Nat) : Int)) (up R2 131 9 ((K ||| 2 ^ k : Nat) : Int)) := by
        refine RX_u ⟨rfl, by decide, by decide⟩ X2 ?_ (fun y hy => by funext j; rw [up_ne hy])
        obtain ⟨_, s2, s3, s4, s5, s6, s7⟩ := X2.2.2.1
        unfold DS
        rw [show up C2 5 5 ((K ||| 2 ^ k : Nat) : Int) 22 = C2 22 by funext j; rw [up_ne (by decide)], show up C2 5 5 ((K ||| 2 ^ k : Nat) : Int) 23 = C2 23 by funext j; rw [up_ne (by decide)], up_ni (show ¬ (6 : Int) = 5 by decide), up_ni (show ¬ (7 : Int) = 5 by decide), up_ni (show ¬ (8 : Int) = 5 by decide), up_ni (show ¬ (9 : Int) = 5 by decide), up_ni (show ¬ (10 : Int) = 5 by decide), up_ni (show ¬ (11 : Int) = 5 by decide), up_ni (show ¬ (12 : Int) = 5 by decide), up_at, up_at, up_ni (show ¬ (10 : Int) = 9 by decide), up_ni (show ¬ (11 : Int) = 9 by decide), up_ni (show ¬ (12 : Int) = 9 by decide), up_ne (show ¬ (129 : Int) = 131 by decide)]
        exact ⟨⟨K ||| 2 ^ k, rfl, rfl, Nat.or_lt_two_pow k3 (Nat.pow_lt_pow_right (by decide) hkb)⟩, s2, s3, s4, s5, s6, s7⟩
      have tf' : tkF (up C2 5 5 ((K ||| 2 ^ k : Nat) : Int)) C4 (up R2 131 9 ((K ||| 2 ^ k : Nat) : Int)) (up R3 131 9 ((K ||| 2 ^ k : Nat) : Int)) := by
        refine ⟨tf.1, tf.2.1, fun z hz => ?_, fun j hj => ?_⟩
        · funext j
          unfold up
          rw [tf.2.2.1 z hz]
        · rw [up_ne (by decide), up_ne (by decide)]
          exact tf.2.2.2 j hj
      refine ⟨C4, up R3 131 9 ((K ||| 2 ^ k : Nat) : Int), fun e C0 he => ?_, fC0_t fc2 (fC0_t (fC0_u (by omega)) (fC0_tk tf)), fR0_t (fR0_t fr2 (fR0_tk tf)) (fR0_u (by omega)), Or.inr (Or.inr ⟨e72_2 kc (Or.inr rfl) (fun d R0 => ?_) d0, nb, m, T ||| 2 ^ 2, RTk_hi (by decide) T4, RX_T (T := T) (fun k hk => or_bit (by omega)) (RX_tk tf' X3), ?_, or_19 h19 (by decide), by omega⟩)⟩
      · obtain ⟨e', rfl⟩ : ∃ e', e = e' + 4 := ⟨e - 4, by omega⟩
        have e2 := r200 (xs := xs) (n := n) (R := R2) (e' + 3) (k := 2) (by decide) (by decide) C0
        rw [show (7 : Int) + 2 = 9 from rfl, k2] at e2
        refine ⟨none, none, some (0, (k : Int)), ?_⟩
        rw [at91 e' C0, r1 (e' + 2) C0, cK0, pR0, h205_226]
        simp only [mr129]
        rw [if_neg (fun z => z x1), e2, cK0, pR0, h205_239, tb_val (by omega) (by omega), bB_f bt, if_pos (by decide), h205_252, r196 (e' + 3) x1 (p2 e') C0, cK9, pRv]
        exact tail e' C0 _ k K none (by rw [tf.2.2.1 131 (by decide)]; exact k2) K8 k8
      · have pk : 2 ^ k < 2147483648 := Nat.lt_of_le_of_lt (Nat.pow_le_pow_right (by decide) (show k ≤ 8 by omega)) (by decide)
        rw [n77, h77_0, t1 (d + 7) R0, cK9, pRv, h77_7, c1 (d + 8) R0, cK0, pR0, h77_11, if_pos (by omega)]
        simp only [mc5]
        rw [k1, c181 (d + 9) K k (by omega) (by omega), cK0, pR0, h77_29, bB_f bt, if_pos rfl, c180 (d + 9) k (by omega), cK0]
        simp only [mc5]
        rw [k1]
        show Rn (d + 10) 77 50 [some (2, 2), some (0, (k : Int))] [(0, ((2 ^ k : Nat) : Int)), (0, (K : Int)), (2, 5)] (Sg xs n (mix C2 R0)) = _
        rw [h77_50, i_or_nat (by omega) pk, uc5, p1 (d + 7) R0, cK9, pRv, h77_61]
      · rw [up_ne (by decide), tf.2.2.2 14 (by decide)]
        exact q14
  · have wf := wr_f (R := R2) hf
    refine ⟨flS C2 f, up (wrgS R2 f) 131 9 ((K ||| 2 ^ 0 : Nat) : Int), fun e C0 he => ?_, fC0_t fc2 fC0_fl, fR0_t (fR0_t fr2 fR0_wr) (fR0_u (by omega)), Or.inl ⟨e72_2 kc (Or.inl rfl) (fun d R0 => ?_) d0, FT_u (by decide) (FT_0 T2 hf), ok20_fl ok2⟩⟩
    · obtain ⟨e', rfl⟩ : ∃ e', e = e' + 4 := ⟨e - 4, by omega⟩
      refine ⟨none, none, some (0, ((0 : Nat) : Int)), ?_⟩
      rw [at91 e' C0, r1 (e' + 2) C0, cK0, pR0, h205_226]
      simp only [mr129]
      rw [if_pos wf, h205_252, r196n (e' + 3) wf C0, cK9, pRv]
      exact tail e' C0 _ 0 K none (by unfold wrgS; rw [up_ne (by decide), up_ne (by decide)]; exact k2) K8 (by decide)
    · rw [n77, h77_0, t1 (d + 7) R0, cK9, pRv, h77_7, c1 (d + 8) R0, cK0, pR0, h77_11, if_neg (fun z => z (by decide))]
end S99w
