/-! Text: the steps of a formula, read by the reader -/
noncomputable def lp (xs : Int → Int) (n : Int × Int) (d : Nat) (l1 l2 i : Int) (C R0 : Sto) : Option (Vv × Stt) := Rn (d + 6) 81 16 [some (2, 2), some (0, l1), some (0, l2), some (0, i), none, none] [] (Sg xs n (mix C R0))
/-- both found the same fault -/
def FT (C R : Sto) : Prop := C 2 2 = R 129 21 ∧ C 2 3 = R 129 22 ∧ ¬ R 129 21 = 0
section S99l
variable {xs : Int → Int} {n : Int × Int} {C R : Sto} {N : Int} {s h a p i o c w : Nat}
theorem FS_i (F : FS N s h a p i o c w C R) : (i : Int) < 700 ∧ tP (C 3 4) (R 129 19) (R 129 20) := by
  obtain ⟨⟨⟨_, _, f3⟩, _, ⟨_, f5, _, f7⟩, f8⟩, _, _, _, _, _, _, f14⟩ := F
  exact ⟨by omega, tP_of f8⟩
theorem FS_kc (F : FS N s h a p i o c w C R) : okK (C 3 4) = true ∧ okK0 (C 3 4) = true := by
  have := (FS_i F).2.2.2.2.2.2.2.2.1
  have k := okK_b this.1 this.2
  exact ⟨k, okK_0 k⟩
theorem FT_f {k : Int} (F : FS N s h a p i o c w C R) (hk : ¬ k = 0) : FT (flS C k) (wrgS R k) := by
  obtain ⟨⟨_, _, ⟨f4, _⟩, _⟩, _⟩ := F
  unfold FT flS wrgS
  rw [up_ni (show ¬ (2 : Int) = 3 by decide), up_at, up_at, up_at, up_ni (show ¬ (21 : Int) = 22 by decide), up_at]
  exact ⟨rfl, f4, hk⟩
theorem ok20_fl {k : Int} (q : ok20 C) : ok20 (flS C k) := fun j hj => by
  unfold flS
  rw [up_ne (by decide), up_ne (by decide)]
  exact q j hj
/-- an operand or what stands ahead of one is due -/
theorem lp_due (d : Nat) {l2 : Int} (F : FS N s h a p i o c w C R) (R0 : Sto) : lp xs n d 1 l2 i C R0 = Rn (d + 6) 81 61 [some (2, 2), none, none, some (0, (i : Int)), none, none] [(0, bB (C 3 4 = -33 ∨ (C 3 4 = -22 ∧ ¬ l2 = 0)))] (Sg xs n (mix C R0)) := by
  obtain ⟨k1, k2⟩ := FS_kc F
  obtain ⟨i1, _⟩ := FS_i F
  unfold lp
  rw [h81_16]
  simp only [mc1, uc1, mc2, uc2, mc3, uc3, mc4, uc4, mc5, uc5, mc6, uc6, mc7, uc7, mc8, uc8, mc9, uc9, mc10, uc10, mc11, uc11, mc12, uc12, mc13, uc13, mc14, uc14, mc15, uc15, mc16, uc16, mc17, uc17, mc18, uc18, mc19, uc19, mc20, uc20, mc21, uc21, mc22, uc22, mc23, uc23, mc24, uc24, mc25, uc25]
  rw [if_neg (fun z => z i1), if_neg (show ¬ (1 : Int) = 0 by decide), if_pos (by rw [k2]; rfl)]
  by_cases q : C 3 4 = -33
  · rw [if_pos q, h81_56, bB_t (Or.inl q)]
  · rw [if_neg q, if_pos (by rw [k2]; rfl)]
    by_cases u : C 3 4 = -22
    · rw [if_neg (fun z => z u)]
      by_cases v : l2 = 0
      · rw [if_pos v, h81_60, bB_f (by omega)]
      · rw [if_neg v, h81_56, bB_t (Or.inr ⟨u, v⟩)]
    · rw [if_pos u, h81_60, bB_f (by omega)]
theorem lp_ahead (d : Nat) {l2 : Int} {C' : Sto} (F : FS N s h a p i o c w C R) (q : C 3 4 = -33 ∨ (C 3 4 = -22 ∧ ¬ l2 = 0)) (R0 : Sto) (hd : dcl xs n (d + 6) 83 [(2, 2)] C (0, 1) C') : lp xs n d 1 l2 i C R0 = Rn (d + 6) 81 161 [some (2, 2), some (0, 1), some (0, 1), some (0, (i : Int)), none, some (0, 1)] [] (Sg xs n (mix C' R0)) := by
  rw [lp_due d F R0, bB_t q, h81_61, if_neg (by decide), hd R0, cK0, pR0, h81_72, if_neg (by decide), h81_87]
theorem lp_ahead_f (d : Nat) {l2 : Int} {C' : Sto} (F : FS N s h a p i o c w C R) (q : C 3 4 = -33 ∨ (C 3 4 = -22 ∧ ¬ l2 = 0)) (R0 : Sto) (hd : dcl xs n (d + 6) 83 [(2, 2)] C (0, 0) C') : lp xs n d 1 l2 i C R0 = some ((0, 0), Sg xs n (mix C' R0)) := by
  rw [lp_due d F R0, bB_t q, h81_61, if_neg (by decide), hd R0, cK0, pR0, h81_72, if_pos rfl, h81_85]
theorem lp_opd (d : Nat) {l2 : Int} {C' : Sto} (F : FS N s h a p i o c w C R) (q : ¬ (C 3 4 = -33 ∨ (C 3 4 = -22 ∧ ¬ l2 = 0))) (R0 : Sto) (hd : dcl xs n (d + 6) 84 [(2, 2)] C (0, 1) C') : lp xs n d 1 l2 i C R0 = Rn (d + 6) 81 161 [some (2, 2), some (0, 0), some (0, 0), some (0, (i : Int)), none, some (0, 0)] [] (Sg xs n (mix C' R0)) := by
  rw [lp_due d F R0, bB_f q, h81_61, if_pos rfl, hd R0, cK0, pR0, h81_82, if_pos (by decide), h81_87]
theorem lp_opd_f (d : Nat) {l2 : Int} {C' : Sto} (F : FS N s h a p i o c w C R) (q : ¬ (C 3 4 = -33 ∨ (C 3 4 = -22 ∧ ¬ l2 = 0))) (R0 : Sto) (hd : dcl xs n (d + 6) 84 [(2, 2)] C (0, 0) C') : lp xs n d 1 l2 i C R0 = some ((0, 0), Sg xs n (mix C' R0)) := by
  rw [lp_due d F R0, bB_f q, h81_61, if_pos rfl, hd R0, cK0, pR0, h81_82, if_neg (by decide), h81_85]
theorem lp_161 (d : Nat) {l1 l2 : Int} {o4 o5 : Option Vv} {C' : Sto} (hi : (i : Int) < 700) (R0 : Sto) (hd : ∀ d : Nat, dcl xs n (d + 3) 116 [(2, 3)] C (9, 0) C') : Rn (d + 6) 81 161 [some (2, 2), some (0, l1), some (0, l2), some (0, (i : Int)), o4, o5] [] (Sg xs n (mix C R0)) = lp xs n d l1 l2 ((i + 1 : Nat) : Int) C' R0 := by
  rw [h81_161, hd (d + 3) R0, cK9, pRv, h81_168, w1 (by omega)]
  rfl
theorem e83o (d : Nat) (F : FS N s h a 0 i o c w C R) (hk : C 3 4 = -33) (ho : o < 8) : dcl xs n (d + 6) 83 [(2, 2)] C (0, 1) (up (up (up C 2 6 ((o : Int) + 1)) 25 (a : Int) (-33)) 2 5 ((a : Int) + 1)) := by
  obtain ⟨_, k2⟩ := FS_kc F
  obtain ⟨_, _, ⟨f6, f7, _, f9⟩, _⟩ := F
  intro R0
  have e := e88 (xs := xs) (n := n) (C := up C 2 6 ((o : Int) + 1)) (d + 4) (a := (a : Int)) (k := -33) (by rw [up_ni (by decide)]; exact f9.1) (by omega) (by omega) (by decide) R0
  rw [n83, h83_0]
  simp only [mc1, uc1, mc2, uc2, mc3, uc3, mc4, uc4, mc5, uc5, mc6, uc6, mc7, uc7, mc8, uc8, mc9, uc9, mc10, uc10, mc11, uc11, mc12, uc12, mc13, uc13, mc14, uc14, mc15, uc15, mc16, uc16, mc17, uc17, mc18, uc18, mc19, uc19, mc20, uc20, mc21, uc21, mc22, uc22, mc23, uc23, mc24, uc24, mc25, uc25]
  rw [if_pos (by rw [k2]; rfl), if_pos (by rw [hk]; decide), f6.1, if_pos (by omega), w32_idP (by omega) (by omega), h83_47]
  simp only [mc1, uc1, mc2, uc2, mc3, uc3, mc4, uc4, mc5, uc5, mc6, uc6, mc7, uc7, mc8, uc8, mc9, uc9, mc10, uc10, mc11, uc11, mc12, uc12, mc13, uc13, mc14, uc14, mc15, uc15, mc16, uc16, mc17, uc17, mc18, uc18, mc19, uc19, mc20, uc20, mc21, uc21, mc22, uc22, mc23, uc23, mc24, uc24, mc25, uc25]
  rw [up_ne (show ¬ (3 : Int) = 2 by decide), hk, e, cK9, pRv, h83_58]
theorem e83of (d : Nat) (F : FS N s h a 0 i o c w C R) (hk : C 3 4 = -33) (ho : ¬ o < 8) : dcl xs n (d + 6) 83 [(2, 2)] C (0, 0) (flS C 2) := by
  obtain ⟨_, k2⟩ := FS_kc F
  obtain ⟨_, _, ⟨f6, f7, _, f9⟩, _⟩ := F
  intro R0
  rw [n83, h83_0]
  simp only [mc1, uc1, mc2, uc2, mc3, uc3, mc4, uc4, mc5, uc5, mc6, uc6, mc7, uc7, mc8, uc8, mc9, uc9, mc10, uc10, mc11, uc11, mc12, uc12, mc13, uc13, mc14, uc14, mc15, uc15, mc16, uc16, mc17, uc17, mc18, uc18, mc19, uc19, mc20, uc20, mc21, uc21, mc22, uc22, mc23, uc23, mc24, uc24, mc25, uc25]
  rw [if_pos (by rw [k2]; rfl), if_pos (by rw [hk]; decide), f6.1, if_neg (by omega), e70 (d + 4) 2 R0, cK0, pR0, h83_36, if_pos (show ret01 83 0 = true from rfl)]
theorem e83n (d : Nat) (F : FS N s h a 0 i o c w C R) (hk : C 3 4 = -22) (hc : c < 64) : dcl xs n (d + 6) 83 [(2, 2)] C (0, 1) (up (up (up C 19 0 ((c : Int) + 1)) 25 (a : Int) (-22)) 2 5 ((a : Int) + 1)) := by
  obtain ⟨_, k2⟩ := FS_kc F
  obtain ⟨_, _, ⟨f6, f7, _, f9⟩, _⟩ := F
  intro R0
  have e := e88 (xs := xs) (n := n) (C := up C 19 0 ((c : Int) + 1)) (d + 4) (a := (a : Int)) (k := -22) (by rw [up_ne (by decide)]; exact f9.1) (by omega) (by omega) (by decide) R0
  rw [n83, h83_0]
  simp only [mc1, uc1, mc2, uc2, mc3, uc3, mc4, uc4, mc5, uc5, mc6, uc6, mc7, uc7, mc8, uc8, mc9, uc9, mc10, uc10, mc11, uc11, mc12, uc12, mc13, uc13, mc14, uc14, mc15, uc15, mc16, uc16, mc17, uc17, mc18, uc18, mc19, uc19, mc20, uc20, mc21, uc21, mc22, uc22, mc23, uc23, mc24, uc24, mc25, uc25]
  rw [if_pos (by rw [k2]; rfl), if_neg (fun z => z hk), e82 (d + 3) f7.1 (by omega) (by omega) R0, cK0, pR0, h83_17, if_pos (by decide), h83_47]
  simp only [mc1, uc1, mc2, uc2, mc3, uc3, mc4, uc4, mc5, uc5, mc6, uc6, mc7, uc7, mc8, uc8, mc9, uc9, mc10, uc10, mc11, uc11, mc12, uc12, mc13, uc13, mc14, uc14, mc15, uc15, mc16, uc16, mc17, uc17, mc18, uc18, mc19, uc19, mc20, uc20, mc21, uc21, mc22, uc22, mc23, uc23, mc24, uc24, mc25, uc25]
  rw [up_ne (show ¬ (3 : Int) = 19 by decide), hk, e, cK9, pRv, h83_58]
theorem e83nf (d : Nat) (F : FS N s h a 0 i o c w C R) (hk : C 3 4 = -22) (hc : ¬ c < 64) : dcl xs n (d + 6) 83 [(2, 2)] C (0, 0) (flS C 2) := by
  obtain ⟨_, k2⟩ := FS_kc F
  obtain ⟨_, _, ⟨f6, f7, _, f9⟩, _⟩ := F
  intro R0
  rw [n83, h83_0]
  simp only [mc1, uc1, mc2, uc2, mc3, uc3, mc4, uc4, mc5, uc5, mc6, uc6, mc7, uc7, mc8, uc8, mc9, uc9, mc10, uc10, mc11, uc11, mc12, uc12, mc13, uc13, mc14, uc14, mc15, uc15, mc16, uc16, mc17, uc17, mc18, uc18, mc19, uc19, mc20, uc20, mc21, uc21, mc22, uc22, mc23, uc23, mc24, uc24, mc25, uc25]
  rw [if_pos (by rw [k2]; rfl), if_neg (fun z => z hk), e82f (d + 3) (by rw [f7.1]; omega) R0, cK0, pR0, h83_17, if_neg (by decide)]
theorem e84 (d : Nat) (F : FS N s h a 0 i o c w C R) (hk : C 3 4 = -36 ∨ kf 2 (C 3 4) = 2) (hn : C 3 4 = -36 → C 3 7 ≤ 9999) (hc : c < 64) : dcl xs n (d + 6) 84 [(2, 2)] C (0, 1) (up (up (up (up C 19 0 ((c : Int) + 1)) 20 (w : Int) (C 3 4)) 21 (w : Int) (if C 3 4 = -36 then C 3 7 else 0)) 19 6 ((w : Int) + 1)) := by
  obtain ⟨k1, k2⟩ := FS_kc F
  obtain ⟨_, _, ⟨f6, f7, f8, f9⟩, _⟩ := F
  intro R0
  have c19 : up C 19 0 ((c : Int) + 1) 19 6 = (w : Int) := by rw [up_ni (by decide)]; exact f8.1
  have c3 : up C 19 0 ((c : Int) + 1) 3 = C 3 := by funext j; rw [up_ne (by decide)]
  have e := fun v => e41 (xs := xs) (n := n) (C := up C 19 0 ((c : Int) + 1)) (d + 4) (w := (w : Int)) (k := C 3 4) (v := v) c19 (by omega) (by omega) k2 R0
  rw [n84, h84_0]
  simp only [mc1, uc1, mc2, uc2, mc3, uc3, mc4, uc4, mc5, uc5, mc6, uc6, mc7, uc7, mc8, uc8, mc9, uc9, mc10, uc10, mc11, uc11, mc12, uc12, mc13, uc13, mc14, uc14, mc15, uc15, mc16, uc16, mc17, uc17, mc18, uc18, mc19, uc19, mc20, uc20, mc21, uc21, mc22, uc22, mc23, uc23, mc24, uc24, mc25, uc25]
  rw [if_pos (by rw [k2]; rfl)]
  by_cases q : C 3 4 = -36
  · rw [if_neg (fun z => z q), h84_18, if_pos (by decide), h84_43, if_neg (by decide)]
    simp only [mc1, uc1, mc2, uc2, mc3, uc3, mc4, uc4, mc5, uc5, mc6, uc6, mc7, uc7, mc8, uc8, mc9, uc9, mc10, uc10, mc11, uc11, mc12, uc12, mc13, uc13, mc14, uc14, mc15, uc15, mc16, uc16, mc17, uc17, mc18, uc18, mc19, uc19, mc20, uc20, mc21, uc21, mc22, uc22, mc23, uc23, mc24, uc24, mc25, uc25]
    rw [if_pos (by have := hn q; omega), h84_66, e82 (d + 3) f7.1 (by omega) (by omega) R0, cK0, pR0, h84_70, if_pos (by decide), if_neg (by decide), h84_104]
    simp only [mc1, uc1, mc2, uc2, mc3, uc3, mc4, uc4, mc5, uc5, mc6, uc6, mc7, uc7, mc8, uc8, mc9, uc9, mc10, uc10, mc11, uc11, mc12, uc12, mc13, uc13, mc14, uc14, mc15, uc15, mc16, uc16, mc17, uc17, mc18, uc18, mc19, uc19, mc20, uc20, mc21, uc21, mc22, uc22, mc23, uc23, mc24, uc24, mc25, uc25]
    rw [c3, e, cK9, pRv, h84_107, if_pos q]
  · rw [if_pos q, h84_18, if_neg (fun z => z rfl)]
    simp only [mc1, uc1, mc2, uc2, mc3, uc3, mc4, uc4, mc5, uc5, mc6, uc6, mc7, uc7, mc8, uc8, mc9, uc9, mc10, uc10, mc11, uc11, mc12, uc12, mc13, uc13, mc14, uc14, mc15, uc15, mc16, uc16, mc17, uc17, mc18, uc18, mc19, uc19, mc20, uc20, mc21, uc21, mc22, uc22, mc23, uc23, mc24, uc24, mc25, uc25]
    rw [if_pos k1, if_pos (by omega), h84_43, if_pos rfl, h84_66, e82 (d + 3) f7.1 (by omega) (by omega) R0, cK0, pR0, h84_70, if_pos (by decide), if_pos rfl, h84_104]
    simp only [mc1, uc1, mc2, uc2, mc3, uc3, mc4, uc4, mc5, uc5, mc6, uc6, mc7, uc7, mc8, uc8, mc9, uc9, mc10, uc10, mc11, uc11, mc12, uc12, mc13, uc13, mc14, uc14, mc15, uc15, mc16, uc16, mc17, uc17, mc18, uc18, mc19, uc19, mc20, uc20, mc21, uc21, mc22, uc22, mc23, uc23, mc24, uc24, mc25, uc25]
    rw [c3, e, cK9, pRv, h84_107, if_neg q]
theorem e84f (d : Nat) (F : FS N s h a 0 i o c w C R) (hk : C 3 4 = -36 ∨ kf 2 (C 3 4) = 2) (hn : (C 3 4 = -36 ∧ ¬ C 3 7 ≤ 9999) ∨ ¬ c < 64) : dcl xs n (d + 6) 84 [(2, 2)] C (0, 0) (flS C 2) := by
  obtain ⟨k1, k2⟩ := FS_kc F
  obtain ⟨_, _, ⟨f6, f7, f8, f9⟩, _⟩ := F
  intro R0
  rw [n84, h84_0]
  simp only [mc1, uc1, mc2, uc2, mc3, uc3, mc4, uc4, mc5, uc5, mc6, uc6, mc7, uc7, mc8, uc8, mc9, uc9, mc10, uc10, mc11, uc11, mc12, uc12, mc13, uc13, mc14, uc14, mc15, uc15, mc16, uc16, mc17, uc17, mc18, uc18, mc19, uc19, mc20, uc20, mc21, uc21, mc22, uc22, mc23, uc23, mc24, uc24, mc25, uc25]
  rw [if_pos (by rw [k2]; rfl)]
  by_cases q : C 3 4 = -36
  · rw [if_neg (fun z => z q), h84_18, if_pos (by decide), h84_43, if_neg (by decide)]
    simp only [mc1, uc1, mc2, uc2, mc3, uc3, mc4, uc4, mc5, uc5, mc6, uc6, mc7, uc7, mc8, uc8, mc9, uc9, mc10, uc10, mc11, uc11, mc12, uc12, mc13, uc13, mc14, uc14, mc15, uc15, mc16, uc16, mc17, uc17, mc18, uc18, mc19, uc19, mc20, uc20, mc21, uc21, mc22, uc22, mc23, uc23, mc24, uc24, mc25, uc25]
    by_cases u : C 3 7 ≤ 9999
    · rw [if_pos (by omega), h84_66, e82f (d + 3) (by rw [f7.1]; omega) R0, cK0, pR0, h84_70, if_neg (by decide)]
    · rw [if_neg (by omega), e70 (d + 4) 2 R0, cK0, pR0, h84_65, if_pos (show ret01 84 0 = true from rfl)]
  · rw [if_pos q, h84_18, if_neg (fun z => z rfl)]
    simp only [mc1, uc1, mc2, uc2, mc3, uc3, mc4, uc4, mc5, uc5, mc6, uc6, mc7, uc7, mc8, uc8, mc9, uc9, mc10, uc10, mc11, uc11, mc12, uc12, mc13, uc13, mc14, uc14, mc15, uc15, mc16, uc16, mc17, uc17, mc18, uc18, mc19, uc19, mc20, uc20, mc21, uc21, mc22, uc22, mc23, uc23, mc24, uc24, mc25, uc25]
    rw [if_pos k1, if_pos (by omega), h84_43, if_pos rfl, h84_66, e82f (d + 3) (by rw [f7.1]; omega) R0, cK0, pR0, h84_70, if_neg (by decide)]
theorem e84x (d : Nat) (F : FS N s h a 0 i o c w C R) (hk : ¬ (C 3 4 = -36 ∨ kf 2 (C 3 4) = 2)) : dcl xs n (d + 6) 84 [(2, 2)] C (0, 0) (flS C 1) := by
  obtain ⟨k1, k2⟩ := FS_kc F
  intro R0
  rw [n84, h84_0]
  simp only [mc1, uc1, mc2, uc2, mc3, uc3, mc4, uc4, mc5, uc5, mc6, uc6, mc7, uc7, mc8, uc8, mc9, uc9, mc10, uc10, mc11, uc11, mc12, uc12, mc13, uc13, mc14, uc14, mc15, uc15, mc16, uc16, mc17, uc17, mc18, uc18, mc19, uc19, mc20, uc20, mc21, uc21, mc22, uc22, mc23, uc23, mc24, uc24, mc25, uc25]
  rw [if_pos (by rw [k2]; rfl), if_pos (by omega), h84_18, if_neg (fun z => z rfl)]
  simp only [mc1, uc1, mc2, uc2, mc3, uc3, mc4, uc4, mc5, uc5, mc6, uc6, mc7, uc7, mc8, uc8, mc9, uc9, mc10, uc10, mc11, uc11, mc12, uc12, mc13, uc13, mc14, uc14, mc15, uc15, mc16, uc16, mc17, uc17, mc18, uc18, mc19, uc19, mc20, uc20, mc21, uc21, mc22, uc22, mc23, uc23, mc24, uc24, mc25, uc25]
  rw [if_pos k1, if_neg (by omega), e70 (d + 4) 1 R0, cK0, pR0, h84_42, if_pos (show ret01 84 0 = true from rfl)]
end S99l
