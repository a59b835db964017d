/-! Text: signs between operands, groups and the end of a formula, read by the reader -/
section S99m
variable {xs : Int → Int} {n : Int × Int} {C C1 R : Sto} {N : Int} {s h a p i o c w w1 : Nat}
theorem e85h (d : Nat) {l2 : Int} (hk : okK (C 3 4) = true) (h90 : dcl xs n (d + 5) 90 [(2, 2), (0, if kf 3 (C 3 4) = 4 then 5 else kf 3 (C 3 4))] C (9, 0) C1) (R0 : Sto) : den (d + 6) 85 [(2, 2)] (Sg xs n (mix C R0)) = Rn (d + 5) 85 38 [some (2, 2), some (2, C 3 4), some (0, bB (kf 3 (C 3 4) = 4))] [] (Sg xs n (mix C1 R0)) := by
  rw [n85, h85_0]
  simp only [mc1, uc1, mc2, uc2, mc3, uc3, mc4, uc4, mc5, uc5, mc6, uc6, mc7, uc7, mc8, uc8, mc9, uc9, mc10, uc10, mc11, uc11, mc12, uc12, mc13, uc13, mc14, uc14, mc15, uc15, mc16, uc16, mc17, uc17, mc18, uc18, mc19, uc19, mc20, uc20, mc21, uc21, mc22, uc22, mc23, uc23, mc24, uc24, mc25, uc25]
  rw [if_pos hk]
  by_cases q : kf 3 (C 3 4) = 4
  · have e := h90 R0
    rw [if_pos q] at e
    rw [if_neg (fun z => z q), h85_21, if_neg (by decide), h85_35, e, cK9, pRv, bB_t q]
  · have e := h90 R0
    rw [if_neg q] at e
    rw [if_pos q, h85_21, if_pos rfl, if_pos hk, h85_35, e, cK9, pRv, bB_f q]
theorem e85t (d : Nat) (hk : okK (C 3 4) = true) (F1 : FS N s h a 0 i o c w1 C1 R) (h90 : dcl xs n (d + 5) 90 [(2, 2), (0, if kf 3 (C 3 4) = 4 then 5 else kf 3 (C 3 4))] C (9, 0) C1) (okt : a = 0 ∨ okK (C1 25 ((a - 1 : Nat) : Int)) = true) (top : kf 3 (C 3 4) = 4 → ¬ topR C1 = 4) (R0 : Sto) : ∃ o2 : Option Vv, den (d + 6) 85 [(2, 2)] (Sg xs n (mix C R0)) = Rn (d + 5) 85 56 [some (2, 2), some (2, C 3 4), o2] [] (Sg xs n (mix C1 R0)) := by
  obtain ⟨_, _, ⟨f6, f7, f8, f9⟩, _⟩ := F1
  rw [e85h d (l2 := 0) hk h90 R0]
  by_cases q : kf 3 (C 3 4) = 4
  · have ok : 0 < (a : Int) → okK (C1 25 ((a : Int) - 1)) = true := fun z => by
      obtain e | e := okt
      · omega
      · rw [show (a : Int) - 1 = ((a - 1 : Nat) : Int) by omega]
        exact e
    rw [bB_t q, h85_38, if_neg (by decide), e89 (d + 4) (a := (a : Int)) f9.1 (by omega) (by omega) ok R0, cK0, pR0, h85_46, if_pos (top q)]
    exact ⟨_, rfl⟩
  · rw [bB_f q, h85_38, if_pos rfl]
    exact ⟨_, rfl⟩
theorem e85 (d : Nat) (hk : okK (C 3 4) = true) (F1 : FS N s h a 0 i o c w1 C1 R) (h90 : dcl xs n (d + 5) 90 [(2, 2), (0, if kf 3 (C 3 4) = 4 then 5 else kf 3 (C 3 4))] C (9, 0) C1) (okt : a = 0 ∨ okK (C1 25 ((a - 1 : Nat) : Int)) = true) (top : kf 3 (C 3 4) = 4 → ¬ topR C1 = 4) (hc : c < 64) : dcl xs n (d + 6) 85 [(2, 2)] C (0, 1) (up (up (up C1 19 0 ((c : Int) + 1)) 25 (a : Int) (C 3 4)) 2 5 ((a : Int) + 1)) := by
  intro R0
  obtain ⟨o2, e⟩ := e85t (xs := xs) (n := n) d hk F1 h90 okt top R0
  obtain ⟨_, _, ⟨f6, f7, f8, f9⟩, _⟩ := F1
  have e8 := e88 (xs := xs) (n := n) (C := up C1 19 0 ((c : Int) + 1)) (d + 4) (a := (a : Int)) (k := C 3 4) (by rw [up_ne (by decide)]; exact f9.1) (by omega) (by omega) (okK_0 hk) R0
  rw [e, h85_56, e82 (d + 3) f7.1 (by omega) (by omega) R0, cK0, pR0, h85_60, if_pos (by decide), e8, cK9, pRv, h85_70]
theorem e85f (d : Nat) (hk : okK (C 3 4) = true) (F1 : FS N s h a 0 i o c w1 C1 R) (h90 : dcl xs n (d + 5) 90 [(2, 2), (0, if kf 3 (C 3 4) = 4 then 5 else kf 3 (C 3 4))] C (9, 0) C1) (okt : a = 0 ∨ okK (C1 25 ((a - 1 : Nat) : Int)) = true) (top : kf 3 (C 3 4) = 4 → ¬ topR C1 = 4) (hc : ¬ c < 64) : dcl xs n (d + 6) 85 [(2, 2)] C (0, 0) (flS C1 2) := by
  intro R0
  obtain ⟨o2, e⟩ := e85t (xs := xs) (n := n) d hk F1 h90 okt top R0
  obtain ⟨_, _, ⟨f6, f7, f8, f9⟩, _⟩ := F1
  rw [e, h85_56, e82f (d + 3) (by rw [f7.1]; omega) R0, cK0, pR0, h85_60, if_neg (by decide)]
theorem e85x (d : Nat) (hk : okK (C 3 4) = true) (h4 : kf 3 (C 3 4) = 4) {b : Int} (hb : C1 2 5 = b) (b0 : 0 < b) (b7 : b ≤ 72) (h90 : dcl xs n (d + 5) 90 [(2, 2), (0, 5)] C (9, 0) C1) (okt : okK (C1 25 (b - 1)) = true) (top : topR C1 = 4) : dcl xs n (d + 6) 85 [(2, 2)] C (0, 0) (flS C1 1) := by
  intro R0
  rw [e85h d (l2 := 0) hk (by rw [if_pos h4]; exact h90) R0, bB_t h4, h85_38, if_neg (by decide), e89 (d + 4) (a := b) hb (by omega) b7 (fun _ => okt) R0, cK0, pR0, h85_46, if_neg (fun z => z top), e70 (d + 4) 1 R0, cK0, pR0, h85_55, if_pos (show ret01 85 0 = true from rfl)]
theorem e86 (d : Nat) (F1 : FS N s h (a + 1) 0 i (o + 1) c w1 C1 R) (h90 : dcl xs n (d + 5) 90 [(2, 2), (0, 1)] C (9, 0) C1) : dcl xs n (d + 6) 86 [(2, 2)] C (9, 0) (up (up C1 2 5 (a : Int)) 2 6 (o : Int)) := by
  intro R0
  obtain ⟨_, _, ⟨f6, f7, f8, f9⟩, _⟩ := F1
  rw [n86, h86_0, h90 R0, cK9, pRv, h86_5]
  simp only [mc1, uc1, mc2, uc2, mc3, uc3, mc4, uc4, mc5, uc5, mc6, uc6, mc7, uc7, mc8, uc8, mc9, uc9, mc10, uc10, mc11, uc11, mc12, uc12, mc13, uc13, mc14, uc14, mc15, uc15, mc16, uc16, mc17, uc17, mc18, uc18, mc19, uc19, mc20, uc20, mc21, uc21, mc22, uc22, mc23, uc23, mc24, uc24, mc25, uc25]
  rw [f9.1, if_neg (by omega), w32_idP (by omega) (by omega), h86_22]
  simp only [mc1, uc1, mc2, uc2, mc3, uc3, mc4, uc4, mc5, uc5, mc6, uc6, mc7, uc7, mc8, uc8, mc9, uc9, mc10, uc10, mc11, uc11, mc12, uc12, mc13, uc13, mc14, uc14, mc15, uc15, mc16, uc16, mc17, uc17, mc18, uc18, mc19, uc19, mc20, uc20, mc21, uc21, mc22, uc22, mc23, uc23, mc24, uc24, mc25, uc25]
  rw [up_ni (show ¬ (6 : Int) = 5 by decide), f6.1, w32_idP (by omega) (by omega), show ((a + 1 + 0 : Nat) : Int) - 1 = (a : Int) by omega, show ((o + 1 : Nat) : Int) - 1 = (o : Int) by omega]
theorem e87 (d : Nat) (ho : C 2 6 = 0) (h90 : dcl xs n (d + 5) 90 [(2, 2), (0, 1)] C (9, 0) C1) : dcl xs n (d + 6) 87 [(2, 2)] C (0, 1) C1 := by
  intro R0
  rw [n87, h87_0]
  simp only [mc1, uc1, mc2, uc2, mc3, uc3, mc4, uc4, mc5, uc5, mc6, uc6, mc7, uc7, mc8, uc8, mc9, uc9, mc10, uc10, mc11, uc11, mc12, uc12, mc13, uc13, mc14, uc14, mc15, uc15, mc16, uc16, mc17, uc17, mc18, uc18, mc19, uc19, mc20, uc20, mc21, uc21, mc22, uc22, mc23, uc23, mc24, uc24, mc25, uc25]
  rw [ho, if_pos (by decide), h90 R0, cK9, pRv, h87_18]
theorem e87f (d : Nat) (ho : 0 < C 2 6) : dcl xs n (d + 6) 87 [(2, 2)] C (0, 0) (flS C 1) := by
  intro R0
  rw [n87, h87_0]
  simp only [mc1, uc1, mc2, uc2, mc3, uc3, mc4, uc4, mc5, uc5, mc6, uc6, mc7, uc7, mc8, uc8, mc9, uc9, mc10, uc10, mc11, uc11, mc12, uc12, mc13, uc13, mc14, uc14, mc15, uc15, mc16, uc16, mc17, uc17, mc18, uc18, mc19, uc19, mc20, uc20, mc21, uc21, mc22, uc22, mc23, uc23, mc24, uc24, mc25, uc25]
  rw [if_neg (fun z => z ho), e70 (d + 4) 1 R0, cK0, pR0, h87_12, if_pos (show ret01 87 0 = true from rfl)]
theorem lp_in (d : Nat) {l2 : Int} (F : FS N s h a p i o c w C R) (q : kf 2 (C 3 4) = 3) (R0 : Sto) : ∃ o1 o2 : Option Vv, lp xs n d 0 l2 i C R0 = Rn (d + 6) 81 118 [some (2, 2), o1, o2, some (0, (i : Int)), some (2, C 3 4), none] [] (Sg xs n (mix C R0)) := by
  obtain ⟨k1, k2⟩ := FS_kc F
  obtain ⟨i1, _⟩ := FS_i F
  have k34 : ¬ C 3 4 = -34 := fun z => by rw [z] at q; exact absurd q (by decide)
  unfold lp
  rw [h81_16]
  simp only [mc1, uc1, mc2, uc2, mc3, uc3, mc4, uc4, mc5, uc5, mc6, uc6, mc7, uc7, mc8, uc8, mc9, uc9, mc10, uc10, mc11, uc11, mc12, uc12, mc13, uc13, mc14, uc14, mc15, uc15, mc16, uc16, mc17, uc17, mc18, uc18, mc19, uc19, mc20, uc20, mc21, uc21, mc22, uc22, mc23, uc23, mc24, uc24, mc25, uc25]
  rw [if_neg (fun z => z i1), if_pos trivial, if_pos (by rw [k2]; rfl), if_pos k34]
  exact ⟨_, _, rfl⟩
theorem lp_infix (d : Nat) {l2 : Int} {C' C'' : Sto} (F : FS N s h a p i o c w C R) (q : kf 2 (C 3 4) = 3) (hd : dcl xs n (d + 6) 85 [(2, 2)] C (0, 1) C') (ht : ∀ d : Nat, dcl xs n (d + 3) 116 [(2, 3)] C' (9, 0) C'') (R0 : Sto) : lp xs n d 0 l2 i C R0 = lp xs n d 1 (bB (kf 3 (C 3 4) < 3)) ((i + 1 : Nat) : Int) C'' R0 := by
  obtain ⟨k1, k2⟩ := FS_kc F
  obtain ⟨i1, _⟩ := FS_i F
  obtain ⟨o1, o2, e⟩ := lp_in (xs := xs) (n := n) (l2 := l2) d F q R0
  rw [e, h81_118, if_pos k1, if_neg (fun z => z q), hd R0, cK0, pR0, h81_131, if_pos (by decide), if_pos k1]
  by_cases u : kf 3 (C 3 4) < 3
  · rw [if_neg (fun z => z u), h81_152, bB_t u]
    exact lp_161 d i1 R0 ht
  · rw [if_pos u, h81_152, bB_f u]
    exact lp_161 d i1 R0 ht
theorem lp_infix_f (d : Nat) {l2 : Int} {C' : Sto} (F : FS N s h a p i o c w C R) (q : kf 2 (C 3 4) = 3) (hd : dcl xs n (d + 6) 85 [(2, 2)] C (0, 0) C') (R0 : Sto) : lp xs n d 0 l2 i C R0 = some ((0, 0), Sg xs n (mix C' R0)) := by
  obtain ⟨k1, k2⟩ := FS_kc F
  obtain ⟨o1, o2, e⟩ := lp_in (xs := xs) (n := n) (l2 := l2) d F q R0
  rw [e, h81_118, if_pos k1, if_neg (fun z => z q), hd R0, cK0, pR0, h81_131, if_neg (by decide)]
theorem lp_close (d : Nat) {l2 : Int} {C' C'' : Sto} (F : FS N s h a p i o c w C R) (q : C 3 4 = -34) (ho : 0 < o) (hd : dcl xs n (d + 6) 86 [(2, 2)] C (9, 0) C') (ht : ∀ d : Nat, dcl xs n (d + 3) 116 [(2, 3)] C' (9, 0) C'') (R0 : Sto) : lp xs n d 0 l2 i C R0 = lp xs n d 0 l2 ((i + 1 : Nat) : Int) C'' R0 := by
  obtain ⟨k1, k2⟩ := FS_kc F
  obtain ⟨i1, _⟩ := FS_i F
  obtain ⟨_, _, ⟨f6, f7, f8, f9⟩, _⟩ := F
  rw [show lp xs n d 0 l2 i C R0 = Rn (d + 6) 81 16 [some (2, 2), some (0, 0), some (0, l2), some (0, (i : Int)), none, none] [] (Sg xs n (mix C R0)) from rfl, h81_16]
  simp only [mc1, uc1, mc2, uc2, mc3, uc3, mc4, uc4, mc5, uc5, mc6, uc6, mc7, uc7, mc8, uc8, mc9, uc9, mc10, uc10, mc11, uc11, mc12, uc12, mc13, uc13, mc14, uc14, mc15, uc15, mc16, uc16, mc17, uc17, mc18, uc18, mc19, uc19, mc20, uc20, mc21, uc21, mc22, uc22, mc23, uc23, mc24, uc24, mc25, uc25]
  rw [if_neg (fun z => z i1), if_pos trivial, if_pos (by rw [k2]; rfl), if_neg (fun z => z q), f6.1, if_neg (by omega), hd R0, cK9, pRv, h81_115]
  exact lp_161 d i1 R0 ht
theorem lp_end (d : Nat) {l2 v : Int} {C' : Sto} (F : FS N s h a p i o c w C R) (q : ¬ kf 2 (C 3 4) = 3) (ho : ¬ C 3 4 = -34 ∨ o = 0) (hd : dcl xs n (d + 6) 87 [(2, 2)] C (0, v) C') (hv : v = 0 ∨ v = 1) (R0 : Sto) : lp xs n d 0 l2 i C R0 = some ((0, v), Sg xs n (mix C' R0)) := by
  obtain ⟨k1, k2⟩ := FS_kc F
  obtain ⟨i1, _⟩ := FS_i F
  have hr : ret01 81 v = true := by
    obtain e | e := hv
    · rw [e]; rfl
    · rw [e]; rfl
  have fin : ∀ o1 o2 : Option Vv, Rn (d + 6) 81 118 [some (2, 2), o1, o2, some (0, (i : Int)), some (2, C 3 4), none] [] (Sg xs n (mix C R0)) = some ((0, v), Sg xs n (mix C' R0)) := by
    intro o1 o2
    rw [h81_118, if_pos k1, if_pos q, hd R0, cK0, pR0, h81_160, if_pos hr]
  obtain ⟨_, _, ⟨f6, f7, f8, f9⟩, _⟩ := F
  rw [show lp xs n d 0 l2 i C R0 = Rn (d + 6) 81 16 [some (2, 2), some (0, 0), some (0, l2), some (0, (i : Int)), none, none] [] (Sg xs n (mix C R0)) from rfl, h81_16]
  simp only [mc1, uc1, mc2, uc2, mc3, uc3, mc4, uc4, mc5, uc5, mc6, uc6, mc7, uc7, mc8, uc8, mc9, uc9, mc10, uc10, mc11, uc11, mc12, uc12, mc13, uc13, mc14, uc14, mc15, uc15, mc16, uc16, mc17, uc17, mc18, uc18, mc19, uc19, mc20, uc20, mc21, uc21, mc22, uc22, mc23, uc23, mc24, uc24, mc25, uc25]
  rw [if_neg (fun z => z i1), if_pos trivial, if_pos (by rw [k2]; rfl)]
  by_cases u : C 3 4 = -34
  · rw [if_neg (fun z => z u), f6.1, if_pos (by omega)]
    exact fin _ _
  · rw [if_pos u]
    exact fin _ _
/-- with a fault the reference goes no further -/
theorem r217n (d : Nat) (h : ¬ R 129 21 = 0) : drf xs n (d + 1) 217 [(2, 129)] R (9, 0) R := by
  intro C0
  rw [n217, h217_0]
  simp only [mr129]
  rw [if_neg h]
theorem r216n4 (d : Nat) (h : ¬ R 129 21 = 0) (o1 : Option Vv) (C0 : Sto) : Rn (d + 1) 216 4 [some (2, 129), o1] [] (Sg xs n (mix C0 R)) = some ((9, 0), Sg xs n (mix C0 R)) := by
  rw [h216_4, r195 d C0, cK0, pR0, h216_10, bB_f (fun z => h z.1), if_neg (fun z => z rfl), r195 d C0, cK0, pR0, h216_19, bB_f (fun z => h z.1), if_pos rfl]
theorem r216n (d : Nat) (h : ¬ R 129 21 = 0) : drf xs n (d + 2) 216 [(2, 129)] R (9, 0) R := by
  intro C0
  rw [n216, h216_0, r217n d h C0, cK9, pRv]
  exact r216n4 d h _ C0
theorem r215n4 (d : Nat) (h : ¬ R 129 21 = 0) (o1 : Option Vv) (C0 : Sto) : Rn (d + 1) 215 4 [some (2, 129), o1] [] (Sg xs n (mix C0 R)) = some ((9, 0), Sg xs n (mix C0 R)) := by
  rw [h215_4, r195 d C0, cK0, pR0, h215_10, bB_f (fun z => h z.1), if_neg (fun z => z rfl), r195 d C0, cK0, pR0, h215_19, bB_f (fun z => h z.1), if_pos rfl]
theorem r215n (d : Nat) (h : ¬ R 129 21 = 0) : drf xs n (d + 3) 215 [(2, 129)] R (9, 0) R := by
  intro C0
  rw [n215, h215_0, r216n d h C0, cK9, pRv]
  exact r215n4 (d + 1) h _ C0
theorem r214n (d : Nat) (h : ¬ R 129 21 = 0) : drf xs n (d + 4) 214 [(2, 129)] R (9, 0) R := by
  intro C0
  rw [n214, h214_0, r194 (d + 2) C0, cK0, pR0, h214_6, bB_f (fun z => h z.1), if_pos rfl, r215n d h C0, cK9, pRv, h214_34]
  simp only [mr129]
  rw [if_pos h, h214_86]
theorem r213n4 (d : Nat) (h : ¬ R 129 21 = 0) (C0 : Sto) : Rn (d + 1) 213 4 [some (2, 129)] [] (Sg xs n (mix C0 R)) = some ((9, 0), Sg xs n (mix C0 R)) := by
  rw [h213_4, r194 d C0, cK0, pR0, h213_10, bB_f (fun z => h z.1), if_pos rfl]
theorem r213n (d : Nat) (h : ¬ R 129 21 = 0) : drf xs n (d + 5) 213 [(2, 129)] R (9, 0) R := by
  intro C0
  rw [n213, h213_0, r214n d h C0, cK9, pRv]
  exact r213n4 (d + 3) h C0
theorem r212n4 (d : Nat) (h : ¬ R 129 21 = 0) (C0 : Sto) : Rn (d + 1) 212 4 [some (2, 129)] [] (Sg xs n (mix C0 R)) = some ((9, 0), Sg xs n (mix C0 R)) := by
  rw [h212_4, r194 d C0, cK0, pR0, h212_10, bB_f (fun z => h z.1), if_pos rfl]
end S99m
