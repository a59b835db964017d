/-! Text: small calls of the reader and of the reference, apart from each other -/
theorem pRv {x : Int} {st : List Vv} : pushR (9, x) st = st := rfl
theorem uu {D : Sto} {z j a b : Int} : up (up D z j a) z j b = up D z j b := by
  funext y i
  unfold up
  split <;> rfl
section S99h
variable {xs : Int → Int} {n : Int × Int} {C R : Sto}
/-- the class fails -/
def flS (C : Sto) (k : Int) : Sto := up (up C 2 2 k) 2 3 (C 3 5)
/-- the reference finds a fault -/
def wrgS (R : Sto) (k : Int) : Sto := up (up R 129 21 k) 129 22 (R 129 18)
theorem e70 (d : Nat) (k : Int) : dcl xs n (d + 1) 70 [(2, 2), (0, k)] C (0, 0) (flS C k) := by
  intro R0
  rw [n70, h70_0]
  simp only [mc1, uc1, mc2, uc2, mc3, uc3, mc4, uc4, mc5, uc5, mc6, uc6, mc7, uc7, mc8, uc8, mc9, uc9, mc10, uc10, mc11, uc11, mc12, uc12, mc13, uc13, mc14, uc14, mc15, uc15, mc16, uc16, mc17, uc17, mc18, uc18, mc19, uc19, mc20, uc20, mc21, uc21, mc22, uc22, mc23, uc23, mc24, uc24, mc25, uc25]
  rfl
theorem e82 (d : Nat) {c : Int} (hc : C 19 0 = c) (h0 : 0 ≤ c) (h1 : c < 64) : dcl xs n (d + 2) 82 [(2, 2)] C (0, 1) (up C 19 0 (c + 1)) := by
  intro R0
  rw [n82, h82_0]
  simp only [mc1, uc1, mc2, uc2, mc3, uc3, mc4, uc4, mc5, uc5, mc6, uc6, mc7, uc7, mc8, uc8, mc9, uc9, mc10, uc10, mc11, uc11, mc12, uc12, mc13, uc13, mc14, uc14, mc15, uc15, mc16, uc16, mc17, uc17, mc18, uc18, mc19, uc19, mc20, uc20, mc21, uc21, mc22, uc22, mc23, uc23, mc24, uc24, mc25, uc25]
  rw [hc, if_pos h1, w32_idP (by omega) (by omega)]
theorem e82f (d : Nat) (h1 : ¬ C 19 0 < 64) : dcl xs n (d + 2) 82 [(2, 2)] C (0, 0) (flS C 2) := by
  intro R0
  rw [n82, h82_0]
  simp only [mc1, uc1, mc2, uc2, mc3, uc3, mc4, uc4, mc5, uc5, mc6, uc6, mc7, uc7, mc8, uc8, mc9, uc9, mc10, uc10, mc11, uc11, mc12, uc12, mc13, uc13, mc14, uc14, mc15, uc15, mc16, uc16, mc17, uc17, mc18, uc18, mc19, uc19, mc20, uc20, mc21, uc21, mc22, uc22, mc23, uc23, mc24, uc24, mc25, uc25]
  rw [if_neg h1, e70 d 2 R0, cK0, pR0, h82_20, if_pos (show ret01 82 0 = true from rfl)]
theorem e88 (d : Nat) {a k : Int} (ha : C 2 5 = a) (h0 : 0 ≤ a) (h1 : a < 72) (hk : okK0 k = true) : dcl xs n (d + 1) 88 [(2, 2), (2, k)] C (9, 0) (up (up C 25 a k) 2 5 (a + 1)) := by
  intro R0
  rw [n88, h88_0]
  simp only [mc1, uc1, mc2, uc2, mc3, uc3, mc4, uc4, mc5, uc5, mc6, uc6, mc7, uc7, mc8, uc8, mc9, uc9, mc10, uc10, mc11, uc11, mc12, uc12, mc13, uc13, mc14, uc14, mc15, uc15, mc16, uc16, mc17, uc17, mc18, uc18, mc19, uc19, mc20, uc20, mc21, uc21, mc22, uc22, mc23, uc23, mc24, uc24, mc25, uc25]
  rw [ha, if_neg (fun z => z h1), if_pos (by rw [inb_t h0 h1, hk]; rfl), h88_32, w32_idP (by omega) (by omega)]
theorem e41 (d : Nat) {w k v : Int} (hw : C 19 6 = w) (h0 : 0 ≤ w) (h1 : w < 64) (hk : okK0 k = true) : dcl xs n (d + 1) 41 [(2, 19), (2, k), (0, v)] C (9, 0) (up (up (up C 20 w k) 21 w v) 19 6 (w + 1)) := by
  intro R0
  rw [n41, h41_0]
  simp only [mc1, uc1, mc2, uc2, mc3, uc3, mc4, uc4, mc5, uc5, mc6, uc6, mc7, uc7, mc8, uc8, mc9, uc9, mc10, uc10, mc11, uc11, mc12, uc12, mc13, uc13, mc14, uc14, mc15, uc15, mc16, uc16, mc17, uc17, mc18, uc18, mc19, uc19, mc20, uc20, mc21, uc21, mc22, uc22, mc23, uc23, mc24, uc24, mc25, uc25]
  rw [hw, if_neg (fun z => z h1), if_pos (by rw [inb_t h0 h1, hk]; rfl), if_pos (inb_t h0 h1), h41_39, w32_idP (by omega) (by omega)]
/-- the rank on top of what waits -/
def topR (C : Sto) : Int := if ¬ 0 < C 2 5 then 0 else kf 3 (C 25 (C 2 5 - 1))
theorem e89 (d : Nat) {a : Int} (ha : C 2 5 = a) (h0 : 0 ≤ a) (h1 : a ≤ 72) (hk : 0 < a → okK (C 25 (a - 1)) = true) : dcl xs n (d + 1) 89 [(2, 2)] C (0, topR C) C := by
  intro R0
  rw [n89, h89_0]
  simp only [mc1, uc1, mc2, uc2, mc3, uc3, mc4, uc4, mc5, uc5, mc6, uc6, mc7, uc7, mc8, uc8, mc9, uc9, mc10, uc10, mc11, uc11, mc12, uc12, mc13, uc13, mc14, uc14, mc15, uc15, mc16, uc16, mc17, uc17, mc18, uc18, mc19, uc19, mc20, uc20, mc21, uc21, mc22, uc22, mc23, uc23, mc24, uc24, mc25, uc25]
  unfold topR
  rw [ha]
  by_cases q : 0 < a
  · have kk := hk q
    have k0 : ¬ C 25 (a - 1) = 0 := fun z => by rw [z] at kk; exact absurd kk (by decide)
    rw [if_neg (fun z => z q), w32_idP (by omega) (by omega), if_pos (inb_t (by omega) (by omega)), h89_22, if_pos k0, if_pos kk, h89_35, if_neg (fun z => z q)]
  · rw [if_pos q, h89_22, if_neg (fun z => z rfl), h89_35, if_pos q]
theorem r193 (d : Nat) {k : Int} (h : R 129 21 = 0) : drf xs n (d + 1) 193 [(2, 129), (0, k)] R (9, 0) (wrgS R k) := by
  intro C0
  rw [n193, h193_0]
  simp only [mr129, ur129, mr130, ur130, mr131, ur131, mr132, ur132, mr133, ur133, mr134, ur134, mr135, ur135, mr136, ur136, mr137, ur137, mr138, ur138, mr139, ur139, mr140, ur140, mr141, ur141]
  rw [if_pos h]
  rfl
theorem r193n (d : Nat) {k : Int} (h : ¬ R 129 21 = 0) : drf xs n (d + 1) 193 [(2, 129), (0, k)] R (9, 0) R := by
  intro C0
  rw [n193, h193_0]
  simp only [mr129, ur129, mr130, ur130, mr131, ur131, mr132, ur132, mr133, ur133, mr134, ur134, mr135, ur135, mr136, ur136, mr137, ur137, mr138, ur138, mr139, ur139, mr140, ur140, mr141, ur141]
  rw [if_neg h]
theorem r194 (d : Nat) {w : Int} : drf xs n (d + 1) 194 [(2, 129), (0, w)] R (0, bB (R 129 21 = 0 ∧ R 129 19 = 0 ∧ R 129 20 = w)) R := by
  have hr : ret01 194 0 = true ∧ ret01 194 1 = true := ⟨rfl, rfl⟩
  intro C0
  rw [n194, h194_0]
  simp only [mr129, ur129, mr130, ur130, mr131, ur131, mr132, ur132, mr133, ur133, mr134, ur134, mr135, ur135, mr136, ur136, mr137, ur137, mr138, ur138, mr139, ur139, mr140, ur140, mr141, ur141, h194_26, h194_27, hr, if_true]
  by_cases a : R 129 21 = 0
  · rw [if_neg (fun z => z a)]
    by_cases b : R 129 19 = 0
    · rw [if_neg (fun z => z b)]
      by_cases c : R 129 20 = w
      · rw [if_neg (fun z => z c), bB_t ⟨a, b, c⟩]
      · rw [if_pos c, bB_f (fun z => c z.2.2)]
    · rw [if_pos b, bB_f (fun z => b z.2.1)]
  · rw [if_pos a, bB_f (fun z => a z.1)]
theorem r195 (d : Nat) {w : Int} : drf xs n (d + 1) 195 [(2, 129), (0, w)] R (0, bB (R 129 21 = 0 ∧ R 129 19 = 3 ∧ R 129 20 = w)) R := by
  have hr : ret01 195 0 = true ∧ ret01 195 1 = true := ⟨rfl, rfl⟩
  intro C0
  rw [n195, h195_0]
  simp only [mr129, ur129, mr130, ur130, mr131, ur131, mr132, ur132, mr133, ur133, mr134, ur134, mr135, ur135, mr136, ur136, mr137, ur137, mr138, ur138, mr139, ur139, mr140, ur140, mr141, ur141, h195_27, h195_28, hr, if_true]
  by_cases a : R 129 21 = 0
  · rw [if_neg (fun z => z a)]
    by_cases b : R 129 19 = 3
    · rw [if_neg (fun z => z b)]
      by_cases c : R 129 20 = w
      · rw [if_neg (fun z => z c), bB_t ⟨a, b, c⟩]
      · rw [if_pos c, bB_f (fun z => c z.2.2)]
    · rw [if_pos b, bB_f (fun z => b z.2.1)]
  · rw [if_pos a, bB_f (fun z => a z.1)]
theorem r196n (d : Nat) (h : ¬ R 129 21 = 0) : drf xs n (d + 1) 196 [(2, 129)] R (9, 0) R := by
  intro C0
  rw [n196, h196_0]
  simp only [mr129, ur129, mr130, ur130, mr131, ur131, mr132, ur132, mr133, ur133, mr134, ur134, mr135, ur135, mr136, ur136, mr137, ur137, mr138, ur138, mr139, ur139, mr140, ur140, mr141, ur141]
  rw [if_pos h, h196_11]
theorem r196 (d : Nat) {R' : Sto} (h : R 129 21 = 0) (ht : drf xs n d 189 [(2, 129)] R (9, 0) R') : drf xs n (d + 1) 196 [(2, 129)] R (9, 0) R' := by
  intro C0
  rw [n196, h196_0]
  simp only [mr129, ur129, mr130, ur130, mr131, ur131, mr132, ur132, mr133, ur133, mr134, ur134, mr135, ur135, mr136, ur136, mr137, ur137, mr138, ur138, mr139, ur139, mr140, ur140, mr141, ur141]
  rw [if_neg (fun z => z h), ht C0, cK9, pRv, h196_11]
theorem r200 (d : Nat) {k : Int} (h0 : 0 ≤ k) (h1 : k < 7) : drf xs n (d + 1) 200 [(2, 129), (0, k)] R (0, R 131 (7 + k)) R := by
  intro C0
  rw [n200, h200_0, w32_idP (by omega) (by omega), if_pos (inb_t (by omega) (by omega))]
  simp only [mr129, ur129, mr130, ur130, mr131, ur131, mr132, ur132, mr133, ur133, mr134, ur134, mr135, ur135, mr136, ur136, mr137, ur137, mr138, ur138, mr139, ur139, mr140, ur140, mr141, ur141]
theorem r201 (d : Nat) {k v : Int} (h0 : 0 ≤ k) (h1 : k < 7) : drf xs n (d + 1) 201 [(2, 129), (0, k), (0, v)] R (9, 0) (up R 131 (7 + k) v) := by
  intro C0
  rw [n201, h201_0, w32_idP (by omega) (by omega), if_pos (inb_t (by omega) (by omega))]
  simp only [mr129, ur129, mr130, ur130, mr131, ur131, mr132, ur132, mr133, ur133, mr134, ur134, mr135, ur135, mr136, ur136, mr137, ur137, mr138, ur138, mr139, ur139, mr140, ur140, mr141, ur141]
/-- a knot is put -/
def ptS (R : Sto) (w its v : Int) : Sto := up (up (up R 140 (64 + w) its) 141 (64 + w) v) 131 13 (w + 1)
theorem r210n (d : Nat) {its v : Int} (h : ¬ R 129 21 = 0) : drf xs n (d + 2) 210 [(2, 129), (0, its), (0, v)] R (9, 0) R := by
  intro C0
  rw [n210, h210_0]
  simp only [mr129, ur129, mr130, ur130, mr131, ur131, mr132, ur132, mr133, ur133, mr134, ur134, mr135, ur135, mr136, ur136, mr137, ur137, mr138, ur138, mr139, ur139, mr140, ur140, mr141, ur141]
  rw [if_neg h]
theorem r210 (d : Nat) {w its v : Int} (h : R 129 21 = 0) (hw : R 131 13 = w) (h0 : 0 ≤ w) (h1 : w < 64) : drf xs n (d + 2) 210 [(2, 129), (0, its), (0, v)] R (9, 0) (ptS R w its v) := by
  intro C0
  have e6 : ∀ R1 : Sto, R1 131 13 = w → den (d + 1) 200 [(2, 129), (0, 6)] (Sg xs n (mix C0 R1)) = some ((0, w), Sg xs n (mix C0 R1)) := fun R1 q => by
    have := r200 (xs := xs) (n := n) (R := R1) d (k := 6) (by omega) (by omega) C0
    rw [show (7 : Int) + 6 = 13 from rfl, q] at this
    exact this
  have i1 := inb_t (show 0 ≤ 64 + w by omega) (show 64 + w < 128 by omega)
  have w64 : w32 (64 + w) = 64 + w := w32_idP (by omega) (by omega)
  rw [n210, h210_0]
  simp only [mr129]
  rw [if_pos h, e6 R hw, cK0]
  show Rn (d + 1) 210 20 [some (2, 129), some (0, its), some (0, v)] [(0, w), (0, 64), (2, 140)] (Sg xs n (mix C0 R)) = _
  rw [h210_20, w64, if_pos i1, ur140, e6 _ (by rw [up_ne (by decide)]; exact hw), cK0]
  show Rn (d + 1) 210 35 [some (2, 129), some (0, its), some (0, v)] [(0, w), (0, 64), (2, 141)] _ = _
  rw [h210_35, w64, if_pos i1, ur141, e6 _ (by rw [up_ne (by decide), up_ne (by decide)]; exact hw), cK0]
  show Rn (d + 1) 210 47 [some (2, 129), some (0, its), some (0, v)] [(0, w), (0, 6), (2, 129)] _ = _
  rw [h210_47, w32_idP (by omega) (by omega), r201 d (by omega) (by omega) C0, cK9, pRv, h210_52]
  rfl
theorem r211n (d : Nat) (h : ¬ R 129 21 = 0) : drf xs n (d + 2) 211 [(2, 129)] R (9, 0) R := by
  intro C0
  rw [n211, h211_0]
  simp only [mr129]
  rw [if_neg h]
theorem r211 (d : Nat) {c : Int} (h : R 129 21 = 0) (hc : R 129 26 = c) (h0 : 0 ≤ c) (h1 : c < 64) : drf xs n (d + 2) 211 [(2, 129)] R (9, 0) (up R 129 26 (c + 1)) := by
  intro C0
  rw [n211, h211_0]
  simp only [mr129]
  rw [if_pos h, hc, if_pos (by omega), ur129, w32_idP (by omega) (by omega), h211_35]
theorem r211f (d : Nat) (h : R 129 21 = 0) (hc : R 129 26 = 64) : drf xs n (d + 2) 211 [(2, 129)] R (9, 0) (wrgS R 2) := by
  intro C0
  rw [n211, h211_0]
  simp only [mr129]
  rw [if_pos h, hc, if_neg (fun z => z rfl), r193 d h C0, cK9, pRv, h211_22, h211_35]
end S99h
