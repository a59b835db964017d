/-! Text: halves taken over; bases that nobody told -/
def hfS (R : Sto) (z h k : Int) : Sto := fun y j => if y = z ∧ 0 ≤ j ∧ j < k then R z (h + j) else R y j
theorem hf_s {R : Sto} {z h : Int} {k : Nat} (hk : (k : Int) < h) : up (hfS R z h k) z (k : Int) (hfS R z h k z (h + k)) = hfS R z h ((k + 1 : Nat) : Int) := by
  funext y j
  have e : hfS R z h k z (h + k) = R z (h + k) := by
    unfold hfS
    rw [if_neg (by omega)]
  rw [e]
  unfold up hfS
  by_cases a : y = z ∧ j = (k : Int)
  · rw [if_pos a, if_pos (by omega), a.2]
  · rw [if_neg a]
    by_cases b : y = z ∧ 0 ≤ j ∧ j < (k : Int)
    · rw [if_pos b, if_pos (by omega)]
    · rw [if_neg b, if_neg (by omega)]
theorem hf_0 {R : Sto} {z h : Int} : hfS R z h ((0 : Nat) : Int) = R := by
  funext y j
  unfold hfS
  rw [if_neg (by omega)]
section S99ze
variable {xs : Int → Int} {n : Int × Int} {C R : Sto} {nb m : Nat}
theorem r218a (d : Nat) : drf xs n (d + 1) 218 [(2, 131)] R (9, 0) (hfS R 131 7 7) := by
  intro C0
  have st : ∀ r k : Nat, k + r = 7 → Rn d 218 7 [some (2, 131), some (0, 7), some (0, (k : Int))] [] (Sg xs n (mix C0 (hfS R 131 7 (k : Int)))) = some ((9, 0), Sg xs n (mix C0 (hfS R 131 7 7))) := by
    intro r
    induction r with
    | zero =>
      intro k hk
      have e : k = 7 := by omega
      subst e
      rw [h218a_7, if_pos (by decide)]
      rfl
    | succ r ih =>
      intro k hk
      rw [h218a_7, if_neg (by omega), w32_idP (z := 7 + (k : Int)) (by omega) (by omega), if_pos (inb_t (by omega) (by omega)), if_pos (inb_t (by omega) (by omega)), w1 (by omega), mr131, ur131, hf_s (by omega)]
      exact ih (k + 1) (by omega)
  have e0 := st 7 0 (by decide)
  rw [hf_0] at e0
  rw [n218a, h218a_0, if_pos (by decide)]
  exact e0
theorem r218b (d : Nat) : drf xs n (d + 1) 218 [(2, 132)] R (9, 0) (hfS R 132 8 8) := by
  intro C0
  have st : ∀ r k : Nat, k + r = 8 → Rn d 218 7 [some (2, 132), some (0, 8), some (0, (k : Int))] [] (Sg xs n (mix C0 (hfS R 132 8 (k : Int)))) = some ((9, 0), Sg xs n (mix C0 (hfS R 132 8 8))) := by
    intro r
    induction r with
    | zero =>
      intro k hk
      have e : k = 8 := by omega
      subst e
      rw [h218b_7, if_pos (by decide)]
      rfl
    | succ r ih =>
      intro k hk
      rw [h218b_7, if_neg (by omega), w32_idP (z := 8 + (k : Int)) (by omega) (by omega), if_pos (inb_t (by omega) (by omega)), if_pos (inb_t (by omega) (by omega)), w1 (by omega), mr132, ur132, hf_s (by omega)]
      exact ih (k + 1) (by omega)
  have e0 := st 8 0 (by decide)
  rw [hf_0] at e0
  rw [n218b, h218b_0, if_pos (by decide)]
  exact e0
theorem r218c (d : Nat) : drf xs n (d + 1) 218 [(2, 133)] R (9, 0) (hfS R 133 8 8) := by
  intro C0
  have st : ∀ r k : Nat, k + r = 8 → Rn d 218 7 [some (2, 133), some (0, 8), some (0, (k : Int))] [] (Sg xs n (mix C0 (hfS R 133 8 (k : Int)))) = some ((9, 0), Sg xs n (mix C0 (hfS R 133 8 8))) := by
    intro r
    induction r with
    | zero =>
      intro k hk
      have e : k = 8 := by omega
      subst e
      rw [h218c_7, if_pos (by decide)]
      rfl
    | succ r ih =>
      intro k hk
      rw [h218c_7, if_neg (by omega), w32_idP (z := 8 + (k : Int)) (by omega) (by omega), if_pos (inb_t (by omega) (by omega)), if_pos (inb_t (by omega) (by omega)), w1 (by omega), mr133, ur133, hf_s (by omega)]
      exact ih (k + 1) (by omega)
  have e0 := st 8 0 (by decide)
  rw [hf_0] at e0
  rw [n218c, h218c_0, if_pos (by decide)]
  exact e0
theorem r218d (d : Nat) : drf xs n (d + 1) 218 [(2, 134)] R (9, 0) (hfS R 134 8 8) := by
  intro C0
  have st : ∀ r k : Nat, k + r = 8 → Rn d 218 7 [some (2, 134), some (0, 8), some (0, (k : Int))] [] (Sg xs n (mix C0 (hfS R 134 8 (k : Int)))) = some ((9, 0), Sg xs n (mix C0 (hfS R 134 8 8))) := by
    intro r
    induction r with
    | zero =>
      intro k hk
      have e : k = 8 := by omega
      subst e
      rw [h218d_7, if_pos (by decide)]
      rfl
    | succ r ih =>
      intro k hk
      rw [h218d_7, if_neg (by omega), w32_idP (z := 8 + (k : Int)) (by omega) (by omega), if_pos (inb_t (by omega) (by omega)), if_pos (inb_t (by omega) (by omega)), w1 (by omega), mr134, ur134, hf_s (by omega)]
      exact ih (k + 1) (by omega)
  have e0 := st 8 0 (by decide)
  rw [hf_0] at e0
  rw [n218d, h218d_0, if_pos (by decide)]
  exact e0
theorem r218e (d : Nat) : drf xs n (d + 1) 218 [(2, 135)] R (9, 0) (hfS R 135 8 8) := by
  intro C0
  have st : ∀ r k : Nat, k + r = 8 → Rn d 218 7 [some (2, 135), some (0, 8), some (0, (k : Int))] [] (Sg xs n (mix C0 (hfS R 135 8 (k : Int)))) = some ((9, 0), Sg xs n (mix C0 (hfS R 135 8 8))) := by
    intro r
    induction r with
    | zero =>
      intro k hk
      have e : k = 8 := by omega
      subst e
      rw [h218e_7, if_pos (by decide)]
      rfl
    | succ r ih =>
      intro k hk
      rw [h218e_7, if_neg (by omega), w32_idP (z := 8 + (k : Int)) (by omega) (by omega), if_pos (inb_t (by omega) (by omega)), if_pos (inb_t (by omega) (by omega)), w1 (by omega), mr135, ur135, hf_s (by omega)]
      exact ih (k + 1) (by omega)
  have e0 := st 8 0 (by decide)
  rw [hf_0] at e0
  rw [n218e, h218e_0, if_pos (by decide)]
  exact e0
theorem r218f (d : Nat) : drf xs n (d + 1) 218 [(2, 136)] R (9, 0) (hfS R 136 16 16) := by
  intro C0
  have st : ∀ r k : Nat, k + r = 16 → Rn d 218 7 [some (2, 136), some (0, 16), some (0, (k : Int))] [] (Sg xs n (mix C0 (hfS R 136 16 (k : Int)))) = some ((9, 0), Sg xs n (mix C0 (hfS R 136 16 16))) := by
    intro r
    induction r with
    | zero =>
      intro k hk
      have e : k = 16 := by omega
      subst e
      rw [h218f_7, if_pos (by decide)]
      rfl
    | succ r ih =>
      intro k hk
      rw [h218f_7, if_neg (by omega), w32_idP (z := 16 + (k : Int)) (by omega) (by omega), if_pos (inb_t (by omega) (by omega)), if_pos (inb_t (by omega) (by omega)), w1 (by omega), mr136, ur136, hf_s (by omega)]
      exact ih (k + 1) (by omega)
  have e0 := st 16 0 (by decide)
  rw [hf_0] at e0
  rw [n218f, h218f_0, if_pos (by decide)]
  exact e0
theorem r218g (d : Nat) : drf xs n (d + 1) 218 [(2, 137)] R (9, 0) (hfS R 137 16 16) := by
  intro C0
  have st : ∀ r k : Nat, k + r = 16 → Rn d 218 7 [some (2, 137), some (0, 16), some (0, (k : Int))] [] (Sg xs n (mix C0 (hfS R 137 16 (k : Int)))) = some ((9, 0), Sg xs n (mix C0 (hfS R 137 16 16))) := by
    intro r
    induction r with
    | zero =>
      intro k hk
      have e : k = 16 := by omega
      subst e
      rw [h218g_7, if_pos (by decide)]
      rfl
    | succ r ih =>
      intro k hk
      rw [h218g_7, if_neg (by omega), w32_idP (z := 16 + (k : Int)) (by omega) (by omega), if_pos (inb_t (by omega) (by omega)), if_pos (inb_t (by omega) (by omega)), w1 (by omega), mr137, ur137, hf_s (by omega)]
      exact ih (k + 1) (by omega)
  have e0 := st 16 0 (by decide)
  rw [hf_0] at e0
  rw [n218g, h218g_0, if_pos (by decide)]
  exact e0
theorem r218h (d : Nat) : drf xs n (d + 1) 218 [(2, 138)] R (9, 0) (hfS R 138 3 3) := by
  intro C0
  have st : ∀ r k : Nat, k + r = 3 → Rn d 218 7 [some (2, 138), some (0, 3), some (0, (k : Int))] [] (Sg xs n (mix C0 (hfS R 138 3 (k : Int)))) = some ((9, 0), Sg xs n (mix C0 (hfS R 138 3 3))) := by
    intro r
    induction r with
    | zero =>
      intro k hk
      have e : k = 3 := by omega
      subst e
      rw [h218h_7, if_pos (by decide)]
      rfl
    | succ r ih =>
      intro k hk
      rw [h218h_7, if_neg (by omega), w32_idP (z := 3 + (k : Int)) (by omega) (by omega), if_pos (inb_t (by omega) (by omega)), if_pos (inb_t (by omega) (by omega)), w1 (by omega), mr138, ur138, hf_s (by omega)]
      exact ih (k + 1) (by omega)
  have e0 := st 3 0 (by decide)
  rw [hf_0] at e0
  rw [n218h, h218h_0, if_pos (by decide)]
  exact e0
theorem r218i (d : Nat) : drf xs n (d + 1) 218 [(2, 139)] R (9, 0) (hfS R 139 3 3) := by
  intro C0
  have st : ∀ r k : Nat, k + r = 3 → Rn d 218 7 [some (2, 139), some (0, 3), some (0, (k : Int))] [] (Sg xs n (mix C0 (hfS R 139 3 (k : Int)))) = some ((9, 0), Sg xs n (mix C0 (hfS R 139 3 3))) := by
    intro r
    induction r with
    | zero =>
      intro k hk
      have e : k = 3 := by omega
      subst e
      rw [h218i_7, if_pos (by decide)]
      rfl
    | succ r ih =>
      intro k hk
      rw [h218i_7, if_neg (by omega), w32_idP (z := 3 + (k : Int)) (by omega) (by omega), if_pos (inb_t (by omega) (by omega)), if_pos (inb_t (by omega) (by omega)), w1 (by omega), mr139, ur139, hf_s (by omega)]
      exact ih (k + 1) (by omega)
  have e0 := st 3 0 (by decide)
  rw [hf_0] at e0
  rw [n218i, h218i_0, if_pos (by decide)]
  exact e0
theorem r218j (d : Nat) : drf xs n (d + 1) 218 [(2, 140)] R (9, 0) (hfS R 140 64 64) := by
  intro C0
  have st : ∀ r k : Nat, k + r = 64 → Rn d 218 7 [some (2, 140), some (0, 64), some (0, (k : Int))] [] (Sg xs n (mix C0 (hfS R 140 64 (k : Int)))) = some ((9, 0), Sg xs n (mix C0 (hfS R 140 64 64))) := by
    intro r
    induction r with
    | zero =>
      intro k hk
      have e : k = 64 := by omega
      subst e
      rw [h218j_7, if_pos (by decide)]
      rfl
    | succ r ih =>
      intro k hk
      rw [h218j_7, if_neg (by omega), w32_idP (z := 64 + (k : Int)) (by omega) (by omega), if_pos (inb_t (by omega) (by omega)), if_pos (inb_t (by omega) (by omega)), w1 (by omega), mr140, ur140, hf_s (by omega)]
      exact ih (k + 1) (by omega)
  have e0 := st 64 0 (by decide)
  rw [hf_0] at e0
  rw [n218j, h218j_0, if_pos (by decide)]
  exact e0
theorem r218k (d : Nat) : drf xs n (d + 1) 218 [(2, 141)] R (9, 0) (hfS R 141 64 64) := by
  intro C0
  have st : ∀ r k : Nat, k + r = 64 → Rn d 218 7 [some (2, 141), some (0, 64), some (0, (k : Int))] [] (Sg xs n (mix C0 (hfS R 141 64 (k : Int)))) = some ((9, 0), Sg xs n (mix C0 (hfS R 141 64 64))) := by
    intro r
    induction r with
    | zero =>
      intro k hk
      have e : k = 64 := by omega
      subst e
      rw [h218k_7, if_pos (by decide)]
      rfl
    | succ r ih =>
      intro k hk
      rw [h218k_7, if_neg (by omega), w32_idP (z := 64 + (k : Int)) (by omega) (by omega), if_pos (inb_t (by omega) (by omega)), if_pos (inb_t (by omega) (by omega)), w1 (by omega), mr141, ur141, hf_s (by omega)]
      exact ih (k + 1) (by omega)
  have e0 := st 64 0 (by decide)
  rw [hf_0] at e0
  rw [n218k, h218k_0, if_pos (by decide)]
  exact e0
def fsE (f g : Int → Int) (v : Int) : Nat → Int
  | 0 => -1
  | k + 1 => if fsE f g v k < 0 then (if f (k : Int) = v then g (k : Int) else -1) else fsE f g v k
theorem fs_b {f g : Int → Int} {v : Int} : ∀ k : Nat, (∀ j : Nat, j < k → 0 ≤ g j) → -1 ≤ fsE f g v k := by
  intro k
  induction k with
  | zero => intro _; exact Int.le_refl _
  | succ k ih =>
    intro h
    have := ih (fun j hj => h j (by omega))
    have hk := h k (by omega)
    rw [show fsE f g v (k + 1) = if fsE f g v k < 0 then (if f (k : Int) = v then g (k : Int) else -1) else fsE f g v k from rfl]
    by_cases q : fsE f g v k < 0
    · rw [if_pos q]
      by_cases z : f (k : Int) = v
      · rw [if_pos z]; omega
      · rw [if_neg z]; omega
    · rw [if_neg q]; exact this
theorem nth_no {f g : Int → Int} {v : Int} {M : Nat} (h : ∀ k : Nat, k < M → ¬ f k = v) : ∀ (r : Nat) (i : Int), r ≤ M → nthE f g v M r i = -1 := by
  intro r
  induction r with
  | zero => intro i _; rfl
  | succ r ih =>
    intro i hr
    rw [show nthE f g v M (r + 1) i = if f ((M - (r + 1) : Nat) : Int) = v then (if i = 0 then g ((M - (r + 1) : Nat) : Int) else nthE f g v M r (i - 1)) else nthE f g v M r i from rfl, if_neg (h (M - (r + 1)) (by omega))]
    exact ih i (by omega)
theorem cnt_none {f : Int → Int} {v : Int} : ∀ m : Nat, cntE f v m = 0 → ∀ k : Nat, k < m → ¬ f k = v := by
  intro m
  induction m with
  | zero => intro _ k hk; omega
  | succ m ih =>
    intro h k hk
    have b := (cntE_b f v m).1
    rw [show cntE f v (m + 1) = cntE f v m + (if f (m : Int) = v then 1 else 0) from rfl] at h
    by_cases z : f (m : Int) = v
    · rw [if_pos z] at h
      omega
    · rw [if_neg z] at h
      by_cases q : k = m
      · rw [q]; exact z
      · exact ih (by omega) k (by omega)
theorem fs_no {f g : Int → Int} {v : Int} : ∀ k : Nat, (∀ j : Nat, j < k → ¬ f j = v) → fsE f g v k = -1 := by
  intro k
  induction k with
  | zero => intro _; rfl
  | succ k ih =>
    intro h
    rw [show fsE f g v (k + 1) = if fsE f g v k < 0 then (if f (k : Int) = v then g (k : Int) else -1) else fsE f g v k from rfl, ih (fun j hj => h j (by omega)), if_pos (by decide), if_neg (h k (by omega))]
theorem fs_eq {f g : Int → Int} {v : Int} {m : Nat} (hg : ∀ j : Nat, j < m → 0 ≤ g j) : fsE f g v m = nthE f g v m m 0 := by
  have cb := (cntE_b f v m).1
  by_cases q : cntE f v m = 0
  · have no := cnt_none m q
    rw [fs_no m no, nth_no no m 0 (Nat.le_refl m)]
  · obtain ⟨e, e1, e2, e3⟩ := cnt_find (f := f) (v := v) m 0 (by decide) (by omega)
    have a := nth_e (f := f) (g := g) (v := v) e1 e2
    rw [e3] at a
    have st : ∀ d : Nat, e + 1 + d ≤ m → fsE f g v (e + 1 + d) = g e := by
      intro d
      induction d with
      | zero =>
        intro _
        rw [Nat.add_zero, show fsE f g v (e + 1) = if fsE f g v e < 0 then (if f (e : Int) = v then g (e : Int) else -1) else fsE f g v e from rfl, fs_no e (cnt_none e e3), if_pos (by decide), if_pos e2]
      | succ d ih =>
        intro hd
        have := hg e e1
        rw [show e + 1 + (d + 1) = (e + 1 + d) + 1 from rfl, show fsE f g v (e + 1 + d + 1) = if fsE f g v (e + 1 + d) < 0 then (if f ((e + 1 + d : Nat) : Int) = v then g ((e + 1 + d : Nat) : Int) else -1) else fsE f g v (e + 1 + d) from rfl, ih (by omega), if_neg (by omega)]
    rw [a]
    have s := st (m - (e + 1)) (by omega)
    rw [show e + 1 + (m - (e + 1)) = m by omega] at s
    exact s
/-- bases behind the k-th edge -/
def fnS (C : Sto) (nb : Int) (k : Nat) : Sto := fun z j => if z = 15 ∧ 0 ≤ j ∧ j < nb ∧ C 15 j < 0 then fsE (C 11) (C 10) j k else C z j
theorem e5 (d : Nat) (h9 : C 9 1 = (m : Int)) (hm : m ≤ 16) (h8 : nb ≤ 8) (hb : ∀ b : Nat, b < nb → -1 ≤ C 15 b) (he : ∀ k : Nat, k < m → (0 ≤ C 10 k ∧ C 10 k < nb) ∧ (0 ≤ C 11 k ∧ C 11 k < nb)) : dcl xs n (d + 1) 5 [(2, 9)] C (9, 0) (fnS C nb m) := by
  intro R0
  have f9 : ∀ k : Nat, fnS C nb k 9 = C 9 := fun k => by funext j; unfold fnS; rw [if_neg (by omega)]
  have f10 : ∀ k : Nat, fnS C nb k 10 = C 10 := fun k => by funext j; unfold fnS; rw [if_neg (by omega)]
  have f11 : ∀ k : Nat, fnS C nb k 11 = C 11 := fun k => by funext j; unfold fnS; rw [if_neg (by omega)]
  have st : ∀ r k : Nat, k + r = m → Rn d 5 2 [some (2, 9), some (0, (k : Int))] [] (Sg xs n (mix (fnS C nb k) R0)) = some ((9, 0), Sg xs n (mix (fnS C nb m) R0)) := by
    intro r
    induction r with
    | zero =>
      intro k hk
      have e : k = m := by omega
      rw [e, h5_2]
      simp only [mc9]
      rw [f9, h9, if_pos (by omega)]
    | succ r ih =>
      intro k hk
      obtain ⟨⟨a1, a2⟩, a3, a4⟩ := he k (by omega)
      have ik := inb_t (show 0 ≤ (k : Int) by omega) (show (k : Int) < 16 by omega)
      have it := inb_t (show 0 ≤ C 11 k by omega) (show C 11 k < 8 by omega)
      have fg : ∀ j : Nat, j < k → 0 ≤ C 10 j := fun j hj => (he j (by omega)).1.1
      have nx : Rn d 5 41 [some (2, 9), some (0, (k : Int))] [] (Sg xs n (mix (fnS C nb (k + 1)) R0)) = some ((9, 0), Sg xs n (mix (fnS C nb m) R0)) := by
        rw [h5_41, w1 (by omega)]
        exact ih (k + 1) (by omega)
      have keep : ∀ j : Int, ¬ j = C 11 k → fsE (C 11) (C 10) j (k + 1) = fsE (C 11) (C 10) j k := by
        intro j hj
        have b := fs_b (f := C 11) (g := C 10) (v := j) k fg
        rw [show fsE (C 11) (C 10) j (k + 1) = if fsE (C 11) (C 10) j k < 0 then (if C 11 (k : Int) = j then C 10 (k : Int) else -1) else fsE (C 11) (C 10) j k from rfl]
        by_cases q : fsE (C 11) (C 10) j k < 0
        · rw [if_pos q, if_neg (fun z => hj z.symm)]
          omega
        · rw [if_neg q]
      have at15 : fnS C nb k 15 (C 11 k) = if C 15 (C 11 k) < 0 then fsE (C 11) (C 10) (C 11 k) k else C 15 (C 11 k) := by
        unfold fnS
        by_cases q : C 15 (C 11 k) < 0
        · rw [if_pos ⟨rfl, a3, a4, q⟩, if_pos q]
        · rw [if_neg (fun z => q z.2.2.2), if_neg q]
      rw [h5_2]
      simp only [mc9, mc10, mc11, mc15, uc15]
      rw [f9, f10, f11, h9, if_neg (by omega), if_pos ik, if_pos it]
      by_cases q : fnS C nb k 15 (C 11 k) < 0
      · rw [if_neg (fun z => z q), if_pos ik, if_pos ik, if_pos it]
        have e : up (fnS C nb k) 15 (C 11 k) (C 10 k) = fnS C nb (k + 1) := by
          funext z j
          unfold up
          by_cases y : z = 15 ∧ j = C 11 k
          · obtain ⟨y1, y2⟩ := y
            subst y1
            rw [if_pos ⟨rfl, y2⟩, y2]
            rw [at15] at q
            unfold fnS
            by_cases w : C 15 (C 11 k) < 0
            · rw [if_pos w] at q
              rw [if_pos ⟨rfl, a3, a4, w⟩, show fsE (C 11) (C 10) (C 11 k) (k + 1) = if fsE (C 11) (C 10) (C 11 k) k < 0 then (if C 11 (k : Int) = C 11 k then C 10 (k : Int) else -1) else fsE (C 11) (C 10) (C 11 k) k from rfl, if_pos q, if_pos rfl]
            · rw [if_neg w] at q
              exact absurd q w
          · rw [if_neg y]
            unfold fnS
            by_cases w : z = 15 ∧ 0 ≤ j ∧ j < (nb : Int) ∧ C 15 j < 0
            · rw [if_pos w, if_pos w, keep j (fun x => y ⟨w.1, x⟩)]
            · rw [if_neg w, if_neg w]
        rw [e]
        exact nx
      · rw [if_pos q]
        have e : fnS C nb k = fnS C nb (k + 1) := by
          funext z j
          unfold fnS
          by_cases w : z = 15 ∧ 0 ≤ j ∧ j < (nb : Int) ∧ C 15 j < 0
          · rw [if_pos w, if_pos w]
            by_cases y : j = C 11 k
            · rw [at15] at q
              rw [y]
              have w4 := w.2.2.2
              rw [y] at w4
              rw [if_pos w4] at q
              rw [show fsE (C 11) (C 10) (C 11 k) (k + 1) = if fsE (C 11) (C 10) (C 11 k) k < 0 then (if C 11 (k : Int) = C 11 k then C 10 (k : Int) else -1) else fsE (C 11) (C 10) (C 11 k) k from rfl, if_neg q]
            · rw [keep j y]
          · rw [if_neg w, if_neg w]
        rw [e]
        exact nx
  have e0 : fnS C nb 0 = C := by
    funext z j
    unfold fnS
    by_cases w : z = 15 ∧ 0 ≤ j ∧ j < (nb : Int) ∧ C 15 j < 0
    · rw [if_pos w, w.1]
      have := hb j.toNat (by omega)
      rw [Int.toNat_of_nonneg w.2.1] at this
      have w4 := w.2.2.2
      show (-1 : Int) = C 15 j
      omega
    · rw [if_neg w]
  have s := st m 0 (by omega)
  rw [e0] at s
  rw [n5, h5_0]
  exact s
end S99ze
