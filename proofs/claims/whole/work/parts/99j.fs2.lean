/-! Text: what a formula's state becomes -/
def PR (r : Int) (a p : Nat) (C : Sto) : Prop := ∀ j : Nat, a ≤ j → j < a + p → r ≤ kf 3 (C 25 j)
def TR (r : Int) (a : Nat) (C : Sto) : Prop := a = 0 ∨ (okK (C 25 ((a - 1 : Nat) : Int)) = true ∧ kf 3 (C 25 ((a - 1 : Nat) : Int)) < r)
theorem sgP_ok {k v : Int} (h : sgP k v) : okK k = true := by
  unfold sgP at h
  exact okK_b (by omega) (by omega)
section S99j
variable {xs : Int → Int} {n : Int × Int} {C R : Sto} {N : Int} {s h a p i o c w : Nat}
theorem FS_ok (F : FS N s h a p i o c w C R) : ∀ j : Nat, a ≤ j → j < a + p → okK (C 25 j) = true := by
  obtain ⟨_, _, _, _, f11, _, _, _⟩ := F
  intro j h1 h2
  have := (f11 (a + p - 1 - j) (by omega)).2
  rw [show a + (p - 1 - (a + p - 1 - j)) = j by omega] at this
  exact sgP_ok this
theorem FS_flush (d : Nat) {r : Int} (F : FS N s h a p i o c w C R) (hp : PR r a p C) (ht : TR r a C) (r0 : 0 < r) : ∃ C' : Sto, dcl xs n (d + 2) 90 [(2, 2), (0, r)] C (9, 0) C' ∧ FS N s h a 0 i o c (w + p) C' R ∧ fFC s a C C' ∧ C' 25 = C 25 ∧ C' 3 = C 3 := by
  have ok := FS_ok F
  obtain ⟨f1, ⟨f2, f3, f4, f5⟩, ⟨f6, f7, ⟨f8, f8'⟩, ⟨f9, f9', f9''⟩⟩, f10, f11, f12, f13, f14⟩ := F
  obtain ⟨C', g1, g2, g3, g4, g5, g6, g7, g8, g9⟩ := e90 (xs := xs) (n := n) d r a p 0 w C f9 f8 (by omega) (by omega) (by omega) (fun j h1 h2 => ⟨ok j h1 h2, hp j h1 h2⟩) ht r0
  have z3 := g6 3 (by decide)
  have z4 := g6 4 (by decide)
  have z25 := g6 25 (by decide)
  refine ⟨C', fun R0 => ?_, ⟨?_, ⟨f2, ?_, ?_, f5⟩, ⟨?_, ?_, ?_, ?_⟩, ?_, ?_, g9 f12, ?_, ?_⟩, ⟨fun z hz => g6 z (by omega), fun j hj => g7 j (by omega), fun j _ => by rw [z3], fun j hj => g8 j (by omega), fun j hj => g5 j (by omega), fun j _ => by rw [z25], by rw [z3]; exact Int.le_refl _⟩, z25, z3⟩
  · rw [n90, h90_0]
    exact g1 R0
  · unfold RTk at f1 ⊢
    rw [z3, z4]
    exact f1
  · rw [g7 2 (by decide)]; exact f3
  · rw [g7 3 (by decide)]; exact f4
  · rw [g7 6 (by decide)]; exact f6
  · rw [g8 0 (by decide)]; exact f7
  · exact ⟨g3, f8'⟩
  · exact ⟨g2, f9', by omega⟩
  · intro t htt
    by_cases q : t < w
    · have e := g5 t q
      rw [e.1, e.2]
      exact f10 t q
    · have e := g4 (t - w) (by omega)
      have u := f11 (t - w) (by omega)
      rw [show w + (t - w) = t by omega] at e u
      rw [e.1, e.2, u.1]
      exact Or.inr (Or.inr ⟨rfl, u.2⟩)
  · intro t z
    omega
  · exact ⟨by omega, f13.2⟩
  · rw [z3]
    exact f14
theorem FS_push (F : FS N s h a 0 i o c w C R) (hc : c < 64) (k : Int) : FS N s h (a + 1) 0 i o (c + 1) w (up (up (up C 19 0 ((c : Int) + 1)) 25 (a : Int) k) 2 5 ((a : Int) + 1)) (up R 129 26 ((c : Int) + 1)) := by
  obtain ⟨f1, ⟨f2, f3, f4, f5⟩, ⟨f6, ⟨f7, f7', f7''⟩, ⟨f8, f8'⟩, ⟨f9, f9', f9''⟩⟩, f10, f11, f12, f13, f14⟩ := F
  generalize hC : up (up (up C 19 0 ((c : Int) + 1)) 25 (a : Int) k) 2 5 ((a : Int) + 1) = C'
  generalize hR : up R 129 26 ((c : Int) + 1) = R'
  have cz : ∀ z : Int, ¬ (z = 2 ∨ z = 19 ∨ z = 25) → C' z = C z := fun z hz => by
    funext j
    rw [← hC, up_ne (by omega), up_ne (by omega), up_ne (by omega)]
  have c2 : ∀ j : Int, ¬ j = 5 → C' 2 j = C 2 j := fun j hj => by rw [← hC, up_ni hj, up_ne (by decide), up_ne (by decide)]
  have c25 : C' 2 5 = (a : Int) + 1 := by rw [← hC, up_at]
  have c19 : ∀ j : Int, ¬ j = 0 → C' 19 j = C 19 j := fun j hj => by rw [← hC, up_ne (by decide), up_ne (by decide), up_ni hj]
  have c190 : C' 19 0 = (c : Int) + 1 := by rw [← hC, up_ne (by decide), up_ne (by decide), up_at]
  have rz : ∀ z : Int, ¬ z = 129 → R' z = R z := fun z hz => by
    funext j
    rw [← hR, up_ne hz]
  have r129 : ∀ j : Int, ¬ j = 26 → R' 129 j = R 129 j := fun j hj => by rw [← hR, up_ni hj]
  have r26 : R' 129 26 = (c : Int) + 1 := by rw [← hR, up_at]
  refine ⟨?_, ⟨?_, ?_, ?_, ?_⟩, ⟨?_, ?_, ?_, ?_⟩, ?_, ?_, ?_, ?_, ?_⟩
  · unfold RTk at f1 ⊢
    rw [cz 3 (by decide), cz 4 (by decide), rz 130 (by decide), r129 16 (by decide), r129 17 (by decide), r129 18 (by decide), r129 19 (by decide), r129 20 (by decide)]
    exact f1
  · rw [r129 21 (by decide)]; exact f2
  · rw [c2 2 (by decide)]; exact f3
  · rw [c2 3 (by decide)]; exact f4
  · rw [r129 22 (by decide)]; exact f5
  · rw [c2 6 (by decide), r129 25 (by decide)]; exact f6
  · rw [c190, r26]
    exact ⟨by omega, by omega, by omega⟩
  · rw [c19 6 (by decide), rz 131 (by decide)]; exact ⟨f8, f8'⟩
  · rw [c25]
    exact ⟨by omega, by omega, by omega⟩
  · rw [cz 20 (by decide), cz 21 (by decide), rz 140 (by decide), rz 141 (by decide)]; exact f10
  · intro t z
    omega
  · unfold ok20; rw [cz 20 (by decide)]; exact f12
  · rw [rz 140 (by decide), rz 141 (by decide)]; exact f13
  · rw [cz 3 (by decide)]; exact f14
theorem FS_open (F : FS N s h a 0 i o c w C R) (ho : o < 8) : FS N s h (a + 1) 0 i (o + 1) c w (up (up (up C 2 6 ((o : Int) + 1)) 25 (a : Int) (-33)) 2 5 ((a : Int) + 1)) (up R 129 25 ((o : Int) + 1)) := by
  obtain ⟨f1, ⟨f2, f3, f4, f5⟩, ⟨⟨f6, f6', f6''⟩, f7, ⟨f8, f8'⟩, ⟨f9, f9', f9''⟩⟩, f10, f11, f12, f13, f14⟩ := F
  generalize hC : up (up (up C 2 6 ((o : Int) + 1)) 25 (a : Int) (-33)) 2 5 ((a : Int) + 1) = C'
  generalize hR : up R 129 25 ((o : Int) + 1) = R'
  have cz : ∀ z : Int, ¬ (z = 2 ∨ z = 25) → C' z = C z := fun z hz => by
    funext j
    rw [← hC, up_ne (by omega), up_ne (by omega), up_ne (by omega)]
  have c2 : ∀ j : Int, ¬ (j = 5 ∨ j = 6) → C' 2 j = C 2 j := fun j hj => by rw [← hC, up_ni (by omega), up_ne (by decide), up_ni (by omega)]
  have c25 : C' 2 5 = (a : Int) + 1 := by rw [← hC, up_at]
  have c26 : C' 2 6 = (o : Int) + 1 := by rw [← hC, up_ni (by decide), up_ne (by decide), up_at]
  have rz : ∀ z : Int, ¬ z = 129 → R' z = R z := fun z hz => by
    funext j
    rw [← hR, up_ne hz]
  have r129 : ∀ j : Int, ¬ j = 25 → R' 129 j = R 129 j := fun j hj => by rw [← hR, up_ni hj]
  have r25 : R' 129 25 = (o : Int) + 1 := by rw [← hR, up_at]
  refine ⟨?_, ⟨?_, ?_, ?_, ?_⟩, ⟨?_, ?_, ?_, ?_⟩, ?_, ?_, ?_, ?_, ?_⟩
  · unfold RTk at f1 ⊢
    rw [cz 3 (by decide), cz 4 (by decide), rz 130 (by decide), r129 16 (by decide), r129 17 (by decide), r129 18 (by decide), r129 19 (by decide), r129 20 (by decide)]
    exact f1
  · rw [r129 21 (by decide)]; exact f2
  · rw [c2 2 (by decide)]; exact f3
  · rw [c2 3 (by decide)]; exact f4
  · rw [r129 22 (by decide)]; exact f5
  · rw [c26, r25]
    exact ⟨by omega, by omega, by omega⟩
  · rw [cz 19 (by decide), r129 26 (by decide)]; exact f7
  · rw [cz 19 (by decide), rz 131 (by decide)]; exact ⟨f8, f8'⟩
  · rw [c25]
    exact ⟨by omega, by omega, by omega⟩
  · rw [cz 20 (by decide), cz 21 (by decide), rz 140 (by decide), rz 141 (by decide)]; exact f10
  · intro t z
    omega
  · unfold ok20; rw [cz 20 (by decide)]; exact f12
  · rw [rz 140 (by decide), rz 141 (by decide)]; exact f13
  · rw [cz 3 (by decide)]; exact f14
theorem FS_close (F : FS N s h (a + 1) 0 i (o + 1) c w C R) : FS N s h a 0 i o c w (up (up C 2 5 (a : Int)) 2 6 (o : Int)) (up R 129 25 (o : Int)) := by
  obtain ⟨f1, ⟨f2, f3, f4, f5⟩, ⟨⟨f6, f6', f6''⟩, f7, ⟨f8, f8'⟩, ⟨f9, f9', f9''⟩⟩, f10, f11, f12, f13, f14⟩ := F
  generalize hC : up (up C 2 5 (a : Int)) 2 6 (o : Int) = C'
  generalize hR : up R 129 25 (o : Int) = R'
  have cz : ∀ z : Int, ¬ z = 2 → C' z = C z := fun z hz => by
    funext j
    rw [← hC, up_ne (by omega), up_ne (by omega)]
  have c2 : ∀ j : Int, ¬ (j = 5 ∨ j = 6) → C' 2 j = C 2 j := fun j hj => by rw [← hC, up_ni (by omega), up_ni (by omega)]
  have c25 : C' 2 5 = (a : Int) := by rw [← hC, up_ni (by decide), up_at]
  have c26 : C' 2 6 = (o : Int) := by rw [← hC, up_at]
  have rz : ∀ z : Int, ¬ z = 129 → R' z = R z := fun z hz => by
    funext j
    rw [← hR, up_ne hz]
  have r129 : ∀ j : Int, ¬ j = 25 → R' 129 j = R 129 j := fun j hj => by rw [← hR, up_ni hj]
  have r25 : R' 129 25 = (o : Int) := by rw [← hR, up_at]
  refine ⟨?_, ⟨?_, ?_, ?_, ?_⟩, ⟨?_, ?_, ?_, ?_⟩, ?_, ?_, ?_, ?_, ?_⟩
  · unfold RTk at f1 ⊢
    rw [cz 3 (by decide), cz 4 (by decide), rz 130 (by decide), r129 16 (by decide), r129 17 (by decide), r129 18 (by decide), r129 19 (by decide), r129 20 (by decide)]
    exact f1
  · rw [r129 21 (by decide)]; exact f2
  · rw [c2 2 (by decide)]; exact f3
  · rw [c2 3 (by decide)]; exact f4
  · rw [r129 22 (by decide)]; exact f5
  · rw [c26, r25]
    exact ⟨rfl, rfl, by omega⟩
  · rw [cz 19 (by decide), r129 26 (by decide)]; exact f7
  · rw [cz 19 (by decide), rz 131 (by decide)]; exact ⟨f8, f8'⟩
  · rw [c25]
    exact ⟨by omega, by omega, by omega⟩
  · rw [cz 20 (by decide), cz 21 (by decide), rz 140 (by decide), rz 141 (by decide)]; exact f10
  · intro t z
    omega
  · unfold ok20; rw [cz 20 (by decide)]; exact f12
  · rw [rz 140 (by decide), rz 141 (by decide)]; exact f13
  · rw [cz 3 (by decide)]; exact f14
theorem FS_operand (F : FS N s h a 0 i o c w C R) (hc : c < 64) {k v its v' : Int} (hk : knP k v its v') (hi : ¬ its = 2) (ok : okK0 k = true) : FS N s (h + 1) a 0 i o (c + 1) (w + 1) (up (up (up (up C 19 0 ((c : Int) + 1)) 20 (w : Int) k) 21 (w : Int) v) 19 6 ((w : Int) + 1)) (ptS (up R 129 26 ((c : Int) + 1)) (w : Int) its v') := by
  obtain ⟨f1, ⟨f2, f3, f4, f5⟩, ⟨f6, ⟨f7, f7', f7''⟩, ⟨f8, f8'⟩, ⟨f9, f9', f9''⟩⟩, f10, f11, f12, f13, f14⟩ := F
  generalize hC : up (up (up (up C 19 0 ((c : Int) + 1)) 20 (w : Int) k) 21 (w : Int) v) 19 6 ((w : Int) + 1) = C'
  generalize hR : ptS (up R 129 26 ((c : Int) + 1)) (w : Int) its v' = R'
  unfold ptS at hR
  have cz : ∀ z : Int, ¬ (z = 19 ∨ z = 20 ∨ z = 21) → C' z = C z := fun z hz => by
    funext j
    rw [← hC, up_ne (by omega), up_ne (by omega), up_ne (by omega), up_ne (by omega)]
  have c190 : C' 19 0 = (c : Int) + 1 := by rw [← hC, up_ni (by decide), up_ne (by decide), up_ne (by decide), up_at]
  have c196 : C' 19 6 = (w : Int) + 1 := by rw [← hC, up_at]
  have c20 : ∀ j : Int, C' 20 j = if j = (w : Int) then k else C 20 j := fun j => by
    rw [← hC, up_ne (by decide), up_ne (by decide)]
    by_cases q : j = w
    · rw [if_pos q, q, up_at]
    · rw [if_neg q, up_ni q, up_ne (by decide)]
  have c21 : ∀ j : Int, C' 21 j = if j = (w : Int) then v else C 21 j := fun j => by
    rw [← hC, up_ne (by decide)]
    by_cases q : j = w
    · rw [if_pos q, q, up_at]
    · rw [if_neg q, up_ni q, up_ne (by decide), up_ne (by decide)]
  have rz : ∀ z : Int, ¬ (z = 129 ∨ z = 131 ∨ z = 140 ∨ z = 141) → R' z = R z := fun z hz => by
    funext j
    rw [← hR, up_ne (by omega), up_ne (by omega), up_ne (by omega), up_ne (by omega)]
  have r129 : ∀ j : Int, ¬ j = 26 → R' 129 j = R 129 j := fun j hj => by rw [← hR, up_ne (by decide), up_ne (by decide), up_ne (by decide), up_ni hj]
  have r26 : R' 129 26 = (c : Int) + 1 := by rw [← hR, up_ne (by decide), up_ne (by decide), up_ne (by decide), up_at]
  have r13 : R' 131 13 = (w : Int) + 1 := by rw [← hR, up_at]
  have r140 : ∀ j : Int, R' 140 j = if j = 64 + (w : Int) then its else R 140 j := fun j => by
    rw [← hR, up_ne (by decide), up_ne (by decide)]
    by_cases q : j = 64 + (w : Int)
    · rw [if_pos q, q, up_at]
    · rw [if_neg q, up_ni q, up_ne (by decide)]
  have r141 : ∀ j : Int, R' 141 j = if j = 64 + (w : Int) then v' else R 141 j := fun j => by
    rw [← hR, up_ne (by decide)]
    by_cases q : j = 64 + (w : Int)
    · rw [if_pos q, q, up_at]
    · rw [if_neg q, up_ni q, up_ne (by decide), up_ne (by decide)]
  refine ⟨?_, ⟨?_, ?_, ?_, ?_⟩, ⟨?_, ?_, ?_, ?_⟩, ?_, ?_, ?_, ?_, ?_⟩
  · unfold RTk at f1 ⊢
    rw [cz 3 (by decide), cz 4 (by decide), rz 130 (by decide), r129 16 (by decide), r129 17 (by decide), r129 18 (by decide), r129 19 (by decide), r129 20 (by decide)]
    exact f1
  · rw [r129 21 (by decide)]; exact f2
  · rw [cz 2 (by decide)]; exact f3
  · rw [cz 2 (by decide)]; exact f4
  · rw [r129 22 (by decide)]; exact f5
  · rw [cz 2 (by decide), r129 25 (by decide)]; exact f6
  · rw [c190, r26]
    exact ⟨by omega, by omega, by omega⟩
  · rw [c196, r13]
    exact ⟨by omega, by omega⟩
  · rw [cz 2 (by decide)]
    exact ⟨f9, f9', by omega⟩
  · intro t htt
    rw [c20, c21, r140, r141]
    by_cases q : t = w
    · subst q
      rw [if_pos rfl, if_pos rfl, if_pos rfl, if_pos rfl]
      exact hk
    · rw [if_neg (by omega), if_neg (by omega), if_neg (by omega), if_neg (by omega)]
      exact f10 t (by omega)
  · intro t z
    omega
  · intro j hj
    rw [c20]
    by_cases q : (j : Int) = w
    · rw [if_pos q]; exact ok
    · rw [if_neg q]; exact f12 j hj
  · refine ⟨by omega, ?_⟩
    have e : hgt (R' 140) (R' 141) (64 + (s : Int)) (w - s) = some h := by
      rw [← f13.2]
      exact hgt_c (w - s) (fun q hq => by
        rw [r140, r141, if_neg (by omega), if_neg (by omega)]
        exact ⟨rfl, rfl⟩)
    rw [show w + 1 + 0 - s = (w - s) + 1 by omega, hgt_n e, r140, r141, if_pos (by omega), if_pos (by omega)]
    unfold stH
    rw [if_neg hi]
  · rw [cz 3 (by decide)]; exact f14
theorem FS_put {h' : Nat} (F : FS N s h (a + 1) p i o c w C R) (ho : o ≤ a) {v : Int} (hv : sgP (C 25 (a : Int)) v) (hh : stH 2 v h = some h') : FS N s h' a (p + 1) i o c w C (ptS R ((w + p : Nat) : Int) 2 v) := by
  obtain ⟨f1, ⟨f2, f3, f4, f5⟩, ⟨f6, f7, ⟨f8, f8'⟩, ⟨f9, f9', f9''⟩⟩, f10, f11, f12, f13, f14⟩ := F
  generalize hR : ptS R ((w + p : Nat) : Int) 2 v = R'
  unfold ptS at hR
  have rz : ∀ z : Int, ¬ (z = 131 ∨ z = 140 ∨ z = 141) → R' z = R z := fun z hz => by
    funext j
    rw [← hR, up_ne (by omega), up_ne (by omega), up_ne (by omega)]
  have r13 : R' 131 13 = ((w + p : Nat) : Int) + 1 := by rw [← hR, up_at]
  have r140 : ∀ j : Int, R' 140 j = if j = 64 + ((w + p : Nat) : Int) then 2 else R 140 j := fun j => by
    rw [← hR, up_ne (by decide), up_ne (by decide)]
    by_cases q : j = 64 + ((w + p : Nat) : Int)
    · rw [if_pos q, q, up_at]
    · rw [if_neg q, up_ni q]
  have r141 : ∀ j : Int, R' 141 j = if j = 64 + ((w + p : Nat) : Int) then v else R 141 j := fun j => by
    rw [← hR, up_ne (by decide)]
    by_cases q : j = 64 + ((w + p : Nat) : Int)
    · rw [if_pos q, q, up_at]
    · rw [if_neg q, up_ni q, up_ne (by decide)]
  refine ⟨?_, ⟨?_, f3, f4, ?_⟩, ⟨⟨f6.1, ?_, f6.2.2⟩, ⟨f7.1, ?_, f7.2.2⟩, ⟨f8, ?_⟩, ⟨?_, ho, by omega⟩⟩, ?_, ?_, f12, ?_, f14⟩
  · unfold RTk at f1 ⊢
    rw [rz 129 (by decide), rz 130 (by decide)]
    exact f1
  · rw [rz 129 (by decide)]; exact f2
  · rw [rz 129 (by decide)]; exact f5
  · rw [rz 129 (by decide)]; exact f6.2.1
  · rw [rz 129 (by decide)]; exact f7.2.1
  · rw [r13]; omega
  · rw [f9]; omega
  · intro t htt
    rw [r140, r141, if_neg (by omega), if_neg (by omega)]
    exact f10 t htt
  · intro t htt
    rw [r140, r141]
    by_cases q : t = p
    · subst q
      rw [if_pos rfl, if_pos rfl, show a + (t + 1 - 1 - t) = a by omega]
      exact ⟨rfl, hv⟩
    · rw [if_neg (by omega), if_neg (by omega), show a + (p + 1 - 1 - t) = a + 1 + (p - 1 - t) by omega]
      exact f11 t (by omega)
  · refine ⟨f13.1, ?_⟩
    have e : hgt (R' 140) (R' 141) (64 + (s : Int)) (w + p - s) = some h := by
      rw [← f13.2]
      exact hgt_c (w + p - s) (fun q hq => by
        rw [r140, r141, if_neg (by omega), if_neg (by omega)]
        exact ⟨rfl, rfl⟩)
    rw [show w + (p + 1) - s = (w + p - s) + 1 by omega, hgt_n e, r140, r141, if_pos (by omega), if_pos (by omega)]
    exact hh
end S99j
