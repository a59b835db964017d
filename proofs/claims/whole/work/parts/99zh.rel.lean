/-! Text: the relation behind a text that was read -/
theorem fs_lt {f g : Int → Int} {v B : Int} (hB : 0 ≤ B) : ∀ k : Nat, (∀ j : Nat, j < k → g j < B) → fsE f g v k < B := by
  intro k
  induction k with
  | zero =>
    intro _
    show (-1 : Int) < B
    omega
  | succ k ih =>
    intro h
    have := ih (fun j hj => h j (by omega))
    have hk := h k (by omega)
    rw [show fsE f g v (k + 1) = if fsE f g v k < 0 then (if f (k : Int) = v then g (k : Int) else -1) else fsE f g v k from rfl]
    by_cases q : fsE f g v k < 0
    · rw [if_pos q]
      by_cases z : f (k : Int) = v
      · rw [if_pos z]; exact hk
      · rw [if_neg z]; omega
    · rw [if_neg q]; exact this
theorem hgt_sh {ks kv ks' kv' : Int → Int} {s s' : Int} : ∀ k : Nat, (∀ i : Nat, i < k → ks' (s' + i) = ks (s + i) ∧ kv' (s' + i) = kv (s + i)) → hgt ks' kv' s' k = hgt ks kv s k := by
  intro k
  induction k with
  | zero => intro _; rfl
  | succ k ih =>
    intro h
    rw [show hgt ks' kv' s' (k + 1) = (hgt ks' kv' s' k).bind (fun h => stH (ks' (s' + k)) (kv' (s' + k)) h) from rfl, show hgt ks kv s (k + 1) = (hgt ks kv s k).bind (fun h => stH (ks (s + k)) (kv (s + k)) h) from rfl, ih (fun i hi => h i (by omega)), (h k (by omega)).1, (h k (by omega)).2]
section S99zh
variable {C R G : Sto} {nb m i T : Nat}
theorem Rel_new (X : RX nb m i T C R) (a26 : G 26 6 = C 5 6 ∧ G 26 7 = C 5 7) (a27 : ∀ b : Nat, b < 8 → G 27 b = C 6 b ∧ G 29 b = C 8 b) (a30 : G 30 0 = C 9 0 ∧ G 30 1 = C 9 1) (a31 : ∀ k : Nat, k < 16 → G 31 k = C 10 k ∧ G 32 k = C 11 k) (a33 : ∀ b : Nat, b < 8 → G 33 b = C 12 b ∧ G 34 b = C 13 b ∧ G 35 b = C 14 b) (a36 : ∀ b : Nat, b < nb → G 36 b = if C 15 b < 0 then fsE (C 11) (C 10) b m else C 15 b) (a37 : ∀ j : Int, 0 ≤ j → j < 24 → G 37 j = C 16 j) (a40 : G 40 0 = C 19 0) (a41 : ∀ k : Nat, k < 64 → G 41 k = C 20 k ∧ G 42 k = C 21 k) (a43 : ∀ k : Nat, k < 3 → G 43 k = C 22 k ∧ G 44 k = C 23 k) (a46 : G 46 2 = C 5 5 ∧ G 46 3 = 0 ∧ G 46 4 = 0 ∧ G 46 5 = (if 0 < nb then C 7 0 else 0) ∧ G 46 6 = 0 ∧ G 46 7 = 0 ∧ G 46 8 = 0 ∧ G 46 9 = 0 ∧ G 46 10 = 0 ∧ G 46 11 = C 5 8) (a47 : ∀ b : Nat, b < 8 → G 47 b = C 7 b ∧ G 48 b = 0) (a58 : G 58 0 = 0 ∧ G 58 4 = -1) (a64 : G 64 0 = 0 ∧ G 64 3 = 0 ∧ ∃ t : Nat, t < 20 ∧ G 64 4 = (t : Int)) (a3 : G 3 1 = 0 ∧ G 1 8 = 0 ∧ G 1 9 = -1) (a20 : ok20 G) (b129 : G 129 2 = 0 ∧ G 129 23 = 0 ∧ G 129 24 = -1 ∧ G 129 42 = 0 ∧ G 129 43 = 0 ∧ G 129 45 = 0 ∧ G 129 46 = -1 ∧ G 129 48 = 0 ∧ G 129 64 = 0 ∧ G 129 65 = -1) (b131 : ∀ j : Nat, j < 7 → G 131 j = R 131 (7 + j)) (b132 : ∀ b : Nat, b < 8 → G 132 b = R 132 (8 + b) ∧ G 134 b = R 134 (8 + b) ∧ G 135 b = R 135 (8 + b)) (b136 : ∀ k : Nat, k < 16 → G 136 k = R 136 (16 + k) ∧ G 137 k = R 137 (16 + k)) (b138 : ∀ k : Nat, k < 3 → G 138 k = R 138 (3 + k) ∧ G 139 k = R 139 (3 + k)) (b140 : ∀ k : Nat, k < 64 → G 140 k = R 140 (64 + k) ∧ G 141 k = R 141 (64 + k)) (b144 : G 144 0 = 0 ∧ G 145 0 = R 131 12 ∧ G 146 0 = 0 ∧ G 147 0 = (if 0 < nb then R 133 8 else 0) ∧ G 148 0 = 0 ∧ G 149 0 = 0 ∧ G 150 0 = 0 ∧ G 151 0 = 0 ∧ G 152 0 = 0 ∧ G 153 0 = R 131 9) (b154 : ∀ b : Nat, b < nb → G 154 b = R 133 (8 + b) ∧ G 155 b = 0) : Rel G := by
  obtain ⟨_, ⟨⟨g1, g2, g3, g4, g5, g6⟩, gb, ge, gc⟩, ⟨⟨K, s1, s1', s1''⟩, s2, s3, s4, _, _, _⟩, ⟨w, w1, w2, w3, w4⟩⟩ := X
  have e136 : ∀ k : Nat, k < m → G 136 k = C 10 k := fun k hk => by rw [(b136 k (by omega)).1, (ge k hk).1.1]
  have e137 : ∀ k : Nat, k < m → G 137 k = C 11 k := fun k hk => by rw [(b136 k (by omega)).2, (ge k hk).2.1]
  have c136 : ∀ b : Int, cntE (G 136) b m = cntE (C 10) b m := fun b => cntE_c m e136
  have c137 : ∀ b : Int, cntE (G 137) b m = cntE (C 11) b m := fun b => cntE_c m e137
  have hg0 : ∀ j : Nat, j < m → 0 ≤ C 10 j := fun j hj => (ge j hj).1.2.1
  have hgn : ∀ j : Nat, j < m → C 10 j < (nb : Int) := fun j hj => (ge j hj).1.2.2
  have e135 : ∀ b : Nat, b < nb → G 135 b = C 15 b + 1 := fun b hb => by
    rw [(b132 b (by omega)).2.2]
    have := (gb b hb).2.2.2.1
    omega
  have hrb : ∀ b : Nat, b < nb → rbs G m b = (if C 15 b < 0 then fsE (C 11) (C 10) b m else C 15 b) := by
    intro b hb
    have r := (gb b hb).2.2.2
    unfold rbs
    rw [b129.2.2.2.2.2.1, if_pos rfl, e135 b hb]
    by_cases q : C 15 b < 0
    · rw [if_pos (by omega), if_pos q, fs_eq hg0]
      exact nthE_c (fun k hk => ⟨e137 k hk, e136 k hk⟩) m 0 (Nat.le_refl m)
    · rw [if_neg (by omega), if_neg q]
      omega
  have p2 : (2 : Int) ^ nb = ((2 ^ nb : Nat) : Int) := by rw [Int.natCast_pow]; rfl
  have r46 : ∀ b : Nat, rsg G 0 b = G 154 b := by
    intro b
    unfold rsg
    rw [b129.2.2.2.2.2.2.1, if_neg (by omega), show (8 * 0 + (b : Int)) = b by omega]
  refine ⟨nb, m, ⟨0, 0, ⟨⟨?_, ?_, ?_, ?_⟩, ?_, ?_, b129.2.2.2.2.2.2.1, ⟨a58.1, ?_, ?_, Nat.le_refl 0, ⟨by decide, fun k hk => absurd hk (Nat.not_lt_zero k)⟩, fun k hk => absurd hk (Nat.not_lt_zero k)⟩, ?_, b129.2.2.2.2.2.1⟩, ⟨a58.1, b129.2.2.2.2.2.2.2.2.1, by rw [a58.2, b129.2.2.2.2.2.2.2.2.2], by rw [a58.2]; decide, by rw [a58.2]; decide⟩, ?_⟩, ⟨?_, ?_, ?_, ⟨?_, ?_⟩, ?_, ?_, ?_⟩⟩
  · refine ⟨by rw [a30.1]; exact g1, g3, by rw [a30.2]; exact g4, g6, fun k hk => ?_⟩
    rw [(a31 k (by omega)).1, (a31 k (by omega)).2]
    exact ⟨(ge k hk).1.2, (ge k hk).2.2⟩
  · refine ⟨by rw [show (0 : Int) = ((0 : Nat) : Int) from rfl, b131 0 (by decide)]; exact g2, g3, by rw [show (1 : Int) = ((1 : Nat) : Int) from rfl, b131 1 (by decide)]; exact g5, g6, fun k hk => ?_⟩
    rw [e136 k hk, e137 k hk]
    exact ⟨(ge k hk).1.2, (ge k hk).2.2⟩
  · intro k hk
    rw [(a31 k (by omega)).1, (a31 k (by omega)).2, e136 k hk, e137 k hk]
    exact ⟨rfl, rfl⟩
  · intro b hb
    rw [(a33 b (by omega)).2.1, c137]
    exact (gc b hb).2.1
  · intro b hb
    rw [hrb b hb, a36 b hb, c137]
    have r := (gb b hb).2.2.2
    refine ⟨rfl, ?_, ?_, fun z => ?_⟩
    · by_cases q : C 15 b < 0
      · rw [if_pos q]
        exact fs_b m hg0
      · rw [if_neg q]
        omega
    · by_cases q : C 15 b < 0
      · rw [if_pos q]
        exact fs_lt (by omega) m hgn
      · rw [if_neg q]
        omega
    · by_cases q : C 15 b < 0
      · rw [if_pos q, fs_eq hg0]
        obtain ⟨e, e1, e2, e3⟩ := cnt_find (f := C 11) (v := (b : Int)) m 0 (by decide) z
        have y := nth_e (f := C 11) (g := C 10) (v := (b : Int)) e1 e2
        rw [e3] at y
        rw [y]
        exact hg0 e e1
      · rw [if_neg q]
        omega
  · intro b hb
    rw [(a47 b (by omega)).1, r46 b, (b154 b hb).1]
    exact (gb b hb).2.1.1
  · unfold knC
    rw [a58.2, a58.1]
    rfl
  · unfold rkC
    rw [b129.2.2.2.2.2.2.2.2.2, b129.2.2.2.2.2.2.2.2.1]
    rfl
  · intro b hb
    rw [e135 b hb]
    have r := (gb b hb).2.2.2
    exact ⟨by omega, by omega⟩
  · intro b hb
    rw [(a47 b (by omega)).1]
    exact (gb b hb).2.1.2
  · intro b hb
    have h := gc b hb
    rw [(a33 b (by omega)).1, (a33 b (by omega)).2.2, c136, nxE_c m (fun k hk => ⟨e136 k hk, e137 k hk⟩)]
    refine ⟨h.1, fun j hj => ?_, h.2.2.1, fun z => ?_⟩
    · have l3 := h.1.2
      rw [a37 _ (by omega) (by omega), nthE_c (g := fun z => z) (g' := fun z => z) (fun k hk => ⟨e136 k hk, rfl⟩) m j (Nat.le_refl m)]
      exact h.2.2.2.1 j hj
    · rw [e135 b hb] at z ⊢
      obtain ⟨e, y1, y2, y3⟩ := h.2.2.2.2 (by omega)
      exact ⟨e, y1, by rw [e137 e y1]; exact y2, by rw [e136 e y1, y3]; omega⟩
  · refine ⟨fun b hb => ?_, ?_, ?_, ?_⟩
    · have h := gb b hb
      rw [(a27 b (by omega)).1, (a27 b (by omega)).2, (b132 b (by omega)).1, (b132 b (by omega)).2.1]
      exact ⟨h.1, h.2.2.1.1, by omega, by omega⟩
    · rw [a26.1, show (3 : Int) = ((3 : Nat) : Int) from rfl, b131 3 (by decide)]
      exact ⟨⟨s2.2.1, s2.2.2⟩, Or.inr s2.1⟩
    · rw [a26.2, show (4 : Int) = ((4 : Nat) : Int) from rfl, b131 4 (by decide)]
      exact ⟨s3.1, by have := s3.1; show 0 ≤ R 131 11; omega, by have := s3.1; show R 131 11 ≤ 100; omega⟩
    · rw [a40, show (6 : Int) = ((6 : Nat) : Int) from rfl, b131 6 (by decide)]
      show C 19 0 = R 131 13
      rw [w1.1, w1.2.2.2.2]
  · have le1 : ∀ k : Nat, k < 3 → LE1 G k := by
      intro k hk
      obtain ⟨⟨u1, u2⟩, u, v, u3, u4, u5, u6, u7⟩ := w4 k hk
      have x1 : G 138 k = (u : Int) := by rw [(b138 k hk).1, ← u1]; exact u3
      have x2 : G 139 k = (v : Int) := by rw [(b138 k hk).2, ← u2]; exact u4
      have w64 := w1.2.2.1
      refine ⟨?_, ?_, fun t h1 h2 => ?_, fun h1 => ?_⟩
      · rw [(a43 k hk).1, (a43 k hk).2, x1, x2]
        exact ⟨u3, u4⟩
      · rw [x1, x2]
        exact ⟨by omega, by omega, by omega⟩
      · rw [x1] at h1
        rw [x2] at h2
        rw [(a41 t (by omega)).1, (a41 t (by omega)).2, (b140 t (by omega)).1, (b140 t (by omega)).2]
        exact w2 t (by omega)
      · rw [x1, x2] at h1 ⊢
        have y := u7 (by omega)
        rw [show ((v : Int) - (u : Int)).toNat = v - u by omega, ← y]
        refine hgt_sh _ (fun t ht => ?_)
        have z := b140 (u + t) (by omega)
        rw [show ((u : Int) + (t : Int)) = ((u + t : Nat) : Int) by omega, show (64 + (u : Int) + (t : Int)) = 64 + ((u + t : Nat) : Int) by omega]
        exact z
    exact ⟨le1 0 (by decide), le1 1 (by decide), le1 2 (by decide)⟩
  · intro b hb
    have h := (gb b hb).2.1
    rw [show (8 * 0 + (b : Int)) = b by omega, show (46 + 1 : Int) = 47 from rfl, show (46 + 2 : Int) = 48 from rfl, (a47 b (by omega)).1, (a47 b (by omega)).2, (b154 b hb).1, (b154 b hb).2]
    exact ⟨⟨h.1, by omega, by omega⟩, ⟨rfl, by decide, by decide⟩⟩
  · obtain ⟨c2, c3, c4, c5, c6, c7, c8, c9, c10, c11⟩ := a46
    obtain ⟨d4, d5, d6, d7, d8, d9, d10, d11, d12, d13⟩ := b144
    unfold RunF
    rw [c2, c3, c4, c5, c6, c7, c8, c9, c10, c11, d4, d5, d6, d7, d8, d9, d10, d11, d12, d13, s1, s1', p2]
    refine ⟨⟨rfl, by omega, Int.ofNat_lt.mpr s1''⟩, ⟨rfl, by decide, by decide⟩, ⟨rfl, by decide, by omega⟩, ?_, ⟨rfl, by decide, by decide⟩, ⟨rfl, by decide, by decide⟩, ⟨rfl, rfl, rfl⟩, ?_, ?_⟩
    · by_cases q : 0 < nb
      · have h := (gb 0 q).2.1
        rw [if_pos q, if_pos q]
        have h1 : C 7 0 = R 133 8 := h.1
        have h2 : 0 ≤ C 7 0 := h.2.1
        have h3 : C 7 0 < 256 := h.2.2
        exact ⟨h1, by omega, by omega⟩
      · rw [if_neg q, if_neg q]
        exact ⟨rfl, by decide, by decide⟩
    · unfold in32
      exact ⟨⟨by decide, by decide⟩, ⟨by decide, by decide⟩, ⟨by decide, by decide⟩⟩
    · exact ⟨s4.1, by omega, by omega⟩
  · obtain ⟨t, t1, t2⟩ := a64.2.2
    exact ⟨0, t, ⟨by decide, t1, a64.1, b129.2.2.2.2.1, t2⟩, fun k hk => absurd hk (Nat.not_lt_zero k), by rw [a64.2.1, b129.2.2.2.1], Or.inl b129.2.2.2.1, fun z => by rw [b129.2.2.2.1] at z; exact absurd z (by decide)⟩
  · exact ⟨0, ⟨a3.1, b129.1, by decide⟩, fun j hj => absurd hj (Nat.not_lt_zero j), by rw [a3.2.1, b129.2.1], by rw [a3.2.2, b129.2.2.1]⟩
  · exact ⟨b129.2.2.2.2.2.2.2.1, a20⟩
end S99zh
