/-! Text: the relation reads the lower halves alone -/
def relv (z j : Int) : Prop := (26 ≤ z ∧ z < 129) ∨ 142 ≤ z ∨ (z = 129 ∧ 27 ≤ j) ∨ (z = 131 ∧ j < 7) ∨ (132 ≤ z ∧ z ≤ 135 ∧ j < 8) ∨ (136 ≤ z ∧ z ≤ 137 ∧ j < 16) ∨ (138 ≤ z ∧ z ≤ 139 ∧ j < 3) ∨ (140 ≤ z ∧ z ≤ 141 ∧ j < 64)
def simL (F D : Sto) : Prop := ∀ z j : Int, relv z j → F z j = D z j
theorem nthE_c {f g f' g' : Int → Int} {v : Int} {m : Nat} (h : ∀ k : Nat, k < m → f' k = f k ∧ g' k = g k) : ∀ (r : Nat) (i : Int), r ≤ m → nthE f' g' v m r i = nthE f g v m r i := by
  intro r
  induction r with
  | zero => intro i _; rfl
  | succ r ih =>
    intro i hr
    have e := h (m - (r + 1)) (by omega)
    rw [show nthE f' g' v m (r + 1) i = if f' ((m - (r + 1) : Nat) : Int) = v then (if i = 0 then g' ((m - (r + 1) : Nat) : Int) else nthE f' g' v m r (i - 1)) else nthE f' g' v m r i from rfl, show nthE f g v m (r + 1) i = if f ((m - (r + 1) : Nat) : Int) = v then (if i = 0 then g ((m - (r + 1) : Nat) : Int) else nthE f g v m r (i - 1)) else nthE f g v m r i from rfl, e.1, e.2, ih i (by omega), ih (i - 1) (by omega)]
section S99zd
variable {F D : Sto} {nb m : Nat}
theorem RelK_L (R : RelK D nb m) (h : simL F D) : RelK F nb m := by
  obtain ⟨q, q', ⟨⟨g1, g2, g3, g4⟩, hB, hS, h46, ⟨n1, n2, n3, n4, n5, n6⟩, n7, n8⟩, ⟨k1, k2, k3, k4, k5⟩, s⟩ := R
  have h8 := g1.2.1
  have hm := g1.2.2.2.1
  have f : ∀ z : Int, ((26 ≤ z ∧ z < 129) ∨ 142 ≤ z) → F z = D z := fun z hz => funext (fun j => h z j (by unfold relv; omega))
  have e129 : ∀ j : Int, 27 ≤ j → F 129 j = D 129 j := fun j hj => h 129 j (by unfold relv; omega)
  have e136 : ∀ k : Nat, k < m → F 136 k = D 136 k := fun k hk => h 136 k (by unfold relv; omega)
  have e137 : ∀ k : Nat, k < m → F 137 k = D 137 k := fun k hk => h 137 k (by unfold relv; omega)
  have e135 : ∀ b : Nat, b < nb → F 135 b = D 135 b := fun b hb => h 135 b (by unfold relv; omega)
  have c137 : ∀ b : Int, cntE (F 137) b m = cntE (D 137) b m := fun b => cntE_c m e137
  have hbs : ∀ c : Nat, c < nb → rbs F m c = rbs D m c := by
    intro c hc
    unfold rbs
    rw [e129 45 (by decide), n8, if_pos rfl, if_pos rfl, e135 c hc, nthE_c (fun k hk => ⟨e137 k hk, e136 k hk⟩) m 0 (Nat.le_refl m)]
  refine ⟨q, q', ⟨⟨?_, ?_, ?_, ?_⟩, ?_, ?_, ?_, ⟨?_, ?_, ?_, n4, ?_, ?_⟩, ?_, ?_⟩, ⟨?_, ?_, ?_, ?_, ?_⟩, ?_⟩
  · unfold EG
    rw [f 30 (by decide), f 31 (by decide), f 32 (by decide)]
    exact g1
  · obtain ⟨a1, a2, a3, a4, a5⟩ := g2
    refine ⟨by rw [h 131 0 (by unfold relv; omega)]; exact a1, a2, by rw [h 131 1 (by unfold relv; omega)]; exact a3, a4, fun k hk => ?_⟩
    rw [e136 k hk, e137 k hk]
    exact a5 k hk
  · intro k hk
    rw [f 31 (by decide), f 32 (by decide), e136 k hk, e137 k hk]
    exact g3 k hk
  · intro b hb
    rw [f 34 (by decide), c137]
    exact g4 b hb
  · intro b hb
    rw [hbs b hb, f 36 (by decide), c137]
    exact hB b hb
  · intro b hb
    have := hS b hb
    unfold rsg at this ⊢
    rw [h46, if_neg (by omega)] at this
    rw [e129 46 (by decide), h46, if_neg (by omega), f 47 (by decide), f 154 (by decide)]
    exact this
  · rw [e129 46 (by decide)]
    exact h46
  · rw [f 58 (by decide)]
    exact n1
  · unfold knC
    rw [f 58 (by decide)]
    exact n2
  · unfold rkC
    rw [e129 64 (by decide), e129 65 (by decide)]
    exact n3
  · unfold NT
    rw [f 62 (by decide), f 59 (by decide), f 60 (by decide)]
    exact n5
  · rw [f 62 (by decide), f 59 (by decide), f 60 (by decide), f 61 (by decide), f 172 (by decide), f 169 (by decide), f 170 (by decide), f 171 (by decide)]
    exact n6
  · intro b hb
    rw [e135 b hb]
    exact n7 b hb
  · rw [e129 45 (by decide)]
    exact n8
  · rw [f 58 (by decide)]
    exact k1
  · rw [e129 64 (by decide)]
    exact k2
  · rw [f 58 (by decide), e129 65 (by decide)]
    exact k3
  · rw [f 58 (by decide)]
    exact k4
  · rw [f 58 (by decide)]
    exact k5
  · rw [f 47 (by decide)]
    exact s
theorem LE1_L {k : Nat} (hk : k < 3) (L : LE1 D k) (h : simL F D) : LE1 F k := by
  obtain ⟨⟨a1, a2⟩, ⟨a3, a4, a5⟩, a6, a7⟩ := L
  have f : ∀ z : Int, (26 ≤ z ∧ z < 129) → F z = D z := fun z hz => funext (fun j => h z j (by unfold relv; omega))
  have e138 : F 138 k = D 138 k := h 138 k (by unfold relv; omega)
  have e139 : F 139 k = D 139 k := h 139 k (by unfold relv; omega)
  refine ⟨?_, ?_, fun i h1 h2 => ?_, fun h1 => ?_⟩
  · rw [f 43 (by decide), f 44 (by decide), e138, e139]
    exact ⟨a1, a2⟩
  · rw [e138, e139]
    exact ⟨a3, a4, a5⟩
  · rw [e138] at h1
    rw [e139] at h2
    rw [f 41 (by decide), f 42 (by decide), h 140 i (by unfold relv; omega), h 141 i (by unfold relv; omega)]
    exact a6 i h1 h2
  · rw [e138, e139] at h1 ⊢
    rw [← a7 h1]
    exact hgt_c _ (fun q hq => ⟨h 140 _ (by unfold relv; omega), h 141 _ (by unfold relv; omega)⟩)
theorem RelX_L (R : RelX D nb m) (h8 : nb ≤ 8) (hm : m ≤ 16) (h : simL F D) (T : TE F) (ok : ok20 F) : RelX F nb m := by
  obtain ⟨g, p, ⟨l0, l1, l2⟩, U, H, _, z1, z2⟩ := R
  have f : ∀ z : Int, ((26 ≤ z ∧ z < 129) ∨ 142 ≤ z) → F z = D z := fun z hz => funext (fun j => h z j (by unfold relv; omega))
  have e129 : ∀ j : Int, 27 ≤ j → F 129 j = D 129 j := fun j hj => h 129 j (by unfold relv; omega)
  have e136 : ∀ k : Nat, k < m → F 136 k = D 136 k := fun k hk => h 136 k (by unfold relv; omega)
  have e137 : ∀ k : Nat, k < m → F 137 k = D 137 k := fun k hk => h 137 k (by unfold relv; omega)
  refine ⟨fun b hb => ?_, ?_, ⟨LE1_L (by decide) l0 h, LE1_L (by decide) l1 h, LE1_L (by decide) l2 h⟩, ?_, ?_, T, ?_, ok⟩
  · obtain ⟨a1, a2, a3, a4⟩ := g b hb
    have e135 : F 135 b = D 135 b := h 135 b (by unfold relv; omega)
    rw [f 33 (by decide), f 35 (by decide), f 37 (by decide), e135, cntE_c m e136, nxE_c m (fun k hk => ⟨e136 k hk, e137 k hk⟩)]
    refine ⟨a1, fun i hi => ?_, a3, fun z => ?_⟩
    · rw [nthE_c (g := fun z => z) (g' := fun z => z) (fun k hk => ⟨e136 k hk, rfl⟩) m i (Nat.le_refl m)]
      exact a2 i hi
    · obtain ⟨e, y1, y2, y3⟩ := a4 z
      exact ⟨e, y1, by rw [e137 e y1]; exact y2, by rw [e136 e y1]; exact y3⟩
  · obtain ⟨p1, p2, p3, p4⟩ := p
    rw [show PE F nb = ((∀ b : Nat, b < nb → F 27 b = F 132 b ∧ F 29 b = F 134 b ∧ 0 ≤ F 134 b ∧ F 134 b ≤ 99) ∧ ((1 ≤ F 26 6 ∧ F 26 6 ≤ 40) ∧ (nb = 0 ∨ F 26 6 = F 131 3)) ∧ (F 26 7 = F 131 4 ∧ 0 ≤ F 131 4 ∧ F 131 4 ≤ 100) ∧ F 40 0 = F 131 6) from rfl, f 26 (by decide), f 27 (by decide), f 29 (by decide), f 40 (by decide), h 131 3 (by unfold relv; omega), h 131 4 (by unfold relv; omega), h 131 6 (by unfold relv; omega)]
    refine ⟨fun b hb => ?_, p2, p3, p4⟩
    rw [h 132 b (by unfold relv; omega), h 134 b (by unfold relv; omega)]
    exact p1 b hb
  · exact RunE_c (fun z j x y => h z j (by unfold relv; omega)) (fun z x y => h z 0 (by unfold relv; omega)) (fun z b x y w => h z _ (by unfold relv; omega)) h8 U
  · exact HE_c h8 H ⟨by rw [f 64 (by decide)], by rw [f 64 (by decide)]⟩ (Or.inl ⟨by rw [f 64 (by decide)], e129 43 (by decide)⟩) (e129 42 (by decide)) (fun z x y => funext (fun j => h z j (by unfold relv; omega))) (fun z s x y w => h z s (by unfold relv; omega)) (fun z j x y => h z j (by unfold relv; omega))
  · rw [e129 48 (by decide)]
    exact z1
theorem Rel_L (R : Rel D) (h : simL F D) (T : TE F) (ok : ok20 F) : Rel F := by
  obtain ⟨nb, m, K, X⟩ := R
  have h8 : nb ≤ 8 := by
    obtain ⟨_, _, ⟨⟨g1, _⟩, _⟩, _⟩ := K
    exact g1.2.1
  have hm : m ≤ 16 := by
    obtain ⟨_, _, ⟨⟨g1, _⟩, _⟩, _⟩ := K
    exact g1.2.2.2.1
  exact ⟨nb, m, RelK_L K h, RelX_L X h8 hm h T ok⟩
end S99zd
