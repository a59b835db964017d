/-! Runs: all stays beside each other when a run, its history, the image have moved -/
def scH (z j : Int) : Prop := z = 46 ∨ z = 47 ∨ z = 48 ∨ (64 ≤ z ∧ z ≤ 128) ∨ (144 ≤ z ∧ z ≤ 155) ∨ (z = 129 ∧ (j = 42 ∨ j = 43))
def simH (F D : Sto) : Prop := ∀ z j : Int, ¬ scr z j → ¬ scH z j → F z j = D z j
section S89a
variable {xs : Int → Int} {n : Int × Int} {F D G : Sto} {nb m : Nat}
theorem simH_of (h : sim F D) : simH F D := fun z j h1 _ => h z j h1
theorem simH_t (h1 : simH F G) (h2 : simH G D) : simH F D := fun z j x y => (h1 z j x y).trans (h2 z j x y)
theorem RelK_H (R : RelK D nb m) (h : simH F D) (U : RunE F nb 46 0) : RelK F nb m := by
  obtain ⟨q, q', ⟨⟨g1, g2, g3, g4⟩, hB, hS, h46, ⟨n1, n2, n3, n4, n5, n6⟩, n7, n8⟩, ⟨k1, k2, k3, k4, k5⟩, s⟩ := R
  have h8 := g1.2.1
  have f : ∀ z : Int, ¬ scz z → ¬ (46 ≤ z ∧ z ≤ 48) → ¬ (64 ≤ z ∧ z ≤ 128) → F z = D z := fun z hz a b => funext (fun j => h z j (ns z hz j) (by unfold scz at hz; unfold scH; omega))
  have e58 : ∀ j : Int, ¬ (1 ≤ j ∧ j ≤ 3) → F 58 j = D 58 j := fun j hj => h 58 j (by unfold scr; omega) (by unfold scH; omega)
  have e129 : ∀ j : Int, ¬ (j = 0 ∨ j = 29 ∨ j = 47 ∨ j = 49 ∨ j = 55 ∨ j = 56 ∨ j = 42 ∨ j = 43) → F 129 j = D 129 j := fun j hj => h 129 j (by unfold scr; omega) (by unfold scH; omega)
  have hbs : ∀ c, rbs F m c = rbs D m c := by
    intro c
    unfold rbs
    rw [e129 45 (by decide), n8, if_pos rfl, if_pos rfl, f 135 (by unfold scz; omega) (by decide) (by decide), f 136 (by unfold scz; omega) (by decide) (by decide), f 137 (by unfold scz; omega) (by decide) (by decide)]
  refine ⟨q, q', ⟨⟨?_, ?_, ?_, ?_⟩, ?_, ?_, ?_, ⟨?_, ?_, ?_, n4, ?_, ?_⟩, ?_, ?_⟩, ⟨?_, ?_, ?_, ?_, ?_⟩, ?_⟩
  · unfold EG
    rw [f 30 (by unfold scz; omega) (by decide) (by decide), f 31 (by unfold scz; omega) (by decide) (by decide), f 32 (by unfold scz; omega) (by decide) (by decide)]
    exact g1
  · unfold RG
    rw [f 131 (by unfold scz; omega) (by decide) (by decide), f 136 (by unfold scz; omega) (by decide) (by decide), f 137 (by unfold scz; omega) (by decide) (by decide)]
    exact g2
  · rw [f 31 (by unfold scz; omega) (by decide) (by decide), f 32 (by unfold scz; omega) (by decide) (by decide), f 136 (by unfold scz; omega) (by decide) (by decide), f 137 (by unfold scz; omega) (by decide) (by decide)]
    exact g3
  · rw [f 34 (by unfold scz; omega) (by decide) (by decide), f 137 (by unfold scz; omega) (by decide) (by decide)]
    exact g4
  · intro b hb
    rw [hbs, f 36 (by unfold scz; omega) (by decide) (by decide), f 137 (by unfold scz; omega) (by decide) (by decide)]
    exact hB b hb
  · intro b hb
    unfold rsg
    rw [e129 46 (by decide), h46, if_neg (by omega)]
    exact (U.1 b hb).1.1
  · rw [e129 46 (by decide)]
    exact h46
  · rw [e58 0 (by decide)]
    exact n1
  · unfold knC
    rw [e58 0 (by decide), e58 4 (by decide)]
    exact n2
  · unfold rkC
    rw [e129 64 (by decide), e129 65 (by decide)]
    exact n3
  · unfold NT
    rw [f 62 (by unfold scz; omega) (by decide) (by decide), f 59 (by unfold scz; omega) (by decide) (by decide), f 60 (by unfold scz; omega) (by decide) (by decide)]
    exact n5
  · rw [f 62 (by unfold scz; omega) (by decide) (by decide), f 59 (by unfold scz; omega) (by decide) (by decide), f 60 (by unfold scz; omega) (by decide) (by decide), f 61 (by unfold scz; omega) (by decide) (by decide), f 172 (by unfold scz; omega) (by decide) (by decide), f 169 (by unfold scz; omega) (by decide) (by decide), f 170 (by unfold scz; omega) (by decide) (by decide), f 171 (by unfold scz; omega) (by decide) (by decide)]
    exact n6
  · rw [f 135 (by unfold scz; omega) (by decide) (by decide)]
    exact n7
  · rw [e129 45 (by decide)]
    exact n8
  · rw [e58 0 (by decide)]
    exact k1
  · rw [e129 64 (by decide)]
    exact k2
  · rw [e58 4 (by decide), e129 65 (by decide)]
    exact k3
  · rw [e58 4 (by decide)]
    exact k4
  · rw [e58 4 (by decide)]
    exact k5
  · intro b hb
    have := (U.1 b hb).1
    have e : F 47 b = F 154 (8 * 0 + b) := this.1
    rw [e]
    exact this.2
theorem RelX_H (R : RelX D nb m) (h : simH F D) (U : RunE F nb 46 0) (H : HE F nb) : RelX F nb m := by
  obtain ⟨g, p, ⟨l0, l1, l2⟩, _, _, ⟨L, t1, t2, t3, t4⟩, z1, z2⟩ := R
  have f : ∀ z : Int, ¬ scz z → ¬ (46 ≤ z ∧ z ≤ 48) → ¬ (64 ≤ z ∧ z ≤ 128) → F z = D z := fun z hz a b => funext (fun j => h z j (ns z hz j) (by unfold scz at hz; unfold scH; omega))
  have e129 : ∀ j : Int, ¬ (j = 0 ∨ j = 29 ∨ j = 47 ∨ j = 49 ∨ j = 55 ∨ j = 56 ∨ j = 42 ∨ j = 43) → F 129 j = D 129 j := fun j hj => h 129 j (by unfold scr; omega) (by unfold scH; omega)
  have e40 : ∀ j : Int, ¬ j = 7 → F 40 j = D 40 j := fun j hj => h 40 j (by unfold scr; omega) (by unfold scH; omega)
  refine ⟨?_, ?_, LE_D (fun z hz => f z (by unfold scz; omega) (by omega) (by omega)) ⟨l0, l1, l2⟩, U, H, ⟨L, ?_, ?_, ?_, ?_⟩, ?_, ?_⟩
  · unfold G2
    rw [f 135 (by unfold scz; omega) (by omega) (by omega), f 33 (by unfold scz; omega) (by omega) (by omega), f 37 (by unfold scz; omega) (by omega) (by omega), f 35 (by unfold scz; omega) (by omega) (by omega), f 136 (by unfold scz; omega) (by omega) (by omega), f 137 (by unfold scz; omega) (by omega) (by omega)]
    exact g
  · unfold PE
    rw [f 27 (by unfold scz; omega) (by omega) (by omega), f 29 (by unfold scz; omega) (by omega) (by omega), f 26 (by unfold scz; omega) (by omega) (by omega), f 131 (by unfold scz; omega) (by omega) (by omega), f 132 (by unfold scz; omega) (by omega) (by omega), f 134 (by unfold scz; omega) (by omega) (by omega), e40 0 (by decide)]
    exact p
  · rw [f 3 (by unfold scz; omega) (by omega) (by omega), e129 2 (by decide)]
    exact t1
  · rw [f 4 (by unfold scz; omega) (by omega) (by omega), f 130 (by unfold scz; omega) (by omega) (by omega)]
    exact t2
  · rw [f 1 (by unfold scz; omega) (by omega) (by omega), e129 23 (by decide)]
    exact t3
  · rw [f 1 (by unfold scz; omega) (by omega) (by omega), e129 24 (by decide)]
    exact t4
  · rw [e129 48 (by decide)]
    exact z1
  · rw [f 20 (by unfold scz; omega) (by omega) (by omega)]
    exact z2
theorem Rel_H (K : RelK D nb m) (X : RelX D nb m) (h : simH F D) (U : RunE F nb 46 0) (H : HE F nb) : Rel F := ⟨nb, m, RelK_H K h U, RelX_H X h U H⟩
/-- the run as it is read off the class's cells -/
def pC (D : Sto) (r : Int) : PSt := (fun j => D r j, fun b => D (r + 2) b)
theorem pC_CR {r : Int} : CR D r nb (pC D r) := ⟨fun _ _ _ => rfl, fun _ _ => rfl⟩
theorem pC_B {r s : Int} (U : RunE D nb r s) : PBd nb (pC D r) ∧ (0 ≤ (pC D r).1 3 ∧ (pC D r).1 3 ≤ 10000) := by
  obtain ⟨u, f1, f2, f3, f4, f5, f6, ⟨a8, a9, a10⟩, ⟨b8, b9, b10⟩, f11⟩ := U
  refine ⟨⟨?_, ?_, ?_, ?_, ?_, ?_, ?_, ?_⟩, ?_⟩
  · show 0 ≤ D r 2 ∧ D r 2 < 2 ^ nb
    rw [f1.1]; exact f1.2
  · show 0 ≤ D r 4 ∧ (D r 4 < nb ∨ (nb = 0 ∧ D r 4 = 0))
    rw [f3.1]; exact f3.2
  · show 0 ≤ D r 5 ∧ D r 5 < 256
    rw [f4.1]; exact f4.2
  · show 0 ≤ D r 6 ∧ D r 6 < 256
    rw [f5.1]; exact f5.2
  · show 0 ≤ D r 7 ∧ D r 7 ≤ 999999
    rw [f6.1]; exact f6.2
  · show in32 (D r 8) ∧ in32 (D r 9) ∧ in32 (D r 10)
    rw [a8, a9, a10]; exact ⟨b8, b9, b10⟩
  · show 0 ≤ D r 11 ∧ D r 11 < 2147483648
    rw [f11.1]; exact f11.2
  · intro b hb
    show 0 ≤ D (r + 2) b ∧ D (r + 2) b ≤ 9999
    have := (u b hb).2
    rw [this.1]; exact this.2
  · show 0 ≤ D r 3 ∧ D r 3 ≤ 10000
    rw [f2.1]; exact f2.2
theorem pC_RR {r s w : Int} (U : RunE D nb r s) (hw : ¬ w = 1) : RR D s nb w (pC D r) := by
  obtain ⟨u, f1, f2, f3, f4, f5, f6, ⟨a8, a9, a10⟩, _, f11⟩ := U
  refine ⟨Or.inr ⟨hw, f1.1.symm⟩, fun j h1 h2 => ?_, fun b hb => (u b hb).2.1.symm⟩
  have : j = 3 ∨ j = 4 ∨ j = 5 ∨ j = 6 ∨ j = 7 ∨ j = 8 ∨ j = 9 ∨ j = 10 ∨ j = 11 := by omega
  obtain q | q | q | q | q | q | q | q | q := this
  · rw [q]; exact f2.1.symm
  · rw [q]; exact f3.1.symm
  · rw [q]; exact f4.1.symm
  · rw [q]; exact f5.1.symm
  · rw [q]; exact f6.1.symm
  · rw [q]; exact a8.symm
  · rw [q]; exact a9.symm
  · rw [q]; exact a10.symm
  · rw [q]; exact f11.1.symm
/-- a run from its parts -/
theorem RunE_of {r s : Int} {p : PSt} (C : CR D r nb p) (R : RR D s nb 0 p) (B : PBd nb p) (h3 : 0 ≤ p.1 3 ∧ p.1 3 ≤ 10000) (hS : ∀ b : Nat, b < nb → D (r + 1) b = D 154 (8 * s + b) ∧ 0 ≤ D 154 (8 * s + b) ∧ D 154 (8 * s + b) < 256) : RunE D nb r s := by
  obtain ⟨b1, b2, b3, b4, b5, b6, b7, b8'⟩ := B
  obtain ⟨r1, r2, r3⟩ := R
  have e2 : D 153 s = p.1 2 := by
    obtain ⟨z, _⟩ | ⟨_, z⟩ := r1
    · omega
    · exact z
  have e3 : D 144 s = p.1 3 := r2 3 (by omega) (by omega)
  have e4 : D 146 s = p.1 4 := r2 4 (by omega) (by omega)
  have e5 : D 147 s = p.1 5 := r2 5 (by omega) (by omega)
  have e6 : D 148 s = p.1 6 := r2 6 (by omega) (by omega)
  have e7 : D 149 s = p.1 7 := r2 7 (by omega) (by omega)
  have e8 : D 150 s = p.1 8 := r2 8 (by omega) (by omega)
  have e9 : D 151 s = p.1 9 := r2 9 (by omega) (by omega)
  have e10 : D 152 s = p.1 10 := r2 10 (by omega) (by omega)
  have e11 : D 145 s = p.1 11 := r2 11 (by omega) (by omega)
  refine ⟨fun b hb => ⟨hS b hb, ?_⟩, ?_⟩
  · rw [C.2 b hb, r3 b hb]
    exact ⟨rfl, b8' b hb⟩
  · unfold RunF
    rw [C.1 2 (by omega) (by omega), C.1 3 (by omega) (by omega), C.1 4 (by omega) (by omega), C.1 5 (by omega) (by omega), C.1 6 (by omega) (by omega), C.1 7 (by omega) (by omega), C.1 8 (by omega) (by omega), C.1 9 (by omega) (by omega), C.1 10 (by omega) (by omega), C.1 11 (by omega) (by omega), e2, e3, e4, e5, e6, e7, e8, e9, e10, e11]
    exact ⟨⟨rfl, b1⟩, ⟨rfl, h3⟩, ⟨rfl, b2⟩, ⟨rfl, b3⟩, ⟨rfl, b4⟩, ⟨rfl, b5⟩, ⟨rfl, rfl, rfl⟩, b6, ⟨rfl, b7⟩⟩
theorem EV_of (K : RelK D nb m) (X : RelX D nb m) : EV D nb m (D 47) := by
  obtain ⟨⟨g1, g2, g3, g4⟩, hB, hS, h46, h45, hRB⟩ := RelK_G K
  obtain ⟨x1, x2, x3, x4, _⟩ := X
  refine ⟨⟨g2, x3⟩, ?_, ?_, ?_, x2.2.2.1.2⟩
  · intro b hb
    have := (x4.1 b hb).1
    have e : D 47 b = D 154 (8 * 0 + b) := this.1
    rw [e]
    exact this.2
  · intro b hb
    exact (hB b hb).2
  · intro b hb
    have := (x1 b hb).1
    rw [← this.1]
    exact ⟨this.2, (x2.1 b hb).2.2⟩
theorem EV_sg {sg sh : Int → Int} (E : EV D nb m sg) (h : ∀ b : Nat, b < nb → sh b = sg b) : EV D nb m sh := by
  obtain ⟨e1, e2, e3⟩ := E
  refine ⟨e1, fun b hb => ?_, e3⟩
  rw [h b hb]
  exact e2 b hb
theorem CE_of (K : RelK D nb m) (X : RelX D nb m) : CE D nb m (D 47) 46 := by
  have E := EV_of K X
  obtain ⟨g, hB, hS, h46, h45, hRB⟩ := RelK_G K
  exact ⟨g, hB, X.1, fun b hb => ⟨(X.2.1.1 b hb).2.1, rfl⟩, X.2.1.2.2.1.1, E⟩
end S89a
