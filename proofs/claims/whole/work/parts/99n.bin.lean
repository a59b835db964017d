/-! Text: a sign between two operands, on both sides -/
def CTp (a p : Nat) (C : Sto) : Prop := ∃ j : Nat, a ≤ j ∧ j < a + p ∧ kf 3 (C 25 j) = 4 ∧ ∀ j' : Nat, j < j' → j' < a + p → 5 ≤ kf 3 (C 25 j')
def TEn (r : Int) (a p : Nat) (C : Sto) : Prop := tkRk (C 3 4) < r ∨ (tkRk (C 3 4) = 4 ∧ CTp a p C)
/-- the reader fails -/
def OUF (xs : Int → Int) (n : Int × Int) (d s a i : Nat) (l1 l2 : Int) (C R' : Sto) : Prop := ∃ C' : Sto, (∀ R0 : Sto, lp xs n d l1 l2 i C R0 = some ((0, 0), Sg xs n (mix C' R0))) ∧ FT C' R' ∧ fFC s a C C' ∧ ok20 C'
/-- the reader comes to the place behind -/
def OUS (xs : Int → Int) (n : Int × Int) (d : Nat) (r N : Int) (s h1 a o c i k : Nat) (l1 l2 : Int) (C R' : Sto) : Prop := ∃ (C' : Sto) (p' i' c' w' : Nat) (l2' : Int), (∀ R0 : Sto, lp xs n d l1 l2 i C R0 = lp xs n d 0 l2' i' C' R0) ∧ FS N s h1 a p' i' o c' w' C' R' ∧ fFC s a C C' ∧ c ≤ c' ∧ i + k ≤ i' ∧ PR r a p' C' ∧ TEn r a p' C'
/-- what a part of a formula does -/
def CLM (xs : Int → Int) (n : Int × Int) (d m : Nat) (r rt : Int) (K q : Nat) : Prop := ∀ (N : Int) (s h a i o c w : Nat) (C R : Sto) (l2 : Int), 700 ≤ i + q → FS N s h a 0 i o c w C R → TR rt a C → ((l2 = 1 ∧ r ≤ 3) ∨ (3 < r ∧ (l2 = 0 ∨ ¬ C 3 4 = -22))) → ∃ R' : Sto, (∀ e : Nat, K + 8 * (8 - o) + (64 - c) ≤ e → drf xs n e m [(2, 129)] R (9, 0) R') ∧ fFR s R R' ∧ (OUF xs n d s a i 1 l2 C R' ∨ OUS xs n d r N s (h + 1) a o c i 1 1 l2 C R')
theorem TR_up {r r' : Int} {a : Nat} {C : Sto} (h : TR r a C) (q : r ≤ r') : TR r' a C := by
  obtain e | ⟨e1, e2⟩ := h
  · exact Or.inl e
  · exact Or.inr ⟨e1, by omega⟩
theorem TR_c {r : Int} {s a : Nat} {C C' : Sto} (h : TR r a C) (q : fFC s a C C') : TR r a C' := by
  obtain e | ⟨e1, e2⟩ := h
  · exact Or.inl e
  · by_cases z : a = 0
    · exact Or.inl z
    · have := q.2.2.2.2.2.1 (a - 1) (by omega)
      exact Or.inr (by rw [this]; exact ⟨e1, e2⟩)
section S99n
variable {xs : Int → Int} {n : Int × Int} {C R : Sto} {N : Int} {s h a p i o c w : Nat}
theorem FS_w (F : FS N s h a p i o c w C R) : R 129 21 = 0 ∧ R 131 13 = ((w + p : Nat) : Int) ∧ w + (a + p) = c + o ∧ o ≤ a ∧ c ≤ 64 ∧ o ≤ 8 ∧ s ≤ w ∧ R 129 26 = (c : Int) ∧ R 129 25 = (o : Int) := by
  obtain ⟨_, ⟨f2, _⟩, ⟨⟨_, f6, f6'⟩, ⟨_, f7, f7'⟩, ⟨_, f8⟩, ⟨_, f9, f9'⟩⟩, _, _, _, ⟨f13, _⟩, _⟩ := F
  exact ⟨f2, f8, f9', f9, f7', f6', f13, f7, f6⟩
theorem FS_ok20 (F : FS N s h a p i o c w C R) : ok20 C := F.2.2.2.2.2.1
theorem fFR_pt {w its v : Int} (hw : (s : Int) ≤ w) : fFR s R (ptS R w its v) := by
  unfold ptS
  refine ⟨fun z hz => ?_, fun j hj => ?_, fun j hj => ?_, fun j hj => ⟨?_, ?_⟩⟩
  · funext j
    rw [up_ne (by omega), up_ne (by omega), up_ne (by omega)]
  · rw [up_ne (by decide), up_ne (by decide), up_ne (by decide)]
  · rw [up_ni hj, up_ne (by decide), up_ne (by decide)]
  · rw [up_ne (by decide), up_ne (by decide), up_ni (by omega)]
  · rw [up_ne (by decide), up_ni (by omega), up_ne (by decide)]
theorem fFR_26 {v : Int} : fFR s R (up R 129 26 v) := by
  refine ⟨fun z hz => ?_, fun j hj => ?_, fun j hj => ?_, fun j hj => ⟨?_, ?_⟩⟩
  · funext j
    rw [up_ne (by omega)]
  · rw [up_ni (by omega)]
  · rw [up_ne (by decide)]
  · rw [up_ne (by decide)]
  · rw [up_ne (by decide)]
theorem fFC_push {k x y : Int} : fFC s a C (up (up (up C 19 0 x) 25 (a : Int) k) 2 5 y) := by
  refine ⟨fun z hz => ?_, fun j hj => ?_, fun j hj => ?_, fun j hj => ?_, fun j hj => ⟨?_, ?_⟩, fun j hj => ?_, ?_⟩
  · funext j
    rw [up_ne (by omega), up_ne (by omega), up_ne (by omega)]
  · rw [up_ni (by omega), up_ne (by decide), up_ne (by decide)]
  · rw [up_ne (by decide), up_ne (by decide), up_ne (by decide)]
  · rw [up_ne (by decide), up_ne (by decide), up_ni (by omega)]
  · rw [up_ne (by decide), up_ne (by decide), up_ne (by decide)]
  · rw [up_ne (by decide), up_ne (by decide), up_ne (by decide)]
  · rw [up_ne (by decide), up_ni (by omega), up_ne (by decide)]
  · rw [up_ne (show ¬ (3 : Int) = 2 by decide), up_ne (show ¬ (3 : Int) = 25 by decide), up_ne (show ¬ (3 : Int) = 19 by decide)]
    exact Int.le_refl _
/-- a sign with its right operand: class and reference up to where the reference puts it -/
theorem BIN (d : Nat) {r ro rt v l2 : Int} {mo Ko q : Nat} (cl : CLM xs n d mo ro rt Ko q) (F : FS N s (h + 1) a p i o c w C R) (hq : 700 ≤ i + 1 + q) (hr : kf 3 (C 3 4) = r) (h2 : kf 2 (C 3 4) = 3) (r0 : 0 < r) (hp : PR (if r = 4 then 5 else r) a p C) (ht : TR r a C) (hv : sgP (C 3 4) v) (h26 : ¬ v = 260) (rr : r ≤ ro) (rrt : r < rt) (hl : (r < 3 ∧ ro ≤ 3) ∨ (¬ r < 3 ∧ 3 < ro)) : (¬ c < 64 ∧ OUF xs n d s a i 0 l2 C (wrgS R 2)) ∨ (c < 64 ∧ ∃ R2 R3 : Sto, (∀ e : Nat, drf xs n (e + 3) 189 [(2, 129)] (up R 129 26 ((c : Int) + 1)) (9, 0) R2) ∧ (∀ e : Nat, Ko + 8 * (8 - o) + (64 - (c + 1)) ≤ e → drf xs n e mo [(2, 129)] R2 (9, 0) R3) ∧ fFR s R R3 ∧ (OUF xs n d s a i 0 l2 C R3 ∨ (∃ (C' : Sto) (p' i' c' w' : Nat) (l2' : Int), (∀ R0 : Sto, lp xs n d 0 l2 i C R0 = lp xs n d 0 l2' i' C' R0) ∧ R3 129 21 = 0 ∧ R3 131 13 = ((w' + p' : Nat) : Int) ∧ w' + p' < 64 ∧ s ≤ w' ∧ FS N s (h + 1) a (p' + 1) i' o c' w' C' (ptS R3 ((w' + p' : Nat) : Int) 2 v) ∧ fFC s a C C' ∧ c ≤ c' ∧ i + 1 ≤ i' ∧ PR r a (p' + 1) C' ∧ TEn ro a (p' + 1) C' ∧ kf 3 (C' 25 (a : Int)) = r ∧ PR ro (a + 1) p' C'))) := by
  have kc := FS_kc F
  have trf : TR (if r = 4 then 5 else r) a C := TR_up ht (by by_cases z : r = 4 <;> simp only [z, if_true, if_false] <;> omega)
  have rf0 : 0 < (if r = 4 then 5 else r) := by by_cases z : r = 4 <;> simp only [z, if_true, if_false] <;> omega
  obtain ⟨C1, g1, F1, g3, g4, g5⟩ := FS_flush (xs := xs) (n := n) (d + 3) F hp trf rf0
  have okt : a = 0 ∨ okK (C1 25 ((a - 1 : Nat) : Int)) = true := by
    obtain e | e := ht
    · exact Or.inl e
    · rw [g4]
      exact Or.inr e.1
  have c25 : C1 2 5 = (a : Int) := F1.2.2.1.2.2.2.1
  have top : kf 3 (C 3 4) = 4 → ¬ topR C1 = 4 := by
    intro z
    unfold topR
    rw [c25]
    by_cases y : 0 < (a : Int)
    · rw [if_neg (fun x => x y), g4]
      obtain e | e := ht
      · omega
      · rw [show (a : Int) - 1 = ((a - 1 : Nat) : Int) by omega]
        omega
    · rw [if_pos y]
      decide
  have g1' : dcl xs n (d + 5) 90 [(2, 2), (0, if kf 3 (C 3 4) = 4 then 5 else kf 3 (C 3 4))] C (9, 0) C1 := by
    rw [hr]
    exact g1
  by_cases hc : c < 64
  · right
    refine ⟨hc, ?_⟩
    have e5 := e85 (xs := xs) (n := n) d kc.1 F1 g1' okt top hc
    have F2 := FS_push F1 hc (C 3 4)
    have pf : fFC s a C1 (up (up (up C1 19 0 ((c : Int) + 1)) 25 (a : Int) (C 3 4)) 2 5 ((a : Int) + 1)) := fFC_push
    have p25 : (up (up (up C1 19 0 ((c : Int) + 1)) 25 (a : Int) (C 3 4)) 2 5 ((a : Int) + 1)) 25 (a : Int) = C 3 4 := by rw [up_ne (by decide), up_at]
    have p3 : (up (up (up C1 19 0 ((c : Int) + 1)) 25 (a : Int) (C 3 4)) 2 5 ((a : Int) + 1)) 3 4 = C 3 4 := by rw [up_ne (by decide), up_ne (by decide), up_ne (by decide), g5]
    have k38 : ¬ C 3 4 = -38 := fun z => by rw [z] at h2; exact absurd h2 (by decide)
    have F2t := FS_tok (xs := xs) (n := n) F2 (by rw [p3]; exact k38)
    generalize up (up (up C1 19 0 ((c : Int) + 1)) 25 (a : Int) (C 3 4)) 2 5 ((a : Int) + 1) = C2 at e5 F2 pf p25 F2t
    obtain ⟨C3, R2, t1, t2, F3, t4, t5, t6⟩ := F2t
    have ln : ∀ R0 : Sto, lp xs n d 0 l2 i C R0 = lp xs n d 1 (bB (kf 3 (C 3 4) < 3)) ((i + 1 : Nat) : Int) C3 R0 := lp_infix d F h2 e5 t1
    have q25 : C3 25 (a : Int) = C 3 4 := by rw [t6, p25]
    have tr3 : TR rt (a + 1) C3 := Or.inr (by rw [show a + 1 - 1 = a by omega, q25, hr]; exact ⟨kc.1, rrt⟩)
    have ll : ((bB (kf 3 (C 3 4) < 3) = 1 ∧ ro ≤ 3) ∨ (3 < ro ∧ (bB (kf 3 (C 3 4) < 3) = 0 ∨ ¬ C3 3 4 = -22))) := by
      rw [hr]
      obtain e | e := hl
      · exact Or.inl ⟨bB_t e.1, e.2⟩
      · exact Or.inr ⟨e.2, Or.inl (bB_f e.1)⟩
    obtain ⟨R3, u1, u2, u3⟩ := cl N s (h + 1) (a + 1) (i + 1) o (c + 1) (w + p) C3 R2 _ (by omega) F3 tr3 ll
    have fr : fFR s R R3 := fFR_t (fFR_t fFR_26 t5) u2
    have fc : fFC s a C C3 := fFC_t (fFC_t g3 pf) (t4 a)
    refine ⟨R2, R3, t2, u1, fr, ?_⟩
    obtain ⟨C4, v1, v2, v3, v4⟩ | ⟨C4, p', i', c', w', l2', v1, F4, v3, v4, v5, v6, v7⟩ := u3
    · exact Or.inl ⟨C4, fun R0 => (ln R0).trans (v1 R0), v2, fFC_t fc (fFC_m v3 (by omega)), v4⟩
    · right
      have w4 := FS_w F4
      have x25 : C4 25 (a : Int) = C 3 4 := (v3.2.2.2.2.2.1 a (by omega)).trans q25
      have hst : stH 2 v (h + 1 + 1) = some (h + 1) := by
        unfold stH
        rw [if_pos rfl, if_neg h26, if_pos (by omega)]
        rfl
      have ho := (FS_w F).2.2.2.1
      have F5 := FS_put F4 ho (v := v) (by rw [x25]; exact hv) hst
      refine ⟨C4, p', i', c', w', l2', fun R0 => (ln R0).trans (v1 R0), w4.1, w4.2.1, by omega, by omega, F5, fFC_t fc (fFC_m v3 (by omega)), by omega, by omega, ?_, ?_, by rw [x25]; exact hr, v6⟩
      · intro j h1 h2
        by_cases z : j = a
        · rw [z, x25, hr]
          exact Int.le_refl r
        · have := v6 j (by omega) (by omega)
          omega
      · obtain z | ⟨z1, j, z2, z3, z4, z5⟩ := v7
        · exact Or.inl z
        · exact Or.inr ⟨z1, j, by omega, by omega, z4, fun j' y1 y2 => z5 j' y1 (by omega)⟩
  · left
    have e5 := e85f (xs := xs) (n := n) d kc.1 F1 g1' okt top hc
    exact ⟨hc, flS C1 2, fun R0 => lp_infix_f d F h2 e5 R0, FT_f F1 (by decide), fFC_t g3 fFC_fl, ok20_fl (FS_ok20 F1)⟩
theorem OUF_t {d i' : Nat} {l1 l2 l1' l2' : Int} {C' R' : Sto} (e : ∀ R0 : Sto, lp xs n d l1 l2 i C R0 = lp xs n d l1' l2' i' C' R0) (f : fFC s a C C') (u : OUF xs n d s a i' l1' l2' C' R') : OUF xs n d s a i l1 l2 C R' := by
  obtain ⟨C4, v1, v2, v3, v4⟩ := u
  exact ⟨C4, fun R0 => (e R0).trans (v1 R0), v2, fFC_t f v3, v4⟩
theorem OUS_t {d i' c' k k' h1 : Nat} {r l1 l2 l1' l2' : Int} {C' R' : Sto} (e : ∀ R0 : Sto, lp xs n d l1 l2 i C R0 = lp xs n d l1' l2' i' C' R0) (f : fFC s a C C') (hc : c ≤ c') (hi : i + k ≤ i' + k') (u : OUS xs n d r N s h1 a o c' i' k' l1' l2' C' R') : OUS xs n d r N s h1 a o c i k l1 l2 C R' := by
  obtain ⟨C4, p', i4, c4, w', l2', v1, F4, v3, v4, v5, v6, v7⟩ := u
  exact ⟨C4, p', i4, c4, w', l2', fun R0 => (e R0).trans (v1 R0), F4, fFC_t f v3, by omega, by omega, v6, v7⟩
/-- a comparison behind a comparison -/
theorem XCMP (d : Nat) {l2 : Int} (F : FS N s h a p i o c w C R) (k4 : tkRk (C 3 4) = 4) (ct : CTp a p C) : OUF xs n d s a i 0 l2 C (wrgS R 1) := by
  obtain ⟨i1, tp⟩ := FS_i F
  obtain ⟨_, _, _, tpd, tpe, _, _⟩ := tp
  have kc := FS_kc F
  have hr : kf 3 (C 3 4) = 4 := by rw [tpe.2.2.1 (by omega)]; exact k4
  have h2 : kf 2 (C 3 4) = 3 := tpe.2.1.mpr (by omega)
  have ok := FS_ok F
  have w0 := FS_w F
  obtain ⟨j, j1, j2, j3, j4⟩ := ct
  have F' := F
  obtain ⟨f1, ⟨f2, f3, f4, f5⟩, ⟨f6, f7, ⟨f8, f8'⟩, ⟨f9, f9', f9''⟩⟩, f10, f11, f12, f13, f14⟩ := F
  obtain ⟨C1, g1, g2, g3, g4, g5, g6, g7, g8, g9⟩ := e90 (xs := xs) (n := n) (d + 3) 5 (j + 1) (a + p - (j + 1)) 0 w C (by rw [f9]; omega) f8 (by omega) (by omega) (by omega) (fun j' h1 h2 => ⟨ok j' (by omega) (by omega), j4 j' (by omega) (by omega)⟩) (Or.inr (by rw [show j + 1 - 1 = j by omega, j3]; exact ⟨ok j j1 j2, by decide⟩)) (by decide)
  have z3 := g6 3 (by decide)
  have z25 := g6 25 (by decide)
  have e9 : dcl xs n (d + 5) 90 [(2, 2), (0, 5)] C (9, 0) C1 := fun R0 => by
    rw [n90, h90_0]
    exact g1 R0
  have tp1 : topR C1 = 4 := by
    unfold topR
    rw [g2, if_neg (by omega), z25, show ((j + 1 : Nat) : Int) - 1 = (j : Int) by omega]
    exact j3
  have e5 := e85x (xs := xs) (n := n) d kc.1 hr g2 (by omega) (by omega) e9 (by rw [z25, show ((j + 1 : Nat) : Int) - 1 = (j : Int) by omega]; exact ok j j1 j2) tp1
  refine ⟨flS C1 1, fun R0 => lp_infix_f d F' h2 e5 R0, ?_, fFC_t ⟨fun z hz => g6 z (by omega), fun j hj => g7 j (by omega), fun j _ => by rw [z3], fun j hj => g8 j (by omega), fun j hj => g5 j (by omega), fun j _ => by rw [z25], by rw [z3]; exact Int.le_refl _⟩ fFC_fl, ok20_fl (g9 f12)⟩
  unfold FT flS wrgS
  rw [up_ni (show ¬ (2 : Int) = 3 by decide), up_at, up_at, up_at, up_ni (show ¬ (21 : Int) = 22 by decide), up_at, z3]
  exact ⟨rfl, f1.2.2.1.1, by decide⟩
end S99n
