/-! Text: a token of both -/
def sgO (v : Int) : Prop := v = 60 ∨ v = 256 ∨ v = 61 ∨ v = 257 ∨ v = 258 ∨ v = 62 ∨ v = 43 ∨ v = 45 ∨ v = 42 ∨ v = 47 ∨ v = 40 ∨ v = 41 ∨ v = 59
def tkQ (kc l6 l7 rk rv : Int) : Prop := (∃ w : Nat, w < 21 ∧ kc = cKw w ∧ rk = 0 ∧ rv = (w : Int)) ∨ (kc = -37 ∧ rk = 1 ∧ l6 = rv) ∨ (kc = -36 ∧ rk = 2 ∧ nuE l7 rv) ∨ (rk = 3 ∧ kc = sgC rv ∧ sgO rv) ∨ (kc = -38 ∧ rk = 4) ∨ (kc = -39 ∧ rk = 5)
theorem sg_o {c x : Int} (h : sgK c = 3) : sgO (sgV c x) := by
  unfold sgK at h
  by_cases q : c = 59 ∨ c = 40 ∨ c = 41 ∨ c = 43 ∨ c = 45 ∨ c = 42 ∨ c = 47 ∨ c = 60 ∨ c = 61 ∨ c = 62
  · unfold sgV sgO
    by_cases a : c = 60 ∧ x = 61
    · rw [if_pos a]; omega
    · rw [if_neg a]
      by_cases b : c = 60 ∧ x = 62
      · rw [if_pos b]; omega
      · rw [if_neg b]
        by_cases e : c = 62 ∧ x = 61
        · rw [if_pos e]; omega
        · rw [if_neg e]; omega
  · rw [if_neg q] at h
    exact absurd h (by decide)
theorem sg_k {c : Int} (h : ¬ sgK c = 3) : sgK c = 5 := by
  unfold sgK at h ⊢
  by_cases q : c = 59 ∨ c = 40 ∨ c = 41 ∨ c = 43 ∨ c = 45 ∨ c = 42 ∨ c = 47 ∨ c = 60 ∨ c = 61 ∨ c = 62
  · rw [if_pos q] at h
    exact absurd rfl h
  · rw [if_neg q]
theorem nx_eq {f g : Int → Int} {N i : Int} (h : i < N → f i = g i) : nxV f N i = nxV g N i := by
  unfold nxV
  by_cases q : i < N
  · rw [if_pos q, if_pos q, h q]
  · simp only [q, if_false]
theorem tk_s {f g : Int → Int} {N i : Int} (hf : ∀ j : Int, i ≤ j → j < N → f j = g j) : tzS f N i = tzS g N i := stE_eq 700 i hf
theorem tk_e {f g : Int → Int} {N s : Int} (hf : ∀ j : Int, s ≤ j → j < N → f j = g j) : tkE f N s = tkE g N s := by
  unfold tkE
  by_cases q : s < N
  · have nn : ¬ ¬ s < N := fun z => z q
    rw [if_neg nn, if_neg nn, hf s (by omega) q, stE_eq 700 s hf, stE_eq 700 s hf, nx_eq (fun z => hf (s + 1) (by omega) z)]
  · rw [if_pos q, if_pos q]
theorem tk_eb {f : Int → Int} {N s : Int} (h : s ≤ N) (hb : ∀ j : Int, s ≤ j → j < N → 0 ≤ f j ∧ f j < 256) : s ≤ tkE f N s ∧ tkE f N s ≤ N ∧ (s < N → s < tkE f N s) := by
  unfold tkE
  by_cases q : s < N
  · have nn : ¬ ¬ s < N := fun z => z q
    rw [if_neg nn]
    by_cases a : isL (f s) = true
    · have p := tkN_p (f := f) q a
      have e := tkN_e (f := f) h
      have b := stE_b (p := isL) (f := f) 700 s h
      rw [if_pos a]
      omega
    · rw [if_neg a]
      by_cases b : isD (f s) = true
      · have e : stE isD f N 700 s = stE isD f N 699 (s + 1) := by
          rw [show stE isD f N 700 s = if s < N ∧ isD (f s) = true then stE isD f N 699 (s + 1) else s from rfl, if_pos ⟨q, b⟩]
        have bb := stE_b (p := isD) (f := f) (N := N) 699 (s + 1) (by omega)
        rw [if_pos b, e]
        omega
      · rw [if_neg b]
        by_cases c : sgV (f s) (nxV f N (s + 1)) < 256
        · rw [if_pos c]
          omega
        · have : s + 1 < N := by
            refine Classical.byContradiction (fun z => c ?_)
            have hx : nxV f N (s + 1) = -1 := by
              unfold nxV
              rw [if_neg z]
            have := (hb s (by omega) q).2
            rw [hx]
            unfold sgV
            rw [if_neg (by omega), if_neg (by omega), if_neg (by omega)]
            exact this
          rw [if_neg c]
          omega
  · rw [if_pos q]
    omega
theorem tkq_rel {f g : Int → Int} {N s x y v : Int} (h : s ≤ N) (hf : ∀ j : Int, s ≤ j → j < N → f j = g j) (hb : ∀ j : Int, s ≤ j → j < N → 0 ≤ g j ∧ g j < 256) : tkQ (tkK f N s) (tk6 f N s x) (tk7 f N s y) (rkK g N s) (rkV g N s v) := by
  unfold tkK tk6 tk7 rkK rkV
  by_cases q : s < N
  · have e := hf s (by omega) q
    have nn : ¬ ¬ s < N := fun z => z q
    rw [if_neg nn, if_neg nn, if_neg nn, e]
    have eN : tkN f N s = tkN g N s := by
      unfold tkN
      rw [stE_eq 700 s hf]
    by_cases a : isL (g s) = true
    · have p := tkN_p (f := g) q a
      have ll := tkN_l (f := g) h
      rw [if_pos a, if_pos (show s < N ∧ isL (g s) = true from ⟨q, a⟩), if_pos a, if_pos a, eN]
      have ev : vwN f s (tkN g N s) = vwN g s (tkN g N s) := by
        funext u
        exact vw_eq (fun p hp => hf (s + p) (by omega) (ll p hp).1) u
      have ec : cdP f s (tkN g N s) (tkN g N s) = cdP g s (tkN g N s) (tkN g N s) := by
        unfold cdP
        rw [ev]
      rw [ec]
      unfold wdQ
      generalize tkN g N s = len at p ll
      by_cases c : 6 < len
      · rw [if_pos c, wd_long c, if_pos rfl, if_pos c]
        exact Or.inr (Or.inr (Or.inr (Or.inr (Or.inr ⟨rfl, rfl⟩))))
      · rw [if_neg c]
        obtain ⟨w1, w2⟩ | ⟨w, w1, w2, w3⟩ := wd_code (f := g) (st := s) (fun p hp => (ll p hp).2) p (by omega)
        · rw [w1, w2, if_pos rfl, if_neg c, if_pos (show (-1 : Int) = -1 ∧ ¬ 6 < len from ⟨rfl, c⟩), cd_6 (by omega)]
          exact Or.inr (Or.inl ⟨rfl, rfl, rfl⟩)
        · rw [w2, w3, if_neg (show ¬ (w : Int) = -1 by omega), if_neg (show ¬ ((w : Int) = -1 ∧ ¬ 6 < len) from fun z => by omega)]
          exact Or.inl ⟨w, w1, rfl, rfl, rfl⟩
    · have af : isL (g s) = false := by
        cases h : isL (g s)
        · rfl
        · exact absurd h a
      rw [if_neg a, if_neg (show ¬ (s < N ∧ isL (g s) = true) from fun z => a z.2), if_neg a, if_neg a]
      by_cases b : isD (g s) = true
      · rw [if_pos b, if_pos (show s < N ∧ isL (g s) = false ∧ isD (g s) = true from ⟨q, af, b⟩), if_pos b, if_pos b]
        exact Or.inr (Or.inr (Or.inl ⟨rfl, rfl, nu_eq 700 s 0 0 hf (Or.inl ⟨rfl, by omega⟩)⟩))
      · rw [if_neg b, if_neg b, if_neg b, nx_eq (fun z => hf (s + 1) (by omega) z), lk_sg (hb s (by omega) q).1 (hb s (by omega) q).2]
        by_cases c : sgK (g s) = 3
        · rw [if_pos c, c]
          exact Or.inr (Or.inr (Or.inr (Or.inl ⟨rfl, rfl, sg_o c⟩)))
        · rw [if_neg c, sg_k c]
          exact Or.inr (Or.inr (Or.inr (Or.inr (Or.inr ⟨rfl, rfl⟩))))
  · rw [if_pos q, if_pos q]
    exact Or.inr (Or.inr (Or.inr (Or.inr (Or.inl ⟨rfl, rfl⟩))))
/-- tape and token of both -/
def RTk (N : Int) (C R : Sto) : Prop := (C 3 2 = N ∧ R 129 16 = N ∧ N ≤ 700) ∧ (∀ j : Int, 0 ≤ j → j < N → C 4 j = R 130 j ∧ 0 ≤ R 130 j ∧ R 130 j < 256) ∧ (C 3 5 = R 129 18 ∧ C 3 3 = R 129 17 ∧ 0 ≤ R 129 17 ∧ R 129 17 ≤ N) ∧ tkQ (C 3 4) (C 3 6) (C 3 7) (R 129 19) (R 129 20)
/-- a token further: what stays -/
def tkF (C C' R R' : Sto) : Prop := (∀ z : Int, ¬ z = 3 → C' z = C z) ∧ (∀ j : Int, j < 3 ∨ 7 < j → C' 3 j = C 3 j) ∧ (∀ z : Int, ¬ z = 129 → R' z = R z) ∧ (∀ j : Int, j < 17 ∨ 20 < j → R' 129 j = R 129 j)
theorem tcS_mix {C R : Sto} {s e k x y : Int} : tcS (mix C R) s e k x y = mix (tcS C s e k x y) R := by
  funext z j
  unfold tcS mix
  by_cases q : z = 3
  · subst q
    rfl
  · simp only [q, if_false]
theorem trS_mix {C R : Sto} {s e k v : Int} : trS (mix C R) s e k v = mix C (trS R s e k v) := by
  funext z j
  unfold trS mix
  by_cases q : z = 129
  · subst q
    rfl
  · simp only [q, if_false]
section S99f
variable {xs : Int → Int} {n : Int × Int} {C R : Sto} {N : Int}
theorem tok0 (i : Int) (hN : C 3 2 = N) (hN' : R 129 16 = N) (hN7 : N ≤ 700) (hi : C 3 3 = i) (hi' : R 129 17 = i) (h0 : 0 ≤ i) (hiN : i ≤ N) (hf : ∀ j : Int, 0 ≤ j → j < N → C 4 j = R 130 j ∧ 0 ≤ R 130 j ∧ R 130 j < 256) : ∃ C' R' : Sto, (∀ d : Nat, dcl xs n (d + 3) 116 [(2, 3)] C (9, 0) C') ∧ (∀ d : Nat, drf xs n (d + 3) 189 [(2, 129)] R (9, 0) R') ∧ RTk N C' R' ∧ tkF C C' R R' ∧ (C' 3 4 = -38 ∨ i < C' 3 3) ∧ i ≤ C' 3 3 := by
  have hc : ∀ j : Int, 0 ≤ j → j < N → 0 ≤ C 4 j ∧ C 4 j < 256 := fun j a b => by rw [(hf j a b).1]; exact (hf j a b).2
  have bs := stE_b (p := isB) (f := R 130) 700 i hiN
  have ts : tzS (C 4) N i = tzS (R 130) N i := tk_s (fun j a b => (hf j (by omega) b).1)
  have hs : tzS (R 130) N i = stE isB (R 130) N 700 i := rfl
  rw [← hs] at bs
  have es : tkE (C 4) N (tzS (R 130) N i) = tkE (R 130) N (tzS (R 130) N i) := tk_e (fun j a b => (hf j (by omega) b).1)
  have eb := tk_eb (f := R 130) (N := N) (s := tzS (R 130) N i) bs.2 (fun j a b => (hf j (by omega) b).2)
  have rel := tkq_rel (f := C 4) (g := R 130) (x := C 3 6) (y := C 3 7) (v := R 129 20) bs.2 (fun j a b => (hf j (by omega) b).1) (fun j a b => (hf j (by omega) b).2)
  have tc : ∀ (d : Nat) (R0 : Sto), _ := fun (d : Nat) (R0 : Sto) => tokC (xs := xs) (n := n) (D := mix C R0) d N i (by rw [mix_c (by decide)]; exact hN) hN7 (by rw [mix_c (by decide)]; exact hi) h0 hiN (by rw [mix_c (by decide)]; exact hc)
  have tr : ∀ (d : Nat) (C0 : Sto), _ := fun (d : Nat) (C0 : Sto) => tokR (xs := xs) (n := n) (D := mix C0 R) d N i (by rw [mix_r (by decide)]; exact hN') hN7 (by rw [mix_r (by decide)]; exact hi') h0 hiN (by rw [mix_r (by decide)]; exact fun j a b => (hf j a b).2)
  have m3 : ∀ R0 : Sto, mix C R0 3 = C 3 := fun R0 => mix_c (by decide)
  have m4 : ∀ R0 : Sto, mix C R0 4 = C 4 := fun R0 => mix_c (by decide)
  have m129 : ∀ C0 : Sto, mix C0 R 129 = R 129 := fun C0 => mix_r (by decide)
  have m130 : ∀ C0 : Sto, mix C0 R 130 = R 130 := fun C0 => mix_r (by decide)
  simp only [m3, m4, tcS_mix, ts, es] at tc
  simp only [m129, m130, trS_mix] at tr
  refine ⟨_, _, tc, tr, ⟨⟨hN, hN', hN7⟩, hf, ⟨rfl, rfl, ?_, ?_⟩, rel⟩, ⟨fun z hz => ?_, fun j hj => ?_, fun z hz => ?_, fun j hj => ?_⟩, ?_, ?_⟩
  · show 0 ≤ tkE (R 130) N (tzS (R 130) N i)
    omega
  · show tkE (R 130) N (tzS (R 130) N i) ≤ N
    omega
  · funext j
    unfold tcS
    rw [if_neg hz]
  · unfold tcS
    rw [if_pos rfl, if_neg (by omega), if_neg (by omega), if_neg (by omega), if_neg (by omega), if_neg (by omega)]
  · funext j
    unfold trS
    rw [if_neg hz]
  · unfold trS
    rw [if_pos rfl, if_neg (by omega), if_neg (by omega), if_neg (by omega), if_neg (by omega)]
  · show tkK (C 4) N (tzS (R 130) N i) = -38 ∨ i < tkE (R 130) N (tzS (R 130) N i)
    by_cases q : tzS (R 130) N i < N
    · right
      have := eb.2.2 q
      omega
    · left
      unfold tkK
      rw [if_pos q]
  · show i ≤ tkE (R 130) N (tzS (R 130) N i)
    omega
theorem tok (h : RTk N C R) : ∃ C' R' : Sto, (∀ d : Nat, dcl xs n (d + 3) 116 [(2, 3)] C (9, 0) C') ∧ (∀ d : Nat, drf xs n (d + 3) 189 [(2, 129)] R (9, 0) R') ∧ RTk N C' R' ∧ tkF C C' R R' ∧ (C' 3 4 = -38 ∨ C 3 3 < C' 3 3) ∧ C 3 3 ≤ C' 3 3 := by
  obtain ⟨⟨a1, a2, a3⟩, b, ⟨_, c2, c3, c4⟩, _⟩ := h
  exact tok0 (C 3 3) a1 a2 a3 rfl c2.symm (by omega) (by omega) b
end S99f
