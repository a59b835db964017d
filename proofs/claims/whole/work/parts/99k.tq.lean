/-! Text: what a token is to both -/
def tkRk (kc : Int) : Int := if kf 2 kc = 3 then kf 3 kc else 0
abbrev tPa (kc rk rv : Int) : Prop := (kc = -33 ↔ rk = 3 ∧ rv = 40) ∧ (kc = -34 ↔ rk = 3 ∧ rv = 41) ∧ (kc = -35 ↔ rk = 3 ∧ rv = 59) ∧ (kc = -22 ↔ rk = 0 ∧ rv = 13)
abbrev tPb (kc rk : Int) : Prop := (kc = -36 ↔ rk = 2) ∧ (kc = -37 ↔ rk = 1) ∧ (kc = -38 ↔ rk = 4)
abbrev tPc (kc rk rv : Int) : Prop := (kf 2 kc = 2 ↔ rk = 0 ∧ 14 ≤ rv) ∧ (rk = 0 → 14 ≤ rv → kc = -13 - (rv - 14) ∧ rv ≤ 20)
abbrev tPd (kc rk rv : Int) : Prop := (tkRk kc = 1 ↔ rk = 0 ∧ rv = 11) ∧ (tkRk kc = 2 ↔ rk = 0 ∧ rv = 12) ∧ (tkRk kc = 4 ↔ rk = 3 ∧ (rv = 60 ∨ rv = 61 ∨ rv = 62 ∨ 256 ≤ rv)) ∧ (tkRk kc = 5 ↔ rk = 3 ∧ (rv = 43 ∨ rv = 45)) ∧ (tkRk kc = 6 ↔ rk = 3 ∧ (rv = 42 ∨ rv = 47))
abbrev tPe (kc : Int) : Prop := (¬ tkRk kc = 3 ∧ 0 ≤ tkRk kc ∧ tkRk kc ≤ 6) ∧ (kf 2 kc = 3 ↔ 0 < tkRk kc) ∧ (0 < tkRk kc → kf 3 kc = tkRk kc) ∧ (tkRk kc = 1 → kc = -20) ∧ (tkRk kc = 2 → kc = -21)
abbrev tPf (kc rk rv : Int) : Prop := (kf 2 kc = 1 ↔ rk = 0 ∧ 8 ≤ rv ∧ rv ≤ 10) ∧ (rk = 0 → 8 ≤ rv → rv ≤ 10 → kf 3 kc = rv - 8)
abbrev tPg (kc rk rv : Int) : Prop := ((rk = 0 → rv ≤ 7 → kc = -(2 + rv) ∧ 0 ≤ rv) ∧ (¬ (rk = 0 ∧ rv ≤ 7) → kc < -9)) ∧ ((-39 ≤ kc ∧ kc ≤ -2) ∧ 0 ≤ rk)
def tP (kc rk rv : Int) : Prop := tPa kc rk rv ∧ tPb kc rk ∧ tPc kc rk rv ∧ tPd kc rk rv ∧ tPe kc ∧ tPf kc rk rv ∧ tPg kc rk rv
theorem tPa_w : ∀ w : Fin 21, tPa (cKw w.val) 0 ((w.val : Nat) : Int) := by decide +kernel
theorem tPb_w : ∀ w : Fin 21, tPb (cKw w.val) 0 := by decide +kernel
theorem tPc_w : ∀ w : Fin 21, tPc (cKw w.val) 0 ((w.val : Nat) : Int) := by decide +kernel
theorem tPd_w : ∀ w : Fin 21, tPd (cKw w.val) 0 ((w.val : Nat) : Int) := by decide +kernel
theorem tPe_w : ∀ w : Fin 21, tPe (cKw w.val)  := by decide +kernel
theorem tPf_w : ∀ w : Fin 21, tPf (cKw w.val) 0 ((w.val : Nat) : Int) := by decide +kernel
theorem tPg_w : ∀ w : Fin 21, tPg (cKw w.val) 0 ((w.val : Nat) : Int) := by decide +kernel
theorem tP_w (w : Fin 21) : tP (cKw w.val) 0 ((w.val : Nat) : Int) := ⟨tPa_w w, tPb_w w, tPc_w w, tPd_w w, tPe_w w, tPf_w w, tPg_w w⟩
theorem tP_s60 : tP (sgC 60) 3 60 := by
  refine ⟨?_, ?_, ?_, ?_, ?_, ?_, ?_⟩ <;> decide +kernel
theorem tP_s256 : tP (sgC 256) 3 256 := by
  refine ⟨?_, ?_, ?_, ?_, ?_, ?_, ?_⟩ <;> decide +kernel
theorem tP_s61 : tP (sgC 61) 3 61 := by
  refine ⟨?_, ?_, ?_, ?_, ?_, ?_, ?_⟩ <;> decide +kernel
theorem tP_s257 : tP (sgC 257) 3 257 := by
  refine ⟨?_, ?_, ?_, ?_, ?_, ?_, ?_⟩ <;> decide +kernel
theorem tP_s258 : tP (sgC 258) 3 258 := by
  refine ⟨?_, ?_, ?_, ?_, ?_, ?_, ?_⟩ <;> decide +kernel
theorem tP_s62 : tP (sgC 62) 3 62 := by
  refine ⟨?_, ?_, ?_, ?_, ?_, ?_, ?_⟩ <;> decide +kernel
theorem tP_s43 : tP (sgC 43) 3 43 := by
  refine ⟨?_, ?_, ?_, ?_, ?_, ?_, ?_⟩ <;> decide +kernel
theorem tP_s45 : tP (sgC 45) 3 45 := by
  refine ⟨?_, ?_, ?_, ?_, ?_, ?_, ?_⟩ <;> decide +kernel
theorem tP_s42 : tP (sgC 42) 3 42 := by
  refine ⟨?_, ?_, ?_, ?_, ?_, ?_, ?_⟩ <;> decide +kernel
theorem tP_s47 : tP (sgC 47) 3 47 := by
  refine ⟨?_, ?_, ?_, ?_, ?_, ?_, ?_⟩ <;> decide +kernel
theorem tP_s40 : tP (sgC 40) 3 40 := by
  refine ⟨?_, ?_, ?_, ?_, ?_, ?_, ?_⟩ <;> decide +kernel
theorem tP_s41 : tP (sgC 41) 3 41 := by
  refine ⟨?_, ?_, ?_, ?_, ?_, ?_, ?_⟩ <;> decide +kernel
theorem tP_s59 : tP (sgC 59) 3 59 := by
  refine ⟨?_, ?_, ?_, ?_, ?_, ?_, ?_⟩ <;> decide +kernel
theorem tP_n {rv : Int} : tP (-37) 1 rv ∧ tP (-36) 2 rv ∧ tP (-38) 4 rv ∧ tP (-39) 5 rv := by
  have a1 : tkRk (-37) = 0 ∧ tkRk (-36) = 0 ∧ tkRk (-38) = 0 ∧ tkRk (-39) = 0 := ⟨rfl, rfl, rfl, rfl⟩
  have a2 : kf 2 (-37) = 4 ∧ kf 2 (-36) = 4 ∧ kf 2 (-38) = 4 ∧ kf 2 (-39) = 4 := ⟨rfl, rfl, rfl, rfl⟩
  obtain ⟨b1, b2, b3, b4⟩ := a1
  obtain ⟨c1, c2, c3, c4⟩ := a2
  unfold tP tPa tPb tPc tPd tPe tPf tPg
  rw [b1, b2, b3, b4, c1, c2, c3, c4]
  generalize kf 3 (-37) = x1
  generalize kf 3 (-36) = x2
  generalize kf 3 (-38) = x3
  generalize kf 3 (-39) = x4
  refine ⟨?_, ?_, ?_, ?_⟩
  · refine ⟨⟨?_, ?_, ?_, ?_⟩, ⟨?_, ?_, ?_⟩, ⟨?_, ?_⟩, ⟨?_, ?_, ?_, ?_, ?_⟩, ⟨?_, ?_, ?_, ?_, ?_⟩, ⟨?_, ?_⟩, ⟨?_, ?_⟩, ?_, ?_⟩ <;> omega
  · refine ⟨⟨?_, ?_, ?_, ?_⟩, ⟨?_, ?_, ?_⟩, ⟨?_, ?_⟩, ⟨?_, ?_, ?_, ?_, ?_⟩, ⟨?_, ?_, ?_, ?_, ?_⟩, ⟨?_, ?_⟩, ⟨?_, ?_⟩, ?_, ?_⟩ <;> omega
  · refine ⟨⟨?_, ?_, ?_, ?_⟩, ⟨?_, ?_, ?_⟩, ⟨?_, ?_⟩, ⟨?_, ?_, ?_, ?_, ?_⟩, ⟨?_, ?_, ?_, ?_, ?_⟩, ⟨?_, ?_⟩, ⟨?_, ?_⟩, ?_, ?_⟩ <;> omega
  · refine ⟨⟨?_, ?_, ?_, ?_⟩, ⟨?_, ?_, ?_⟩, ⟨?_, ?_⟩, ⟨?_, ?_, ?_, ?_, ?_⟩, ⟨?_, ?_, ?_, ?_, ?_⟩, ⟨?_, ?_⟩, ⟨?_, ?_⟩, ?_, ?_⟩ <;> omega
theorem tP_of {kc l6 l7 rk rv : Int} (h : tkQ kc l6 l7 rk rv) : tP kc rk rv := by
  obtain ⟨w, h1, h2, h3, h4⟩ | ⟨h1, h2, _⟩ | ⟨h1, h2, _⟩ | ⟨h1, h2, h3⟩ | ⟨h1, h2⟩ | ⟨h1, h2⟩ := h
  · rw [h2, h3, h4]
    exact tP_w ⟨w, h1⟩
  · rw [h1, h2]
    exact tP_n.1
  · rw [h1, h2]
    exact tP_n.2.1
  · rw [h1, h2]
    obtain q | q | q | q | q | q | q | q | q | q | q | q | q := h3 <;> rw [q]
    · exact tP_s60
    · exact tP_s256
    · exact tP_s61
    · exact tP_s257
    · exact tP_s258
    · exact tP_s62
    · exact tP_s43
    · exact tP_s45
    · exact tP_s42
    · exact tP_s47
    · exact tP_s40
    · exact tP_s41
    · exact tP_s59
  · rw [h1, h2]
    exact tP_n.2.2.1
  · rw [h1, h2]
    exact tP_n.2.2.2
theorem tQ_n {kc l6 l7 rk rv : Int} (h : tkQ kc l6 l7 rk rv) (hk : rk = 2) : nuE l7 rv := by
  obtain ⟨w, _, _, h3, _⟩ | ⟨_, h2, _⟩ | ⟨_, _, h3⟩ | ⟨h1, _, _⟩ | ⟨_, h2⟩ | ⟨_, h2⟩ := h
  · omega
  · omega
  · exact h3
  · omega
  · omega
  · omega
theorem tQ_6 {kc l6 l7 rk rv : Int} (h : tkQ kc l6 l7 rk rv) (hk : rk = 1) : l6 = rv := by
  obtain ⟨w, _, _, h3, _⟩ | ⟨_, _, h3⟩ | ⟨_, h2, _⟩ | ⟨h1, _, _⟩ | ⟨_, h2⟩ | ⟨_, h2⟩ := h
  · omega
  · exact h3
  · omega
  · omega
  · omega
  · omega
theorem tQ_s {kc l6 l7 rk rv : Int} (h : tkQ kc l6 l7 rk rv) (hk : rk = 3) (hr : rv = 60 ∨ rv = 61 ∨ rv = 62 ∨ 256 ≤ rv ∨ rv = 43 ∨ rv = 45 ∨ rv = 42 ∨ rv = 47) : sgP kc rv ∧ ¬ rv = 260 := by
  obtain ⟨w, _, _, h3, _⟩ | ⟨_, h2, _⟩ | ⟨_, h2, _⟩ | ⟨_, h2, h3⟩ | ⟨_, h2⟩ | ⟨_, h2⟩ := h
  · omega
  · omega
  · omega
  · rw [h2]
    obtain q | q | q | q | q | q | q | q | q | q | q | q | q := h3 <;> rw [q]
    · exact ⟨show sgP (-23) 60 by unfold sgP; omega, by decide⟩
    · exact ⟨show sgP (-24) 256 by unfold sgP; omega, by decide⟩
    · exact ⟨show sgP (-25) 61 by unfold sgP; omega, by decide⟩
    · exact ⟨show sgP (-26) 257 by unfold sgP; omega, by decide⟩
    · exact ⟨show sgP (-27) 258 by unfold sgP; omega, by decide⟩
    · exact ⟨show sgP (-28) 62 by unfold sgP; omega, by decide⟩
    · exact ⟨show sgP (-29) 43 by unfold sgP; omega, by decide⟩
    · exact ⟨show sgP (-30) 45 by unfold sgP; omega, by decide⟩
    · exact ⟨show sgP (-31) 42 by unfold sgP; omega, by decide⟩
    · exact ⟨show sgP (-32) 47 by unfold sgP; omega, by decide⟩
    · omega
    · omega
    · omega
  · omega
  · omega
