/-! All methods -/
theorem act_inr {cal : Nat → List Vv → Stt → Option (Vv × Stt)} {m : Nat} {x : IR} {pc : Nat} {lo : Lcs} {st : List Vv} {s : Stt} {v : Vv} {s1 : Stt} (h : act cal m x pc lo st s = some (.inr (v, s1))) : s1 = s ∧ (x.1 = 90 ∧ (∃ z, st = [(0, z)] ∧ v = (0, z) ∧ ret01 m z = true) ∨ x.1 = 91 ∧ (∃ z, st = [(1, z)] ∧ v = (1, z)) ∨ x.1 = 92 ∧ (∃ z, st = [(2, z)] ∧ v = (2, z)) ∨ x.1 = 93 ∧ (st = [] ∧ v = (9, 0)) ∨ x.1 = 98 ∧ (st = [] ∧ v = (8, x.2.1))) := by
  unfold act at h
  split at h
  · obtain ⟨-, h⟩ := iteN h
    cases h
  · split at h
    all_goals first
      | (cases h; done)
      | (obtain ⟨-, h⟩ := iteN h; cases h; done)
      | (unfold br at h; split at h <;> (cases h; done))
      | (obtain ⟨-, h⟩ := iteN h; unfold br at h; split at h <;> (cases h; done))
      | (unfold callN at h
         split at h
         · split at h
           · split at h <;> (cases h; done)
           · cases h
         · cases h
         done)
      | (obtain ⟨-, h⟩ := iteN h
         unfold callN at h
         split at h
         · split at h
           · split at h <;> (cases h; done)
           · cases h
         · cases h
         done)
      | (unfold bltN at h
         split at h
         · obtain ⟨-, h⟩ := iteN h
           cases h
         · obtain ⟨-, h⟩ := iteN h
           cases h
         · cases h
         done)
      | (obtain ⟨-, h⟩ := iteN h
         split at h <;> (cases h; done))
      | (obtain ⟨h9, h⟩ := iteN h
         cases h
         exact ⟨rfl, Or.inl ⟨rfl, _, rfl, rfl, h9⟩⟩)
      | (cases h; exact ⟨rfl, Or.inr (Or.inl ⟨rfl, _, rfl, rfl⟩)⟩)
      | (cases h; exact ⟨rfl, Or.inr (Or.inr (Or.inl ⟨rfl, _, rfl, rfl⟩))⟩)
      | (cases h; exact ⟨rfl, Or.inr (Or.inr (Or.inr (Or.inl ⟨rfl, rfl, rfl⟩)))⟩)
      | (cases h; exact ⟨rfl, Or.inr (Or.inr (Or.inr (Or.inr ⟨rfl, rfl, rfl⟩)))⟩)
section ALL
variable {p : Program} {l : Launch} {e : Env} {R : Room} {s0 : State} {m : MethodId} {args : Array Value} {below : List Frame} {meth : Method} {c : Code} {Q : State → Prop}
variable {G : va_G} {cA : Nat → ClassId} {A : Nat → Prop} {xs : Int → Int} {d mi : Nat}
theorem run_all (hok : mOk mi = true) (I : SndC l xs d) (IX : SndX l xs d) (hml : c.maxLocals = mL mi) (hini : decide ((mY mi).name = "<init>") = true → meth.name = "<init>") (hN : NW s0) (hA : ∀ q, s0.heap.size ≤ q → A q) (hRf : 2 * (d + 1) + 8 ≤ R.frames) (hRl : 128 * (d + 1) + 512 ≤ R.locals) {n0 t0 : Int} {vF : Vv} {sF : Stt} {adr0 : Int → Nat} {LE : Lay} (hn0 : 0 ≤ n0) (hcF : (sF.1.1 - n0).toNat + (sF.1.2 - t0).toNat ≤ R.cells) (hsF : (sF.1.2 - t0).toNat ≤ R.slots)
    (KF : ∀ (pc : Nat) (lo : Lcs) (st : List Vv) (adr : Int → Nat) (H : Heap) (locs : List Loc) (ls : Array Slot) (ks : List Nat) (x : IR), tab mi pc = some (ks, x) → act (den d) mi x pc lo st sF = some (.inr (vF, sF)) → okS XL0 (XD0 xs) sF → Hok G cA A adr sF s0.heap H locs → Lok adr sF.2.1 (mL mi) lo ls → Sok sF.2.1 st → n0 ≤ sF.1.1 → t0 ≤ sF.1.2 → (∀ a, a ≤ n0 → adr a = adr0 a) → (∀ a, (LE a).1 ≠ -1 → sF.2.1 a = LE a) → W p l e R s0 m args below meth c H locs ((sF.1.1 - n0).toNat + (sF.1.2 - t0).toNat) (sF.1.2 - t0).toNat Q (F0 m pc ls (st.map (cV adr)))) :
    ∀ (n pc : Nat) (lo : Lcs) (st : List Vv) (s : Stt) (adr : Int → Nat) (H : Heap) (locs : List Loc) (ls : Array Slot), loopN (stepF (den d) mi) n (pc, lo, st, s) = some (vF, sF) → Cx p s0 m args c (mC mi) (mY mi).cls G cA A adr xs → okS XL0 (XD0 xs) s → Hok G cA A adr s s0.heap H locs → Lok adr s.2.1 (mL mi) lo ls → Sok s.2.1 st → n0 ≤ s.1.1 → t0 ≤ s.1.2 → (∀ a, a ≤ n0 → adr a = adr0 a) → (∀ a, (LE a).1 ≠ -1 → s.2.1 a = LE a) →
      W p l e R s0 m args below meth c H locs ((s.1.1 - n0).toNat + (s.1.2 - t0).toNat) (s.1.2 - t0).toNat Q (F0 m pc ls (st.map (cV adr))) := by
  intro n
  induction n with
  | zero => intro pc lo st s adr H locs ls h; cases h
  | succ n ih =>
    intro pc lo st s adr H locs ls h C hs hH hl hst h1 h2 h3 h4
    have hg := loop_g (den_g d) (n + 1) _ _ _ h
    unfold loopN at h
    cases hf : stepF (den d) mi (pc, lo, st, s) with
    | none => rw [hf] at h; cases h
    | some r =>
      rw [hf] at h
      unfold stepF at hf
      split at hf
      · cases hf
      · rename_i ks x ht
        have ht : tab mi pc = some (ks, x) := ht
        have hf : act (den d) mi x pc (kil ks lo) st s = some r := hf
        obtain ⟨hd, hw1, hw2⟩ := tab_ok hok ht
        have hl := hl.kil ks
        cases r with
        | inr q =>
          obtain ⟨v, s1⟩ := q
          cases h
          obtain ⟨rfl, -⟩ := act_inr hf
          exact KF pc (kil ks lo) st adr H locs ls ks x ht hf hs hH hl hst h1 h2 h3 h4
        | inl f =>
          obtain ⟨pc', lo', st', s'⟩ := f
          have h : loopN (stepF (den d) mi) n (pc', lo', st', s') = some (vF, sF) := h
          have g1 : gr s s' := act_g (den_g d) hf
          have g2 : gr s' sF := loop_g (den_g d) n _ _ _ h
          by_cases h60 : x.1 < 60
          · obtain ⟨hir, hww⟩ := hw1 h60
            unfold act at hf
            rw [if_pos h60] at hf
            obtain ⟨hb, hf⟩ := iteN hf
            obtain ⟨e1, e2, e3, e4⟩ := goN_inv hf
            have hc := ex1_c x (kil ks lo, st, s, true)
            rw [← e4] at hc
            have he : ex1 x (kil ks lo, st, s, true) = (lo', st', s', true) := by
              rw [e2, e3, e4]
              clear hc e1 e2 e3 e4 hf
              generalize ex1 x (kil ks lo, st, s, true) = q at hb ⊢
              obtain ⟨q1, q2, q3, q4⟩ := q
              simp only at hb
              rw [hb]
            refine st_all C hini h60 hd hir (fun w hw => C.2.2.2.1 w (hww w hw)) he hs hH hl hst (fun H' locs' ls' a1 a2 a3 a4 => ?_)
            have hc1 : s'.1 = s.1 := hc.1
            have hc2 : s'.2.1 = s.2.1 := hc.2
            have := ih pc' lo' st' s' adr H' locs' ls' h C a1 a2 a3 a4 (by rw [hc1]; exact h1) (by rw [hc1]; exact h2) h3 (by rw [hc2]; exact h4)
            rw [hc1, e1] at this
            exact this
          · obtain ⟨hct, hww, hwn⟩ := hw2 (by omega)
            by_cases h78 : x.1 ≤ 78
            · refine ct_all C (by omega) h78 hd hct hs hst hf (fun q1 q2 a4 => ?_)
              subst q1
              subst q2
              exact ih pc' _ st' _ adr H locs ls h C hs hH hl a4 h1 h2 h3 h4
            · refine ca_all C hml hN hA I IX hRf hRl (by omega) hd hct hww (fun w hw => wrdN_nest hw (hwn w hw)) hs hH hl hst hf ?_ (fun adr' H1 locs1 ha b1 b2 b3 b4 b5 => ?_)
              · unfold gr at g1 g2
                omega
              · have e1 : (s.1.1 - n0).toNat + (s.1.2 - t0).toNat + ((s'.1.1 - s.1.1).toNat + (s'.1.2 - s.1.2).toNat) = (s'.1.1 - n0).toNat + (s'.1.2 - t0).toNat := by unfold gr at g1; omega
                have e2 : (s.1.2 - t0).toNat + (s'.1.2 - s.1.2).toNat = (s'.1.2 - t0).toNat := by unfold gr at g1; omega
                rw [e1, e2]
                exact ih pc' lo' st' s' adr' H1 locs1 ls h (C.congr (fun a ha0 => ha a (by omega))) b1 b2 b3 b4 (Int.le_trans h1 g1.1) (Int.le_trans h2 g1.2) (fun a ha0 => by rw [ha a (by omega)]; exact h3 a ha0) (fun a ha0 => by
                  have h9 := h4 a ha0
                  rw [b5 a (by show (s.2.1 a).1 ≠ -1; rw [h9]; exact ha0)]
                  exact h9)
end ALL
