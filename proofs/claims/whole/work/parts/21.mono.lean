/-! Cells and slots only grow in number -/
theorem bad_c (c : C4) : (bad c).2.2.1 = c.2.2.1 := rfl
theorem push_c (v : Vv) (c : C4) : (push v c).2.2.1 = c.2.2.1 := rfl
theorem bin0_c (f : Int → Int → Int) (c : C4) : (bin0 f c).2.2.1 = c.2.2.1 := by
  unfold bin0
  split <;> rfl
theorem bin1_c (f : Int → Int → Int) (c : C4) : (bin1 f c).2.2.1 = c.2.2.1 := by
  unfold bin1
  split <;> rfl
theorem div0_c (f : Int → Int → Int) (c : C4) : (div0 f c).2.2.1 = c.2.2.1 := by
  unfold div0
  split <;> rfl
theorem div1_c (f : Int → Int → Int) (c : C4) : (div1 f c).2.2.1 = c.2.2.1 := by
  unfold div1
  split <;> rfl
theorem cmp1_c (c : C4) : (cmp1 c).2.2.1 = c.2.2.1 := by
  unfold cmp1
  split <;> rfl
theorem i2l_c (c : C4) : (i2l' c).2.2.1 = c.2.2.1 := by
  unfold i2l'
  split <;> rfl
theorem l2i_c (c : C4) : (l2i' c).2.2.1 = c.2.2.1 := by
  unfold l2i'
  split <;> rfl
theorem alen_c (c : C4) : (alen' c).2.2.1 = c.2.2.1 := by
  unfold alen'
  split <;> rfl
theorem dup2l_c (c : C4) : (dup2l c).2.2.1 = c.2.2.1 := by
  unfold dup2l
  split <;> rfl
theorem dup_c (c : C4) : (dup' c).2.2.1 = c.2.2.1 := by
  unfold dup'
  split
  · split <;> rfl
  · rfl
theorem pop_c (c : C4) : (pop' c).2.2.1 = c.2.2.1 := by
  unfold pop'
  split
  · split <;> rfl
  · rfl
theorem dup2_c (c : C4) : (dup2' c).2.2.1 = c.2.2.1 := by
  unfold dup2'
  split
  · split
    · rfl
    · split <;> rfl
  · rfl
theorem loadV_c (t : Nat) (i : Int) (c : C4) : (loadV t i c).2.2.1 = c.2.2.1 := by
  unfold loadV
  split
  · split <;> rfl
  · rfl
theorem storeV_c (t : Nat) (i : Int) (c : C4) : (storeV t i c).2.2.1 = c.2.2.1 := by
  unfold storeV
  split
  · split <;> rfl
  · rfl
theorem iinc_c (i n : Int) (c : C4) : (iinc' i n c).2.2.1 = c.2.2.1 := by
  unfold iinc'
  split <;> rfl
theorem ald_c (t : Nat) (ks : List Int) (c : C4) : (ald t ks c).2.2.1 = c.2.2.1 := by
  unfold ald
  split <;> rfl
theorem gfld_c (a k : Int) (c : C4) : (gfld a k c).2.2.1 = c.2.2.1 := by
  unfold gfld
  split <;> rfl
theorem cfld_c (k : Int) (c : C4) : (cfld k c).2.2.1 = c.2.2.1 := by
  unfold cfld
  split <;> rfl
def sm (s s' : Stt) : Prop := s'.1 = s.1 ∧ s'.2.1 = s.2.1
theorem sm_of {s s' : Stt} (h : s' = s) : sm s s' := by rw [h]; exact ⟨rfl, rfl⟩
theorem ast_c (t : Nat) (ks : List Int) (g : Stt → Int → Int → Bool) (c : C4) : sm c.2.2.1 (ast t ks g c).2.2.1 := by
  unfold ast
  split
  · split
    · exact ⟨rfl, rfl⟩
    · exact ⟨rfl, rfl⟩
  · exact ⟨rfl, rfl⟩
theorem pfld_c (a k : Int) (c : C4) : sm c.2.2.1 (pfld a k c).2.2.1 := by
  unfold pfld
  split
  · split
    · exact ⟨rfl, rfl⟩
    · exact ⟨rfl, rfl⟩
  · exact ⟨rfl, rfl⟩
theorem ex1_c (x : IR) (c : C4) : sm c.2.2.1 (ex1 x c).2.2.1 := by
  unfold ex1
  split
  all_goals first
    | exact ast_c _ _ _ _
    | exact pfld_c _ _ _
    | exact sm_of (push_c _ _)
    | exact sm_of (loadV_c _ _ _)
    | exact sm_of (storeV_c _ _ _)
    | exact sm_of (bin0_c _ _)
    | exact sm_of (bin1_c _ _)
    | exact sm_of (div0_c _ _)
    | exact sm_of (div1_c _ _)
    | exact sm_of (iinc_c _ _ _)
    | exact sm_of (ald_c _ _ _)
    | exact sm_of (gfld_c _ _ _)
    | exact sm_of (cfld_c _ _)
    | exact sm_of (dup_c _)
    | exact sm_of (dup2_c _)
    | exact sm_of (dup2l_c _)
    | exact sm_of (pop_c _)
    | exact sm_of (cmp1_c _)
    | exact sm_of (i2l_c _)
    | exact sm_of (l2i_c _)
    | exact sm_of (alen_c _)
    | exact sm_of (bad_c _)
/-- it grows, and what is known of the kinds stays -/
def gr (s s' : Stt) : Prop := s.1.1 ≤ s'.1.1 ∧ s.1.2 ≤ s'.1.2
theorem gr_of {s s' : Stt} (h : s' = s) : gr s s' := by rw [h]; exact ⟨Int.le_refl _, Int.le_refl _⟩
theorem gr_sm {s s' : Stt} (h : sm s s') : gr s s' := by unfold gr; rw [h.1]; exact ⟨Int.le_refl _, Int.le_refl _⟩
theorem gr_tr {a b c : Stt} (h : gr a b) (h2 : gr b c) : gr a c := ⟨Int.le_trans h.1 h2.1, Int.le_trans h.2 h2.2⟩
theorem gr_nw_ (s : Stt) {k n : Int} (h : 0 ≤ n) : gr s (newS s k n) := by
  constructor
  · show s.1.1 ≤ s.1.1 + 1; omega
  · show s.1.2 ≤ s.1.2 + n; omega
def CalG (cal : Nat → List Vv → Stt → Option (Vv × Stt)) : Prop := ∀ m as s v s1, cal m as s = some (v, s1) → gr s s1
def nst (s : Stt) (r : Fst ⊕ (Vv × Stt)) : Stt := match r with
  | .inl f => f.2.2.2
  | .inr q => q.2
theorem goN_g {pc : Nat} {lo : Lcs} {st : List Vv} {s s' : Stt} {r : Fst ⊕ (Vv × Stt)} (hs : gr s s') (h : goN pc lo st s' = some r) : gr s (nst s r) := by
  cases h
  exact hs
theorem br_g {b : Bool} {pc : Nat} {a : Int} {lo : Lcs} {st : List Vv} {s : Stt} {r : Fst ⊕ (Vv × Stt)} (h : br b pc a lo st s = some r) : gr s (nst s r) := by
  unfold br at h
  split at h <;> exact goN_g (gr_of rfl) h
theorem ite_g {P : Prop} {hd : Decidable P} {x : Nxt} {s : Stt} {r : Fst ⊕ (Vv × Stt)} (hx : x = some r → gr s (nst s r)) (h : (@ite Nxt P hd x none) = some r) : gr s (nst s r) := by
  split at h
  · exact hx h
  · cases h
theorem callN_g {cal : Nat → List Vv → Stt → Option (Vv × Stt)} (hc : CalG cal) {m k pc : Nat} {lo : Lcs} {st : List Vv} {s : Stt} {r : Fst ⊕ (Vv × Stt)} (h : callN cal m k pc lo st s = some r) : gr s (nst s r) := by
  unfold callN at h
  split at h
  · split at h
    · rename_i v s1 heq
      split at h
      · cases h
      · exact goN_g (hc _ _ _ _ _ heq) h
    · cases h
  · cases h
theorem bltN_g {b : Int} {pc : Nat} {lo : Lcs} {st : List Vv} {s : Stt} {r : Fst ⊕ (Vv × Stt)} (h : bltN b pc lo st s = some r) : gr s (nst s r) := by
  unfold bltN at h
  split at h
  · exact ite_g (goN_g (gr_of rfl)) h
  · refine ite_g (fun h => ?_) h
    refine goN_g ?_ h
    exact gr_sm ⟨rfl, rfl⟩
  · cases h
theorem act_g {cal : Nat → List Vv → Stt → Option (Vv × Stt)} (hc : CalG cal) {m : Nat} {x : IR} {pc : Nat} {lo : Lcs} {st : List Vv} {s : Stt} {r : Fst ⊕ (Vv × Stt)} (h : act cal m x pc lo st s = some r) : gr s (nst s r) := by
  unfold act at h
  split at h
  · exact ite_g (goN_g (gr_sm (ex1_c x (lo, st, s, true)))) h
  · split at h
    all_goals first
      | exact br_g h
      | exact ite_g br_g h
      | exact goN_g (gr_of rfl) h
      | exact callN_g hc h
      | exact ite_g (callN_g hc) h
      | exact ite_g (goN_g (gr_of rfl)) h
      | exact bltN_g h
      | exact goN_g (gr_nw_ s (by omega)) h
      | (split at h
         · rename_i q
           exact goN_g (gr_nw_ s q.1) h
         · cases h)
      | (cases h; done)
      | (cases h; exact gr_of rfl)
      | (split at h
         · cases h; exact gr_of rfl
         · cases h)
      | (split at h
         · split at h
           · rename_i v s1 heq
             refine goN_g ?_ h
             exact gr_tr (hc _ _ _ _ _ heq) (gr_sm ⟨rfl, rfl⟩)
           · rename_i k s1 heq
             exact goN_g (s' := ((s1.1.1, s1.1.2 + 8), s1.2)) (gr_tr (hc _ _ _ _ _ heq) ⟨Int.le_refl _, by show s1.1.2 ≤ s1.1.2 + 8; omega⟩) h
           · cases h
         · cases h)
theorem loop_g {cal : Nat → List Vv → Stt → Option (Vv × Stt)} (hc : CalG cal) {m : Nat} : ∀ (n : Nat) (f : Fst) (v : Vv) (s1 : Stt), loopN (stepF cal m) n f = some (v, s1) → gr f.2.2.2 s1 := by
  intro n
  induction n with
  | zero => intro f v s1 h; cases h
  | succ n ih =>
    intro f v s1 h
    unfold loopN at h
    cases hf : stepF cal m f with
    | none => rw [hf] at h; cases h
    | some r =>
      rw [hf] at h
      have hg : gr f.2.2.2 (nst f.2.2.2 r) := by
        unfold stepF at hf
        split at hf
        · cases hf
        · exact act_g hc hf
      cases r with
      | inl y => exact gr_tr hg (ih y v s1 h)
      | inr q =>
        cases h
        exact hg
theorem den_g : ∀ d, CalG (den d) := by
  intro d
  induction d with
  | zero => intro m as s v s1 h; cases h
  | succ d ih =>
    intro m as s v s1 h
    obtain ⟨n, hn⟩ := whl_ex h
    exact loop_g ih n _ v s1 hn
