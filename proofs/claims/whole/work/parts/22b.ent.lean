/-! A method's entry -/
theorem mkL_len (as : List Vv) : (mkL as).length = (as.map cat).sum := by
  induction as with
  | nil => rfl
  | cons v t ih =>
    have : mkL (v :: t) = (if v.1 = 1 then [some v, none] else [some v]) ++ mkL t := rfl
    rw [this, List.length_append, ih, List.map_cons, List.sum_cons]
    unfold cat
    split <;> rfl
theorem sl_len (adr : Int → Nat) (as : List Vv) : (lg_sl (as.map (cV adr))).length = (as.map cat).sum := by
  induction as with
  | nil => rfl
  | cons v t ih =>
    have : lg_sl ((v :: t).map (cV adr)) = (if (cV adr v).category = 2 then [.val (cV adr v), .second] else [.val (cV adr v)]) ++ lg_sl (t.map (cV adr)) := rfl
    rw [this, List.length_append, ih, List.map_cons, List.sum_cons, cV_cat]
    unfold cat
    by_cases h : v.1 = 1
    · simp [h]
    · simp [h]
theorem mkL_get {adr : Int → Nat} : ∀ (as : List Vv) (i j : Nat) (v : Vv), (mkL as)[j]? = some (some v) → (i + j, cV adr v) ∈ lv_args i (as.map (cV adr)) ∧ v ∈ as := by
  intro as
  induction as with
  | nil => intro i j v h; simp [mkL] at h
  | cons w t ih =>
    intro i j v h
    have e : mkL (w :: t) = (if w.1 = 1 then [some w, none] else [some w]) ++ mkL t := rfl
    rw [e] at h
    have e2 : lv_args i ((w :: t).map (cV adr)) = (i, cV adr w) :: lv_args (if (cV adr w).category = 2 then i + 2 else i + 1) (t.map (cV adr)) := rfl
    rw [e2, cV_cat]
    unfold cat
    by_cases hw : w.1 = 1
    · rw [if_pos hw] at h ⊢
      simp only [if_true]
      match j, h with
      | 0, h =>
        simp at h
        subst h
        exact ⟨List.mem_cons_self, List.mem_cons_self⟩
      | 1, h => simp at h
      | j + 2, h =>
        have h : (mkL t)[j]? = some (some v) := by simpa using h
        obtain ⟨a1, a2⟩ := ih (i + 2) j v h
        exact ⟨List.mem_cons_of_mem _ (by rw [show i + (j + 2) = i + 2 + j by omega]; exact a1), List.mem_cons_of_mem _ a2⟩
    · rw [if_neg hw] at h ⊢
      rw [if_neg (by decide)]
      match j, h with
      | 0, h =>
        simp at h
        subst h
        exact ⟨List.mem_cons_self, List.mem_cons_self⟩
      | j + 1, h =>
        have h : (mkL t)[j]? = some (some v) := by simpa using h
        obtain ⟨a1, a2⟩ := ih (i + 1) j v h
        exact ⟨List.mem_cons_of_mem _ (by rw [show i + (j + 1) = i + 1 + j by omega]; exact a1), List.mem_cons_of_mem _ a2⟩
theorem padL_get {n j : Nat} {l : Lcs} {v : Vv} (h : (padL n l)[j]? = some (some v)) : l[j]? = some (some v) := by
  unfold padL at h
  by_cases hj : j < l.length
  · rw [List.getElem?_append_left hj] at h
    exact h
  · rw [List.getElem?_append_right (by omega)] at h
    have := List.mem_of_getElem? h
    rw [List.mem_replicate] at this
    exact absurd this.2 (by simp)
theorem ent_ok {adr : Int → Nat} {L : Lay} {n : Nat} {as : List Vv} {ls : Array Slot} (hm : (mkL as).length ≤ n) (ha : Sok L as) (hl : lv_has ls n (lv_args 0 (as.map (cV adr)))) : Lok adr L n (padL n (mkL as)) ls := by
  refine ⟨by unfold padL; simp; omega, lv_mono hl ?_, fun i v h => ?_⟩
  · intro q hq
    obtain ⟨v, h1, h2⟩ := cLo_mem.mp hq
    have := (mkL_get (adr := adr) as 0 q.1 v (padL_get h1)).1
    rw [Nat.zero_add, ← h2] at this
    exact this
  · exact ha v (mkL_get (adr := adr) as 0 i v (padL_get h)).2
