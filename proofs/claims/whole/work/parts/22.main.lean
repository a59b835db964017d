/-! Every method does what the machine of numbers says -/
theorem all_mL : ∀ k, k < mtab.length → mL k ≤ 40 := by
  intro k hk
  have h : mtab.all (fun q => decide (q.2.2.1 ≤ 40)) = true := by decide +kernel
  unfold mL
  rw [List.getD_eq_getElem?_getD, List.getElem?_eq_getElem hk]
  have := List.all_eq_true.mp h _ (List.getElem_mem hk)
  simpa using this
theorem inTbl_mem {hs : List Nat} {ws : List Cond} (h : inTbl hs ws = true) : ∀ w ∈ ws, w ∈ lw_tbl := by
  intro w hw
  have h : ws = hs.filterMap (fun i => lw_tbl[i]?) := by simpa [inTbl] using h
  rw [h] at hw
  obtain ⟨i, -, hi⟩ := List.mem_filterMap.mp hw
  exact List.mem_of_getElem? hi
theorem zip_mem {α β : Type} {P : α × β → Bool} : ∀ (as : List α) (bs : List β), as.length = bs.length → (as.zip bs).all P = true → ∀ b ∈ bs, ∃ a, P (a, b) = true := by
  intro as
  induction as with
  | nil => intro bs h _ b hb; cases bs with
    | nil => cases hb
    | cons b bs => cases h
  | cons a as ih =>
    intro bs h h2 b hb
    cases bs with
    | nil => cases hb
    | cons b' bs =>
      simp only [List.zip_cons_cons, List.all_cons, Bool.and_eq_true] at h2
      rcases List.mem_cons.mp hb with rfl | hb
      · exact ⟨a, h2.1⟩
      · exact ih bs (by simpa using h) h2.2 b hb
/-- what the check of a method says of an instruction -/
theorem tab_ok {mi pc : Nat} {ks : List Nat} {x : IR} (hok : mOk mi = true) (ht : tab mi pc = some (ks, x)) : decode (mC mi) pc = .ok (insOf x pc) ∧
    (x.1 < 60 → irOk (mY mi).cls (decide ((mY mi).name = "<init>")) x = true ∧ ∀ w ∈ wrd (mY mi).cls x, w ∈ lw_good) ∧
    (60 ≤ x.1 → ctOk mi pc x = true ∧ (∀ w ∈ wrdC (mY mi).cls x, w ∈ lw_good) ∧ ∀ w ∈ wrdN (mY mi).cls x, w ∈ lw_tbl) := by
  unfold tab at ht
  obtain ⟨e, he, h2⟩ := Option.map_eq_some_iff.mp ht
  have hmem := List.mem_of_find?_eq_some he
  have hpc := List.find?_some he
  obtain ⟨pc', ks', x'⟩ := e
  simp only [beq_iff_eq] at hpc
  simp only [Prod.mk.injEq] at h2
  obtain ⟨rfl, rfl⟩ := h2
  subst hpc
  unfold mOk at hok
  simp only [Bool.and_eq_true, decide_eq_true_eq] at hok
  obtain ⟨hs, hq⟩ := zip_mem _ _ hok.2.2.2.1 hok.2.2.1 _ hmem
  unfold eOk at hq
  simp only [Bool.and_eq_true, decide_eq_true_eq] at hq
  refine ⟨hq.1, fun h60 => ?_, fun h60 => ?_⟩
  · have h3 := hq.2
    rw [if_pos h60] at h3
    simp only [Bool.and_eq_true] at h3
    exact ⟨h3.1, fun w hw => List.mem_filter.mpr ⟨inTbl_mem h3.2.1 w hw, List.all_eq_true.mp h3.2.2 w hw⟩⟩
  · have h3 := hq.2
    rw [if_neg (by omega)] at h3
    simp only [Bool.and_eq_true] at h3
    exact ⟨h3.1, fun w hw => List.mem_filter.mpr ⟨inTbl_mem h3.2.1 w (List.mem_append_left _ hw), List.all_eq_true.mp h3.2.2 w hw⟩, fun w hw => inTbl_mem h3.2.1 w (List.mem_append_right _ hw)⟩
theorem wrdN_nest {own : String} {x : IR} {w : Cond} (h : w ∈ wrdN own x) (h2 : w ∈ lw_tbl) : w ∈ nestW := by
  refine List.mem_filter.mpr ⟨h2, ?_⟩
  unfold wrdN at h
  split at h
  · rw [List.mem_singleton.mp h]
  · rw [List.mem_singleton.mp h]
  · cases h
theorem callN_inv {cal : Nat → List Vv → Stt → Option (Vv × Stt)} {m k pc : Nat} {lo : Lcs} {st : List Vv} {s : Stt} {pc' : Nat} {lo' : Lcs} {st' : List Vv} {s' : Stt} (h : callN cal m k pc lo st s = some (.inl (pc', lo', st', s'))) :
    ∃ v, k ≤ st.length ∧ ((st.drop k).map cat).sum ≤ 8 ∧ (mkL (st.take k).reverse).length ≤ mL m ∧ cal m (st.take k).reverse s = some (v, s') ∧ v.1 ≠ 8 ∧ pc' = pc + 3 ∧ lo' = lo ∧ st' = pushR v (st.drop k) := by
  unfold callN at h
  split at h
  · rename_i hc
    split at h
    · rename_i v s1 heq
      split at h
      · cases h
      · rename_i h8
        simp only [goN, Option.some.injEq, Sum.inl.injEq, Prod.mk.injEq] at h
        obtain ⟨rfl, rfl, rfl, rfl⟩ := h
        exact ⟨v, hc.1, hc.2.1, hc.2.2, heq, h8, rfl, rfl, rfl⟩
    · cases h
  · cases h
theorem goN_inv {pc : Nat} {lo : Lcs} {st : List Vv} {s : Stt} {pc' : Nat} {lo' : Lcs} {st' : List Vv} {s' : Stt} (h : goN pc lo st s = some (.inl (pc', lo', st', s'))) : pc' = pc ∧ lo' = lo ∧ st' = st ∧ s' = s := by
  simp only [goN, Option.some.injEq, Sum.inl.injEq, Prod.mk.injEq] at h
  exact ⟨h.1.symm, h.2.1.symm, h.2.2.1.symm, h.2.2.2.symm⟩
theorem iteN {P : Prop} {hd : Decidable P} {x : Nxt} {r : Fst ⊕ (Vv × Stt)} (h : (@ite Nxt P hd x none) = some r) : P ∧ x = some r := by
  split at h
  · rename_i q; exact ⟨q, h⟩
  · cases h
