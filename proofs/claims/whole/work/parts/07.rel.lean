/-! How a store of numbers lies in the heap -/
def cR (adr : Int → Nat) (z : Int) : Option Nat := if z = 0 then none else some (adr z)
def cV (adr : Int → Nat) (v : Vv) : Value := match v.1 with
  | 0 => .int (Int32.ofInt v.2)
  | 1 => .long (Int64.ofInt v.2)
  | _ => va_rf (cR adr v.2)
def nfl (k : Int) : Nat := (ftab.getD k.toNat []).length
def cF (adr : Int → Nat) (k : Int) (f : Int → Int) : List Value := (List.range (nfl k)).map (fun i : Nat => cV adr (ftg k (i : Int), f (i : Int)))
def cE (cA : Nat → ClassId) (adr : Int → Nat) (kl : Int × Int) (f : Int → Int) : va_E :=
  if kl.1 < 100 then .inr (kl.1.toNat, cF adr kl.1 f)
  else if kl.1 = 101 then .inl (cA 1, (kl.2.toNat, .inr (.inl (fun i => Int64.ofInt (f (i : Int))))))
  else if kl.1 = 100 ∨ kl.1 = 102 then .inl (cA (kl.1 - 100).toNat, (kl.2.toNat, .inl (fun i => Int32.ofInt (f (i : Int)))))
  else .inl (cA (kl.1 - 100).toNat, (kl.2.toNat, .inr (.inr (.inr (.inr (fun i => cR adr (f (i : Int))))))))
def wld (cA : Nat → ClassId) (adr : Int → Nat) (s : Stt) : va_W := (List.range s.1.1.toNat).map (fun j : Nat => (adr ((j : Int) + 1), cE cA adr (s.2.1 ((j : Int) + 1)) (s.2.2 ((j : Int) + 1))))
def okV (L : Lay) (v : Vv) : Prop := (v.1 = 0 ∧ in32 v.2) ∨ (v.1 = 1 ∧ in64 v.2) ∨ (v.1 = 2 ∧ (v.2 = 0 ∨ (L v.2).1 ≠ -1))
def tgk (k i : Int) : Nat := if k < 100 then ftg k i else if k = 101 then 1 else if k = 103 ∨ k = 104 ∨ k = 204 then 2 else 0
/-- what holds of every store: the kinds of the cells that are made, numbers in their bounds, what was there before -/
def okS (XL : Lay) (XD : Sto) (s : Stt) : Prop := 0 ≤ s.1.1 ∧ (∀ a i, okV s.2.1 (tgk (kd s a) i, s.2.2 a i)) ∧
  (∀ a, 0 < a → a ≤ s.1.1 → (0 ≤ kd s a ∧ kd s a < 12 ∨ 100 ≤ kd s a ∧ kd s a ≤ 104) ∧ 0 ≤ ln s a ∧ ln s a < 2147483648) ∧
  (∀ a, s.1.1 < a → kd s a = -1) ∧ (∀ a, a ≤ 0 → s.2.1 a = XL a ∧ ∀ i, s.2.2 a i = XD a i) ∧ ∀ a, a ≤ 0 → kd s a = -1 ∨ 200 ≤ kd s a
theorem okS.pos {XL : Lay} {XD : Sto} {s : Stt} (h : okS XL XD s) {a : Int} (h1 : 0 ≤ kd s a) (h2 : kd s a < 200) : 0 < a ∧ a ≤ s.1.1 := by
  obtain ⟨-, -, -, h4, -, h6⟩ := h
  constructor
  · rcases Int.lt_or_le 0 a with q | q
    · exact q
    · rcases h6 a q with q | q <;> omega
  · rcases Int.lt_or_le s.1.1 a with q | q
    · have := h4 a q; omega
    · exact q
theorem okS.neg {XL : Lay} {XD : Sto} {s : Stt} (h : okS XL XD s) {a : Int} (h1 : 200 ≤ kd s a) : a ≤ 0 := by
  obtain ⟨-, -, h3, h4, -, h6⟩ := h
  rcases Int.lt_or_le 0 a with q | q
  · rcases Int.lt_or_le s.1.1 a with q2 | q2
    · have := h4 a q2; omega
    · rcases (h3 a q q2).1 with q3 | q3 <;> omega
  · exact q
theorem wld_get {cA : Nat → ClassId} {adr : Int → Nat} {s : Stt} {a : Int} (h1 : 0 < a) (h2 : a ≤ s.1.1) : (wld cA adr s)[(a - 1).toNat]? = some (adr a, cE cA adr (s.2.1 a) (s.2.2 a)) := by
  have e : (((a - 1).toNat : Nat) : Int) + 1 = a := by omega
  have hl : (a - 1).toNat < s.1.1.toNat := by omega
  unfold wld
  rw [List.getElem?_map, List.getElem?_range hl]
  simp only [Option.map_some, e]
theorem map_range_set {α : Type} (f : Nat → α) (n k : Nat) (v : α) : ((List.range n).map f).set k v = (List.range n).map (fun i => if i = k then v else f i) := by
  apply List.ext_getElem?
  intro i
  rw [List.getElem?_set]
  simp only [List.length_map, List.length_range, List.getElem?_map]
  by_cases hi : i < n
  · rw [List.getElem?_range hi]
    by_cases hk : k = i
    · subst hk; simp [hi]
    · rw [if_neg hk]; simp [Ne.symm hk]
  · rw [List.getElem?_eq_none (by simp; omega)]
    by_cases hk : k = i
    · subst hk; simp [hi]
    · simp [hk]
theorem wld_set {cA : Nat → ClassId} {adr : Int → Nat} {s : Stt} {a : Int} (D' : Sto) (h1 : 0 < a) (hD : ∀ b, b ≠ a → D' b = s.2.2 b) : (wld cA adr s).set (a - 1).toNat (adr a, cE cA adr (s.2.1 a) (D' a)) = wld cA adr (s.1, s.2.1, D') := by
  unfold wld
  rw [map_range_set]
  apply List.map_congr_left
  intro j hj
  by_cases h : j = (a - 1).toNat
  · rw [if_pos h]
    have e : (j : Int) + 1 = a := by omega
    simp only [e]
  · rw [if_neg h]
    have e : (j : Int) + 1 ≠ a := by omega
    simp only [hD _ e]
theorem up_off {D : Sto} {a i v : Int} : ∀ b, b ≠ a → up D a i v b = D b := by
  intro b hb
  funext j
  simp [up, hb]
theorem cF_len (adr : Int → Nat) (k : Int) (f : Int → Int) : (cF adr k f).length = nfl k := by simp [cF]
theorem cF_get {adr : Int → Nat} {k : Int} {f : Int → Int} {i : Nat} (h : i < nfl k) : (cF adr k f)[i]? = some (cV adr (ftg k (i : Int), f (i : Int))) := by
  unfold cF
  rw [List.getElem?_map, List.getElem?_range h]
  rfl
theorem cF_set {adr : Int → Nat} {k : Int} {D : Sto} {a : Int} {i : Int} (v : Int) (hi : 0 ≤ i) : (cF adr k (D a)).set i.toNat (cV adr (ftg k i, v)) = cF adr k (up D a i v a) := by
  unfold cF
  rw [map_range_set]
  apply List.map_congr_left
  intro j hj
  by_cases h : j = i.toNat
  · rw [if_pos h]
    have e : (j : Int) = i := by omega
    simp [up, e]
  · rw [if_neg h]
    have e : ¬ (j : Int) = i := by omega
    simp [up, e]
theorem cE_obj {cA : Nat → ClassId} {adr : Int → Nat} {kl : Int × Int} {f : Int → Int} (h : kl.1 < 100) : cE cA adr kl f = .inr (kl.1.toNat, cF adr kl.1 f) := by simp [cE, h]
theorem cE_long {cA : Nat → ClassId} {adr : Int → Nat} {kl : Int × Int} {f : Int → Int} (h : kl.1 = 101) : cE cA adr kl f = .inl (cA 1, (kl.2.toNat, .inr (.inl (fun i => Int64.ofInt (f (i : Int)))))) := by simp [cE, h]
theorem cE_int {cA : Nat → ClassId} {adr : Int → Nat} {kl : Int × Int} {f : Int → Int} (h : kl.1 = 100) : cE cA adr kl f = .inl (cA 0, (kl.2.toNat, .inl (fun i => Int32.ofInt (f (i : Int))))) := by simp [cE, h]
theorem cE_bool {cA : Nat → ClassId} {adr : Int → Nat} {kl : Int × Int} {f : Int → Int} (h : kl.1 = 102) : cE cA adr kl f = .inl (cA 2, (kl.2.toNat, .inl (fun i => Int32.ofInt (f (i : Int))))) := by simp [cE, h]
theorem cE_ref {cA : Nat → ClassId} {adr : Int → Nat} {kl : Int × Int} {f : Int → Int} (h : kl.1 = 103 ∨ kl.1 = 104) : cE cA adr kl f = .inl (cA (kl.1 - 100).toNat, (kl.2.toNat, .inr (.inr (.inr (.inr (fun i => cR adr (f (i : Int)))))))) := by
  unfold cE
  rw [if_neg (by omega), if_neg (by omega), if_neg (by omega)]
/-- the locals that are known -/
def cLo (adr : Int → Nat) (lo : Lcs) : List (Nat × Value) := (List.range lo.length).filterMap (fun i => (lo[i]?.getD none).map (fun v => (i, cV adr v)))
theorem cLo_mem {adr : Int → Nat} {lo : Lcs} {q : Nat × Value} : q ∈ cLo adr lo ↔ ∃ v, lo[q.1]? = some (some v) ∧ q.2 = cV adr v := by
  unfold cLo
  rw [List.mem_filterMap]
  constructor
  · rintro ⟨i, hi, h⟩
    have hl := List.mem_range.mp hi
    rw [List.getElem?_eq_getElem hl] at h
    simp only [Option.getD_some, Option.map_eq_some_iff] at h
    obtain ⟨v, hv, rfl⟩ := h
    exact ⟨v, by rw [List.getElem?_eq_getElem hl, hv], rfl⟩
  · rintro ⟨v, h1, h2⟩
    have hl := (List.getElem?_eq_some_iff.mp h1).1
    refine ⟨q.1, List.mem_range.mpr hl, ?_⟩
    rw [h1]
    simp [← h2]
theorem lv_mono {ls : Array Slot} {n : Nat} {l l' : List (Nat × Value)} (h : lv_has ls n l) (hs : ∀ q ∈ l', q ∈ l) : lv_has ls n l' := ⟨h.1, h.2.1, fun q hq => h.2.2 q (hs q hq)⟩
theorem cV_cat (adr : Int → Nat) (v : Vv) : (cV adr v).category = cat v := by
  obtain ⟨t, z⟩ := v
  unfold cV cat
  match t with
  | 0 => rfl
  | 1 => rfl
  | t + 2 =>
    show (va_rf (cR adr z)).category = _
    unfold cR
    by_cases h : z = 0
    · simp [h, va_rf, Value.category]
    · simp [h, va_rf, Value.category]
theorem cats (adr : Int → Nat) (st : List Vv) : ((st.map (cV adr)).map fun v => v.category) = st.map cat := by
  rw [List.map_map]
  apply List.map_congr_left
  intro v _
  exact cV_cat adr v
theorem lget_some {lo : Lcs} {i : Int} {v : Vv} (h : lget lo i = some v) : lo[i.toNat]? = some (some v) := by
  unfold lget at h
  cases hl : lo[i.toNat]? with
  | none => rw [hl] at h; cases h
  | some q => rw [hl] at h; simp at h; rw [h]
theorem lcut_len (lo : Lcs) (i : Nat) : (lcut lo i).length = lo.length := by
  unfold lcut
  split
  · rfl
  · split <;> simp
theorem lset_len (lo : Lcs) (i : Int) (v : Vv) : (lset lo i v).length = lo.length := by
  unfold lset
  split <;> simp [lcut_len]
theorem kil_len : ∀ (ks : List Nat) (lo : Lcs), (kil ks lo).length = lo.length := by
  intro ks
  induction ks with
  | nil => intro lo; rfl
  | cons k ks ih => intro lo; simp [kil, ih]
theorem lcut_sub {lo : Lcs} {i j : Nat} {v : Vv} (h : (lcut lo i)[j]? = some (some v)) : lo[j]? = some (some v) ∧ (j + 1 = i → v.1 ≠ 1) := by
  unfold lcut at h
  split at h
  · exact ⟨h, fun q => by omega⟩
  · rename_i i k
    split at h
    · rename_i z hz
      rw [List.getElem?_set] at h
      by_cases e : k = j
      · rw [if_pos e] at h
        split at h <;> cases h
      · rw [if_neg e] at h
        exact ⟨h, fun q => by omega⟩
    · rename_i hz
      refine ⟨h, fun q e => ?_⟩
      have : j = k := by omega
      subst this
      obtain ⟨t, z⟩ := v
      simp only at e
      subst e
      exact hz z h
theorem lset_sub {lo : Lcs} {i : Int} {w : Vv} {j : Nat} {v : Vv} (h : (lset lo i w)[j]? = some (some v)) : (j = i.toNat ∧ v = w) ∨ (j ≠ i.toNat ∧ lo[j]? = some (some v) ∧ (j + 1 = i.toNat → v.1 ≠ 1) ∧ (w.1 = 1 → j ≠ i.toNat + 1)) := by
  obtain ⟨t, z⟩ := w
  unfold lset at h
  by_cases ht : t = 1
  · subst ht
    simp only at h
    rw [List.getElem?_set] at h
    by_cases e1 : i.toNat + 1 = j
    · rw [if_pos e1] at h
      split at h <;> cases h
    · rw [if_neg e1, List.getElem?_set] at h
      by_cases e2 : i.toNat = j
      · rw [if_pos e2] at h
        split at h
        · simp only [Option.some.injEq] at h
          exact Or.inl ⟨e2.symm, h.symm⟩
        · cases h
      · rw [if_neg e2] at h
        obtain ⟨a, b⟩ := lcut_sub h
        exact Or.inr ⟨fun q => e2 q.symm, a, b, fun _ q => e1 q.symm⟩
  · have h : ((lcut lo i.toNat).set i.toNat (some (t, z)))[j]? = some (some v) := by
      revert h
      match t, ht with
      | 0, _ => exact id
      | 1, q => exact absurd rfl q
      | t + 2, _ => exact id
    rw [List.getElem?_set] at h
    by_cases e2 : i.toNat = j
    · rw [if_pos e2] at h
      split at h
      · simp only [Option.some.injEq] at h
        exact Or.inl ⟨e2.symm, h.symm⟩
      · cases h
    · rw [if_neg e2] at h
      obtain ⟨a, b⟩ := lcut_sub h
      exact Or.inr ⟨fun q => e2 q.symm, a, b, fun q => absurd q ht⟩
theorem kil_sub : ∀ (ks : List Nat) (lo : Lcs) (j : Nat) (v : Vv), (kil ks lo)[j]? = some (some v) → lo[j]? = some (some v) := by
  intro ks
  induction ks with
  | nil => intro lo j v h; exact h
  | cons k ks ih =>
    intro lo j v h
    have := ih _ _ _ h
    rw [List.getElem?_set] at this
    by_cases e : k = j
    · rw [if_pos e] at this
      split at this <;> cases this
    · rw [if_neg e] at this
      exact this
