/-! What a straight step says of the stack, read backwards -/
theorem bin0_inv {f : Int → Int → Int} {lo lo' : Lcs} {st st' : List Vv} {s s' : Stt} (h : bin0 f (lo, st, s, true) = (lo', st', s', true)) : ∃ x y r, st = (0, y) :: (0, x) :: r ∧ lo' = lo ∧ st' = (0, f x y) :: r ∧ s' = s := by
  unfold bin0 at h
  split at h
  · rename_i a b y x r c d heq
    simp only [Prod.mk.injEq] at heq h
    obtain ⟨rfl, rfl, rfl, rfl⟩ := heq
    obtain ⟨rfl, rfl, rfl, -⟩ := h
    exact ⟨x, y, r, rfl, rfl, rfl, rfl⟩
  · simp [bad] at h
theorem bin1_inv {f : Int → Int → Int} {lo lo' : Lcs} {st st' : List Vv} {s s' : Stt} (h : bin1 f (lo, st, s, true) = (lo', st', s', true)) : ∃ x y r, st = (1, y) :: (1, x) :: r ∧ lo' = lo ∧ st' = (1, f x y) :: r ∧ s' = s := by
  unfold bin1 at h
  split at h
  · rename_i a b y x r c d heq
    simp only [Prod.mk.injEq] at heq h
    obtain ⟨rfl, rfl, rfl, rfl⟩ := heq
    obtain ⟨rfl, rfl, rfl, -⟩ := h
    exact ⟨x, y, r, rfl, rfl, rfl, rfl⟩
  · simp [bad] at h
theorem div0_inv {f : Int → Int → Int} {lo lo' : Lcs} {st st' : List Vv} {s s' : Stt} (h : div0 f (lo, st, s, true) = (lo', st', s', true)) : ∃ x y r, st = (0, y) :: (0, x) :: r ∧ lo' = lo ∧ st' = (0, f x y) :: r ∧ s' = s ∧ y ≠ 0 := by
  unfold div0 at h
  split at h
  · rename_i a b y x r c d heq
    simp only [Prod.mk.injEq] at heq h
    obtain ⟨rfl, rfl, rfl, rfl⟩ := heq
    obtain ⟨rfl, rfl, rfl, h⟩ := h
    exact ⟨x, y, r, rfl, rfl, rfl, rfl, by simpa using h⟩
  · simp [bad] at h
theorem div1_inv {f : Int → Int → Int} {lo lo' : Lcs} {st st' : List Vv} {s s' : Stt} (h : div1 f (lo, st, s, true) = (lo', st', s', true)) : ∃ x y r, st = (1, y) :: (1, x) :: r ∧ lo' = lo ∧ st' = (1, f x y) :: r ∧ s' = s ∧ y ≠ 0 := by
  unfold div1 at h
  split at h
  · rename_i a b y x r c d heq
    simp only [Prod.mk.injEq] at heq h
    obtain ⟨rfl, rfl, rfl, rfl⟩ := heq
    obtain ⟨rfl, rfl, rfl, h⟩ := h
    exact ⟨x, y, r, rfl, rfl, rfl, rfl, by simpa using h⟩
  · simp [bad] at h
theorem cmp1_inv {lo lo' : Lcs} {st st' : List Vv} {s s' : Stt} (h : cmp1 (lo, st, s, true) = (lo', st', s', true)) : ∃ x y r, st = (1, y) :: (1, x) :: r ∧ lo' = lo ∧ st' = (0, l_cmp x y) :: r ∧ s' = s := by
  unfold cmp1 at h
  split at h
  · rename_i a b y x r c d heq
    simp only [Prod.mk.injEq] at heq h
    obtain ⟨rfl, rfl, rfl, rfl⟩ := heq
    obtain ⟨rfl, rfl, rfl, -⟩ := h
    exact ⟨x, y, r, rfl, rfl, rfl, rfl⟩
  · simp [bad] at h
theorem i2l_inv {lo lo' : Lcs} {st st' : List Vv} {s s' : Stt} (h : i2l' (lo, st, s, true) = (lo', st', s', true)) : ∃ x r, st = (0, x) :: r ∧ lo' = lo ∧ st' = (1, x) :: r ∧ s' = s := by
  unfold i2l' at h
  split at h
  · rename_i a x r c d heq
    simp only [Prod.mk.injEq] at heq h
    obtain ⟨rfl, rfl, rfl, rfl⟩ := heq
    obtain ⟨rfl, rfl, rfl, -⟩ := h
    exact ⟨x, r, rfl, rfl, rfl, rfl⟩
  · simp [bad] at h
theorem l2i_inv {lo lo' : Lcs} {st st' : List Vv} {s s' : Stt} (h : l2i' (lo, st, s, true) = (lo', st', s', true)) : ∃ x r, st = (1, x) :: r ∧ lo' = lo ∧ st' = (0, w32 x) :: r ∧ s' = s := by
  unfold l2i' at h
  split at h
  · rename_i a x r c d heq
    simp only [Prod.mk.injEq] at heq h
    obtain ⟨rfl, rfl, rfl, rfl⟩ := heq
    obtain ⟨rfl, rfl, rfl, -⟩ := h
    exact ⟨x, r, rfl, rfl, rfl, rfl⟩
  · simp [bad] at h
theorem dup_inv {lo lo' : Lcs} {st st' : List Vv} {s s' : Stt} (h : dup' (lo, st, s, true) = (lo', st', s', true)) : ∃ v r, st = v :: r ∧ v.1 ≠ 1 ∧ lo' = lo ∧ st' = v :: v :: r ∧ s' = s := by
  unfold dup' at h
  split at h
  · rename_i a t z r c d heq
    simp only [Prod.mk.injEq] at heq
    obtain ⟨rfl, rfl, rfl, rfl⟩ := heq
    split at h
    · simp [bad] at h
    · rename_i ht
      simp only [Prod.mk.injEq] at h
      obtain ⟨rfl, rfl, rfl, -⟩ := h
      exact ⟨(t, z), r, rfl, ht, rfl, rfl, rfl⟩
  · simp [bad] at h
theorem dup2_inv {lo lo' : Lcs} {st st' : List Vv} {s s' : Stt} (h : dup2' (lo, st, s, true) = (lo', st', s', true)) : ∃ v w r, st = v :: w :: r ∧ v.1 ≠ 1 ∧ w.1 ≠ 1 ∧ lo' = lo ∧ st' = v :: w :: v :: w :: r ∧ s' = s := by
  unfold dup2' at h
  split at h
  · rename_i a t z u y r c d heq
    simp only [Prod.mk.injEq] at heq
    obtain ⟨rfl, rfl, rfl, rfl⟩ := heq
    split at h
    · simp [bad] at h
    · rename_i ht
      split at h
      · simp [bad] at h
      · rename_i hu
        simp only [Prod.mk.injEq] at h
        obtain ⟨rfl, rfl, rfl, -⟩ := h
        exact ⟨(t, z), (u, y), r, rfl, ht, hu, rfl, rfl, rfl⟩
  · simp [bad] at h
theorem dup2l_inv {lo lo' : Lcs} {st st' : List Vv} {s s' : Stt} (h : dup2l (lo, st, s, true) = (lo', st', s', true)) : ∃ z r, st = (1, z) :: r ∧ lo' = lo ∧ st' = (1, z) :: (1, z) :: r ∧ s' = s := by
  unfold dup2l at h
  split at h
  · rename_i a z r c d heq
    simp only [Prod.mk.injEq] at heq h
    obtain ⟨rfl, rfl, rfl, rfl⟩ := heq
    obtain ⟨rfl, rfl, rfl, -⟩ := h
    exact ⟨z, r, rfl, rfl, rfl, rfl⟩
  · simp [bad] at h
theorem pop_inv {lo lo' : Lcs} {st st' : List Vv} {s s' : Stt} (h : pop' (lo, st, s, true) = (lo', st', s', true)) : ∃ v, st = v :: st' ∧ v.1 ≠ 1 ∧ lo' = lo ∧ s' = s := by
  unfold pop' at h
  split at h
  · rename_i a t z r c d heq
    simp only [Prod.mk.injEq] at heq
    obtain ⟨rfl, rfl, rfl, rfl⟩ := heq
    split at h
    · simp [bad] at h
    · rename_i ht
      simp only [Prod.mk.injEq] at h
      obtain ⟨rfl, rfl, rfl, -⟩ := h
      exact ⟨(t, z), rfl, ht, rfl, rfl⟩
  · simp [bad] at h
theorem loadV_inv {t : Nat} {i : Int} {lo lo' : Lcs} {st st' : List Vv} {s s' : Stt} (h : loadV t i (lo, st, s, true) = (lo', st', s', true)) : ∃ z, lget lo i = some (t, z) ∧ lo' = lo ∧ st' = (t, z) :: st ∧ s' = s := by
  unfold loadV at h
  split at h
  · rename_i u z heq
    split at h
    · rename_i hu
      subst hu
      simp only [Prod.mk.injEq] at h
      obtain ⟨rfl, rfl, rfl, -⟩ := h
      exact ⟨z, heq, rfl, rfl, rfl⟩
    · simp [bad] at h
  · simp [bad] at h
theorem storeV_inv {t : Nat} {i : Int} {lo lo' : Lcs} {st st' : List Vv} {s s' : Stt} (h : storeV t i (lo, st, s, true) = (lo', st', s', true)) : ∃ z, st = (t, z) :: st' ∧ lo' = lset lo i (t, z) ∧ s' = s ∧ i.toNat + (if t = 1 then 1 else 0) < lo.length := by
  unfold storeV at h
  split at h
  · rename_i a u z r c d heq
    simp only [Prod.mk.injEq] at heq
    obtain ⟨rfl, rfl, rfl, rfl⟩ := heq
    split at h
    · rename_i hu
      subst hu
      simp only [Prod.mk.injEq] at h
      obtain ⟨rfl, rfl, rfl, h⟩ := h
      exact ⟨z, rfl, rfl, rfl, by simpa using h⟩
    · simp [bad] at h
  · simp [bad] at h
theorem iinc_inv {i n : Int} {lo lo' : Lcs} {st st' : List Vv} {s s' : Stt} (h : iinc' i n (lo, st, s, true) = (lo', st', s', true)) : ∃ z, lget lo i = some (0, z) ∧ lo' = lset lo i (0, w32 (z + n)) ∧ st' = st ∧ s' = s := by
  unfold iinc' at h
  split at h
  · rename_i z heq
    simp only [Prod.mk.injEq] at h
    obtain ⟨rfl, rfl, rfl, -⟩ := h
    exact ⟨z, heq, rfl, rfl, rfl⟩
  · simp [bad] at h
theorem ald_inv {t : Nat} {ks : List Int} {lo lo' : Lcs} {st st' : List Vv} {s s' : Stt} (h : ald t ks (lo, st, s, true) = (lo', st', s', true)) : ∃ i a r, st = (0, i) :: (2, a) :: r ∧ lo' = lo ∧ st' = (t, s.2.2 a i) :: r ∧ s' = s ∧ ks.contains (kd s a) = true ∧ inb i (alen s a) = true := by
  unfold ald at h
  split at h
  · rename_i x i a r c d heq
    simp only [Prod.mk.injEq] at heq h
    obtain ⟨rfl, rfl, rfl, rfl⟩ := heq
    obtain ⟨rfl, rfl, rfl, h⟩ := h
    simp only [Bool.true_and, Bool.and_eq_true] at h
    exact ⟨i, a, r, rfl, rfl, rfl, rfl, h.1, h.2⟩
  · simp [bad] at h
theorem ast_inv {t : Nat} {ks : List Int} {g : Stt → Int → Int → Bool} {lo lo' : Lcs} {st st' : List Vv} {s s' : Stt} (h : ast t ks g (lo, st, s, true) = (lo', st', s', true)) : ∃ v i a, st = (t, v) :: (0, i) :: (2, a) :: st' ∧ lo' = lo ∧ s' = (s.1, s.2.1, up s.2.2 a i v) ∧ ks.contains (kd s a) = true ∧ inb i (ln s a) = true ∧ g s a v = true := by
  unfold ast at h
  split at h
  · rename_i x u v i a r c d heq
    simp only [Prod.mk.injEq] at heq
    obtain ⟨rfl, rfl, rfl, rfl⟩ := heq
    split at h
    · rename_i hu
      subst hu
      simp only [Prod.mk.injEq] at h
      obtain ⟨rfl, rfl, hs, h⟩ := h
      simp only [Bool.true_and, Bool.and_eq_true] at h
      exact ⟨v, i, a, rfl, rfl, hs.symm, h.1, h.2.1, h.2.2⟩
    · simp [bad] at h
  · simp [bad] at h
theorem gfld_inv {ci k : Int} {lo lo' : Lcs} {st st' : List Vv} {s s' : Stt} (h : gfld ci k (lo, st, s, true) = (lo', st', s', true)) : ∃ a r, st = (2, a) :: r ∧ lo' = lo ∧ st' = (ftg ci k, s.2.2 a k) :: r ∧ s' = s ∧ kd s a = ci := by
  unfold gfld at h
  split at h
  · rename_i x a r c d heq
    simp only [Prod.mk.injEq] at heq h
    obtain ⟨rfl, rfl, rfl, rfl⟩ := heq
    obtain ⟨rfl, rfl, rfl, h⟩ := h
    exact ⟨a, r, rfl, rfl, rfl, rfl, by simpa using h⟩
  · simp [bad] at h
theorem cfld_inv {k : Int} {lo lo' : Lcs} {st st' : List Vv} {s s' : Stt} (h : cfld k (lo, st, s, true) = (lo', st', s', true)) : ∃ a r, st = (2, a) :: r ∧ lo' = lo ∧ st' = (0, s.2.2 a k) :: r ∧ s' = s ∧ kd s a = 203 := by
  unfold cfld at h
  split at h
  · rename_i x a r c d heq
    simp only [Prod.mk.injEq] at heq h
    obtain ⟨rfl, rfl, rfl, rfl⟩ := heq
    obtain ⟨rfl, rfl, rfl, h⟩ := h
    exact ⟨a, r, rfl, rfl, rfl, rfl, by simpa using h⟩
  · simp [bad] at h
theorem alen_inv {lo lo' : Lcs} {st st' : List Vv} {s s' : Stt} (h : alen' (lo, st, s, true) = (lo', st', s', true)) : ∃ a r, st = (2, a) :: r ∧ lo' = lo ∧ st' = (0, alen s a) :: r ∧ s' = s ∧ 100 ≤ kd s a ∧ kd s a ≠ 203 ∧ kd s a ≠ 206 := by
  unfold alen' at h
  split at h
  · rename_i x a r c d heq
    simp only [Prod.mk.injEq] at heq h
    obtain ⟨rfl, rfl, rfl, rfl⟩ := heq
    obtain ⟨rfl, rfl, rfl, h⟩ := h
    exact ⟨a, r, rfl, rfl, rfl, rfl, by simpa using h⟩
  · simp [bad] at h
theorem pfld_inv {ci k : Int} {lo lo' : Lcs} {st st' : List Vv} {s s' : Stt} (h : pfld ci k (lo, st, s, true) = (lo', st', s', true)) : ∃ v a, st = (ftg ci k, v) :: (2, a) :: st' ∧ lo' = lo ∧ s' = (s.1, s.2.1, up s.2.2 a k v) ∧ kd s a = ci ∧ (fcode ci k = 3 → bit01 v = true) := by
  unfold pfld at h
  split at h
  · rename_i x u v a r c d heq
    simp only [Prod.mk.injEq] at heq
    obtain ⟨rfl, rfl, rfl, rfl⟩ := heq
    split at h
    · rename_i hu
      subst hu
      simp only [Prod.mk.injEq] at h
      obtain ⟨rfl, rfl, hs, h⟩ := h
      simp only [Bool.true_and, Bool.and_eq_true, decide_eq_true_eq, Bool.or_eq_true, bne_iff_ne] at h
      exact ⟨v, a, rfl, rfl, hs.symm, h.1, fun q => h.2.resolve_left (fun n => n q)⟩
    · simp [bad] at h
  · simp [bad] at h
