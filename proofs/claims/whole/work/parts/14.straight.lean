/-! All straight steps -/
section STS
variable {p : Program} {l : Launch} {e : Env} {R : Room} {s0 : State} {m : MethodId} {args : Array Value} {below : List Frame} {meth : Method} {c : Code} {Q : State → Prop} {H : Heap} {locs : List Loc} {cells slots : Nat} {ls : Array Slot} {cc : ByteArray} {own : String} {pc nL : Nat}
variable {G : va_G} {cA : Nat → ClassId} {A : Nat → Prop} {adr : Int → Nat} {xs : Int → Int} {lo lo' : Lcs} {st st' : List Vv} {s s' : Stt}

theorem st_0 (C : Cx p s0 m args c cc own G cA A adr xs) {ini : Bool} (hini : ini = true → meth.name = "<init>") {a b d : Int} {t : List (Int × Int)} (hd : decode cc pc = .ok (insOf (0, a, b, d, t) pc)) (hi : irOk own ini (0, a, b, d, t) = true) (hw : ∀ w ∈ wrd own (0, a, b, d, t), w.before args s0 = true) (he : ex1 (0, a, b, d, t) (lo, st, s, true) = (lo', st', s', true))
    (hs : okS XL0 (XD0 xs) s) (hH : Hok G cA A adr s s0.heap H locs) (hl : Lok adr s.2.1 nL lo ls) (hst : Sok s.2.1 st)
    (K : ∀ H' locs' ls', okS XL0 (XD0 xs) s' → Hok G cA A adr s' s0.heap H' locs' → Lok adr s'.2.1 nL lo' ls' → Sok s'.2.1 st' → W p l e R s0 m args below meth c H' locs' cells slots Q (F0 m (pc + (insOf (0, a, b, d, t) pc).2) ls' (st'.map (cV adr)))) :
    W p l e R s0 m args below meth c H locs cells slots Q (F0 m pc ls (st.map (cV adr))) := by
  simp only [irOk, Bool.and_eq_true, decide_eq_true_eq] at hi
  simp only [ex1, push, Prod.mk.injEq] at he
  obtain ⟨rfl, rfl, rfl, -⟩ := he
  exact lv_iconst C.1 C.2.1 hd rfl (K H locs ls hs hH hl (Sok.cons (okV.mi (by unfold in32; omega)) hst))

theorem st_1 (C : Cx p s0 m args c cc own G cA A adr xs) {ini : Bool} (hini : ini = true → meth.name = "<init>") {a b d : Int} {t : List (Int × Int)} (hd : decode cc pc = .ok (insOf (1, a, b, d, t) pc)) (hi : irOk own ini (1, a, b, d, t) = true) (hw : ∀ w ∈ wrd own (1, a, b, d, t), w.before args s0 = true) (he : ex1 (1, a, b, d, t) (lo, st, s, true) = (lo', st', s', true))
    (hs : okS XL0 (XD0 xs) s) (hH : Hok G cA A adr s s0.heap H locs) (hl : Lok adr s.2.1 nL lo ls) (hst : Sok s.2.1 st)
    (K : ∀ H' locs' ls', okS XL0 (XD0 xs) s' → Hok G cA A adr s' s0.heap H' locs' → Lok adr s'.2.1 nL lo' ls' → Sok s'.2.1 st' → W p l e R s0 m args below meth c H' locs' cells slots Q (F0 m (pc + (insOf (1, a, b, d, t) pc).2) ls' (st'.map (cV adr)))) :
    W p l e R s0 m args below meth c H locs cells slots Q (F0 m pc ls (st.map (cV adr))) := by
  simp only [irOk, Bool.and_eq_true, decide_eq_true_eq] at hi
  simp only [ex1, push, Prod.mk.injEq] at he
  obtain ⟨rfl, rfl, rfl, -⟩ := he
  exact lv_bipush C.1 C.2.1 hd (b8_32 hi.1 hi.2) (K H locs ls hs hH hl (Sok.cons (okV.mi (by unfold in32; omega)) hst))

theorem st_2 (C : Cx p s0 m args c cc own G cA A adr xs) {ini : Bool} (hini : ini = true → meth.name = "<init>") {a b d : Int} {t : List (Int × Int)} (hd : decode cc pc = .ok (insOf (2, a, b, d, t) pc)) (hi : irOk own ini (2, a, b, d, t) = true) (hw : ∀ w ∈ wrd own (2, a, b, d, t), w.before args s0 = true) (he : ex1 (2, a, b, d, t) (lo, st, s, true) = (lo', st', s', true))
    (hs : okS XL0 (XD0 xs) s) (hH : Hok G cA A adr s s0.heap H locs) (hl : Lok adr s.2.1 nL lo ls) (hst : Sok s.2.1 st)
    (K : ∀ H' locs' ls', okS XL0 (XD0 xs) s' → Hok G cA A adr s' s0.heap H' locs' → Lok adr s'.2.1 nL lo' ls' → Sok s'.2.1 st' → W p l e R s0 m args below meth c H' locs' cells slots Q (F0 m (pc + (insOf (2, a, b, d, t) pc).2) ls' (st'.map (cV adr)))) :
    W p l e R s0 m args below meth c H locs cells slots Q (F0 m pc ls (st.map (cV adr))) := by
  simp only [irOk, Bool.and_eq_true, decide_eq_true_eq] at hi
  simp only [ex1, push, Prod.mk.injEq] at he
  obtain ⟨rfl, rfl, rfl, -⟩ := he
  exact lv_sipush C.1 C.2.1 hd (b16_32 hi.1 hi.2) (K H locs ls hs hH hl (Sok.cons (okV.mi (by unfold in32; omega)) hst))

theorem st_3 (C : Cx p s0 m args c cc own G cA A adr xs) {ini : Bool} (hini : ini = true → meth.name = "<init>") {a b d : Int} {t : List (Int × Int)} (hd : decode cc pc = .ok (insOf (3, a, b, d, t) pc)) (hi : irOk own ini (3, a, b, d, t) = true) (hw : ∀ w ∈ wrd own (3, a, b, d, t), w.before args s0 = true) (he : ex1 (3, a, b, d, t) (lo, st, s, true) = (lo', st', s', true))
    (hs : okS XL0 (XD0 xs) s) (hH : Hok G cA A adr s s0.heap H locs) (hl : Lok adr s.2.1 nL lo ls) (hst : Sok s.2.1 st)
    (K : ∀ H' locs' ls', okS XL0 (XD0 xs) s' → Hok G cA A adr s' s0.heap H' locs' → Lok adr s'.2.1 nL lo' ls' → Sok s'.2.1 st' → W p l e R s0 m args below meth c H' locs' cells slots Q (F0 m (pc + (insOf (3, a, b, d, t) pc).2) ls' (st'.map (cV adr)))) :
    W p l e R s0 m args below meth c H locs cells slots Q (F0 m pc ls (st.map (cV adr))) := by
  simp only [irOk, Bool.and_eq_true, decide_eq_true_eq] at hi
  simp only [ex1, push, Prod.mk.injEq] at he
  obtain ⟨rfl, rfl, rfl, -⟩ := he
  exact lv_ldc C.1 C.2.1 C.2.2.1 (hw _ List.mem_cons_self) hd (K H locs ls hs hH hl (Sok.cons (okV.mi hi) hst))

theorem st_4 (C : Cx p s0 m args c cc own G cA A adr xs) {ini : Bool} (hini : ini = true → meth.name = "<init>") {a b d : Int} {t : List (Int × Int)} (hd : decode cc pc = .ok (insOf (4, a, b, d, t) pc)) (hi : irOk own ini (4, a, b, d, t) = true) (hw : ∀ w ∈ wrd own (4, a, b, d, t), w.before args s0 = true) (he : ex1 (4, a, b, d, t) (lo, st, s, true) = (lo', st', s', true))
    (hs : okS XL0 (XD0 xs) s) (hH : Hok G cA A adr s s0.heap H locs) (hl : Lok adr s.2.1 nL lo ls) (hst : Sok s.2.1 st)
    (K : ∀ H' locs' ls', okS XL0 (XD0 xs) s' → Hok G cA A adr s' s0.heap H' locs' → Lok adr s'.2.1 nL lo' ls' → Sok s'.2.1 st' → W p l e R s0 m args below meth c H' locs' cells slots Q (F0 m (pc + (insOf (4, a, b, d, t) pc).2) ls' (st'.map (cV adr)))) :
    W p l e R s0 m args below meth c H locs cells slots Q (F0 m pc ls (st.map (cV adr))) := by
  simp only [irOk, Bool.and_eq_true, decide_eq_true_eq] at hi
  simp only [ex1, push, Prod.mk.injEq] at he
  obtain ⟨rfl, rfl, rfl, -⟩ := he
  exact lv_ldcw C.1 C.2.1 C.2.2.1 (hw _ List.mem_cons_self) hd (K H locs ls hs hH hl (Sok.cons (okV.mi hi) hst))

theorem st_5 (C : Cx p s0 m args c cc own G cA A adr xs) {ini : Bool} (hini : ini = true → meth.name = "<init>") {a b d : Int} {t : List (Int × Int)} (hd : decode cc pc = .ok (insOf (5, a, b, d, t) pc)) (hi : irOk own ini (5, a, b, d, t) = true) (hw : ∀ w ∈ wrd own (5, a, b, d, t), w.before args s0 = true) (he : ex1 (5, a, b, d, t) (lo, st, s, true) = (lo', st', s', true))
    (hs : okS XL0 (XD0 xs) s) (hH : Hok G cA A adr s s0.heap H locs) (hl : Lok adr s.2.1 nL lo ls) (hst : Sok s.2.1 st)
    (K : ∀ H' locs' ls', okS XL0 (XD0 xs) s' → Hok G cA A adr s' s0.heap H' locs' → Lok adr s'.2.1 nL lo' ls' → Sok s'.2.1 st' → W p l e R s0 m args below meth c H' locs' cells slots Q (F0 m (pc + (insOf (5, a, b, d, t) pc).2) ls' (st'.map (cV adr)))) :
    W p l e R s0 m args below meth c H locs cells slots Q (F0 m pc ls (st.map (cV adr))) := by
  simp only [irOk, Bool.or_eq_true, decide_eq_true_eq] at hi
  simp only [ex1, push, Prod.mk.injEq] at he
  obtain ⟨rfl, rfl, rfl, -⟩ := he
  exact lv_lconst C.1 C.2.1 hd (by rcases hi with rfl | rfl <;> rfl) (K H locs ls hs hH hl (Sok.cons (okV.ml (by unfold in64; omega)) hst))

theorem st_6 (C : Cx p s0 m args c cc own G cA A adr xs) {ini : Bool} (hini : ini = true → meth.name = "<init>") {a b d : Int} {t : List (Int × Int)} (hd : decode cc pc = .ok (insOf (6, a, b, d, t) pc)) (hi : irOk own ini (6, a, b, d, t) = true) (hw : ∀ w ∈ wrd own (6, a, b, d, t), w.before args s0 = true) (he : ex1 (6, a, b, d, t) (lo, st, s, true) = (lo', st', s', true))
    (hs : okS XL0 (XD0 xs) s) (hH : Hok G cA A adr s s0.heap H locs) (hl : Lok adr s.2.1 nL lo ls) (hst : Sok s.2.1 st)
    (K : ∀ H' locs' ls', okS XL0 (XD0 xs) s' → Hok G cA A adr s' s0.heap H' locs' → Lok adr s'.2.1 nL lo' ls' → Sok s'.2.1 st' → W p l e R s0 m args below meth c H' locs' cells slots Q (F0 m (pc + (insOf (6, a, b, d, t) pc).2) ls' (st'.map (cV adr)))) :
    W p l e R s0 m args below meth c H locs cells slots Q (F0 m pc ls (st.map (cV adr))) := by
  simp only [irOk, Bool.and_eq_true, decide_eq_true_eq] at hi
  simp only [ex1, push, Prod.mk.injEq] at he
  obtain ⟨rfl, rfl, rfl, -⟩ := he
  exact lv_ldc2 C.1 C.2.1 C.2.2.1 (hw _ List.mem_cons_self) hd (K H locs ls hs hH hl (Sok.cons (okV.ml hi) hst))

theorem st_7 (C : Cx p s0 m args c cc own G cA A adr xs) {ini : Bool} (hini : ini = true → meth.name = "<init>") {a b d : Int} {t : List (Int × Int)} (hd : decode cc pc = .ok (insOf (7, a, b, d, t) pc)) (hi : irOk own ini (7, a, b, d, t) = true) (hw : ∀ w ∈ wrd own (7, a, b, d, t), w.before args s0 = true) (he : ex1 (7, a, b, d, t) (lo, st, s, true) = (lo', st', s', true))
    (hs : okS XL0 (XD0 xs) s) (hH : Hok G cA A adr s s0.heap H locs) (hl : Lok adr s.2.1 nL lo ls) (hst : Sok s.2.1 st)
    (K : ∀ H' locs' ls', okS XL0 (XD0 xs) s' → Hok G cA A adr s' s0.heap H' locs' → Lok adr s'.2.1 nL lo' ls' → Sok s'.2.1 st' → W p l e R s0 m args below meth c H' locs' cells slots Q (F0 m (pc + (insOf (7, a, b, d, t) pc).2) ls' (st'.map (cV adr)))) :
    W p l e R s0 m args below meth c H locs cells slots Q (F0 m pc ls (st.map (cV adr))) := by
  skip
  simp only [ex1, push, Prod.mk.injEq] at he
  obtain ⟨rfl, rfl, rfl, -⟩ := he
  exact lv_null C.1 C.2.1 hd (K H locs ls hs hH hl (Sok.cons (okV.mr (Or.inl rfl)) hst))

theorem st_8 (C : Cx p s0 m args c cc own G cA A adr xs) {ini : Bool} (hini : ini = true → meth.name = "<init>") {a b d : Int} {t : List (Int × Int)} (hd : decode cc pc = .ok (insOf (8, a, b, d, t) pc)) (hi : irOk own ini (8, a, b, d, t) = true) (hw : ∀ w ∈ wrd own (8, a, b, d, t), w.before args s0 = true) (he : ex1 (8, a, b, d, t) (lo, st, s, true) = (lo', st', s', true))
    (hs : okS XL0 (XD0 xs) s) (hH : Hok G cA A adr s s0.heap H locs) (hl : Lok adr s.2.1 nL lo ls) (hst : Sok s.2.1 st)
    (K : ∀ H' locs' ls', okS XL0 (XD0 xs) s' → Hok G cA A adr s' s0.heap H' locs' → Lok adr s'.2.1 nL lo' ls' → Sok s'.2.1 st' → W p l e R s0 m args below meth c H' locs' cells slots Q (F0 m (pc + (insOf (8, a, b, d, t) pc).2) ls' (st'.map (cV adr)))) :
    W p l e R s0 m args below meth c H locs cells slots Q (F0 m pc ls (st.map (cV adr))) := by
  simp only [irOk, Bool.and_eq_true, decide_eq_true_eq] at hi
  obtain ⟨z, hg, rfl, rfl, rfl⟩ := loadV_inv he
  exact sn_load0n C.1 C.2.1 hi.1 hi.2 hd hl hg (K H locs ls hs hH hl (Sok.cons (hl.2.2 _ _ (lget_some hg)) hst))

theorem st_9 (C : Cx p s0 m args c cc own G cA A adr xs) {ini : Bool} (hini : ini = true → meth.name = "<init>") {a b d : Int} {t : List (Int × Int)} (hd : decode cc pc = .ok (insOf (9, a, b, d, t) pc)) (hi : irOk own ini (9, a, b, d, t) = true) (hw : ∀ w ∈ wrd own (9, a, b, d, t), w.before args s0 = true) (he : ex1 (9, a, b, d, t) (lo, st, s, true) = (lo', st', s', true))
    (hs : okS XL0 (XD0 xs) s) (hH : Hok G cA A adr s s0.heap H locs) (hl : Lok adr s.2.1 nL lo ls) (hst : Sok s.2.1 st)
    (K : ∀ H' locs' ls', okS XL0 (XD0 xs) s' → Hok G cA A adr s' s0.heap H' locs' → Lok adr s'.2.1 nL lo' ls' → Sok s'.2.1 st' → W p l e R s0 m args below meth c H' locs' cells slots Q (F0 m (pc + (insOf (9, a, b, d, t) pc).2) ls' (st'.map (cV adr)))) :
    W p l e R s0 m args below meth c H locs cells slots Q (F0 m pc ls (st.map (cV adr))) := by
  skip
  obtain ⟨z, hg, rfl, rfl, rfl⟩ := loadV_inv he
  exact sn_load0 C.1 C.2.1 hd hl hg (K H locs ls hs hH hl (Sok.cons (hl.2.2 _ _ (lget_some hg)) hst))

theorem st_10 (C : Cx p s0 m args c cc own G cA A adr xs) {ini : Bool} (hini : ini = true → meth.name = "<init>") {a b d : Int} {t : List (Int × Int)} (hd : decode cc pc = .ok (insOf (10, a, b, d, t) pc)) (hi : irOk own ini (10, a, b, d, t) = true) (hw : ∀ w ∈ wrd own (10, a, b, d, t), w.before args s0 = true) (he : ex1 (10, a, b, d, t) (lo, st, s, true) = (lo', st', s', true))
    (hs : okS XL0 (XD0 xs) s) (hH : Hok G cA A adr s s0.heap H locs) (hl : Lok adr s.2.1 nL lo ls) (hst : Sok s.2.1 st)
    (K : ∀ H' locs' ls', okS XL0 (XD0 xs) s' → Hok G cA A adr s' s0.heap H' locs' → Lok adr s'.2.1 nL lo' ls' → Sok s'.2.1 st' → W p l e R s0 m args below meth c H' locs' cells slots Q (F0 m (pc + (insOf (10, a, b, d, t) pc).2) ls' (st'.map (cV adr)))) :
    W p l e R s0 m args below meth c H locs cells slots Q (F0 m pc ls (st.map (cV adr))) := by
  simp only [irOk, Bool.and_eq_true, decide_eq_true_eq] at hi
  obtain ⟨z, hg, rfl, rfl, rfl⟩ := loadV_inv he
  exact sn_load1n C.1 C.2.1 hi.1 hi.2 hd hl hg (K H locs ls hs hH hl (Sok.cons (hl.2.2 _ _ (lget_some hg)) hst))

theorem st_11 (C : Cx p s0 m args c cc own G cA A adr xs) {ini : Bool} (hini : ini = true → meth.name = "<init>") {a b d : Int} {t : List (Int × Int)} (hd : decode cc pc = .ok (insOf (11, a, b, d, t) pc)) (hi : irOk own ini (11, a, b, d, t) = true) (hw : ∀ w ∈ wrd own (11, a, b, d, t), w.before args s0 = true) (he : ex1 (11, a, b, d, t) (lo, st, s, true) = (lo', st', s', true))
    (hs : okS XL0 (XD0 xs) s) (hH : Hok G cA A adr s s0.heap H locs) (hl : Lok adr s.2.1 nL lo ls) (hst : Sok s.2.1 st)
    (K : ∀ H' locs' ls', okS XL0 (XD0 xs) s' → Hok G cA A adr s' s0.heap H' locs' → Lok adr s'.2.1 nL lo' ls' → Sok s'.2.1 st' → W p l e R s0 m args below meth c H' locs' cells slots Q (F0 m (pc + (insOf (11, a, b, d, t) pc).2) ls' (st'.map (cV adr)))) :
    W p l e R s0 m args below meth c H locs cells slots Q (F0 m pc ls (st.map (cV adr))) := by
  skip
  obtain ⟨z, hg, rfl, rfl, rfl⟩ := loadV_inv he
  exact sn_load1 C.1 C.2.1 hd hl hg (K H locs ls hs hH hl (Sok.cons (hl.2.2 _ _ (lget_some hg)) hst))

theorem st_12 (C : Cx p s0 m args c cc own G cA A adr xs) {ini : Bool} (hini : ini = true → meth.name = "<init>") {a b d : Int} {t : List (Int × Int)} (hd : decode cc pc = .ok (insOf (12, a, b, d, t) pc)) (hi : irOk own ini (12, a, b, d, t) = true) (hw : ∀ w ∈ wrd own (12, a, b, d, t), w.before args s0 = true) (he : ex1 (12, a, b, d, t) (lo, st, s, true) = (lo', st', s', true))
    (hs : okS XL0 (XD0 xs) s) (hH : Hok G cA A adr s s0.heap H locs) (hl : Lok adr s.2.1 nL lo ls) (hst : Sok s.2.1 st)
    (K : ∀ H' locs' ls', okS XL0 (XD0 xs) s' → Hok G cA A adr s' s0.heap H' locs' → Lok adr s'.2.1 nL lo' ls' → Sok s'.2.1 st' → W p l e R s0 m args below meth c H' locs' cells slots Q (F0 m (pc + (insOf (12, a, b, d, t) pc).2) ls' (st'.map (cV adr)))) :
    W p l e R s0 m args below meth c H locs cells slots Q (F0 m pc ls (st.map (cV adr))) := by
  simp only [irOk, Bool.and_eq_true, decide_eq_true_eq] at hi
  obtain ⟨z, hg, rfl, rfl, rfl⟩ := loadV_inv he
  exact sn_load2n C.1 C.2.1 hi.1 hi.2 hd hl hg (K H locs ls hs hH hl (Sok.cons (hl.2.2 _ _ (lget_some hg)) hst))

theorem st_13 (C : Cx p s0 m args c cc own G cA A adr xs) {ini : Bool} (hini : ini = true → meth.name = "<init>") {a b d : Int} {t : List (Int × Int)} (hd : decode cc pc = .ok (insOf (13, a, b, d, t) pc)) (hi : irOk own ini (13, a, b, d, t) = true) (hw : ∀ w ∈ wrd own (13, a, b, d, t), w.before args s0 = true) (he : ex1 (13, a, b, d, t) (lo, st, s, true) = (lo', st', s', true))
    (hs : okS XL0 (XD0 xs) s) (hH : Hok G cA A adr s s0.heap H locs) (hl : Lok adr s.2.1 nL lo ls) (hst : Sok s.2.1 st)
    (K : ∀ H' locs' ls', okS XL0 (XD0 xs) s' → Hok G cA A adr s' s0.heap H' locs' → Lok adr s'.2.1 nL lo' ls' → Sok s'.2.1 st' → W p l e R s0 m args below meth c H' locs' cells slots Q (F0 m (pc + (insOf (13, a, b, d, t) pc).2) ls' (st'.map (cV adr)))) :
    W p l e R s0 m args below meth c H locs cells slots Q (F0 m pc ls (st.map (cV adr))) := by
  skip
  obtain ⟨z, hg, rfl, rfl, rfl⟩ := loadV_inv he
  exact sn_load2 C.1 C.2.1 hd hl hg (K H locs ls hs hH hl (Sok.cons (hl.2.2 _ _ (lget_some hg)) hst))

theorem st_14 (C : Cx p s0 m args c cc own G cA A adr xs) {ini : Bool} (hini : ini = true → meth.name = "<init>") {a b d : Int} {t : List (Int × Int)} (hd : decode cc pc = .ok (insOf (14, a, b, d, t) pc)) (hi : irOk own ini (14, a, b, d, t) = true) (hw : ∀ w ∈ wrd own (14, a, b, d, t), w.before args s0 = true) (he : ex1 (14, a, b, d, t) (lo, st, s, true) = (lo', st', s', true))
    (hs : okS XL0 (XD0 xs) s) (hH : Hok G cA A adr s s0.heap H locs) (hl : Lok adr s.2.1 nL lo ls) (hst : Sok s.2.1 st)
    (K : ∀ H' locs' ls', okS XL0 (XD0 xs) s' → Hok G cA A adr s' s0.heap H' locs' → Lok adr s'.2.1 nL lo' ls' → Sok s'.2.1 st' → W p l e R s0 m args below meth c H' locs' cells slots Q (F0 m (pc + (insOf (14, a, b, d, t) pc).2) ls' (st'.map (cV adr)))) :
    W p l e R s0 m args below meth c H locs cells slots Q (F0 m pc ls (st.map (cV adr))) := by
  simp only [irOk, Bool.and_eq_true, decide_eq_true_eq] at hi
  obtain ⟨z, rfl, rfl, rfl, hn⟩ := storeV_inv he
  exact sn_store0n C.1 C.2.1 hi.1 hi.2 hd hl hst.hd (by simpa using hn) (fun ls' hl' => K H locs ls' hs hH hl' hst.tl)

theorem st_15 (C : Cx p s0 m args c cc own G cA A adr xs) {ini : Bool} (hini : ini = true → meth.name = "<init>") {a b d : Int} {t : List (Int × Int)} (hd : decode cc pc = .ok (insOf (15, a, b, d, t) pc)) (hi : irOk own ini (15, a, b, d, t) = true) (hw : ∀ w ∈ wrd own (15, a, b, d, t), w.before args s0 = true) (he : ex1 (15, a, b, d, t) (lo, st, s, true) = (lo', st', s', true))
    (hs : okS XL0 (XD0 xs) s) (hH : Hok G cA A adr s s0.heap H locs) (hl : Lok adr s.2.1 nL lo ls) (hst : Sok s.2.1 st)
    (K : ∀ H' locs' ls', okS XL0 (XD0 xs) s' → Hok G cA A adr s' s0.heap H' locs' → Lok adr s'.2.1 nL lo' ls' → Sok s'.2.1 st' → W p l e R s0 m args below meth c H' locs' cells slots Q (F0 m (pc + (insOf (15, a, b, d, t) pc).2) ls' (st'.map (cV adr)))) :
    W p l e R s0 m args below meth c H locs cells slots Q (F0 m pc ls (st.map (cV adr))) := by
  skip
  obtain ⟨z, rfl, rfl, rfl, hn⟩ := storeV_inv he
  exact sn_store0 C.1 C.2.1 hd hl hst.hd (by simpa using hn) (fun ls' hl' => K H locs ls' hs hH hl' hst.tl)

theorem st_16 (C : Cx p s0 m args c cc own G cA A adr xs) {ini : Bool} (hini : ini = true → meth.name = "<init>") {a b d : Int} {t : List (Int × Int)} (hd : decode cc pc = .ok (insOf (16, a, b, d, t) pc)) (hi : irOk own ini (16, a, b, d, t) = true) (hw : ∀ w ∈ wrd own (16, a, b, d, t), w.before args s0 = true) (he : ex1 (16, a, b, d, t) (lo, st, s, true) = (lo', st', s', true))
    (hs : okS XL0 (XD0 xs) s) (hH : Hok G cA A adr s s0.heap H locs) (hl : Lok adr s.2.1 nL lo ls) (hst : Sok s.2.1 st)
    (K : ∀ H' locs' ls', okS XL0 (XD0 xs) s' → Hok G cA A adr s' s0.heap H' locs' → Lok adr s'.2.1 nL lo' ls' → Sok s'.2.1 st' → W p l e R s0 m args below meth c H' locs' cells slots Q (F0 m (pc + (insOf (16, a, b, d, t) pc).2) ls' (st'.map (cV adr)))) :
    W p l e R s0 m args below meth c H locs cells slots Q (F0 m pc ls (st.map (cV adr))) := by
  simp only [irOk, Bool.and_eq_true, decide_eq_true_eq] at hi
  obtain ⟨z, rfl, rfl, rfl, hn⟩ := storeV_inv he
  exact sn_store1n C.1 C.2.1 hi.1 hi.2 hd hl hst.hd (by simpa using hn) (fun ls' hl' => K H locs ls' hs hH hl' hst.tl)

theorem st_17 (C : Cx p s0 m args c cc own G cA A adr xs) {ini : Bool} (hini : ini = true → meth.name = "<init>") {a b d : Int} {t : List (Int × Int)} (hd : decode cc pc = .ok (insOf (17, a, b, d, t) pc)) (hi : irOk own ini (17, a, b, d, t) = true) (hw : ∀ w ∈ wrd own (17, a, b, d, t), w.before args s0 = true) (he : ex1 (17, a, b, d, t) (lo, st, s, true) = (lo', st', s', true))
    (hs : okS XL0 (XD0 xs) s) (hH : Hok G cA A adr s s0.heap H locs) (hl : Lok adr s.2.1 nL lo ls) (hst : Sok s.2.1 st)
    (K : ∀ H' locs' ls', okS XL0 (XD0 xs) s' → Hok G cA A adr s' s0.heap H' locs' → Lok adr s'.2.1 nL lo' ls' → Sok s'.2.1 st' → W p l e R s0 m args below meth c H' locs' cells slots Q (F0 m (pc + (insOf (17, a, b, d, t) pc).2) ls' (st'.map (cV adr)))) :
    W p l e R s0 m args below meth c H locs cells slots Q (F0 m pc ls (st.map (cV adr))) := by
  skip
  obtain ⟨z, rfl, rfl, rfl, hn⟩ := storeV_inv he
  exact sn_store1 C.1 C.2.1 hd hl hst.hd (by simpa using hn) (fun ls' hl' => K H locs ls' hs hH hl' hst.tl)

theorem st_18 (C : Cx p s0 m args c cc own G cA A adr xs) {ini : Bool} (hini : ini = true → meth.name = "<init>") {a b d : Int} {t : List (Int × Int)} (hd : decode cc pc = .ok (insOf (18, a, b, d, t) pc)) (hi : irOk own ini (18, a, b, d, t) = true) (hw : ∀ w ∈ wrd own (18, a, b, d, t), w.before args s0 = true) (he : ex1 (18, a, b, d, t) (lo, st, s, true) = (lo', st', s', true))
    (hs : okS XL0 (XD0 xs) s) (hH : Hok G cA A adr s s0.heap H locs) (hl : Lok adr s.2.1 nL lo ls) (hst : Sok s.2.1 st)
    (K : ∀ H' locs' ls', okS XL0 (XD0 xs) s' → Hok G cA A adr s' s0.heap H' locs' → Lok adr s'.2.1 nL lo' ls' → Sok s'.2.1 st' → W p l e R s0 m args below meth c H' locs' cells slots Q (F0 m (pc + (insOf (18, a, b, d, t) pc).2) ls' (st'.map (cV adr)))) :
    W p l e R s0 m args below meth c H locs cells slots Q (F0 m pc ls (st.map (cV adr))) := by
  simp only [irOk, Bool.and_eq_true, decide_eq_true_eq] at hi
  obtain ⟨z, rfl, rfl, rfl, hn⟩ := storeV_inv he
  exact sn_store2n C.1 C.2.1 hi.1 hi.2 hd hl hst.hd (by simpa using hn) (fun ls' hl' => K H locs ls' hs hH hl' hst.tl)

theorem st_19 (C : Cx p s0 m args c cc own G cA A adr xs) {ini : Bool} (hini : ini = true → meth.name = "<init>") {a b d : Int} {t : List (Int × Int)} (hd : decode cc pc = .ok (insOf (19, a, b, d, t) pc)) (hi : irOk own ini (19, a, b, d, t) = true) (hw : ∀ w ∈ wrd own (19, a, b, d, t), w.before args s0 = true) (he : ex1 (19, a, b, d, t) (lo, st, s, true) = (lo', st', s', true))
    (hs : okS XL0 (XD0 xs) s) (hH : Hok G cA A adr s s0.heap H locs) (hl : Lok adr s.2.1 nL lo ls) (hst : Sok s.2.1 st)
    (K : ∀ H' locs' ls', okS XL0 (XD0 xs) s' → Hok G cA A adr s' s0.heap H' locs' → Lok adr s'.2.1 nL lo' ls' → Sok s'.2.1 st' → W p l e R s0 m args below meth c H' locs' cells slots Q (F0 m (pc + (insOf (19, a, b, d, t) pc).2) ls' (st'.map (cV adr)))) :
    W p l e R s0 m args below meth c H locs cells slots Q (F0 m pc ls (st.map (cV adr))) := by
  skip
  obtain ⟨z, rfl, rfl, rfl, hn⟩ := storeV_inv he
  exact sn_store2 C.1 C.2.1 hd hl hst.hd (by simpa using hn) (fun ls' hl' => K H locs ls' hs hH hl' hst.tl)

theorem st_20 (C : Cx p s0 m args c cc own G cA A adr xs) {ini : Bool} (hini : ini = true → meth.name = "<init>") {a b d : Int} {t : List (Int × Int)} (hd : decode cc pc = .ok (insOf (20, a, b, d, t) pc)) (hi : irOk own ini (20, a, b, d, t) = true) (hw : ∀ w ∈ wrd own (20, a, b, d, t), w.before args s0 = true) (he : ex1 (20, a, b, d, t) (lo, st, s, true) = (lo', st', s', true))
    (hs : okS XL0 (XD0 xs) s) (hH : Hok G cA A adr s s0.heap H locs) (hl : Lok adr s.2.1 nL lo ls) (hst : Sok s.2.1 st)
    (K : ∀ H' locs' ls', okS XL0 (XD0 xs) s' → Hok G cA A adr s' s0.heap H' locs' → Lok adr s'.2.1 nL lo' ls' → Sok s'.2.1 st' → W p l e R s0 m args below meth c H' locs' cells slots Q (F0 m (pc + (insOf (20, a, b, d, t) pc).2) ls' (st'.map (cV adr)))) :
    W p l e R s0 m args below meth c H locs cells slots Q (F0 m pc ls (st.map (cV adr))) := by
  obtain ⟨z, hg, rfl, rfl, rfl⟩ := iinc_inv he
  exact sn_iinc C.1 C.2.1 hd hl hg (fun ls' hl' => K H locs ls' hs hH hl' hst)

theorem st_21 (C : Cx p s0 m args c cc own G cA A adr xs) {ini : Bool} (hini : ini = true → meth.name = "<init>") {a b d : Int} {t : List (Int × Int)} (hd : decode cc pc = .ok (insOf (21, a, b, d, t) pc)) (hi : irOk own ini (21, a, b, d, t) = true) (hw : ∀ w ∈ wrd own (21, a, b, d, t), w.before args s0 = true) (he : ex1 (21, a, b, d, t) (lo, st, s, true) = (lo', st', s', true))
    (hs : okS XL0 (XD0 xs) s) (hH : Hok G cA A adr s s0.heap H locs) (hl : Lok adr s.2.1 nL lo ls) (hst : Sok s.2.1 st)
    (K : ∀ H' locs' ls', okS XL0 (XD0 xs) s' → Hok G cA A adr s' s0.heap H' locs' → Lok adr s'.2.1 nL lo' ls' → Sok s'.2.1 st' → W p l e R s0 m args below meth c H' locs' cells slots Q (F0 m (pc + (insOf (21, a, b, d, t) pc).2) ls' (st'.map (cV adr)))) :
    W p l e R s0 m args below meth c H locs cells slots Q (F0 m pc ls (st.map (cV adr))) := by
  obtain ⟨v, r, rfl, hv, rfl, rfl, rfl⟩ := dup_inv he
  exact lv_dup C.1 C.2.1 hd (by rw [cV_cat]; unfold cat; rw [if_neg hv]) (K H locs ls hs hH hl (Sok.cons hst.hd hst))

theorem st_22 (C : Cx p s0 m args c cc own G cA A adr xs) {ini : Bool} (hini : ini = true → meth.name = "<init>") {a b d : Int} {t : List (Int × Int)} (hd : decode cc pc = .ok (insOf (22, a, b, d, t) pc)) (hi : irOk own ini (22, a, b, d, t) = true) (hw : ∀ w ∈ wrd own (22, a, b, d, t), w.before args s0 = true) (he : ex1 (22, a, b, d, t) (lo, st, s, true) = (lo', st', s', true))
    (hs : okS XL0 (XD0 xs) s) (hH : Hok G cA A adr s s0.heap H locs) (hl : Lok adr s.2.1 nL lo ls) (hst : Sok s.2.1 st)
    (K : ∀ H' locs' ls', okS XL0 (XD0 xs) s' → Hok G cA A adr s' s0.heap H' locs' → Lok adr s'.2.1 nL lo' ls' → Sok s'.2.1 st' → W p l e R s0 m args below meth c H' locs' cells slots Q (F0 m (pc + (insOf (22, a, b, d, t) pc).2) ls' (st'.map (cV adr)))) :
    W p l e R s0 m args below meth c H locs cells slots Q (F0 m pc ls (st.map (cV adr))) := by
  obtain ⟨v, w, r, rfl, hv, hw', rfl, rfl, rfl⟩ := dup2_inv he
  exact lv_dup2_11 C.1 C.2.1 hd (by rw [cV_cat]; unfold cat; rw [if_neg hv]) (by rw [cV_cat]; unfold cat; rw [if_neg hw']) (K H locs ls hs hH hl (Sok.cons hst.hd (Sok.cons hst.tl.hd hst)))

theorem st_23 (C : Cx p s0 m args c cc own G cA A adr xs) {ini : Bool} (hini : ini = true → meth.name = "<init>") {a b d : Int} {t : List (Int × Int)} (hd : decode cc pc = .ok (insOf (23, a, b, d, t) pc)) (hi : irOk own ini (23, a, b, d, t) = true) (hw : ∀ w ∈ wrd own (23, a, b, d, t), w.before args s0 = true) (he : ex1 (23, a, b, d, t) (lo, st, s, true) = (lo', st', s', true))
    (hs : okS XL0 (XD0 xs) s) (hH : Hok G cA A adr s s0.heap H locs) (hl : Lok adr s.2.1 nL lo ls) (hst : Sok s.2.1 st)
    (K : ∀ H' locs' ls', okS XL0 (XD0 xs) s' → Hok G cA A adr s' s0.heap H' locs' → Lok adr s'.2.1 nL lo' ls' → Sok s'.2.1 st' → W p l e R s0 m args below meth c H' locs' cells slots Q (F0 m (pc + (insOf (23, a, b, d, t) pc).2) ls' (st'.map (cV adr)))) :
    W p l e R s0 m args below meth c H locs cells slots Q (F0 m pc ls (st.map (cV adr))) := by
  obtain ⟨z, r, rfl, rfl, rfl, rfl⟩ := dup2l_inv he
  exact lv_dup2_2 C.1 C.2.1 hd rfl (K H locs ls hs hH hl (Sok.cons hst.hd hst))

theorem st_24 (C : Cx p s0 m args c cc own G cA A adr xs) {ini : Bool} (hini : ini = true → meth.name = "<init>") {a b d : Int} {t : List (Int × Int)} (hd : decode cc pc = .ok (insOf (24, a, b, d, t) pc)) (hi : irOk own ini (24, a, b, d, t) = true) (hw : ∀ w ∈ wrd own (24, a, b, d, t), w.before args s0 = true) (he : ex1 (24, a, b, d, t) (lo, st, s, true) = (lo', st', s', true))
    (hs : okS XL0 (XD0 xs) s) (hH : Hok G cA A adr s s0.heap H locs) (hl : Lok adr s.2.1 nL lo ls) (hst : Sok s.2.1 st)
    (K : ∀ H' locs' ls', okS XL0 (XD0 xs) s' → Hok G cA A adr s' s0.heap H' locs' → Lok adr s'.2.1 nL lo' ls' → Sok s'.2.1 st' → W p l e R s0 m args below meth c H' locs' cells slots Q (F0 m (pc + (insOf (24, a, b, d, t) pc).2) ls' (st'.map (cV adr)))) :
    W p l e R s0 m args below meth c H locs cells slots Q (F0 m pc ls (st.map (cV adr))) := by
  obtain ⟨v, rfl, hv, rfl, rfl⟩ := pop_inv he
  exact lv_pop C.1 C.2.1 hd (by rw [cV_cat]; unfold cat; rw [if_neg hv]) (K H locs ls hs hH hl hst.tl)

theorem st_25 (C : Cx p s0 m args c cc own G cA A adr xs) {ini : Bool} (hini : ini = true → meth.name = "<init>") {a b d : Int} {t : List (Int × Int)} (hd : decode cc pc = .ok (insOf (25, a, b, d, t) pc)) (hi : irOk own ini (25, a, b, d, t) = true) (hw : ∀ w ∈ wrd own (25, a, b, d, t), w.before args s0 = true) (he : ex1 (25, a, b, d, t) (lo, st, s, true) = (lo', st', s', true))
    (hs : okS XL0 (XD0 xs) s) (hH : Hok G cA A adr s s0.heap H locs) (hl : Lok adr s.2.1 nL lo ls) (hst : Sok s.2.1 st)
    (K : ∀ H' locs' ls', okS XL0 (XD0 xs) s' → Hok G cA A adr s' s0.heap H' locs' → Lok adr s'.2.1 nL lo' ls' → Sok s'.2.1 st' → W p l e R s0 m args below meth c H' locs' cells slots Q (F0 m (pc + (insOf (25, a, b, d, t) pc).2) ls' (st'.map (cV adr)))) :
    W p l e R s0 m args below meth c H locs cells slots Q (F0 m pc ls (st.map (cV adr))) := by
  obtain ⟨x, y, r, rfl, rfl, rfl, rfl⟩ := bin0_inv he
  have k := K H locs ls hs hH hl (Sok.cons (okV.mi (w32_in _)) hst.tl.tl)
  have e9 : cV adr (0, w32 (x + y)) = .int (Int32.ofInt x + Int32.ofInt y) := by show Value.int (Int32.ofInt (w32 _)) = _; rw [o32_w, Int32.ofInt_add]
  rw [List.map_cons, e9] at k
  exact lv_iadd C.1 C.2.1 hd k

theorem st_26 (C : Cx p s0 m args c cc own G cA A adr xs) {ini : Bool} (hini : ini = true → meth.name = "<init>") {a b d : Int} {t : List (Int × Int)} (hd : decode cc pc = .ok (insOf (26, a, b, d, t) pc)) (hi : irOk own ini (26, a, b, d, t) = true) (hw : ∀ w ∈ wrd own (26, a, b, d, t), w.before args s0 = true) (he : ex1 (26, a, b, d, t) (lo, st, s, true) = (lo', st', s', true))
    (hs : okS XL0 (XD0 xs) s) (hH : Hok G cA A adr s s0.heap H locs) (hl : Lok adr s.2.1 nL lo ls) (hst : Sok s.2.1 st)
    (K : ∀ H' locs' ls', okS XL0 (XD0 xs) s' → Hok G cA A adr s' s0.heap H' locs' → Lok adr s'.2.1 nL lo' ls' → Sok s'.2.1 st' → W p l e R s0 m args below meth c H' locs' cells slots Q (F0 m (pc + (insOf (26, a, b, d, t) pc).2) ls' (st'.map (cV adr)))) :
    W p l e R s0 m args below meth c H locs cells slots Q (F0 m pc ls (st.map (cV adr))) := by
  obtain ⟨x, y, r, rfl, rfl, rfl, rfl⟩ := bin0_inv he
  have k := K H locs ls hs hH hl (Sok.cons (okV.mi (w32_in _)) hst.tl.tl)
  have e9 : cV adr (0, w32 (x - y)) = .int (Int32.ofInt x - Int32.ofInt y) := by show Value.int (Int32.ofInt (w32 _)) = _; rw [o32_w, Int32.ofInt_sub]
  rw [List.map_cons, e9] at k
  exact lv_isub C.1 C.2.1 hd k

theorem st_27 (C : Cx p s0 m args c cc own G cA A adr xs) {ini : Bool} (hini : ini = true → meth.name = "<init>") {a b d : Int} {t : List (Int × Int)} (hd : decode cc pc = .ok (insOf (27, a, b, d, t) pc)) (hi : irOk own ini (27, a, b, d, t) = true) (hw : ∀ w ∈ wrd own (27, a, b, d, t), w.before args s0 = true) (he : ex1 (27, a, b, d, t) (lo, st, s, true) = (lo', st', s', true))
    (hs : okS XL0 (XD0 xs) s) (hH : Hok G cA A adr s s0.heap H locs) (hl : Lok adr s.2.1 nL lo ls) (hst : Sok s.2.1 st)
    (K : ∀ H' locs' ls', okS XL0 (XD0 xs) s' → Hok G cA A adr s' s0.heap H' locs' → Lok adr s'.2.1 nL lo' ls' → Sok s'.2.1 st' → W p l e R s0 m args below meth c H' locs' cells slots Q (F0 m (pc + (insOf (27, a, b, d, t) pc).2) ls' (st'.map (cV adr)))) :
    W p l e R s0 m args below meth c H locs cells slots Q (F0 m pc ls (st.map (cV adr))) := by
  obtain ⟨x, y, r, rfl, rfl, rfl, rfl⟩ := bin0_inv he
  have k := K H locs ls hs hH hl (Sok.cons (okV.mi (w32_in _)) hst.tl.tl)
  have e9 : cV adr (0, w32 (x * y)) = .int (Int32.ofInt x * Int32.ofInt y) := by show Value.int (Int32.ofInt (w32 _)) = _; rw [o32_w, Int32.ofInt_mul]
  rw [List.map_cons, e9] at k
  exact lv_imul C.1 C.2.1 hd k

theorem st_28 (C : Cx p s0 m args c cc own G cA A adr xs) {ini : Bool} (hini : ini = true → meth.name = "<init>") {a b d : Int} {t : List (Int × Int)} (hd : decode cc pc = .ok (insOf (28, a, b, d, t) pc)) (hi : irOk own ini (28, a, b, d, t) = true) (hw : ∀ w ∈ wrd own (28, a, b, d, t), w.before args s0 = true) (he : ex1 (28, a, b, d, t) (lo, st, s, true) = (lo', st', s', true))
    (hs : okS XL0 (XD0 xs) s) (hH : Hok G cA A adr s s0.heap H locs) (hl : Lok adr s.2.1 nL lo ls) (hst : Sok s.2.1 st)
    (K : ∀ H' locs' ls', okS XL0 (XD0 xs) s' → Hok G cA A adr s' s0.heap H' locs' → Lok adr s'.2.1 nL lo' ls' → Sok s'.2.1 st' → W p l e R s0 m args below meth c H' locs' cells slots Q (F0 m (pc + (insOf (28, a, b, d, t) pc).2) ls' (st'.map (cV adr)))) :
    W p l e R s0 m args below meth c H locs cells slots Q (F0 m pc ls (st.map (cV adr))) := by
  obtain ⟨x, y, r, rfl, rfl, rfl, rfl⟩ := bin0_inv he
  have k := K H locs ls hs hH hl (Sok.cons (okV.mi (toInt_in32 _)) hst.tl.tl)
  rw [List.map_cons, show cV adr (0, i_and x y) = Value.int _ from congrArg Value.int (Int32.ofInt_toInt _)] at k
  exact lv_iand C.1 C.2.1 hd k

theorem st_29 (C : Cx p s0 m args c cc own G cA A adr xs) {ini : Bool} (hini : ini = true → meth.name = "<init>") {a b d : Int} {t : List (Int × Int)} (hd : decode cc pc = .ok (insOf (29, a, b, d, t) pc)) (hi : irOk own ini (29, a, b, d, t) = true) (hw : ∀ w ∈ wrd own (29, a, b, d, t), w.before args s0 = true) (he : ex1 (29, a, b, d, t) (lo, st, s, true) = (lo', st', s', true))
    (hs : okS XL0 (XD0 xs) s) (hH : Hok G cA A adr s s0.heap H locs) (hl : Lok adr s.2.1 nL lo ls) (hst : Sok s.2.1 st)
    (K : ∀ H' locs' ls', okS XL0 (XD0 xs) s' → Hok G cA A adr s' s0.heap H' locs' → Lok adr s'.2.1 nL lo' ls' → Sok s'.2.1 st' → W p l e R s0 m args below meth c H' locs' cells slots Q (F0 m (pc + (insOf (29, a, b, d, t) pc).2) ls' (st'.map (cV adr)))) :
    W p l e R s0 m args below meth c H locs cells slots Q (F0 m pc ls (st.map (cV adr))) := by
  obtain ⟨x, y, r, rfl, rfl, rfl, rfl⟩ := bin0_inv he
  have k := K H locs ls hs hH hl (Sok.cons (okV.mi (toInt_in32 _)) hst.tl.tl)
  rw [List.map_cons, show cV adr (0, i_or x y) = Value.int _ from congrArg Value.int (Int32.ofInt_toInt _)] at k
  exact lv_ior C.1 C.2.1 hd k

theorem st_30 (C : Cx p s0 m args c cc own G cA A adr xs) {ini : Bool} (hini : ini = true → meth.name = "<init>") {a b d : Int} {t : List (Int × Int)} (hd : decode cc pc = .ok (insOf (30, a, b, d, t) pc)) (hi : irOk own ini (30, a, b, d, t) = true) (hw : ∀ w ∈ wrd own (30, a, b, d, t), w.before args s0 = true) (he : ex1 (30, a, b, d, t) (lo, st, s, true) = (lo', st', s', true))
    (hs : okS XL0 (XD0 xs) s) (hH : Hok G cA A adr s s0.heap H locs) (hl : Lok adr s.2.1 nL lo ls) (hst : Sok s.2.1 st)
    (K : ∀ H' locs' ls', okS XL0 (XD0 xs) s' → Hok G cA A adr s' s0.heap H' locs' → Lok adr s'.2.1 nL lo' ls' → Sok s'.2.1 st' → W p l e R s0 m args below meth c H' locs' cells slots Q (F0 m (pc + (insOf (30, a, b, d, t) pc).2) ls' (st'.map (cV adr)))) :
    W p l e R s0 m args below meth c H locs cells slots Q (F0 m pc ls (st.map (cV adr))) := by
  obtain ⟨x, y, r, rfl, rfl, rfl, rfl⟩ := bin0_inv he
  have k := K H locs ls hs hH hl (Sok.cons (okV.mi (toInt_in32 _)) hst.tl.tl)
  rw [List.map_cons, show cV adr (0, i_xor x y) = Value.int _ from congrArg Value.int (Int32.ofInt_toInt _)] at k
  exact lv_ixor C.1 C.2.1 hd k

theorem st_31 (C : Cx p s0 m args c cc own G cA A adr xs) {ini : Bool} (hini : ini = true → meth.name = "<init>") {a b d : Int} {t : List (Int × Int)} (hd : decode cc pc = .ok (insOf (31, a, b, d, t) pc)) (hi : irOk own ini (31, a, b, d, t) = true) (hw : ∀ w ∈ wrd own (31, a, b, d, t), w.before args s0 = true) (he : ex1 (31, a, b, d, t) (lo, st, s, true) = (lo', st', s', true))
    (hs : okS XL0 (XD0 xs) s) (hH : Hok G cA A adr s s0.heap H locs) (hl : Lok adr s.2.1 nL lo ls) (hst : Sok s.2.1 st)
    (K : ∀ H' locs' ls', okS XL0 (XD0 xs) s' → Hok G cA A adr s' s0.heap H' locs' → Lok adr s'.2.1 nL lo' ls' → Sok s'.2.1 st' → W p l e R s0 m args below meth c H' locs' cells slots Q (F0 m (pc + (insOf (31, a, b, d, t) pc).2) ls' (st'.map (cV adr)))) :
    W p l e R s0 m args below meth c H locs cells slots Q (F0 m pc ls (st.map (cV adr))) := by
  obtain ⟨x, y, r, rfl, rfl, rfl, rfl⟩ := bin0_inv he
  have k := K H locs ls hs hH hl (Sok.cons (okV.mi (toInt_in32 _)) hst.tl.tl)
  rw [List.map_cons, show cV adr (0, i_shl x y) = Value.int _ from congrArg Value.int (Int32.ofInt_toInt _)] at k
  exact lv_ishl C.1 C.2.1 hd k

theorem st_32 (C : Cx p s0 m args c cc own G cA A adr xs) {ini : Bool} (hini : ini = true → meth.name = "<init>") {a b d : Int} {t : List (Int × Int)} (hd : decode cc pc = .ok (insOf (32, a, b, d, t) pc)) (hi : irOk own ini (32, a, b, d, t) = true) (hw : ∀ w ∈ wrd own (32, a, b, d, t), w.before args s0 = true) (he : ex1 (32, a, b, d, t) (lo, st, s, true) = (lo', st', s', true))
    (hs : okS XL0 (XD0 xs) s) (hH : Hok G cA A adr s s0.heap H locs) (hl : Lok adr s.2.1 nL lo ls) (hst : Sok s.2.1 st)
    (K : ∀ H' locs' ls', okS XL0 (XD0 xs) s' → Hok G cA A adr s' s0.heap H' locs' → Lok adr s'.2.1 nL lo' ls' → Sok s'.2.1 st' → W p l e R s0 m args below meth c H' locs' cells slots Q (F0 m (pc + (insOf (32, a, b, d, t) pc).2) ls' (st'.map (cV adr)))) :
    W p l e R s0 m args below meth c H locs cells slots Q (F0 m pc ls (st.map (cV adr))) := by
  obtain ⟨x, y, r, rfl, rfl, rfl, rfl⟩ := bin0_inv he
  have k := K H locs ls hs hH hl (Sok.cons (okV.mi (toInt_in32 _)) hst.tl.tl)
  rw [List.map_cons, show cV adr (0, i_shr x y) = Value.int _ from congrArg Value.int (Int32.ofInt_toInt _)] at k
  exact lv_ishr C.1 C.2.1 hd k

theorem st_33 (C : Cx p s0 m args c cc own G cA A adr xs) {ini : Bool} (hini : ini = true → meth.name = "<init>") {a b d : Int} {t : List (Int × Int)} (hd : decode cc pc = .ok (insOf (33, a, b, d, t) pc)) (hi : irOk own ini (33, a, b, d, t) = true) (hw : ∀ w ∈ wrd own (33, a, b, d, t), w.before args s0 = true) (he : ex1 (33, a, b, d, t) (lo, st, s, true) = (lo', st', s', true))
    (hs : okS XL0 (XD0 xs) s) (hH : Hok G cA A adr s s0.heap H locs) (hl : Lok adr s.2.1 nL lo ls) (hst : Sok s.2.1 st)
    (K : ∀ H' locs' ls', okS XL0 (XD0 xs) s' → Hok G cA A adr s' s0.heap H' locs' → Lok adr s'.2.1 nL lo' ls' → Sok s'.2.1 st' → W p l e R s0 m args below meth c H' locs' cells slots Q (F0 m (pc + (insOf (33, a, b, d, t) pc).2) ls' (st'.map (cV adr)))) :
    W p l e R s0 m args below meth c H locs cells slots Q (F0 m pc ls (st.map (cV adr))) := by
  obtain ⟨x, y, r, rfl, rfl, rfl, rfl⟩ := bin0_inv he
  have k := K H locs ls hs hH hl (Sok.cons (okV.mi (toInt_in32 _)) hst.tl.tl)
  exact lv_iushr C.1 C.2.1 hd (v := Int32.ofInt (i_ushr x y)) (Int32.ofInt_toInt _).symm k

theorem st_34 (C : Cx p s0 m args c cc own G cA A adr xs) {ini : Bool} (hini : ini = true → meth.name = "<init>") {a b d : Int} {t : List (Int × Int)} (hd : decode cc pc = .ok (insOf (34, a, b, d, t) pc)) (hi : irOk own ini (34, a, b, d, t) = true) (hw : ∀ w ∈ wrd own (34, a, b, d, t), w.before args s0 = true) (he : ex1 (34, a, b, d, t) (lo, st, s, true) = (lo', st', s', true))
    (hs : okS XL0 (XD0 xs) s) (hH : Hok G cA A adr s s0.heap H locs) (hl : Lok adr s.2.1 nL lo ls) (hst : Sok s.2.1 st)
    (K : ∀ H' locs' ls', okS XL0 (XD0 xs) s' → Hok G cA A adr s' s0.heap H' locs' → Lok adr s'.2.1 nL lo' ls' → Sok s'.2.1 st' → W p l e R s0 m args below meth c H' locs' cells slots Q (F0 m (pc + (insOf (34, a, b, d, t) pc).2) ls' (st'.map (cV adr)))) :
    W p l e R s0 m args below meth c H locs cells slots Q (F0 m pc ls (st.map (cV adr))) := by
  obtain ⟨x, y, r, rfl, rfl, rfl, rfl, h0⟩ := div0_inv he
  have hy := hst.hd.i
  have hx := hst.tl.hd.i
  have k := K H locs ls hs hH hl (Sok.cons (okV.mi (w32_in _)) hst.tl.tl)
  rw [List.map_cons, show cV adr (0, i_div x y) = Value.int (Int32.ofInt x / Int32.ofInt y) from congrArg Value.int (o32_div hx hy).symm] at k
  exact lv_idiv C.1 C.2.1 hd (fun q => h0 ((o32_eq0 hy).mp q)) k

theorem st_35 (C : Cx p s0 m args c cc own G cA A adr xs) {ini : Bool} (hini : ini = true → meth.name = "<init>") {a b d : Int} {t : List (Int × Int)} (hd : decode cc pc = .ok (insOf (35, a, b, d, t) pc)) (hi : irOk own ini (35, a, b, d, t) = true) (hw : ∀ w ∈ wrd own (35, a, b, d, t), w.before args s0 = true) (he : ex1 (35, a, b, d, t) (lo, st, s, true) = (lo', st', s', true))
    (hs : okS XL0 (XD0 xs) s) (hH : Hok G cA A adr s s0.heap H locs) (hl : Lok adr s.2.1 nL lo ls) (hst : Sok s.2.1 st)
    (K : ∀ H' locs' ls', okS XL0 (XD0 xs) s' → Hok G cA A adr s' s0.heap H' locs' → Lok adr s'.2.1 nL lo' ls' → Sok s'.2.1 st' → W p l e R s0 m args below meth c H' locs' cells slots Q (F0 m (pc + (insOf (35, a, b, d, t) pc).2) ls' (st'.map (cV adr)))) :
    W p l e R s0 m args below meth c H locs cells slots Q (F0 m pc ls (st.map (cV adr))) := by
  obtain ⟨x, y, r, rfl, rfl, rfl, rfl, h0⟩ := div0_inv he
  have hy := hst.hd.i
  have hx := hst.tl.hd.i
  have k := K H locs ls hs hH hl (Sok.cons (okV.mi (tmod_in32 hx hy h0)) hst.tl.tl)
  rw [List.map_cons, show cV adr (0, i_rem x y) = Value.int _ from congrArg Value.int (o32_rem hx hy h0).symm] at k
  exact lv_irem C.1 C.2.1 hd (fun q => h0 ((o32_eq0 hy).mp q)) k

theorem st_36 (C : Cx p s0 m args c cc own G cA A adr xs) {ini : Bool} (hini : ini = true → meth.name = "<init>") {a b d : Int} {t : List (Int × Int)} (hd : decode cc pc = .ok (insOf (36, a, b, d, t) pc)) (hi : irOk own ini (36, a, b, d, t) = true) (hw : ∀ w ∈ wrd own (36, a, b, d, t), w.before args s0 = true) (he : ex1 (36, a, b, d, t) (lo, st, s, true) = (lo', st', s', true))
    (hs : okS XL0 (XD0 xs) s) (hH : Hok G cA A adr s s0.heap H locs) (hl : Lok adr s.2.1 nL lo ls) (hst : Sok s.2.1 st)
    (K : ∀ H' locs' ls', okS XL0 (XD0 xs) s' → Hok G cA A adr s' s0.heap H' locs' → Lok adr s'.2.1 nL lo' ls' → Sok s'.2.1 st' → W p l e R s0 m args below meth c H' locs' cells slots Q (F0 m (pc + (insOf (36, a, b, d, t) pc).2) ls' (st'.map (cV adr)))) :
    W p l e R s0 m args below meth c H locs cells slots Q (F0 m pc ls (st.map (cV adr))) := by
  obtain ⟨x, y, r, rfl, rfl, rfl, rfl⟩ := bin1_inv he
  have k := K H locs ls hs hH hl (Sok.cons (okV.ml (w64_in _)) hst.tl.tl)
  have e9 : cV adr (1, w64 (x + y)) = .long (Int64.ofInt x + Int64.ofInt y) := by show Value.long (Int64.ofInt (w64 _)) = _; rw [o64_w, Int64.ofInt_add]
  rw [List.map_cons, e9] at k
  exact lv_ladd C.1 C.2.1 hd k

theorem st_37 (C : Cx p s0 m args c cc own G cA A adr xs) {ini : Bool} (hini : ini = true → meth.name = "<init>") {a b d : Int} {t : List (Int × Int)} (hd : decode cc pc = .ok (insOf (37, a, b, d, t) pc)) (hi : irOk own ini (37, a, b, d, t) = true) (hw : ∀ w ∈ wrd own (37, a, b, d, t), w.before args s0 = true) (he : ex1 (37, a, b, d, t) (lo, st, s, true) = (lo', st', s', true))
    (hs : okS XL0 (XD0 xs) s) (hH : Hok G cA A adr s s0.heap H locs) (hl : Lok adr s.2.1 nL lo ls) (hst : Sok s.2.1 st)
    (K : ∀ H' locs' ls', okS XL0 (XD0 xs) s' → Hok G cA A adr s' s0.heap H' locs' → Lok adr s'.2.1 nL lo' ls' → Sok s'.2.1 st' → W p l e R s0 m args below meth c H' locs' cells slots Q (F0 m (pc + (insOf (37, a, b, d, t) pc).2) ls' (st'.map (cV adr)))) :
    W p l e R s0 m args below meth c H locs cells slots Q (F0 m pc ls (st.map (cV adr))) := by
  obtain ⟨x, y, r, rfl, rfl, rfl, rfl⟩ := bin1_inv he
  have k := K H locs ls hs hH hl (Sok.cons (okV.ml (w64_in _)) hst.tl.tl)
  have e9 : cV adr (1, w64 (x - y)) = .long (Int64.ofInt x - Int64.ofInt y) := by show Value.long (Int64.ofInt (w64 _)) = _; rw [o64_w, Int64.ofInt_sub]
  rw [List.map_cons, e9] at k
  exact lv_lsub C.1 C.2.1 hd k

theorem st_38 (C : Cx p s0 m args c cc own G cA A adr xs) {ini : Bool} (hini : ini = true → meth.name = "<init>") {a b d : Int} {t : List (Int × Int)} (hd : decode cc pc = .ok (insOf (38, a, b, d, t) pc)) (hi : irOk own ini (38, a, b, d, t) = true) (hw : ∀ w ∈ wrd own (38, a, b, d, t), w.before args s0 = true) (he : ex1 (38, a, b, d, t) (lo, st, s, true) = (lo', st', s', true))
    (hs : okS XL0 (XD0 xs) s) (hH : Hok G cA A adr s s0.heap H locs) (hl : Lok adr s.2.1 nL lo ls) (hst : Sok s.2.1 st)
    (K : ∀ H' locs' ls', okS XL0 (XD0 xs) s' → Hok G cA A adr s' s0.heap H' locs' → Lok adr s'.2.1 nL lo' ls' → Sok s'.2.1 st' → W p l e R s0 m args below meth c H' locs' cells slots Q (F0 m (pc + (insOf (38, a, b, d, t) pc).2) ls' (st'.map (cV adr)))) :
    W p l e R s0 m args below meth c H locs cells slots Q (F0 m pc ls (st.map (cV adr))) := by
  obtain ⟨x, y, r, rfl, rfl, rfl, rfl⟩ := bin1_inv he
  have k := K H locs ls hs hH hl (Sok.cons (okV.ml (w64_in _)) hst.tl.tl)
  have e9 : cV adr (1, w64 (x * y)) = .long (Int64.ofInt x * Int64.ofInt y) := by show Value.long (Int64.ofInt (w64 _)) = _; rw [o64_w, Int64.ofInt_mul]
  rw [List.map_cons, e9] at k
  exact lv_lmul C.1 C.2.1 hd k

theorem st_39 (C : Cx p s0 m args c cc own G cA A adr xs) {ini : Bool} (hini : ini = true → meth.name = "<init>") {a b d : Int} {t : List (Int × Int)} (hd : decode cc pc = .ok (insOf (39, a, b, d, t) pc)) (hi : irOk own ini (39, a, b, d, t) = true) (hw : ∀ w ∈ wrd own (39, a, b, d, t), w.before args s0 = true) (he : ex1 (39, a, b, d, t) (lo, st, s, true) = (lo', st', s', true))
    (hs : okS XL0 (XD0 xs) s) (hH : Hok G cA A adr s s0.heap H locs) (hl : Lok adr s.2.1 nL lo ls) (hst : Sok s.2.1 st)
    (K : ∀ H' locs' ls', okS XL0 (XD0 xs) s' → Hok G cA A adr s' s0.heap H' locs' → Lok adr s'.2.1 nL lo' ls' → Sok s'.2.1 st' → W p l e R s0 m args below meth c H' locs' cells slots Q (F0 m (pc + (insOf (39, a, b, d, t) pc).2) ls' (st'.map (cV adr)))) :
    W p l e R s0 m args below meth c H locs cells slots Q (F0 m pc ls (st.map (cV adr))) := by
  obtain ⟨x, y, r, rfl, rfl, rfl, rfl⟩ := bin1_inv he
  by_cases h1 : a = 1
  · simp only [insOf, if_pos h1] at hd K ⊢
    have k := K H locs ls hs hH hl (Sok.cons (okV.ml (toInt_in64 _)) hst.tl.tl)
    rw [List.map_cons, show cV adr (1, l_xor x y) = Value.long _ from congrArg Value.long (Int64.ofInt_toInt _)] at k
    exact lv_lxor C.1 C.2.1 hd k
  · simp only [insOf, if_neg h1] at hd K ⊢
    have k := K H locs ls hs hH hl (Sok.cons (okV.ml (toInt_in64 _)) hst.tl.tl)
    rw [List.map_cons, show cV adr (1, l_and x y) = Value.long _ from congrArg Value.long (Int64.ofInt_toInt _)] at k
    exact lv_land C.1 C.2.1 hd k

theorem st_40 (C : Cx p s0 m args c cc own G cA A adr xs) {ini : Bool} (hini : ini = true → meth.name = "<init>") {a b d : Int} {t : List (Int × Int)} (hd : decode cc pc = .ok (insOf (40, a, b, d, t) pc)) (hi : irOk own ini (40, a, b, d, t) = true) (hw : ∀ w ∈ wrd own (40, a, b, d, t), w.before args s0 = true) (he : ex1 (40, a, b, d, t) (lo, st, s, true) = (lo', st', s', true))
    (hs : okS XL0 (XD0 xs) s) (hH : Hok G cA A adr s s0.heap H locs) (hl : Lok adr s.2.1 nL lo ls) (hst : Sok s.2.1 st)
    (K : ∀ H' locs' ls', okS XL0 (XD0 xs) s' → Hok G cA A adr s' s0.heap H' locs' → Lok adr s'.2.1 nL lo' ls' → Sok s'.2.1 st' → W p l e R s0 m args below meth c H' locs' cells slots Q (F0 m (pc + (insOf (40, a, b, d, t) pc).2) ls' (st'.map (cV adr)))) :
    W p l e R s0 m args below meth c H locs cells slots Q (F0 m pc ls (st.map (cV adr))) := by
  obtain ⟨x, y, r, rfl, rfl, rfl, rfl, h0⟩ := div1_inv he
  have hy := hst.hd.l
  have hx := hst.tl.hd.l
  have k := K H locs ls hs hH hl (Sok.cons (okV.ml (w64_in _)) hst.tl.tl)
  rw [List.map_cons, show cV adr (1, l_div x y) = Value.long (Int64.ofInt x / Int64.ofInt y) from congrArg Value.long (o64_div hx hy).symm] at k
  exact lv_ldiv C.1 C.2.1 hd (fun q => h0 ((o64_eq0 hy).mp q)) k

theorem st_41 (C : Cx p s0 m args c cc own G cA A adr xs) {ini : Bool} (hini : ini = true → meth.name = "<init>") {a b d : Int} {t : List (Int × Int)} (hd : decode cc pc = .ok (insOf (41, a, b, d, t) pc)) (hi : irOk own ini (41, a, b, d, t) = true) (hw : ∀ w ∈ wrd own (41, a, b, d, t), w.before args s0 = true) (he : ex1 (41, a, b, d, t) (lo, st, s, true) = (lo', st', s', true))
    (hs : okS XL0 (XD0 xs) s) (hH : Hok G cA A adr s s0.heap H locs) (hl : Lok adr s.2.1 nL lo ls) (hst : Sok s.2.1 st)
    (K : ∀ H' locs' ls', okS XL0 (XD0 xs) s' → Hok G cA A adr s' s0.heap H' locs' → Lok adr s'.2.1 nL lo' ls' → Sok s'.2.1 st' → W p l e R s0 m args below meth c H' locs' cells slots Q (F0 m (pc + (insOf (41, a, b, d, t) pc).2) ls' (st'.map (cV adr)))) :
    W p l e R s0 m args below meth c H locs cells slots Q (F0 m pc ls (st.map (cV adr))) := by
  obtain ⟨x, y, r, rfl, rfl, rfl, rfl, h0⟩ := div1_inv he
  have hy := hst.hd.l
  have hx := hst.tl.hd.l
  have k := K H locs ls hs hH hl (Sok.cons (okV.ml (tmod_in64 hx hy h0)) hst.tl.tl)
  rw [List.map_cons, show cV adr (1, l_rem x y) = Value.long _ from congrArg Value.long (o64_rem hx hy h0).symm] at k
  exact lv_lrem C.1 C.2.1 hd (fun q => h0 ((o64_eq0 hy).mp q)) k

theorem st_42 (C : Cx p s0 m args c cc own G cA A adr xs) {ini : Bool} (hini : ini = true → meth.name = "<init>") {a b d : Int} {t : List (Int × Int)} (hd : decode cc pc = .ok (insOf (42, a, b, d, t) pc)) (hi : irOk own ini (42, a, b, d, t) = true) (hw : ∀ w ∈ wrd own (42, a, b, d, t), w.before args s0 = true) (he : ex1 (42, a, b, d, t) (lo, st, s, true) = (lo', st', s', true))
    (hs : okS XL0 (XD0 xs) s) (hH : Hok G cA A adr s s0.heap H locs) (hl : Lok adr s.2.1 nL lo ls) (hst : Sok s.2.1 st)
    (K : ∀ H' locs' ls', okS XL0 (XD0 xs) s' → Hok G cA A adr s' s0.heap H' locs' → Lok adr s'.2.1 nL lo' ls' → Sok s'.2.1 st' → W p l e R s0 m args below meth c H' locs' cells slots Q (F0 m (pc + (insOf (42, a, b, d, t) pc).2) ls' (st'.map (cV adr)))) :
    W p l e R s0 m args below meth c H locs cells slots Q (F0 m pc ls (st.map (cV adr))) := by
  obtain ⟨x, y, r, rfl, rfl, rfl, rfl⟩ := cmp1_inv he
  have k := K H locs ls hs hH hl (Sok.cons (okV.mi (l_cmp_in x y)) hst.tl.tl)
  rw [List.map_cons, show cV adr (0, l_cmp x y) = Value.int _ from congrArg Value.int (o64_cmp hst.tl.hd.l hst.hd.l).symm] at k
  exact W.lcmp C.1 C.2.1 hd k

theorem st_43 (C : Cx p s0 m args c cc own G cA A adr xs) {ini : Bool} (hini : ini = true → meth.name = "<init>") {a b d : Int} {t : List (Int × Int)} (hd : decode cc pc = .ok (insOf (43, a, b, d, t) pc)) (hi : irOk own ini (43, a, b, d, t) = true) (hw : ∀ w ∈ wrd own (43, a, b, d, t), w.before args s0 = true) (he : ex1 (43, a, b, d, t) (lo, st, s, true) = (lo', st', s', true))
    (hs : okS XL0 (XD0 xs) s) (hH : Hok G cA A adr s s0.heap H locs) (hl : Lok adr s.2.1 nL lo ls) (hst : Sok s.2.1 st)
    (K : ∀ H' locs' ls', okS XL0 (XD0 xs) s' → Hok G cA A adr s' s0.heap H' locs' → Lok adr s'.2.1 nL lo' ls' → Sok s'.2.1 st' → W p l e R s0 m args below meth c H' locs' cells slots Q (F0 m (pc + (insOf (43, a, b, d, t) pc).2) ls' (st'.map (cV adr)))) :
    W p l e R s0 m args below meth c H locs cells slots Q (F0 m pc ls (st.map (cV adr))) := by
  obtain ⟨x, r, rfl, rfl, rfl, rfl⟩ := i2l_inv he
  exact lv_i2l C.1 C.2.1 hd (o_i2l hst.hd.i) (K H locs ls hs hH hl (Sok.cons (okV.ml (in32_64 hst.hd.i)) hst.tl))

theorem st_44 (C : Cx p s0 m args c cc own G cA A adr xs) {ini : Bool} (hini : ini = true → meth.name = "<init>") {a b d : Int} {t : List (Int × Int)} (hd : decode cc pc = .ok (insOf (44, a, b, d, t) pc)) (hi : irOk own ini (44, a, b, d, t) = true) (hw : ∀ w ∈ wrd own (44, a, b, d, t), w.before args s0 = true) (he : ex1 (44, a, b, d, t) (lo, st, s, true) = (lo', st', s', true))
    (hs : okS XL0 (XD0 xs) s) (hH : Hok G cA A adr s s0.heap H locs) (hl : Lok adr s.2.1 nL lo ls) (hst : Sok s.2.1 st)
    (K : ∀ H' locs' ls', okS XL0 (XD0 xs) s' → Hok G cA A adr s' s0.heap H' locs' → Lok adr s'.2.1 nL lo' ls' → Sok s'.2.1 st' → W p l e R s0 m args below meth c H' locs' cells slots Q (F0 m (pc + (insOf (44, a, b, d, t) pc).2) ls' (st'.map (cV adr)))) :
    W p l e R s0 m args below meth c H locs cells slots Q (F0 m pc ls (st.map (cV adr))) := by
  obtain ⟨x, r, rfl, rfl, rfl, rfl⟩ := l2i_inv he
  exact lv_l2i C.1 C.2.1 hd (o_l2i x) (K H locs ls hs hH hl (Sok.cons (okV.mi (w32_in _)) hst.tl))

theorem st_45 (C : Cx p s0 m args c cc own G cA A adr xs) {ini : Bool} (hini : ini = true → meth.name = "<init>") {a b d : Int} {t : List (Int × Int)} (hd : decode cc pc = .ok (insOf (45, a, b, d, t) pc)) (hi : irOk own ini (45, a, b, d, t) = true) (hw : ∀ w ∈ wrd own (45, a, b, d, t), w.before args s0 = true) (he : ex1 (45, a, b, d, t) (lo, st, s, true) = (lo', st', s', true))
    (hs : okS XL0 (XD0 xs) s) (hH : Hok G cA A adr s s0.heap H locs) (hl : Lok adr s.2.1 nL lo ls) (hst : Sok s.2.1 st)
    (K : ∀ H' locs' ls', okS XL0 (XD0 xs) s' → Hok G cA A adr s' s0.heap H' locs' → Lok adr s'.2.1 nL lo' ls' → Sok s'.2.1 st' → W p l e R s0 m args below meth c H' locs' cells slots Q (F0 m (pc + (insOf (45, a, b, d, t) pc).2) ls' (st'.map (cV adr)))) :
    W p l e R s0 m args below meth c H locs cells slots Q (F0 m pc ls (st.map (cV adr))) := by
  obtain ⟨i, q, r, rfl, rfl, rfl, rfl, hk, hb⟩ := ald_inv he
  have hk : kd s' q = 100 ∨ kd s' q = 200 ∨ kd s' q = 205 := by simpa using hk
  have ho := hs.2.1 q i
  exact sn_ald0 C hs hH hk hst.hd.i hb hd (K H locs ls hs hH hl (Sok.cons (by rcases hk with h | h | h <;> rw [h] at ho <;> exact ho) hst.tl.tl))

theorem st_46 (C : Cx p s0 m args c cc own G cA A adr xs) {ini : Bool} (hini : ini = true → meth.name = "<init>") {a b d : Int} {t : List (Int × Int)} (hd : decode cc pc = .ok (insOf (46, a, b, d, t) pc)) (hi : irOk own ini (46, a, b, d, t) = true) (hw : ∀ w ∈ wrd own (46, a, b, d, t), w.before args s0 = true) (he : ex1 (46, a, b, d, t) (lo, st, s, true) = (lo', st', s', true))
    (hs : okS XL0 (XD0 xs) s) (hH : Hok G cA A adr s s0.heap H locs) (hl : Lok adr s.2.1 nL lo ls) (hst : Sok s.2.1 st)
    (K : ∀ H' locs' ls', okS XL0 (XD0 xs) s' → Hok G cA A adr s' s0.heap H' locs' → Lok adr s'.2.1 nL lo' ls' → Sok s'.2.1 st' → W p l e R s0 m args below meth c H' locs' cells slots Q (F0 m (pc + (insOf (46, a, b, d, t) pc).2) ls' (st'.map (cV adr)))) :
    W p l e R s0 m args below meth c H locs cells slots Q (F0 m pc ls (st.map (cV adr))) := by
  obtain ⟨i, q, r, rfl, rfl, rfl, rfl, hk, hb⟩ := ald_inv he
  have hk : kd s' q = 101 := by simpa using hk
  have ho := hs.2.1 q i
  exact sn_ald1 C hs hH hk hst.hd.i hb hd (K H locs ls hs hH hl (Sok.cons (by rw [hk] at ho; exact ho) hst.tl.tl))

theorem st_47 (C : Cx p s0 m args c cc own G cA A adr xs) {ini : Bool} (hini : ini = true → meth.name = "<init>") {a b d : Int} {t : List (Int × Int)} (hd : decode cc pc = .ok (insOf (47, a, b, d, t) pc)) (hi : irOk own ini (47, a, b, d, t) = true) (hw : ∀ w ∈ wrd own (47, a, b, d, t), w.before args s0 = true) (he : ex1 (47, a, b, d, t) (lo, st, s, true) = (lo', st', s', true))
    (hs : okS XL0 (XD0 xs) s) (hH : Hok G cA A adr s s0.heap H locs) (hl : Lok adr s.2.1 nL lo ls) (hst : Sok s.2.1 st)
    (K : ∀ H' locs' ls', okS XL0 (XD0 xs) s' → Hok G cA A adr s' s0.heap H' locs' → Lok adr s'.2.1 nL lo' ls' → Sok s'.2.1 st' → W p l e R s0 m args below meth c H' locs' cells slots Q (F0 m (pc + (insOf (47, a, b, d, t) pc).2) ls' (st'.map (cV adr)))) :
    W p l e R s0 m args below meth c H locs cells slots Q (F0 m pc ls (st.map (cV adr))) := by
  obtain ⟨i, q, r, rfl, rfl, rfl, rfl, hk, hb⟩ := ald_inv he
  have hk : kd s' q = 102 := by simpa using hk
  have ho := hs.2.1 q i
  exact sn_aldZ C hs hH hk hst.hd.i hb hd (K H locs ls hs hH hl (Sok.cons (by rw [hk] at ho; exact ho) hst.tl.tl))

theorem st_48 (C : Cx p s0 m args c cc own G cA A adr xs) {ini : Bool} (hini : ini = true → meth.name = "<init>") {a b d : Int} {t : List (Int × Int)} (hd : decode cc pc = .ok (insOf (48, a, b, d, t) pc)) (hi : irOk own ini (48, a, b, d, t) = true) (hw : ∀ w ∈ wrd own (48, a, b, d, t), w.before args s0 = true) (he : ex1 (48, a, b, d, t) (lo, st, s, true) = (lo', st', s', true))
    (hs : okS XL0 (XD0 xs) s) (hH : Hok G cA A adr s s0.heap H locs) (hl : Lok adr s.2.1 nL lo ls) (hst : Sok s.2.1 st)
    (K : ∀ H' locs' ls', okS XL0 (XD0 xs) s' → Hok G cA A adr s' s0.heap H' locs' → Lok adr s'.2.1 nL lo' ls' → Sok s'.2.1 st' → W p l e R s0 m args below meth c H' locs' cells slots Q (F0 m (pc + (insOf (48, a, b, d, t) pc).2) ls' (st'.map (cV adr)))) :
    W p l e R s0 m args below meth c H locs cells slots Q (F0 m pc ls (st.map (cV adr))) := by
  obtain ⟨i, q, r, rfl, rfl, rfl, rfl, hk, hb⟩ := ald_inv he
  have hk : kd s' q = 103 ∨ kd s' q = 104 ∨ kd s' q = 204 := by simpa using hk
  have ho := hs.2.1 q i
  exact sn_ald2 C hs hH hk hst.hd.i hb hd (K H locs ls hs hH hl (Sok.cons (by rcases hk with h | h | h <;> rw [h] at ho <;> exact ho) hst.tl.tl))

theorem st_49 (C : Cx p s0 m args c cc own G cA A adr xs) {ini : Bool} (hini : ini = true → meth.name = "<init>") {a b d : Int} {t : List (Int × Int)} (hd : decode cc pc = .ok (insOf (49, a, b, d, t) pc)) (hi : irOk own ini (49, a, b, d, t) = true) (hw : ∀ w ∈ wrd own (49, a, b, d, t), w.before args s0 = true) (he : ex1 (49, a, b, d, t) (lo, st, s, true) = (lo', st', s', true))
    (hs : okS XL0 (XD0 xs) s) (hH : Hok G cA A adr s s0.heap H locs) (hl : Lok adr s.2.1 nL lo ls) (hst : Sok s.2.1 st)
    (K : ∀ H' locs' ls', okS XL0 (XD0 xs) s' → Hok G cA A adr s' s0.heap H' locs' → Lok adr s'.2.1 nL lo' ls' → Sok s'.2.1 st' → W p l e R s0 m args below meth c H' locs' cells slots Q (F0 m (pc + (insOf (49, a, b, d, t) pc).2) ls' (st'.map (cV adr)))) :
    W p l e R s0 m args below meth c H locs cells slots Q (F0 m pc ls (st.map (cV adr))) := by
  obtain ⟨q, r, rfl, rfl, rfl, rfl, h1, h2, h3⟩ := alen_inv he
  exact sn_alen C hs hH h1 h2 h3 hd (fun h4 => K H locs ls hs hH hl (Sok.cons (okV.mi h4) hst.tl))

theorem st_50 (C : Cx p s0 m args c cc own G cA A adr xs) {ini : Bool} (hini : ini = true → meth.name = "<init>") {a b d : Int} {t : List (Int × Int)} (hd : decode cc pc = .ok (insOf (50, a, b, d, t) pc)) (hi : irOk own ini (50, a, b, d, t) = true) (hw : ∀ w ∈ wrd own (50, a, b, d, t), w.before args s0 = true) (he : ex1 (50, a, b, d, t) (lo, st, s, true) = (lo', st', s', true))
    (hs : okS XL0 (XD0 xs) s) (hH : Hok G cA A adr s s0.heap H locs) (hl : Lok adr s.2.1 nL lo ls) (hst : Sok s.2.1 st)
    (K : ∀ H' locs' ls', okS XL0 (XD0 xs) s' → Hok G cA A adr s' s0.heap H' locs' → Lok adr s'.2.1 nL lo' ls' → Sok s'.2.1 st' → W p l e R s0 m args below meth c H' locs' cells slots Q (F0 m (pc + (insOf (50, a, b, d, t) pc).2) ls' (st'.map (cV adr)))) :
    W p l e R s0 m args below meth c H locs cells slots Q (F0 m pc ls (st.map (cV adr))) := by
  obtain ⟨v, i, q, rfl, rfl, rfl, hk, hb, hg⟩ := ast_inv he
  have hk : kd s q = 100 := by simpa using hk
  exact sn_ast0 C hs hH hk hst.tl.hd.i hst.hd.i hb hd (fun H' locs' hH' hs' => K H' locs' ls hs' hH' hl hst.tl.tl.tl)

theorem st_51 (C : Cx p s0 m args c cc own G cA A adr xs) {ini : Bool} (hini : ini = true → meth.name = "<init>") {a b d : Int} {t : List (Int × Int)} (hd : decode cc pc = .ok (insOf (51, a, b, d, t) pc)) (hi : irOk own ini (51, a, b, d, t) = true) (hw : ∀ w ∈ wrd own (51, a, b, d, t), w.before args s0 = true) (he : ex1 (51, a, b, d, t) (lo, st, s, true) = (lo', st', s', true))
    (hs : okS XL0 (XD0 xs) s) (hH : Hok G cA A adr s s0.heap H locs) (hl : Lok adr s.2.1 nL lo ls) (hst : Sok s.2.1 st)
    (K : ∀ H' locs' ls', okS XL0 (XD0 xs) s' → Hok G cA A adr s' s0.heap H' locs' → Lok adr s'.2.1 nL lo' ls' → Sok s'.2.1 st' → W p l e R s0 m args below meth c H' locs' cells slots Q (F0 m (pc + (insOf (51, a, b, d, t) pc).2) ls' (st'.map (cV adr)))) :
    W p l e R s0 m args below meth c H locs cells slots Q (F0 m pc ls (st.map (cV adr))) := by
  obtain ⟨v, i, q, rfl, rfl, rfl, hk, hb, hg⟩ := ast_inv he
  have hk : kd s q = 101 := by simpa using hk
  exact sn_ast1 C hs hH hk hst.tl.hd.i hst.hd.l hb hd (fun H' locs' hH' hs' => K H' locs' ls hs' hH' hl hst.tl.tl.tl)

theorem st_52 (C : Cx p s0 m args c cc own G cA A adr xs) {ini : Bool} (hini : ini = true → meth.name = "<init>") {a b d : Int} {t : List (Int × Int)} (hd : decode cc pc = .ok (insOf (52, a, b, d, t) pc)) (hi : irOk own ini (52, a, b, d, t) = true) (hw : ∀ w ∈ wrd own (52, a, b, d, t), w.before args s0 = true) (he : ex1 (52, a, b, d, t) (lo, st, s, true) = (lo', st', s', true))
    (hs : okS XL0 (XD0 xs) s) (hH : Hok G cA A adr s s0.heap H locs) (hl : Lok adr s.2.1 nL lo ls) (hst : Sok s.2.1 st)
    (K : ∀ H' locs' ls', okS XL0 (XD0 xs) s' → Hok G cA A adr s' s0.heap H' locs' → Lok adr s'.2.1 nL lo' ls' → Sok s'.2.1 st' → W p l e R s0 m args below meth c H' locs' cells slots Q (F0 m (pc + (insOf (52, a, b, d, t) pc).2) ls' (st'.map (cV adr)))) :
    W p l e R s0 m args below meth c H locs cells slots Q (F0 m pc ls (st.map (cV adr))) := by
  obtain ⟨v, i, q, rfl, rfl, rfl, hk, hb, hg⟩ := ast_inv he
  have hk : kd s q = 102 := by simpa using hk
  exact sn_astZ C hs hH hk hst.tl.hd.i hg hb hd (fun H' locs' hH' hs' => K H' locs' ls hs' hH' hl hst.tl.tl.tl)

theorem st_53 (C : Cx p s0 m args c cc own G cA A adr xs) {ini : Bool} (hini : ini = true → meth.name = "<init>") {a b d : Int} {t : List (Int × Int)} (hd : decode cc pc = .ok (insOf (53, a, b, d, t) pc)) (hi : irOk own ini (53, a, b, d, t) = true) (hw : ∀ w ∈ wrd own (53, a, b, d, t), w.before args s0 = true) (he : ex1 (53, a, b, d, t) (lo, st, s, true) = (lo', st', s', true))
    (hs : okS XL0 (XD0 xs) s) (hH : Hok G cA A adr s s0.heap H locs) (hl : Lok adr s.2.1 nL lo ls) (hst : Sok s.2.1 st)
    (K : ∀ H' locs' ls', okS XL0 (XD0 xs) s' → Hok G cA A adr s' s0.heap H' locs' → Lok adr s'.2.1 nL lo' ls' → Sok s'.2.1 st' → W p l e R s0 m args below meth c H' locs' cells slots Q (F0 m (pc + (insOf (53, a, b, d, t) pc).2) ls' (st'.map (cV adr)))) :
    W p l e R s0 m args below meth c H locs cells slots Q (F0 m pc ls (st.map (cV adr))) := by
  obtain ⟨v, i, q, rfl, rfl, rfl, hk, hb, hg⟩ := ast_inv he
  have hk : kd s q = 103 ∨ kd s q = 104 := by simpa using hk
  exact sn_ast2 C hs hH hk hst.tl.hd.i hst.hd (by simpa [or_assoc] using hg) hb hd (fun H' locs' hH' hs' => K H' locs' ls hs' hH' hl hst.tl.tl.tl)

theorem st_54 (C : Cx p s0 m args c cc own G cA A adr xs) {ini : Bool} (hini : ini = true → meth.name = "<init>") {a b d : Int} {t : List (Int × Int)} (hd : decode cc pc = .ok (insOf (54, a, b, d, t) pc)) (hi : irOk own ini (54, a, b, d, t) = true) (hw : ∀ w ∈ wrd own (54, a, b, d, t), w.before args s0 = true) (he : ex1 (54, a, b, d, t) (lo, st, s, true) = (lo', st', s', true))
    (hs : okS XL0 (XD0 xs) s) (hH : Hok G cA A adr s s0.heap H locs) (hl : Lok adr s.2.1 nL lo ls) (hst : Sok s.2.1 st)
    (K : ∀ H' locs' ls', okS XL0 (XD0 xs) s' → Hok G cA A adr s' s0.heap H' locs' → Lok adr s'.2.1 nL lo' ls' → Sok s'.2.1 st' → W p l e R s0 m args below meth c H' locs' cells slots Q (F0 m (pc + (insOf (54, a, b, d, t) pc).2) ls' (st'.map (cV adr)))) :
    W p l e R s0 m args below meth c H locs cells slots Q (F0 m pc ls (st.map (cV adr))) := by
  simp only [irOk, Bool.and_eq_true, decide_eq_true_eq] at hi
  obtain ⟨q, r, rfl, rfl, rfl, rfl, hk⟩ := gfld_inv he
  have ho := hs.2.1 q b
  rw [hk] at ho
  unfold tgk at ho
  rw [if_pos (by omega)] at ho
  exact sn_get C hs hH hk hi.1 hi.2.1 hi.2.2.1 hi.2.2.2 (hw _ List.mem_cons_self) hd (K H locs ls hs hH hl (Sok.cons ho hst.tl))

theorem st_55 (C : Cx p s0 m args c cc own G cA A adr xs) {ini : Bool} (hini : ini = true → meth.name = "<init>") {a b d : Int} {t : List (Int × Int)} (hd : decode cc pc = .ok (insOf (55, a, b, d, t) pc)) (hi : irOk own ini (55, a, b, d, t) = true) (hw : ∀ w ∈ wrd own (55, a, b, d, t), w.before args s0 = true) (he : ex1 (55, a, b, d, t) (lo, st, s, true) = (lo', st', s', true))
    (hs : okS XL0 (XD0 xs) s) (hH : Hok G cA A adr s s0.heap H locs) (hl : Lok adr s.2.1 nL lo ls) (hst : Sok s.2.1 st)
    (K : ∀ H' locs' ls', okS XL0 (XD0 xs) s' → Hok G cA A adr s' s0.heap H' locs' → Lok adr s'.2.1 nL lo' ls' → Sok s'.2.1 st' → W p l e R s0 m args below meth c H' locs' cells slots Q (F0 m (pc + (insOf (55, a, b, d, t) pc).2) ls' (st'.map (cV adr)))) :
    W p l e R s0 m args below meth c H locs cells slots Q (F0 m pc ls (st.map (cV adr))) := by
  simp only [irOk, Bool.and_eq_true, decide_eq_true_eq, Bool.not_eq_true'] at hi
  obtain ⟨v, q, rfl, rfl, rfl, hk, hb⟩ := pfld_inv he
  exact sn_put C hs hH hk hi.1 hi.2.1 hi.2.2.1 hi.2.2.2.1 hb hi.2.2.2.2 hst.hd (hw _ List.mem_cons_self) hd (fun H' locs' hH' hs' => K H' locs' ls hs' hH' hl hst.tl.tl)

theorem st_56 (C : Cx p s0 m args c cc own G cA A adr xs) {ini : Bool} (hini : ini = true → meth.name = "<init>") {a b d : Int} {t : List (Int × Int)} (hd : decode cc pc = .ok (insOf (56, a, b, d, t) pc)) (hi : irOk own ini (56, a, b, d, t) = true) (hw : ∀ w ∈ wrd own (56, a, b, d, t), w.before args s0 = true) (he : ex1 (56, a, b, d, t) (lo, st, s, true) = (lo', st', s', true))
    (hs : okS XL0 (XD0 xs) s) (hH : Hok G cA A adr s s0.heap H locs) (hl : Lok adr s.2.1 nL lo ls) (hst : Sok s.2.1 st)
    (K : ∀ H' locs' ls', okS XL0 (XD0 xs) s' → Hok G cA A adr s' s0.heap H' locs' → Lok adr s'.2.1 nL lo' ls' → Sok s'.2.1 st' → W p l e R s0 m args below meth c H' locs' cells slots Q (F0 m (pc + (insOf (56, a, b, d, t) pc).2) ls' (st'.map (cV adr)))) :
    W p l e R s0 m args below meth c H locs cells slots Q (F0 m pc ls (st.map (cV adr))) := by
  simp only [irOk, Bool.and_eq_true, decide_eq_true_eq] at hi
  obtain ⟨v, q, rfl, rfl, rfl, hk, hb⟩ := pfld_inv he
  exact sn_putF C hs hH hk hi.1 hi.2.1 hi.2.2.1 hi.2.2.2.1 hb hi.2.2.2.2.1 (hini hi.2.2.2.2.2.1) hi.2.2.2.2.2.2 hst.hd (hw _ List.mem_cons_self) hd (fun H' locs' hH' hs' => K H' locs' ls hs' hH' hl hst.tl.tl)

theorem st_57 (C : Cx p s0 m args c cc own G cA A adr xs) {ini : Bool} (hini : ini = true → meth.name = "<init>") {a b d : Int} {t : List (Int × Int)} (hd : decode cc pc = .ok (insOf (57, a, b, d, t) pc)) (hi : irOk own ini (57, a, b, d, t) = true) (hw : ∀ w ∈ wrd own (57, a, b, d, t), w.before args s0 = true) (he : ex1 (57, a, b, d, t) (lo, st, s, true) = (lo', st', s', true))
    (hs : okS XL0 (XD0 xs) s) (hH : Hok G cA A adr s s0.heap H locs) (hl : Lok adr s.2.1 nL lo ls) (hst : Sok s.2.1 st)
    (K : ∀ H' locs' ls', okS XL0 (XD0 xs) s' → Hok G cA A adr s' s0.heap H' locs' → Lok adr s'.2.1 nL lo' ls' → Sok s'.2.1 st' → W p l e R s0 m args below meth c H' locs' cells slots Q (F0 m (pc + (insOf (57, a, b, d, t) pc).2) ls' (st'.map (cV adr)))) :
    W p l e R s0 m args below meth c H locs cells slots Q (F0 m pc ls (st.map (cV adr))) := by
  simp only [irOk, Bool.and_eq_true, Bool.or_eq_true, decide_eq_true_eq] at hi
  simp only [ex1, push, Prod.mk.injEq] at he
  obtain ⟨rfl, rfl, rfl, -⟩ := he
  have hok : okV s.2.1 (2, a) := by
    refine okV.mr (Or.inr ?_)
    rw [(hs.2.2.2.2.1 a (by omega)).1]
    rcases hi with rfl | rfl | hi
    · decide
    · decide
    · unfold XL0
      rw [if_neg (by omega), if_neg (by omega), if_neg (by omega), if_neg (by omega), if_pos hi]
      decide
  exact sn_gets C hH hi (hw _ List.mem_cons_self) hd (K H locs ls hs hH hl (Sok.cons hok hst))

theorem st_58 (C : Cx p s0 m args c cc own G cA A adr xs) {ini : Bool} (hini : ini = true → meth.name = "<init>") {a b d : Int} {t : List (Int × Int)} (hd : decode cc pc = .ok (insOf (58, a, b, d, t) pc)) (hi : irOk own ini (58, a, b, d, t) = true) (hw : ∀ w ∈ wrd own (58, a, b, d, t), w.before args s0 = true) (he : ex1 (58, a, b, d, t) (lo, st, s, true) = (lo', st', s', true))
    (hs : okS XL0 (XD0 xs) s) (hH : Hok G cA A adr s s0.heap H locs) (hl : Lok adr s.2.1 nL lo ls) (hst : Sok s.2.1 st)
    (K : ∀ H' locs' ls', okS XL0 (XD0 xs) s' → Hok G cA A adr s' s0.heap H' locs' → Lok adr s'.2.1 nL lo' ls' → Sok s'.2.1 st' → W p l e R s0 m args below meth c H' locs' cells slots Q (F0 m (pc + (insOf (58, a, b, d, t) pc).2) ls' (st'.map (cV adr)))) :
    W p l e R s0 m args below meth c H locs cells slots Q (F0 m pc ls (st.map (cV adr))) := by
  simp only [irOk, Bool.and_eq_true, decide_eq_true_eq] at hi
  obtain ⟨q, r, rfl, rfl, rfl, rfl, hk⟩ := cfld_inv he
  have ho := hs.2.1 q b
  rw [hk] at ho
  exact sn_cfld C hs hH hk hi.1 hi.2 (hw _ List.mem_cons_self) hd (K H locs ls hs hH hl (Sok.cons ho hst.tl))

theorem st_59 (C : Cx p s0 m args c cc own G cA A adr xs) {ini : Bool} (hini : ini = true → meth.name = "<init>") {a b d : Int} {t : List (Int × Int)} (hd : decode cc pc = .ok (insOf (59, a, b, d, t) pc)) (hi : irOk own ini (59, a, b, d, t) = true) (hw : ∀ w ∈ wrd own (59, a, b, d, t), w.before args s0 = true) (he : ex1 (59, a, b, d, t) (lo, st, s, true) = (lo', st', s', true))
    (hs : okS XL0 (XD0 xs) s) (hH : Hok G cA A adr s s0.heap H locs) (hl : Lok adr s.2.1 nL lo ls) (hst : Sok s.2.1 st)
    (K : ∀ H' locs' ls', okS XL0 (XD0 xs) s' → Hok G cA A adr s' s0.heap H' locs' → Lok adr s'.2.1 nL lo' ls' → Sok s'.2.1 st' → W p l e R s0 m args below meth c H' locs' cells slots Q (F0 m (pc + (insOf (59, a, b, d, t) pc).2) ls' (st'.map (cV adr)))) :
    W p l e R s0 m args below meth c H locs cells slots Q (F0 m pc ls (st.map (cV adr))) := by
  simp only [irOk, Bool.and_eq_true, decide_eq_true_eq] at hi
  obtain ⟨rfl, rfl, rfl⟩ := hi
  simp only [ex1, push, Prod.mk.injEq] at he
  obtain ⟨rfl, rfl, rfl, -⟩ := he
  have hok : okV s.2.1 (2, -60) := by
    refine okV.mr (Or.inr ?_)
    rw [(hs.2.2.2.2.1 (-60) (by omega)).1]
    decide
  have k := K H locs ls hs hH hl (Sok.cons hok hst)
  rw [List.map_cons, cV_ref (by decide)] at k
  exact va_ldcS C.1 C.2.1 C.2.2.1 C.2.2.2.2.2.2.2.2.2.2.2.2.1 hd k

theorem st_all (C : Cx p s0 m args c cc own G cA A adr xs) {ini : Bool} (hini : ini = true → meth.name = "<init>") {x : IR} (hlt : x.1 < 60) (hd : decode cc pc = .ok (insOf x pc)) (hi : irOk own ini x = true) (hw : ∀ w ∈ wrd own x, w.before args s0 = true) (he : ex1 x (lo, st, s, true) = (lo', st', s', true))
    (hs : okS XL0 (XD0 xs) s) (hH : Hok G cA A adr s s0.heap H locs) (hl : Lok adr s.2.1 nL lo ls) (hst : Sok s.2.1 st)
    (K : ∀ H' locs' ls', okS XL0 (XD0 xs) s' → Hok G cA A adr s' s0.heap H' locs' → Lok adr s'.2.1 nL lo' ls' → Sok s'.2.1 st' → W p l e R s0 m args below meth c H' locs' cells slots Q (F0 m (pc + (insOf x pc).2) ls' (st'.map (cV adr)))) :
    W p l e R s0 m args below meth c H locs cells slots Q (F0 m pc ls (st.map (cV adr))) := by
  obtain ⟨k, a, b, d, t⟩ := x
  match k, hlt with
  | 0, _ => exact st_0 C hini hd hi hw he hs hH hl hst K
  | 1, _ => exact st_1 C hini hd hi hw he hs hH hl hst K
  | 2, _ => exact st_2 C hini hd hi hw he hs hH hl hst K
  | 3, _ => exact st_3 C hini hd hi hw he hs hH hl hst K
  | 4, _ => exact st_4 C hini hd hi hw he hs hH hl hst K
  | 5, _ => exact st_5 C hini hd hi hw he hs hH hl hst K
  | 6, _ => exact st_6 C hini hd hi hw he hs hH hl hst K
  | 7, _ => exact st_7 C hini hd hi hw he hs hH hl hst K
  | 8, _ => exact st_8 C hini hd hi hw he hs hH hl hst K
  | 9, _ => exact st_9 C hini hd hi hw he hs hH hl hst K
  | 10, _ => exact st_10 C hini hd hi hw he hs hH hl hst K
  | 11, _ => exact st_11 C hini hd hi hw he hs hH hl hst K
  | 12, _ => exact st_12 C hini hd hi hw he hs hH hl hst K
  | 13, _ => exact st_13 C hini hd hi hw he hs hH hl hst K
  | 14, _ => exact st_14 C hini hd hi hw he hs hH hl hst K
  | 15, _ => exact st_15 C hini hd hi hw he hs hH hl hst K
  | 16, _ => exact st_16 C hini hd hi hw he hs hH hl hst K
  | 17, _ => exact st_17 C hini hd hi hw he hs hH hl hst K
  | 18, _ => exact st_18 C hini hd hi hw he hs hH hl hst K
  | 19, _ => exact st_19 C hini hd hi hw he hs hH hl hst K
  | 20, _ => exact st_20 C hini hd hi hw he hs hH hl hst K
  | 21, _ => exact st_21 C hini hd hi hw he hs hH hl hst K
  | 22, _ => exact st_22 C hini hd hi hw he hs hH hl hst K
  | 23, _ => exact st_23 C hini hd hi hw he hs hH hl hst K
  | 24, _ => exact st_24 C hini hd hi hw he hs hH hl hst K
  | 25, _ => exact st_25 C hini hd hi hw he hs hH hl hst K
  | 26, _ => exact st_26 C hini hd hi hw he hs hH hl hst K
  | 27, _ => exact st_27 C hini hd hi hw he hs hH hl hst K
  | 28, _ => exact st_28 C hini hd hi hw he hs hH hl hst K
  | 29, _ => exact st_29 C hini hd hi hw he hs hH hl hst K
  | 30, _ => exact st_30 C hini hd hi hw he hs hH hl hst K
  | 31, _ => exact st_31 C hini hd hi hw he hs hH hl hst K
  | 32, _ => exact st_32 C hini hd hi hw he hs hH hl hst K
  | 33, _ => exact st_33 C hini hd hi hw he hs hH hl hst K
  | 34, _ => exact st_34 C hini hd hi hw he hs hH hl hst K
  | 35, _ => exact st_35 C hini hd hi hw he hs hH hl hst K
  | 36, _ => exact st_36 C hini hd hi hw he hs hH hl hst K
  | 37, _ => exact st_37 C hini hd hi hw he hs hH hl hst K
  | 38, _ => exact st_38 C hini hd hi hw he hs hH hl hst K
  | 39, _ => exact st_39 C hini hd hi hw he hs hH hl hst K
  | 40, _ => exact st_40 C hini hd hi hw he hs hH hl hst K
  | 41, _ => exact st_41 C hini hd hi hw he hs hH hl hst K
  | 42, _ => exact st_42 C hini hd hi hw he hs hH hl hst K
  | 43, _ => exact st_43 C hini hd hi hw he hs hH hl hst K
  | 44, _ => exact st_44 C hini hd hi hw he hs hH hl hst K
  | 45, _ => exact st_45 C hini hd hi hw he hs hH hl hst K
  | 46, _ => exact st_46 C hini hd hi hw he hs hH hl hst K
  | 47, _ => exact st_47 C hini hd hi hw he hs hH hl hst K
  | 48, _ => exact st_48 C hini hd hi hw he hs hH hl hst K
  | 49, _ => exact st_49 C hini hd hi hw he hs hH hl hst K
  | 50, _ => exact st_50 C hini hd hi hw he hs hH hl hst K
  | 51, _ => exact st_51 C hini hd hi hw he hs hH hl hst K
  | 52, _ => exact st_52 C hini hd hi hw he hs hH hl hst K
  | 53, _ => exact st_53 C hini hd hi hw he hs hH hl hst K
  | 54, _ => exact st_54 C hini hd hi hw he hs hH hl hst K
  | 55, _ => exact st_55 C hini hd hi hw he hs hH hl hst K
  | 56, _ => exact st_56 C hini hd hi hw he hs hH hl hst K
  | 57, _ => exact st_57 C hini hd hi hw he hs hH hl hst K
  | 58, _ => exact st_58 C hini hd hi hw he hs hH hl hst K
  | 59, _ => exact st_59 C hini hd hi hw he hs hH hl hst K
  | n + 60, h => exact absurd h (by simp)
end STS
