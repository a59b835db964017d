/-! Branches, switches, new cells, one by one -/
section BRS
variable {p : Program} {l : Launch} {e : Env} {R : Room} {s0 : State} {m : MethodId} {args : Array Value} {below : List Frame} {meth : Method} {c : Code} {Q : State → Prop} {H : Heap} {locs : List Loc} {cells slots : Nat} {ls : Array Slot} {cc : ByteArray} {own : String} {pc nL : Nat}
variable {G : va_G} {cA : Nat → ClassId} {A : Nat → Prop} {adr : Int → Nat} {xs : Int → Int} {lo : Lcs} {st : List Vv} {s : Stt}
theorem tg_eq {off : Int} (h : tgOk pc off = true) : (pc : Int) + off = (((pc : Int) + off).toNat : Int) := by
  have : 0 ≤ (pc : Int) + off := by simpa [tgOk] using h
  omega
theorem acmp_iff (C : Cx p s0 m args c cc own G cA A adr xs) (hs : okS XL0 (XD0 xs) s) {v y : Int} (h1 : acOk s v = true) (h2 : acOk s y = true) : cR adr v = cR adr y ↔ v = y := by
  have key : ∀ z, acOk s z = true → z = 0 ∨ (-39 ≤ z ∧ z ≤ -2) := by
    intro z hz
    simp only [acOk, Bool.or_eq_true, decide_eq_true_eq] at hz
    refine hz.imp id (fun h => ?_)
    exact XL0_203 ((hs.ext (a := z) (by omega)).1.trans h)
  constructor
  · intro h
    have k1 := key v h1
    have k2 := key y h2
    unfold cR at h
    by_cases e1 : v = 0
    · by_cases e2 : y = 0
      · omega
      · rw [if_pos e1, if_neg e2] at h; cases h
    · by_cases e2 : y = 0
      · rw [if_neg e1, if_pos e2] at h; cases h
      · rw [if_neg e1, if_neg e2] at h
        have h := Option.some.inj h
        have hi := C.2.2.2.2.2.2.1.2 (-v - 2).toNat (-y - 2).toNat (by rw [kcs_len]; omega) (by rw [kcs_len]; omega)
        have ev : -(2 + (((-v - 2).toNat : Nat) : Int)) = v := by omega
        have ey : -(2 + (((-y - 2).toNat : Nat) : Int)) = y := by omega
        simp only [ev, ey] at hi
        have := hi h
        omega
  · intro h
    rw [h]
theorem lkup_off (l : List (Int × Int)) (x d : Int) : Op.lookupswitch.offset l d x = lkup l x d := by
  induction l with
  | nil => rfl
  | cons q l ih =>
    obtain ⟨k, t⟩ := q
    rw [Op.lookupswitch.offset_cons, ih]
    rfl
theorem o32_ge0 {x : Int} (hx : in32 x) : 0 ≤ Int32.ofInt x ↔ ¬ x < 0 := (o32_le in0_32 hx).trans Int.not_lt.symm
theorem o32_le0 {x : Int} (hx : in32 x) : Int32.ofInt x ≤ 0 ↔ ¬ 0 < x := (o32_le hx in0_32).trans Int.not_lt.symm
theorem o32_nlt {x y : Int} (hx : in32 x) (hy : in32 y) : Int32.ofInt y ≤ Int32.ofInt x ↔ ¬ x < y := (o32_le hy hx).trans Int.not_lt.symm
theorem brT_ {b : Bool} {a : Int} {pc' : Nat} {lo' : Lcs} {st' : List Vv} {s' : Stt} (hb : b = true) (h : br b pc a lo st s = some (.inl (pc', lo', st', s'))) : pc' = ((pc : Int) + a).toNat ∧ lo' = lo ∧ st' = st ∧ s' = s := by
  rw [hb] at h
  simp only [br, goN, if_true, Option.some.injEq, Sum.inl.injEq, Prod.mk.injEq] at h
  exact ⟨h.1.symm, h.2.1.symm, h.2.2.1.symm, h.2.2.2.symm⟩
theorem brF_ {b : Bool} {a : Int} {pc' : Nat} {lo' : Lcs} {st' : List Vv} {s' : Stt} (hb : b = false) (h : br b pc a lo st s = some (.inl (pc', lo', st', s'))) : pc' = pc + 3 ∧ lo' = lo ∧ st' = st ∧ s' = s := by
  rw [hb] at h
  simp only [br, goN, Bool.false_eq_true, if_false, Option.some.injEq, Sum.inl.injEq, Prod.mk.injEq] at h
  exact ⟨h.1.symm, h.2.1.symm, h.2.2.1.symm, h.2.2.2.symm⟩
theorem ct_60 (C : Cx p s0 m args c cc own G cA A adr xs) {cal : Nat → List Vv → Stt → Option (Vv × Stt)} {mi : Nat} {a b d : Int} {t : List (Int × Int)} (hd : decode cc pc = .ok (insOf (60, a, b, d, t) pc)) (hok : ctOk mi pc (60, a, b, d, t) = true) (hs : okS XL0 (XD0 xs) s) (hst : Sok s.2.1 st)
    {pc' : Nat} {lo' : Lcs} {st' : List Vv} {s' : Stt} (he : act cal mi (60, a, b, d, t) pc lo st s = some (.inl (pc', lo', st', s')))
    (K : s' = s → lo' = lo → Sok s.2.1 st' → W p l e R s0 m args below meth c H locs cells slots Q (F0 m pc' ls (st'.map (cV adr)))) :
    W p l e R s0 m args below meth c H locs cells slots Q (F0 m pc ls (st.map (cV adr))) := by
  match st, hst, he with
  | [], _, he => cases (show (none : Nxt) = some _ from he)
  | (n + 1, v) :: r, _, he => cases (show (none : Nxt) = some _ from he)
  | (0, v) :: r, hst, he =>
    have he : br (decide (v = 0)) pc a lo r s = some (.inl (pc', lo', st', s')) := he
    by_cases hv : v = 0
    · obtain ⟨rfl, rfl, rfl, rfl⟩ := brT_ (by simp [hv]) he
      exact lv_if_eq C.1 C.2.1 hd (tg_eq hok) (fun _ => K rfl rfl hst.tl) (fun q => absurd ((o32_eq0 hst.hd.i).mpr hv) q)
    · obtain ⟨rfl, rfl, rfl, rfl⟩ := brF_ (by simp [hv]) he
      exact lv_if_eq C.1 C.2.1 hd (tg_eq hok) (fun q => absurd ((o32_eq0 hst.hd.i).mp q) hv) (fun _ => K rfl rfl hst.tl)
theorem ct_61 (C : Cx p s0 m args c cc own G cA A adr xs) {cal : Nat → List Vv → Stt → Option (Vv × Stt)} {mi : Nat} {a b d : Int} {t : List (Int × Int)} (hd : decode cc pc = .ok (insOf (61, a, b, d, t) pc)) (hok : ctOk mi pc (61, a, b, d, t) = true) (hs : okS XL0 (XD0 xs) s) (hst : Sok s.2.1 st)
    {pc' : Nat} {lo' : Lcs} {st' : List Vv} {s' : Stt} (he : act cal mi (61, a, b, d, t) pc lo st s = some (.inl (pc', lo', st', s')))
    (K : s' = s → lo' = lo → Sok s.2.1 st' → W p l e R s0 m args below meth c H locs cells slots Q (F0 m pc' ls (st'.map (cV adr)))) :
    W p l e R s0 m args below meth c H locs cells slots Q (F0 m pc ls (st.map (cV adr))) := by
  match st, hst, he with
  | [], _, he => cases (show (none : Nxt) = some _ from he)
  | (n + 1, v) :: r, _, he => cases (show (none : Nxt) = some _ from he)
  | (0, v) :: r, hst, he =>
    have he : br (!decide (v = 0)) pc a lo r s = some (.inl (pc', lo', st', s')) := he
    by_cases hv : v = 0
    · obtain ⟨rfl, rfl, rfl, rfl⟩ := brF_ (by simp [hv]) he
      exact lv_if_ne C.1 C.2.1 hd (tg_eq hok) (fun q => absurd ((o32_eq0 hst.hd.i).mpr hv) q) (fun _ => K rfl rfl hst.tl)
    · obtain ⟨rfl, rfl, rfl, rfl⟩ := brT_ (by simp [hv]) he
      exact lv_if_ne C.1 C.2.1 hd (tg_eq hok) (fun _ => K rfl rfl hst.tl) (fun q => absurd ((o32_eq0 hst.hd.i).mp q) hv)
theorem ct_62 (C : Cx p s0 m args c cc own G cA A adr xs) {cal : Nat → List Vv → Stt → Option (Vv × Stt)} {mi : Nat} {a b d : Int} {t : List (Int × Int)} (hd : decode cc pc = .ok (insOf (62, a, b, d, t) pc)) (hok : ctOk mi pc (62, a, b, d, t) = true) (hs : okS XL0 (XD0 xs) s) (hst : Sok s.2.1 st)
    {pc' : Nat} {lo' : Lcs} {st' : List Vv} {s' : Stt} (he : act cal mi (62, a, b, d, t) pc lo st s = some (.inl (pc', lo', st', s')))
    (K : s' = s → lo' = lo → Sok s.2.1 st' → W p l e R s0 m args below meth c H locs cells slots Q (F0 m pc' ls (st'.map (cV adr)))) :
    W p l e R s0 m args below meth c H locs cells slots Q (F0 m pc ls (st.map (cV adr))) := by
  match st, hst, he with
  | [], _, he => cases (show (none : Nxt) = some _ from he)
  | (n + 1, v) :: r, _, he => cases (show (none : Nxt) = some _ from he)
  | (0, v) :: r, hst, he =>
    have he : br (decide (v < 0)) pc a lo r s = some (.inl (pc', lo', st', s')) := he
    by_cases hv : v < 0
    · obtain ⟨rfl, rfl, rfl, rfl⟩ := brT_ (by simp [hv]) he
      exact lv_if_lt C.1 C.2.1 hd (tg_eq hok) (fun _ => K rfl rfl hst.tl) (fun q => absurd ((o32_lt0 hst.hd.i).mpr hv) q)
    · obtain ⟨rfl, rfl, rfl, rfl⟩ := brF_ (by simp [hv]) he
      exact lv_if_lt C.1 C.2.1 hd (tg_eq hok) (fun q => absurd ((o32_lt0 hst.hd.i).mp q) hv) (fun _ => K rfl rfl hst.tl)
theorem ct_63 (C : Cx p s0 m args c cc own G cA A adr xs) {cal : Nat → List Vv → Stt → Option (Vv × Stt)} {mi : Nat} {a b d : Int} {t : List (Int × Int)} (hd : decode cc pc = .ok (insOf (63, a, b, d, t) pc)) (hok : ctOk mi pc (63, a, b, d, t) = true) (hs : okS XL0 (XD0 xs) s) (hst : Sok s.2.1 st)
    {pc' : Nat} {lo' : Lcs} {st' : List Vv} {s' : Stt} (he : act cal mi (63, a, b, d, t) pc lo st s = some (.inl (pc', lo', st', s')))
    (K : s' = s → lo' = lo → Sok s.2.1 st' → W p l e R s0 m args below meth c H locs cells slots Q (F0 m pc' ls (st'.map (cV adr)))) :
    W p l e R s0 m args below meth c H locs cells slots Q (F0 m pc ls (st.map (cV adr))) := by
  match st, hst, he with
  | [], _, he => cases (show (none : Nxt) = some _ from he)
  | (n + 1, v) :: r, _, he => cases (show (none : Nxt) = some _ from he)
  | (0, v) :: r, hst, he =>
    have he : br (!decide (v < 0)) pc a lo r s = some (.inl (pc', lo', st', s')) := he
    by_cases hv : ¬ v < 0
    · obtain ⟨rfl, rfl, rfl, rfl⟩ := brT_ (by simpa using hv) he
      exact lv_if_ge C.1 C.2.1 hd (tg_eq hok) (fun _ => K rfl rfl hst.tl) (fun q => absurd ((o32_ge0 hst.hd.i).mpr hv) q)
    · obtain ⟨rfl, rfl, rfl, rfl⟩ := brF_ (by simpa using hv) he
      exact lv_if_ge C.1 C.2.1 hd (tg_eq hok) (fun q => absurd ((o32_ge0 hst.hd.i).mp q) hv) (fun _ => K rfl rfl hst.tl)
theorem ct_64 (C : Cx p s0 m args c cc own G cA A adr xs) {cal : Nat → List Vv → Stt → Option (Vv × Stt)} {mi : Nat} {a b d : Int} {t : List (Int × Int)} (hd : decode cc pc = .ok (insOf (64, a, b, d, t) pc)) (hok : ctOk mi pc (64, a, b, d, t) = true) (hs : okS XL0 (XD0 xs) s) (hst : Sok s.2.1 st)
    {pc' : Nat} {lo' : Lcs} {st' : List Vv} {s' : Stt} (he : act cal mi (64, a, b, d, t) pc lo st s = some (.inl (pc', lo', st', s')))
    (K : s' = s → lo' = lo → Sok s.2.1 st' → W p l e R s0 m args below meth c H locs cells slots Q (F0 m pc' ls (st'.map (cV adr)))) :
    W p l e R s0 m args below meth c H locs cells slots Q (F0 m pc ls (st.map (cV adr))) := by
  match st, hst, he with
  | [], _, he => cases (show (none : Nxt) = some _ from he)
  | (n + 1, v) :: r, _, he => cases (show (none : Nxt) = some _ from he)
  | (0, v) :: r, hst, he =>
    have he : br (decide (0 < v)) pc a lo r s = some (.inl (pc', lo', st', s')) := he
    by_cases hv : 0 < v
    · obtain ⟨rfl, rfl, rfl, rfl⟩ := brT_ (by simp [hv]) he
      exact lv_if_gt C.1 C.2.1 hd (tg_eq hok) (fun _ => K rfl rfl hst.tl) (fun q => absurd ((o32_gt0 hst.hd.i).mpr hv) q)
    · obtain ⟨rfl, rfl, rfl, rfl⟩ := brF_ (by simp [hv]) he
      exact lv_if_gt C.1 C.2.1 hd (tg_eq hok) (fun q => absurd ((o32_gt0 hst.hd.i).mp q) hv) (fun _ => K rfl rfl hst.tl)
theorem ct_65 (C : Cx p s0 m args c cc own G cA A adr xs) {cal : Nat → List Vv → Stt → Option (Vv × Stt)} {mi : Nat} {a b d : Int} {t : List (Int × Int)} (hd : decode cc pc = .ok (insOf (65, a, b, d, t) pc)) (hok : ctOk mi pc (65, a, b, d, t) = true) (hs : okS XL0 (XD0 xs) s) (hst : Sok s.2.1 st)
    {pc' : Nat} {lo' : Lcs} {st' : List Vv} {s' : Stt} (he : act cal mi (65, a, b, d, t) pc lo st s = some (.inl (pc', lo', st', s')))
    (K : s' = s → lo' = lo → Sok s.2.1 st' → W p l e R s0 m args below meth c H locs cells slots Q (F0 m pc' ls (st'.map (cV adr)))) :
    W p l e R s0 m args below meth c H locs cells slots Q (F0 m pc ls (st.map (cV adr))) := by
  match st, hst, he with
  | [], _, he => cases (show (none : Nxt) = some _ from he)
  | (n + 1, v) :: r, _, he => cases (show (none : Nxt) = some _ from he)
  | (0, v) :: r, hst, he =>
    have he : br (!decide (0 < v)) pc a lo r s = some (.inl (pc', lo', st', s')) := he
    by_cases hv : ¬ 0 < v
    · obtain ⟨rfl, rfl, rfl, rfl⟩ := brT_ (by simpa using hv) he
      exact lv_if_le C.1 C.2.1 hd (tg_eq hok) (fun _ => K rfl rfl hst.tl) (fun q => absurd ((o32_le0 hst.hd.i).mpr hv) q)
    · obtain ⟨rfl, rfl, rfl, rfl⟩ := brF_ (by simpa using hv) he
      exact lv_if_le C.1 C.2.1 hd (tg_eq hok) (fun q => absurd ((o32_le0 hst.hd.i).mp q) hv) (fun _ => K rfl rfl hst.tl)
theorem ct_66 (C : Cx p s0 m args c cc own G cA A adr xs) {cal : Nat → List Vv → Stt → Option (Vv × Stt)} {mi : Nat} {a b d : Int} {t : List (Int × Int)} (hd : decode cc pc = .ok (insOf (66, a, b, d, t) pc)) (hok : ctOk mi pc (66, a, b, d, t) = true) (hs : okS XL0 (XD0 xs) s) (hst : Sok s.2.1 st)
    {pc' : Nat} {lo' : Lcs} {st' : List Vv} {s' : Stt} (he : act cal mi (66, a, b, d, t) pc lo st s = some (.inl (pc', lo', st', s')))
    (K : s' = s → lo' = lo → Sok s.2.1 st' → W p l e R s0 m args below meth c H locs cells slots Q (F0 m pc' ls (st'.map (cV adr)))) :
    W p l e R s0 m args below meth c H locs cells slots Q (F0 m pc ls (st.map (cV adr))) := by
  match st, hst, he with
  | [], _, he => cases (show (none : Nxt) = some _ from he)
  | (n + 1, v) :: r, _, he => cases (show (none : Nxt) = some _ from he)
  | (0, v) :: [], _, he => cases (show (none : Nxt) = some _ from he)
  | (0, y) :: (n + 1, v) :: r, _, he => cases (show (none : Nxt) = some _ from he)
  | (0, y) :: (0, v) :: r, hst, he =>
    have he : br (decide (v = y)) pc a lo r s = some (.inl (pc', lo', st', s')) := he
    by_cases hv : v = y
    · obtain ⟨rfl, rfl, rfl, rfl⟩ := brT_ (by simp [hv]) he
      exact lv_icmp_eq C.1 C.2.1 hd (tg_eq hok) (fun _ => K rfl rfl hst.tl.tl) (fun q => absurd ((o32_eq hst.tl.hd.i hst.hd.i).mpr hv) q)
    · obtain ⟨rfl, rfl, rfl, rfl⟩ := brF_ (by simp [hv]) he
      exact lv_icmp_eq C.1 C.2.1 hd (tg_eq hok) (fun q => absurd ((o32_eq hst.tl.hd.i hst.hd.i).mp q) hv) (fun _ => K rfl rfl hst.tl.tl)
theorem ct_67 (C : Cx p s0 m args c cc own G cA A adr xs) {cal : Nat → List Vv → Stt → Option (Vv × Stt)} {mi : Nat} {a b d : Int} {t : List (Int × Int)} (hd : decode cc pc = .ok (insOf (67, a, b, d, t) pc)) (hok : ctOk mi pc (67, a, b, d, t) = true) (hs : okS XL0 (XD0 xs) s) (hst : Sok s.2.1 st)
    {pc' : Nat} {lo' : Lcs} {st' : List Vv} {s' : Stt} (he : act cal mi (67, a, b, d, t) pc lo st s = some (.inl (pc', lo', st', s')))
    (K : s' = s → lo' = lo → Sok s.2.1 st' → W p l e R s0 m args below meth c H locs cells slots Q (F0 m pc' ls (st'.map (cV adr)))) :
    W p l e R s0 m args below meth c H locs cells slots Q (F0 m pc ls (st.map (cV adr))) := by
  match st, hst, he with
  | [], _, he => cases (show (none : Nxt) = some _ from he)
  | (n + 1, v) :: r, _, he => cases (show (none : Nxt) = some _ from he)
  | (0, v) :: [], _, he => cases (show (none : Nxt) = some _ from he)
  | (0, y) :: (n + 1, v) :: r, _, he => cases (show (none : Nxt) = some _ from he)
  | (0, y) :: (0, v) :: r, hst, he =>
    have he : br (!decide (v = y)) pc a lo r s = some (.inl (pc', lo', st', s')) := he
    by_cases hv : v = y
    · obtain ⟨rfl, rfl, rfl, rfl⟩ := brF_ (by simp [hv]) he
      exact lv_icmp_ne C.1 C.2.1 hd (tg_eq hok) (fun q => absurd ((o32_eq hst.tl.hd.i hst.hd.i).mpr hv) q) (fun _ => K rfl rfl hst.tl.tl)
    · obtain ⟨rfl, rfl, rfl, rfl⟩ := brT_ (by simp [hv]) he
      exact lv_icmp_ne C.1 C.2.1 hd (tg_eq hok) (fun _ => K rfl rfl hst.tl.tl) (fun q => absurd ((o32_eq hst.tl.hd.i hst.hd.i).mp q) hv)
theorem ct_68 (C : Cx p s0 m args c cc own G cA A adr xs) {cal : Nat → List Vv → Stt → Option (Vv × Stt)} {mi : Nat} {a b d : Int} {t : List (Int × Int)} (hd : decode cc pc = .ok (insOf (68, a, b, d, t) pc)) (hok : ctOk mi pc (68, a, b, d, t) = true) (hs : okS XL0 (XD0 xs) s) (hst : Sok s.2.1 st)
    {pc' : Nat} {lo' : Lcs} {st' : List Vv} {s' : Stt} (he : act cal mi (68, a, b, d, t) pc lo st s = some (.inl (pc', lo', st', s')))
    (K : s' = s → lo' = lo → Sok s.2.1 st' → W p l e R s0 m args below meth c H locs cells slots Q (F0 m pc' ls (st'.map (cV adr)))) :
    W p l e R s0 m args below meth c H locs cells slots Q (F0 m pc ls (st.map (cV adr))) := by
  match st, hst, he with
  | [], _, he => cases (show (none : Nxt) = some _ from he)
  | (n + 1, v) :: r, _, he => cases (show (none : Nxt) = some _ from he)
  | (0, v) :: [], _, he => cases (show (none : Nxt) = some _ from he)
  | (0, y) :: (n + 1, v) :: r, _, he => cases (show (none : Nxt) = some _ from he)
  | (0, y) :: (0, v) :: r, hst, he =>
    have he : br (decide (v < y)) pc a lo r s = some (.inl (pc', lo', st', s')) := he
    by_cases hv : v < y
    · obtain ⟨rfl, rfl, rfl, rfl⟩ := brT_ (by simp [hv]) he
      exact lv_icmp_lt C.1 C.2.1 hd (tg_eq hok) (fun _ => K rfl rfl hst.tl.tl) (fun q => absurd ((o32_lt hst.tl.hd.i hst.hd.i).mpr hv) q)
    · obtain ⟨rfl, rfl, rfl, rfl⟩ := brF_ (by simp [hv]) he
      exact lv_icmp_lt C.1 C.2.1 hd (tg_eq hok) (fun q => absurd ((o32_lt hst.tl.hd.i hst.hd.i).mp q) hv) (fun _ => K rfl rfl hst.tl.tl)
theorem ct_69 (C : Cx p s0 m args c cc own G cA A adr xs) {cal : Nat → List Vv → Stt → Option (Vv × Stt)} {mi : Nat} {a b d : Int} {t : List (Int × Int)} (hd : decode cc pc = .ok (insOf (69, a, b, d, t) pc)) (hok : ctOk mi pc (69, a, b, d, t) = true) (hs : okS XL0 (XD0 xs) s) (hst : Sok s.2.1 st)
    {pc' : Nat} {lo' : Lcs} {st' : List Vv} {s' : Stt} (he : act cal mi (69, a, b, d, t) pc lo st s = some (.inl (pc', lo', st', s')))
    (K : s' = s → lo' = lo → Sok s.2.1 st' → W p l e R s0 m args below meth c H locs cells slots Q (F0 m pc' ls (st'.map (cV adr)))) :
    W p l e R s0 m args below meth c H locs cells slots Q (F0 m pc ls (st.map (cV adr))) := by
  match st, hst, he with
  | [], _, he => cases (show (none : Nxt) = some _ from he)
  | (n + 1, v) :: r, _, he => cases (show (none : Nxt) = some _ from he)
  | (0, v) :: [], _, he => cases (show (none : Nxt) = some _ from he)
  | (0, y) :: (n + 1, v) :: r, _, he => cases (show (none : Nxt) = some _ from he)
  | (0, y) :: (0, v) :: r, hst, he =>
    have he : br (!decide (v < y)) pc a lo r s = some (.inl (pc', lo', st', s')) := he
    by_cases hv : ¬ v < y
    · obtain ⟨rfl, rfl, rfl, rfl⟩ := brT_ (by simpa using hv) he
      exact lv_icmp_ge C.1 C.2.1 hd (tg_eq hok) (fun _ => K rfl rfl hst.tl.tl) (fun q => absurd ((o32_nlt hst.tl.hd.i hst.hd.i).mpr hv) q)
    · obtain ⟨rfl, rfl, rfl, rfl⟩ := brF_ (by simpa using hv) he
      exact lv_icmp_ge C.1 C.2.1 hd (tg_eq hok) (fun q => absurd ((o32_nlt hst.tl.hd.i hst.hd.i).mp q) hv) (fun _ => K rfl rfl hst.tl.tl)
theorem ct_70 (C : Cx p s0 m args c cc own G cA A adr xs) {cal : Nat → List Vv → Stt → Option (Vv × Stt)} {mi : Nat} {a b d : Int} {t : List (Int × Int)} (hd : decode cc pc = .ok (insOf (70, a, b, d, t) pc)) (hok : ctOk mi pc (70, a, b, d, t) = true) (hs : okS XL0 (XD0 xs) s) (hst : Sok s.2.1 st)
    {pc' : Nat} {lo' : Lcs} {st' : List Vv} {s' : Stt} (he : act cal mi (70, a, b, d, t) pc lo st s = some (.inl (pc', lo', st', s')))
    (K : s' = s → lo' = lo → Sok s.2.1 st' → W p l e R s0 m args below meth c H locs cells slots Q (F0 m pc' ls (st'.map (cV adr)))) :
    W p l e R s0 m args below meth c H locs cells slots Q (F0 m pc ls (st.map (cV adr))) := by
  match st, hst, he with
  | [], _, he => cases (show (none : Nxt) = some _ from he)
  | (n + 1, v) :: r, _, he => cases (show (none : Nxt) = some _ from he)
  | (0, v) :: [], _, he => cases (show (none : Nxt) = some _ from he)
  | (0, y) :: (n + 1, v) :: r, _, he => cases (show (none : Nxt) = some _ from he)
  | (0, y) :: (0, v) :: r, hst, he =>
    have he : br (decide (y < v)) pc a lo r s = some (.inl (pc', lo', st', s')) := he
    by_cases hv : y < v
    · obtain ⟨rfl, rfl, rfl, rfl⟩ := brT_ (by simp [hv]) he
      exact lv_icmp_gt C.1 C.2.1 hd (tg_eq hok) (fun _ => K rfl rfl hst.tl.tl) (fun q => absurd ((o32_lt hst.hd.i hst.tl.hd.i).mpr hv) q)
    · obtain ⟨rfl, rfl, rfl, rfl⟩ := brF_ (by simp [hv]) he
      exact lv_icmp_gt C.1 C.2.1 hd (tg_eq hok) (fun q => absurd ((o32_lt hst.hd.i hst.tl.hd.i).mp q) hv) (fun _ => K rfl rfl hst.tl.tl)
theorem ct_71 (C : Cx p s0 m args c cc own G cA A adr xs) {cal : Nat → List Vv → Stt → Option (Vv × Stt)} {mi : Nat} {a b d : Int} {t : List (Int × Int)} (hd : decode cc pc = .ok (insOf (71, a, b, d, t) pc)) (hok : ctOk mi pc (71, a, b, d, t) = true) (hs : okS XL0 (XD0 xs) s) (hst : Sok s.2.1 st)
    {pc' : Nat} {lo' : Lcs} {st' : List Vv} {s' : Stt} (he : act cal mi (71, a, b, d, t) pc lo st s = some (.inl (pc', lo', st', s')))
    (K : s' = s → lo' = lo → Sok s.2.1 st' → W p l e R s0 m args below meth c H locs cells slots Q (F0 m pc' ls (st'.map (cV adr)))) :
    W p l e R s0 m args below meth c H locs cells slots Q (F0 m pc ls (st.map (cV adr))) := by
  match st, hst, he with
  | [], _, he => cases (show (none : Nxt) = some _ from he)
  | (n + 1, v) :: r, _, he => cases (show (none : Nxt) = some _ from he)
  | (0, v) :: [], _, he => cases (show (none : Nxt) = some _ from he)
  | (0, y) :: (n + 1, v) :: r, _, he => cases (show (none : Nxt) = some _ from he)
  | (0, y) :: (0, v) :: r, hst, he =>
    have he : br (!decide (y < v)) pc a lo r s = some (.inl (pc', lo', st', s')) := he
    by_cases hv : ¬ y < v
    · obtain ⟨rfl, rfl, rfl, rfl⟩ := brT_ (by simpa using hv) he
      exact lv_icmp_le C.1 C.2.1 hd (tg_eq hok) (fun _ => K rfl rfl hst.tl.tl) (fun q => absurd ((o32_nlt hst.hd.i hst.tl.hd.i).mpr hv) q)
    · obtain ⟨rfl, rfl, rfl, rfl⟩ := brF_ (by simpa using hv) he
      exact lv_icmp_le C.1 C.2.1 hd (tg_eq hok) (fun q => absurd ((o32_nlt hst.hd.i hst.tl.hd.i).mp q) hv) (fun _ => K rfl rfl hst.tl.tl)
theorem ct_72 (C : Cx p s0 m args c cc own G cA A adr xs) {cal : Nat → List Vv → Stt → Option (Vv × Stt)} {mi : Nat} {a b d : Int} {t : List (Int × Int)} (hd : decode cc pc = .ok (insOf (72, a, b, d, t) pc)) (hok : ctOk mi pc (72, a, b, d, t) = true) (hs : okS XL0 (XD0 xs) s) (hst : Sok s.2.1 st)
    {pc' : Nat} {lo' : Lcs} {st' : List Vv} {s' : Stt} (he : act cal mi (72, a, b, d, t) pc lo st s = some (.inl (pc', lo', st', s')))
    (K : s' = s → lo' = lo → Sok s.2.1 st' → W p l e R s0 m args below meth c H locs cells slots Q (F0 m pc' ls (st'.map (cV adr)))) :
    W p l e R s0 m args below meth c H locs cells slots Q (F0 m pc ls (st.map (cV adr))) := by
  match st, hst, he with
  | [], _, he => cases (show (none : Nxt) = some _ from he)
  | (0, v) :: r, _, he => cases (show (none : Nxt) = some _ from he)
  | (1, v) :: r, _, he => cases (show (none : Nxt) = some _ from he)
  | (n + 3, v) :: r, _, he => cases (show (none : Nxt) = some _ from he)
  | (2, v) :: [], _, he => cases (show (none : Nxt) = some _ from he)
  | (2, y) :: (0, v) :: r, _, he => cases (show (none : Nxt) = some _ from he)
  | (2, y) :: (1, v) :: r, _, he => cases (show (none : Nxt) = some _ from he)
  | (2, y) :: (n + 3, v) :: r, _, he => cases (show (none : Nxt) = some _ from he)
  | (2, y) :: (2, v) :: r, hst, he =>
    have he : (if acOk s v && acOk s y then br (decide (v = y)) pc a lo r s else none) = some (.inl (pc', lo', st', s')) := he
    by_cases hac : (acOk s v && acOk s y) = true
    · rw [if_pos hac] at he
      rw [Bool.and_eq_true] at hac
      have hiff := acmp_iff C hs hac.1 hac.2
      by_cases hv : v = y
      · obtain ⟨rfl, rfl, rfl, rfl⟩ := brT_ (by simp [hv]) he
        exact lv_acmp_eq C.1 C.2.1 hd (tg_eq hok) (fun _ => K rfl rfl hst.tl.tl) (fun q => absurd (hiff.mpr hv) q)
      · obtain ⟨rfl, rfl, rfl, rfl⟩ := brF_ (by simp [hv]) he
        exact lv_acmp_eq C.1 C.2.1 hd (tg_eq hok) (fun q => absurd (hiff.mp q) hv) (fun _ => K rfl rfl hst.tl.tl)
    · rw [if_neg hac] at he
      cases he
theorem ct_73 (C : Cx p s0 m args c cc own G cA A adr xs) {cal : Nat → List Vv → Stt → Option (Vv × Stt)} {mi : Nat} {a b d : Int} {t : List (Int × Int)} (hd : decode cc pc = .ok (insOf (73, a, b, d, t) pc)) (hok : ctOk mi pc (73, a, b, d, t) = true) (hs : okS XL0 (XD0 xs) s) (hst : Sok s.2.1 st)
    {pc' : Nat} {lo' : Lcs} {st' : List Vv} {s' : Stt} (he : act cal mi (73, a, b, d, t) pc lo st s = some (.inl (pc', lo', st', s')))
    (K : s' = s → lo' = lo → Sok s.2.1 st' → W p l e R s0 m args below meth c H locs cells slots Q (F0 m pc' ls (st'.map (cV adr)))) :
    W p l e R s0 m args below meth c H locs cells slots Q (F0 m pc ls (st.map (cV adr))) := by
  match st, hst, he with
  | [], _, he => cases (show (none : Nxt) = some _ from he)
  | (0, v) :: r, _, he => cases (show (none : Nxt) = some _ from he)
  | (1, v) :: r, _, he => cases (show (none : Nxt) = some _ from he)
  | (n + 3, v) :: r, _, he => cases (show (none : Nxt) = some _ from he)
  | (2, v) :: [], _, he => cases (show (none : Nxt) = some _ from he)
  | (2, y) :: (0, v) :: r, _, he => cases (show (none : Nxt) = some _ from he)
  | (2, y) :: (1, v) :: r, _, he => cases (show (none : Nxt) = some _ from he)
  | (2, y) :: (n + 3, v) :: r, _, he => cases (show (none : Nxt) = some _ from he)
  | (2, y) :: (2, v) :: r, hst, he =>
    have he : (if acOk s v && acOk s y then br (!decide (v = y)) pc a lo r s else none) = some (.inl (pc', lo', st', s')) := he
    by_cases hac : (acOk s v && acOk s y) = true
    · rw [if_pos hac] at he
      rw [Bool.and_eq_true] at hac
      have hiff := acmp_iff C hs hac.1 hac.2
      by_cases hv : v = y
      · obtain ⟨rfl, rfl, rfl, rfl⟩ := brF_ (by simp [hv]) he
        exact lv_acmp_ne C.1 C.2.1 hd (tg_eq hok) (fun q => absurd (hiff.mpr hv) q) (fun _ => K rfl rfl hst.tl.tl)
      · obtain ⟨rfl, rfl, rfl, rfl⟩ := brT_ (by simp [hv]) he
        exact lv_acmp_ne C.1 C.2.1 hd (tg_eq hok) (fun _ => K rfl rfl hst.tl.tl) (fun q => absurd (hiff.mp q) hv)
    · rw [if_neg hac] at he
      cases he
theorem ct_74 (C : Cx p s0 m args c cc own G cA A adr xs) {cal : Nat → List Vv → Stt → Option (Vv × Stt)} {mi : Nat} {a b d : Int} {t : List (Int × Int)} (hd : decode cc pc = .ok (insOf (74, a, b, d, t) pc)) (hok : ctOk mi pc (74, a, b, d, t) = true) (hs : okS XL0 (XD0 xs) s) (hst : Sok s.2.1 st)
    {pc' : Nat} {lo' : Lcs} {st' : List Vv} {s' : Stt} (he : act cal mi (74, a, b, d, t) pc lo st s = some (.inl (pc', lo', st', s')))
    (K : s' = s → lo' = lo → Sok s.2.1 st' → W p l e R s0 m args below meth c H locs cells slots Q (F0 m pc' ls (st'.map (cV adr)))) :
    W p l e R s0 m args below meth c H locs cells slots Q (F0 m pc ls (st.map (cV adr))) := by
  match st, hst, he with
  | [], _, he => cases (show (none : Nxt) = some _ from he)
  | (0, v) :: r, _, he => cases (show (none : Nxt) = some _ from he)
  | (1, v) :: r, _, he => cases (show (none : Nxt) = some _ from he)
  | (n + 3, v) :: r, _, he => cases (show (none : Nxt) = some _ from he)
  | (2, v) :: r, hst, he =>
    have he : br (decide (v = 0)) pc a lo r s = some (.inl (pc', lo', st', s')) := he
    by_cases hv : v = 0
    · obtain ⟨rfl, rfl, rfl, rfl⟩ := brT_ (by simp [hv]) he
      subst hv
      exact lv_ifnullN C.1 C.2.1 hd (tg_eq hok) (K rfl rfl hst.tl)
    · obtain ⟨rfl, rfl, rfl, rfl⟩ := brF_ (by simp [hv]) he
      rw [List.map_cons, cV_ref hv]
      exact lv_ifnull C.1 C.2.1 hd (K rfl rfl hst.tl)
theorem ct_75 (C : Cx p s0 m args c cc own G cA A adr xs) {cal : Nat → List Vv → Stt → Option (Vv × Stt)} {mi : Nat} {a b d : Int} {t : List (Int × Int)} (hd : decode cc pc = .ok (insOf (75, a, b, d, t) pc)) (hok : ctOk mi pc (75, a, b, d, t) = true) (hs : okS XL0 (XD0 xs) s) (hst : Sok s.2.1 st)
    {pc' : Nat} {lo' : Lcs} {st' : List Vv} {s' : Stt} (he : act cal mi (75, a, b, d, t) pc lo st s = some (.inl (pc', lo', st', s')))
    (K : s' = s → lo' = lo → Sok s.2.1 st' → W p l e R s0 m args below meth c H locs cells slots Q (F0 m pc' ls (st'.map (cV adr)))) :
    W p l e R s0 m args below meth c H locs cells slots Q (F0 m pc ls (st.map (cV adr))) := by
  match st, hst, he with
  | [], _, he => cases (show (none : Nxt) = some _ from he)
  | (0, v) :: r, _, he => cases (show (none : Nxt) = some _ from he)
  | (1, v) :: r, _, he => cases (show (none : Nxt) = some _ from he)
  | (n + 3, v) :: r, _, he => cases (show (none : Nxt) = some _ from he)
  | (2, v) :: r, hst, he =>
    have he : br (!decide (v = 0)) pc a lo r s = some (.inl (pc', lo', st', s')) := he
    by_cases hv : v = 0
    · obtain ⟨rfl, rfl, rfl, rfl⟩ := brF_ (by simp [hv]) he
      subst hv
      exact lv_ifnonnullN C.1 C.2.1 hd (K rfl rfl hst.tl)
    · obtain ⟨rfl, rfl, rfl, rfl⟩ := brT_ (by simp [hv]) he
      rw [List.map_cons, cV_ref hv]
      exact lv_ifnonnull C.1 C.2.1 hd (tg_eq hok) (K rfl rfl hst.tl)
theorem ct_76 (C : Cx p s0 m args c cc own G cA A adr xs) {cal : Nat → List Vv → Stt → Option (Vv × Stt)} {mi : Nat} {a b d : Int} {t : List (Int × Int)} (hd : decode cc pc = .ok (insOf (76, a, b, d, t) pc)) (hok : ctOk mi pc (76, a, b, d, t) = true) (hs : okS XL0 (XD0 xs) s) (hst : Sok s.2.1 st)
    {pc' : Nat} {lo' : Lcs} {st' : List Vv} {s' : Stt} (he : act cal mi (76, a, b, d, t) pc lo st s = some (.inl (pc', lo', st', s')))
    (K : s' = s → lo' = lo → Sok s.2.1 st' → W p l e R s0 m args below meth c H locs cells slots Q (F0 m pc' ls (st'.map (cV adr)))) :
    W p l e R s0 m args below meth c H locs cells slots Q (F0 m pc ls (st.map (cV adr))) := by
  have he : goN ((pc : Int) + a).toNat lo st s = some (.inl (pc', lo', st', s')) := he
  simp only [goN, Option.some.injEq, Sum.inl.injEq, Prod.mk.injEq] at he
  obtain ⟨rfl, rfl, rfl, rfl⟩ := he
  exact lv_goto C.1 C.2.1 hd (tg_eq hok) (K rfl rfl hst)
theorem ct_77 (C : Cx p s0 m args c cc own G cA A adr xs) {cal : Nat → List Vv → Stt → Option (Vv × Stt)} {mi : Nat} {a b d : Int} {t : List (Int × Int)} (hd : decode cc pc = .ok (insOf (77, a, b, d, t) pc)) (hok : ctOk mi pc (77, a, b, d, t) = true) (hs : okS XL0 (XD0 xs) s) (hst : Sok s.2.1 st)
    {pc' : Nat} {lo' : Lcs} {st' : List Vv} {s' : Stt} (he : act cal mi (77, a, b, d, t) pc lo st s = some (.inl (pc', lo', st', s')))
    (K : s' = s → lo' = lo → Sok s.2.1 st' → W p l e R s0 m args below meth c H locs cells slots Q (F0 m pc' ls (st'.map (cV adr)))) :
    W p l e R s0 m args below meth c H locs cells slots Q (F0 m pc ls (st.map (cV adr))) := by
  match st, hst, he with
  | [], _, he => cases (show (none : Nxt) = some _ from he)
  | (n + 1, v) :: r, _, he => cases (show (none : Nxt) = some _ from he)
  | (0, v) :: r, hst, he =>
    have he : goN ((pc : Int) + (if v < b ∨ b + t.length - 1 < v then a else (t.getD (v - b).toNat (0, 0)).2)).toNat lo r s = some (.inl (pc', lo', st', s')) := he
    simp only [goN, Option.some.injEq, Sum.inl.injEq, Prod.mk.injEq] at he
    obtain ⟨rfl, rfl, rfl, rfl⟩ := he
    simp only [ctOk, Bool.and_eq_true] at hok
    by_cases hv : v < b ∨ b + t.length - 1 < v
    · rw [if_pos hv] at K
      exact lv_tableOut C.1 C.2.1 hd (by rw [t32 hst.hd.i]; exact hv) (tg_eq hok.1) (K rfl rfl hst.tl)
    · rw [if_neg hv] at K
      have hlt : (v - b).toNat < t.length := by omega
      have hg : t.getD (v - b).toNat (0, 0) = t[(v - b).toNat] := by
        rw [List.getD_eq_getElem?_getD, List.getElem?_eq_getElem hlt]
        rfl
      rw [hg] at K
      refine lv_tableIn C.1 C.2.1 hd (by rw [t32 hst.hd.i]; omega) (by rw [t32 hst.hd.i]; omega) (off := (t[(v - b).toNat]).2) ?_ (tg_eq (List.all_eq_true.mp hok.2 _ (List.getElem_mem hlt))) (K rfl rfl hst.tl)
      rw [t32 hst.hd.i]
      simp [hlt]
theorem ct_78 (C : Cx p s0 m args c cc own G cA A adr xs) {cal : Nat → List Vv → Stt → Option (Vv × Stt)} {mi : Nat} {a b d : Int} {t : List (Int × Int)} (hd : decode cc pc = .ok (insOf (78, a, b, d, t) pc)) (hok : ctOk mi pc (78, a, b, d, t) = true) (hs : okS XL0 (XD0 xs) s) (hst : Sok s.2.1 st)
    {pc' : Nat} {lo' : Lcs} {st' : List Vv} {s' : Stt} (he : act cal mi (78, a, b, d, t) pc lo st s = some (.inl (pc', lo', st', s')))
    (K : s' = s → lo' = lo → Sok s.2.1 st' → W p l e R s0 m args below meth c H locs cells slots Q (F0 m pc' ls (st'.map (cV adr)))) :
    W p l e R s0 m args below meth c H locs cells slots Q (F0 m pc ls (st.map (cV adr))) := by
  match st, hst, he with
  | [], _, he => cases (show (none : Nxt) = some _ from he)
  | (n + 1, v) :: r, _, he => cases (show (none : Nxt) = some _ from he)
  | (0, v) :: r, hst, he =>
    have he : goN ((pc : Int) + lkup t v a).toNat lo r s = some (.inl (pc', lo', st', s')) := he
    simp only [goN, Option.some.injEq, Sum.inl.injEq, Prod.mk.injEq] at he
    obtain ⟨rfl, rfl, rfl, rfl⟩ := he
    simp only [ctOk, Bool.and_eq_true] at hok
    have hlk : ∀ l : List (Int × Int), (l.all (fun q => tgOk pc q.2) = true) → tgOk pc (lkup l v a) = true := by
      intro l
      induction l with
      | nil => intro _; exact hok.1
      | cons q l ih =>
        intro h
        obtain ⟨k, o⟩ := q
        simp only [List.all_cons, Bool.and_eq_true] at h
        unfold lkup
        split
        · exact h.1
        · exact ih h.2
    exact lv_lookup C.1 C.2.1 hd hok.2.2 (by rw [t32 hst.hd.i]; exact lkup_off t v a) (tg_eq (hlk t hok.2.1)) (K rfl rfl hst.tl)
theorem ct_all (C : Cx p s0 m args c cc own G cA A adr xs) {cal : Nat → List Vv → Stt → Option (Vv × Stt)} {mi : Nat} {x : IR} (hge : 60 ≤ x.1) (hle : x.1 ≤ 78) (hd : decode cc pc = .ok (insOf x pc)) (hok : ctOk mi pc x = true) (hs : okS XL0 (XD0 xs) s) (hst : Sok s.2.1 st)
    {pc' : Nat} {lo' : Lcs} {st' : List Vv} {s' : Stt} (he : act cal mi x pc lo st s = some (.inl (pc', lo', st', s')))
    (K : s' = s → lo' = lo → Sok s.2.1 st' → W p l e R s0 m args below meth c H locs cells slots Q (F0 m pc' ls (st'.map (cV adr)))) :
    W p l e R s0 m args below meth c H locs cells slots Q (F0 m pc ls (st.map (cV adr))) := by
  obtain ⟨k, a, b, d, t⟩ := x
  match k, hge, hle with
  | 60, _, _ => exact ct_60 C hd hok hs hst he K
  | 61, _, _ => exact ct_61 C hd hok hs hst he K
  | 62, _, _ => exact ct_62 C hd hok hs hst he K
  | 63, _, _ => exact ct_63 C hd hok hs hst he K
  | 64, _, _ => exact ct_64 C hd hok hs hst he K
  | 65, _, _ => exact ct_65 C hd hok hs hst he K
  | 66, _, _ => exact ct_66 C hd hok hs hst he K
  | 67, _, _ => exact ct_67 C hd hok hs hst he K
  | 68, _, _ => exact ct_68 C hd hok hs hst he K
  | 69, _, _ => exact ct_69 C hd hok hs hst he K
  | 70, _, _ => exact ct_70 C hd hok hs hst he K
  | 71, _, _ => exact ct_71 C hd hok hs hst he K
  | 72, _, _ => exact ct_72 C hd hok hs hst he K
  | 73, _, _ => exact ct_73 C hd hok hs hst he K
  | 74, _, _ => exact ct_74 C hd hok hs hst he K
  | 75, _, _ => exact ct_75 C hd hok hs hst he K
  | 76, _, _ => exact ct_76 C hd hok hs hst he K
  | 77, _, _ => exact ct_77 C hd hok hs hst he K
  | 78, _, _ => exact ct_78 C hd hok hs hst he K
  | n + 79, _, h => exact absurd h (by simp)
end BRS
