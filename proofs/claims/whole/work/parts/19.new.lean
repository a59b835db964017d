/-! New cells, copies, the JDK's members, ends -/
theorem fcode_le (ci k : Int) : fcode ci k ≤ 3 := by
  have h : ftab.all (fun r => r.all (fun x => decide (x ≤ 3))) = true := by decide +kernel
  unfold fcode
  rw [List.getD_eq_getElem?_getD, List.getD_eq_getElem?_getD]
  cases h1 : ftab[ci.toNat]? with
  | none => simp
  | some r =>
    simp only [Option.getD_some]
    cases h2 : r[k.toNat]? with
    | none => simp
    | some x =>
      have h3 := List.all_eq_true.mp h r (List.mem_of_getElem? h1)
      have h4 := List.all_eq_true.mp h3 x (List.mem_of_getElem? h2)
      simpa using h4
theorem tgk_cases (k i : Int) : tgk k i = 0 ∨ tgk k i = 1 ∨ tgk k i = 2 := by
  unfold tgk
  split
  · have := fcode_le k i
    unfold ftg
    split
    · exact Or.inl rfl
    · omega
  · split
    · exact Or.inr (Or.inl rfl)
    · split
      · exact Or.inr (Or.inr rfl)
      · exact Or.inl rfl
theorem okV_0 (L : Lay) (k i : Int) : okV L (tgk k i, 0) := by
  rcases tgk_cases k i with h | h | h <;> rw [h]
  · exact okV.mi in0_32
  · exact okV.ml in0_64
  · exact okV.mr (Or.inl rfl)
theorem okS_new {XL : Lay} {XD : Sto} {s : Stt} {k n : Int} (hs : okS XL XD s) (hk : 0 ≤ k ∧ k < 12 ∨ 100 ≤ k ∧ k ≤ 104) (h0 : 0 ≤ n) (h1 : n < 2147483648) : okS XL XD (newS s k n) := by
  obtain ⟨g1, g2, g3, g4, g5, g6⟩ := hs
  have em : ∀ z, (s.2.1 z).1 ≠ -1 → ((newS s k n).2.1 z).1 ≠ -1 := by
    intro z hz
    show ((if z = s.1.1 + 1 then (k, n) else s.2.1 z) : Int × Int).1 ≠ -1
    split
    · simp only; omega
    · exact hz
  have e1 : ∀ a, kd (newS s k n) a = if a = s.1.1 + 1 then k else kd s a := by
    intro a
    show ((if a = s.1.1 + 1 then (k, n) else s.2.1 a) : Int × Int).1 = _
    split <;> rfl
  have e2 : ∀ a, ln (newS s k n) a = if a = s.1.1 + 1 then n else ln s a := by
    intro a
    show ((if a = s.1.1 + 1 then (k, n) else s.2.1 a) : Int × Int).2 = _
    split <;> rfl
  refine ⟨by show 0 ≤ s.1.1 + 1; omega, fun a i => ?_, fun a h2 h3 => ?_, fun a h2 => ?_, fun a h2 => ?_, fun a h2 => ?_⟩
  · show okV (newS s k n).2.1 (tgk (kd (newS s k n) a) i, if a = s.1.1 + 1 then 0 else s.2.2 a i)
    rw [e1]
    by_cases q : a = s.1.1 + 1
    · rw [if_pos q, if_pos q]
      exact okV_0 _ _ _
    · rw [if_neg q, if_neg q]
      exact (g2 a i).mono em
  · have h3 : a ≤ s.1.1 + 1 := h3
    rw [e1, e2]
    by_cases q : a = s.1.1 + 1
    · rw [if_pos q, if_pos q]
      exact ⟨hk, h0, h1⟩
    · rw [if_neg q, if_neg q]
      exact g3 a h2 (by omega)
  · have h2 : s.1.1 + 1 < a := h2
    rw [e1, if_neg (by omega)]
    exact g4 a (by omega)
  · have hne : ¬ a = s.1.1 + 1 := by omega
    refine ⟨?_, fun i => ?_⟩
    · show (if a = s.1.1 + 1 then (k, n) else s.2.1 a) = _
      rw [if_neg hne]
      exact (g5 a h2).1
    · show (if a = s.1.1 + 1 then 0 else s.2.2 a i) = _
      rw [if_neg hne]
      exact (g5 a h2).2 i
  · rw [e1, if_neg (by omega)]
    exact g6 a h2
theorem cV_0 (adr adr' : Int → Nat) (t : Nat) : cV adr (t, 0) = cV adr' (t, 0) := by
  unfold cV
  simp only
  split
  · rfl
  · rfl
  · rfl
theorem dflt_ok {ty : FieldType} {k : Nat} (adr : Int → Nat) (h : tyc ty k = true) : defaultValue ty = cV adr ((if k = 3 then 0 else k), 0) := by
  unfold tyc at h
  split at h
  · rfl
  · rfl
  · rfl
  · rfl
  · rfl
  · cases h
theorem ra_eq {U : State} {c1 c2 : ClassId} {ty : FieldType} (h1 : va_RA U c1 ty) (h2 : va_RA U c2 ty) : c1 = c2 := by
  cases ty with
  | object C =>
    obtain ⟨_, _, _, _, _, f1⟩ := h1
    obtain ⟨_, _, _, _, _, f2⟩ := h2
    exact Option.some.inj (f1.symm.trans f2)
  | _ => exact Option.some.inj (h1.symm.trans h2)
section NEW
variable {p : Program} {l : Launch} {e : Env} {R : Room} {s0 : State} {m : MethodId} {args : Array Value} {below : List Frame} {meth : Method} {c : Code} {Q : State → Prop} {H : Heap} {locs : List Loc} {cells slots : Nat} {ls : Array Slot} {cc : ByteArray} {own : String} {pc nL : Nat}
variable {G : va_G} {cA : Nat → ClassId} {A : Nat → Prop} {adr : Int → Nat} {xs : Int → Int} {lo : Lcs} {st : List Vv} {s : Stt}
def adN (adr : Int → Nat) (n : Int) (q : Nat) : Int → Nat := fun a => if a = n then q else adr a
theorem adN_eq {n : Int} {q : Nat} : adN adr n q n = q := by simp [adN]
theorem adN_ne {n a : Int} {q : Nat} (h : a ≠ n) : adN adr n q a = adr a := by simp [adN, h]
theorem Hok_new (hs : okS XL0 (XD0 xs) s) {k n : Int} {q : Nat} {H1 : Heap} {E : va_E} (hE : E = cE cA (adN adr (s.1.1 + 1) q) (k, n) (fun _ => 0))
    (hP : va_P G cls0 (wld cA adr s ++ [(q, E)]) H1) (hD : va_D A (wld cA adr s ++ [(q, E)])) (hS : va_S A s0.heap H1 locs) : Hok G cA A (adN adr (s.1.1 + 1) q) (newS s k n) s0.heap H1 locs := by
  have e : wld cA (adN adr (s.1.1 + 1) q) (newS s k n) = wld cA adr s ++ [(q, E)] := by
    rw [hE]
    refine wld_new hs (fun z hz => adN_ne ?_) (fun a h1 h2 => adN_ne (by omega)) adN_eq
    have := hs.le hz
    omega
  exact ⟨by rw [e]; exact hP, by rw [e]; exact hD, hS⟩
theorem sn_new (C : Cx p s0 m args c cc own G cA A adr xs) (hA : ∀ q, s0.heap.size ≤ q → A q) (hs : okS XL0 (XD0 xs) s) (hH : Hok G cA A adr s s0.heap H locs) {a : Int} {idx : Nat} (h0 : 0 ≤ a) (h12 : a < 12)
    (w1 : Cond.classLink own idx (clN a) ∈ lw_good) (w2 : Cond.instantiable (clN a) (cnF a) ∈ lw_good) (w3 : Cond.initialized (clN a) ∈ lw_good) (hd : decode cc pc = .ok (.new idx, 3)) (hc : cells + 1 ≤ R.cells) (hsl : slots + (ftab.getD a.toNat []).length ≤ R.slots)
    (K : ∀ (adr' : Int → Nat) (H1 : Heap), (∀ b, b ≤ s.1.1 → adr' b = adr b) → Hok G cA A adr' (newS s a (ftab.getD a.toNat []).length) s0.heap H1 locs → W p l e R s0 m args below meth c H1 locs (cells + 1) (slots + (ftab.getD a.toNat []).length) Q (F0 m (pc + 3) ls (cV adr' (2, s.1.1 + 1) :: st.map (cV adr)))) :
    W p l e R s0 m args below meth c H locs cells slots Q (F0 m pc ls (st.map (cV adr))) := by
  obtain ⟨hx, hb, hown, hts, hK, -⟩ := C
  obtain ⟨hP, hD, hS⟩ := hH
  obtain ⟨r, hr⟩ := cls_some h0 h12
  obtain ⟨ty0, hty, hnm, hin, htc, hN⟩ := clOk_all hr
  have ec : clN a = r.1 := by unfold clN; rw [List.getD_eq_getElem?_getD, hr]; rfl
  have en : cnF a = r.2.2 := by unfold cnF; rw [List.getD_eq_getElem?_getD, hr]; rfl
  rw [ec] at w1 w2 w3
  rw [en] at w2
  obtain ⟨Cn, T, N⟩ := r
  have e2 : ((a.toNat : Nat) : Int) = a := by omega
  have hN : N = (ftab.getD a.toNat []).length := by
    have h9 : N = nfl (a.toNat : Int) := hN
    rw [e2] at h9
    exact h9
  rw [← hN] at hsl K
  have h00 := hs.1
  refine va_new (D := G) (ci := a.toNat) (fs := cF adr a (fun _ => 0)) (C := Cn) (T := T) (N := N) hx hb hts hin ty0 hty hown (hts _ w1) (hts _ w2) (hts _ w3) hK hP hD hS hA hr (fun j hj => ?_) hc hsl hd (fun q H1 hP hD hS => ?_)
  · have h5 := dflt_ok adr (htc j hj)
    rw [e2] at h5
    rw [h5]
    unfold vp_V
    rw [List.getD_eq_getElem?_getD, cF_get (by show j < (ftab.getD a.toNat []).length; rw [← hN]; exact hj)]
    rfl
  · have hk := K (adN adr (s.1.1 + 1) q) H1 (fun b hb => adN_ne (by omega)) (Hok_new hs ?_ hP hD hS)
    · rw [cV_ref (by omega), adN_eq] at hk
      exact hk
    · rw [cE_obj (by simp only; omega)]
      congr 2
theorem sn_newa (C : Cx p s0 m args c cc own G cA A adr xs) (hA : ∀ q, s0.heap.size ≤ q → A q) (hs : okS XL0 (XD0 xs) s) (hH : Hok G cA A adr s s0.heap H locs) {a n : Int} (ha : a = 100 ∨ a = 101 ∨ a = 102) (h0 : 0 ≤ n) (h1 : n < 100000)
    (w1 : ∀ w ∈ wrdC own (96, a, 0, 0, []), w ∈ lw_good) (hd : decode cc pc = .ok (insOf (96, a, 0, 0, []) pc)) (hc : cells + 1 ≤ R.cells) (hsl : slots + n.toNat ≤ R.slots)
    (K : ∀ (adr' : Int → Nat) (H1 : Heap), (∀ b, b ≤ s.1.1 → adr' b = adr b) → Hok G cA A adr' (newS s a n) s0.heap H1 locs → W p l e R s0 m args below meth c H1 locs (cells + 1) (slots + n.toNat) Q (F0 m (pc + 2) ls (cV adr' (2, s.1.1 + 1) :: st.map (cV adr)))) :
    W p l e R s0 m args below meth c H locs cells slots Q (F0 m pc ls (((0, n) :: st).map (cV adr))) := by
  obtain ⟨hx, hb, hown, hts, hK, -⟩ := C
  obtain ⟨hP, hD, hS⟩ := hH
  have h00 := hs.1
  have hn : in32 n := by unfold in32; omega
  have hneg : ¬ Int32.ofInt n < 0 := by rw [o32_lt0 hn]; omega
  rw [List.map_cons]
  rcases ha with rfl | rfl | rfl
  · refine va_newa (atype := .int) (D := G) hx hb (hts _ (w1 _ List.mem_cons_self)) rfl hK hP hD hS hA (a0 := (n.toNat, .inl (fun _ => 0))) (fun cA => rfl) hneg (o32_cl hn) (by show n.toNat * 4 ≤ _; omega) hc hsl hd (fun q cA' H1 hK' hP hD hS => ?_)
    have ecA : cA' = cA 0 := ra_eq (hK'.2 5 _ rfl).2 (hK.2 0 _ rfl).2
    subst ecA
    have hk := K (adN adr (s.1.1 + 1) q) H1 (fun b hb => adN_ne (by omega)) (Hok_new hs (by rw [cE_int rfl]; rfl) hP hD hS)
    rw [cV_ref (by omega), adN_eq] at hk
    exact hk
  · refine va_newa (atype := .long) (D := G) hx hb (hts _ (w1 _ List.mem_cons_self)) rfl hK hP hD hS hA (a0 := (n.toNat, .inr (.inl (fun _ => 0)))) (fun cA => rfl) hneg (o32_cl hn) (by show n.toNat * 8 ≤ _; omega) hc hsl hd (fun q cA' H1 hK' hP hD hS => ?_)
    have ecA : cA' = cA 1 := ra_eq (hK'.2 5 _ rfl).2 (hK.2 1 _ rfl).2
    subst ecA
    have hk := K (adN adr (s.1.1 + 1) q) H1 (fun b hb => adN_ne (by omega)) (Hok_new hs (by rw [cE_long rfl]; rfl) hP hD hS)
    rw [cV_ref (by omega), adN_eq] at hk
    exact hk
  · refine va_newa (atype := .boolean) (D := G) hx hb (hts _ (w1 _ List.mem_cons_self)) rfl hK hP hD hS hA (a0 := (n.toNat, .inl (fun _ => 0))) (fun cA => rfl) hneg (o32_cl hn) (by show n.toNat * 1 ≤ _; omega) hc hsl hd (fun q cA' H1 hK' hP hD hS => ?_)
    have ecA : cA' = cA 2 := ra_eq (hK'.2 5 _ rfl).2 (hK.2 2 _ rfl).2
    subst ecA
    have hk := K (adN adr (s.1.1 + 1) q) H1 (fun b hb => adN_ne (by omega)) (Hok_new hs (by rw [cE_bool rfl]; rfl) hP hD hS)
    rw [cV_ref (by omega), adN_eq] at hk
    exact hk
theorem sn_newq (C : Cx p s0 m args c cc own G cA A adr xs) (hN : NW s0) (hA : ∀ q, s0.heap.size ≤ q → A q) (hs : okS XL0 (XD0 xs) s) (hH : Hok G cA A adr s s0.heap H locs) {a b n : Int} (ha : a = 103 ∨ a = 104) (h0 : 0 ≤ n) (h1 : n < 100000)
    (w1 : ∀ w ∈ wrdC own (97, a, b, 0, []), w ∈ lw_good) (hd : decode cc pc = .ok (.anewarray b.toNat, 3)) (hc : cells + 1 ≤ R.cells) (hsl : slots + n.toNat ≤ R.slots)
    (K : ∀ (adr' : Int → Nat) (H1 : Heap), (∀ b, b ≤ s.1.1 → adr' b = adr b) → Hok G cA A adr' (newS s a n) s0.heap H1 locs → W p l e R s0 m args below meth c H1 locs (cells + 1) (slots + n.toNat) Q (F0 m (pc + 3) ls (cV adr' (2, s.1.1 + 1) :: st.map (cV adr)))) :
    W p l e R s0 m args below meth c H locs cells slots Q (F0 m pc ls (((0, n) :: st).map (cV adr))) := by
  obtain ⟨hx, hb, hown, hts, hK, -⟩ := C
  obtain ⟨hP, hD, hS⟩ := hH
  have h00 := hs.1
  have hn : in32 n := by unfold in32; omega
  have hneg : ¬ Int32.ofInt n < 0 := by rw [o32_lt0 hn]; omega
  rw [List.map_cons]
  rcases ha with rfl | rfl
  · refine va_newq (D := G) (C := "MarkGuards$Kind") hx hb hown (hts _ (w1 _ List.mem_cons_self)) hN.2.1 hK hP hD hS hA hneg (o32_cl hn) (by omega) hc hsl hd (fun q cA' H1 hK' hP hD hS => ?_)
    have ecA : cA' = cA 3 := ra_eq (hK'.2 5 _ rfl).2 (hK.2 3 _ rfl).2
    subst ecA
    have hk := K (adN adr (s.1.1 + 1) q) H1 (fun b hb => adN_ne (by omega)) (Hok_new hs (by rw [cE_ref (Or.inl rfl)]; rfl) hP hD hS)
    rw [cV_ref (by omega), adN_eq] at hk
    exact hk
  · refine va_newq (D := G) (C := "MarkGuards$Run") hx hb hown (hts _ (w1 _ List.mem_cons_self)) hN.2.2.1 hK hP hD hS hA hneg (o32_cl hn) (by omega) hc hsl hd (fun q cA' H1 hK' hP hD hS => ?_)
    have ecA : cA' = cA 4 := ra_eq (hK'.2 5 _ rfl).2 (hK.2 4 _ rfl).2
    subst ecA
    have hk := K (adN adr (s.1.1 + 1) q) H1 (fun b hb => adN_ne (by omega)) (Hok_new hs (by rw [cE_ref (Or.inr rfl)]; rfl) hP hD hS)
    rw [cV_ref (by omega), adN_eq] at hk
    exact hk
end NEW
