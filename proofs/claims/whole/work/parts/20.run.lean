/-! A whole method -/
theorem cpy_off {D : Sto} {a i b j n : Int} : ∀ x, x ≠ b → cpy D a i b j n x = D x := by
  intro x hx
  funext k
  simp [cpy, hx]
theorem cpy_fn {α : Type} {D : Sto} {a i b j n : Int} (g : Int → α) (hi : 0 ≤ i) (hj : 0 ≤ j) (hn : 0 ≤ n) : (fun k : Nat => g (cpy D a i b j n b (k : Int))) = va_cpy (fun k : Nat => g (D a (k : Int))) (fun k : Nat => g (D b (k : Int))) i.toNat j.toNat n.toNat := by
  funext k
  by_cases h : j ≤ (k : Int) ∧ (k : Int) < j + n
  · rw [pk_cpy_in (by omega) (by omega)]
    unfold cpy
    rw [if_pos ⟨rfl, h.1, h.2⟩]
    congr 2
    omega
  · rw [pk_cpy_out (by omega)]
    unfold cpy
    rw [if_neg (fun q => h q.2)]
theorem okS_cpy {XL : Lay} {XD : Sto} {s : Stt} {a i b j n : Int} (h : okS XL XD s) (hb : 0 < b) (hk : kd s a = kd s b) (hg : 100 ≤ kd s a) : okS XL XD (s.1, s.2.1, cpy s.2.2 a i b j n) := by
  obtain ⟨h1, h2, h3, h4, h5, h6⟩ := h
  refine ⟨h1, fun x k => ?_, h3, h4, fun x hx => ⟨(h5 x hx).1, fun k => ?_⟩, h6⟩
  · show okV s.2.1 (tgk (kd s x) k, cpy s.2.2 a i b j n x k)
    unfold cpy
    split
    · rename_i q
      obtain ⟨rfl, q1, q2⟩ := q
      have := h2 a (i + (k - j))
      rw [hk] at this
      have e : tgk (kd s x) (i + (k - j)) = tgk (kd s x) k := by
        have q : ¬ kd s x < 100 := by omega
        unfold tgk
        simp only [if_neg q]
      rw [e] at this
      exact this
    · exact h2 x k
  · show cpy s.2.2 a i b j n x k = _
    unfold cpy
    rw [if_neg (by omega)]
    exact (h5 x hx).2 k
section RUN
variable {p : Program} {l : Launch} {e : Env} {R : Room} {s0 : State} {m : MethodId} {args : Array Value} {below : List Frame} {meth : Method} {c : Code} {Q : State → Prop} {H : Heap} {locs : List Loc} {cells slots : Nat} {ls : Array Slot} {cc : ByteArray} {own : String} {pc nL : Nat}
variable {G : va_G} {cA : Nat → ClassId} {A : Nat → Prop} {adr : Int → Nat} {xs : Int → Int} {lo : Lcs} {st : List Vv} {s : Stt}
theorem sn_obj (C : Cx p s0 m args c cc own G cA A adr xs) (hml : c.maxLocals = nL) {idx : Nat} {r : Int} (hr : 0 < r) (hcat : (st.map cat).sum ≤ 8) (hl : Lok adr s.2.1 nL lo ls) (hRf : 1 ≤ R.frames) (hRl : 64 ≤ R.locals)
    (w1 : Cond.methodLink own idx objectInit ∈ lw_good) (w2 : Cond.instanceMethod objectInit ∈ lw_good) (w3 : Cond.code objectInit ⟨#[0xb1]⟩ 1 none ∈ lw_good) (hd : decode cc pc = .ok (.invokespecial idx, 3))
    (K : W p l e R s0 m args below meth c H locs cells slots Q (F0 m (pc + 3) ls (st.map (cV adr)))) : W p l e R s0 m args below meth c H locs cells slots Q (F0 m pc ls (((2, r) :: st).map (cV adr))) := by
  rw [List.map_cons, cV_ref (by omega)]
  exact W.objInit C.1 C.2.1 C.2.2.1 (C.2.2.2.1 _ w1) (C.2.2.2.1 _ w2) (C.2.2.2.1 _ w3) rfl (by rw [hml]; exact hl.2.1.1) rfl hd hRf (by rw [cats]; show 2 * 0 + _ + 12 ≤ _; omega) K
theorem sn_abs (C : Cx p s0 m args c cc own G cA A adr xs) (hml : c.maxLocals = nL) {idx : Nat} {x : Int} (hx : in64 x) (hcat : (st.map cat).sum ≤ 8) (hl : Lok adr s.2.1 nL lo ls) (hRf : 1 ≤ R.frames) (hRl : 64 ≤ R.locals) (hc : cells ≤ R.cells) (hsl : slots ≤ R.slots)
    (w1 : Cond.methodLink own idx Lib.MathLoose.abs_long.x ∈ lw_good) (w2 : Cond.static Lib.MathLoose.abs_long.x ∈ lw_good) (w3 : Cond.initialized "java/lang/Math" ∈ lw_good) (w4 : Cond.code Lib.MathLoose.abs_long.x Lib.MathLoose.abs_long.code 2 (some .long) ∈ lw_good) (hd : decode cc pc = .ok (.invokestatic idx, 3))
    (K : W p l e R s0 m args below meth c H locs cells slots Q (F0 m (pc + 3) ls (((1, if 0 < x then x else w64 (-x)) :: st).map (cV adr)))) : W p l e R s0 m args below meth c H locs cells slots Q (F0 m pc ls (((1, x) :: st).map (cV adr))) := by
  refine va_mabs_long C.1 C.2.1 (by rw [hml]; exact hl.2.1.1.symm) C.2.2.1 (C.2.2.2.1 _ w1) (C.2.2.2.1 _ w2) (C.2.2.2.1 _ w3) (C.2.2.2.1 _ w4) hRf (by rw [cats]; omega) hc hsl hd ?_
  have e9 : Value.long (if 0 < Int64.ofInt x then Int64.ofInt x else -Int64.ofInt x) = cV adr (1, if 0 < x then x else w64 (-x)) := by
    have hi : 0 < Int64.ofInt x ↔ 0 < x := o64_lt in0_64 hx
    by_cases h : 0 < x
    · rw [if_pos (hi.mpr h), if_pos h]; rfl
    · rw [if_neg (fun q => h (hi.mp q)), if_neg h]
      show _ = Value.long (Int64.ofInt (w64 (-x)))
      rw [o64_w, Int64.ofInt_neg]
  rw [e9]
  exact K
theorem sn_cpy (C : Cx p s0 m args c cc own G cA A adr xs) (hml : c.maxLocals = nL) {idx : Nat} {a b i j n : Int} (hs : okS XL0 (XD0 xs) s) (hH : Hok G cA A adr s s0.heap H locs) (hl : Lok adr s.2.1 nL lo ls) (hi : in32 i) (hj : in32 j) (hn : in32 n)
    (hk : kd s a = 100 ∧ kd s b = 100 ∨ kd s a = 103 ∧ kd s b = 103 ∧ ((List.range n.toNat).all (fun k : Nat => acOk s (s.2.2 a (i + k)))) = true) (h0 : 0 ≤ n) (h1 : 0 ≤ i) (h2 : 0 ≤ j) (h3 : i + n ≤ ln s a) (h4 : j + n ≤ ln s b) (hcat : (st.map cat).sum ≤ 8) (hRf : 1 ≤ R.frames) (hRl : 64 ≤ R.locals)
    (w1 : Cond.methodLink own idx arraycopyName ∈ lw_good) (w2 : Cond.native arraycopyName ∈ lw_good) (w3 : Cond.static arraycopyName ∈ lw_good) (w4 : Cond.initialized "java/lang/System" ∈ lw_good) (hd : decode cc pc = .ok (.invokestatic idx, 3))
    (K : ∀ H' locs', Hok G cA A adr (s.1, s.2.1, cpy s.2.2 a i b j n) s0.heap H' locs' → okS XL0 (XD0 xs) (s.1, s.2.1, cpy s.2.2 a i b j n) → W p l e R s0 m args below meth c H' locs' cells slots Q (F0 m (pc + 3) ls (st.map (cV adr)))) : W p l e R s0 m args below meth c H locs cells slots Q (F0 m pc ls (((0, n) :: (0, j) :: (2, b) :: (0, i) :: (2, a) :: st).map (cV adr))) := by
  have C' := C
  obtain ⟨hx, hb, hown, hts, hK, hX⟩ := C
  have hH' := hH
  obtain ⟨hP, hD, hS⟩ := hH
  have hka : 100 ≤ kd s a ∧ kd s a < 200 ∧ kd s a = kd s b := by omega
  have hpa := hs.pos (a := a) (by omega) (by omega)
  have hpb := hs.pos (a := b) (by omega) (by omega)
  have hga := wld_get (cA := cA) (adr := adr) hpa.1 hpa.2
  have hgb := wld_get (cA := cA) (adr := adr) hpb.1 hpb.2
  have hok := okS_cpy (i := i) (j := j) (n := n) hs hpb.1 hka.2.2 hka.1
  have ni : ¬ Int32.ofInt i < 0 := by rw [o32_lt0 hi]; omega
  have nj : ¬ Int32.ofInt j < 0 := by rw [o32_lt0 hj]; omega
  have nn : ¬ Int32.ofInt n < 0 := by rw [o32_lt0 hn]; omega
  have hnw : nativeFrameWords "java/lang/System" "arraycopy" 5 = 7 := by decide
  have la : (s.2.1 a).2 = ln s a := rfl
  have lb : (s.2.1 b).2 = ln s b := rfl
  simp only [List.map_cons, own_ne hs (a := a) (by omega) (by omega), own_ne hs (a := b) (by omega) (by omega)]
  rcases hk with ⟨q1, q2⟩ | ⟨q1, q2, q3⟩
  · have q1' : (s.2.1 a).1 = 100 := q1
    have q2' : (s.2.1 b).1 = 100 := q2
    rw [cE_int q1'] at hga
    rw [cE_int q2'] at hgb
    refine va_copyi (D := G) hx hb (by rw [hml]; exact hl.2.1.1.symm) hown (hts _ w1) (hts _ w2) (hts _ w3) (hts _ w4) hK hP hD hS (a - 1).toNat (b - 1).toNat 0 0 hga hgb rfl rfl rfl ni nj nn (by rw [o32_cl hi, o32_cl hn]; omega) (by rw [o32_cl hj, o32_cl hn]; omega) (fun _ _ => rfl) hRf (by rw [cats, hnw]; omega) hd (fun H1 locs1 hP hD hS => K H1 locs1 ?_ hok)
    have e3 : (wld cA adr s).set (b - 1).toNat (adr b, .inl (cA 0, ((s.2.1 b).2.toNat, .inl (va_cpy (fun k => Int32.ofInt (s.2.2 a (k : Int))) (fun k => Int32.ofInt (s.2.2 b (k : Int))) (Int32.ofInt i).toNatClampNeg (Int32.ofInt j).toNatClampNeg (Int32.ofInt n).toNatClampNeg)))) = wld cA adr (s.1, s.2.1, cpy s.2.2 a i b j n) := by
      rw [← wld_set (cpy s.2.2 a i b j n) hpb.1 cpy_off, cE_int q2', cpy_fn Int32.ofInt h1 h2 h0, o32_cl hi, o32_cl hj, o32_cl hn]
    rw [e3] at hP hD
    exact ⟨hP, hD, hS⟩
  · have q1' : (s.2.1 a).1 = 103 := q1
    have q2' : (s.2.1 b).1 = 103 := q2
    rw [cE_ref (Or.inl q1'), q1'] at hga
    rw [cE_ref (Or.inl q2'), q2'] at hgb
    refine va_copyq (D := G) (C := "MarkGuards$Kind") hx hb (by rw [hml]; exact hl.2.1.1.symm) hown (hts _ w1) (hts _ w2) (hts _ w3) (hts _ w4) hK hP hD hS (a - 1).toNat (b - 1).toNat 3 3 hga hgb rfl rfl ni nj nn (by rw [o32_cl hi, o32_cl hn]; omega) (by rw [o32_cl hj, o32_cl hn]; omega) (fun k hk y hy => ?_) (fun comp c0 f1 f2 => ?_) hRf (by rw [cats, hnw]; omega) hd (fun H1 locs1 hP hD hS => K H1 locs1 ?_ hok)
    · rw [o32_cl hn] at hk
      rw [o32_cl hi] at hy
      have hac := List.all_eq_true.mp q3 k (List.mem_range.mpr hk)
      have ex : (((i.toNat + k : Nat)) : Int) = i + k := by omega
      rw [ex] at hy
      simp only [acOk, Bool.or_eq_true, decide_eq_true_eq] at hac
      unfold cR at hy
      rcases hac with hz | hz
      · rw [if_pos hz] at hy; cases hy
      · have hr := XL0_203 ((hs.ext (a := s.2.2 a (i + k)) (by omega)).1.trans hz)
        rw [if_neg (by omega)] at hy
        obtain ⟨cell, g1, g2, g3⟩ := va_recvE hX.2.1 (i := (-(s.2.2 a (i + k)) - 2).toNat) (by rw [kcs_len]; omega) hS
        have e1 : -(2 + (((-(s.2.2 a (i + k)) - 2).toNat : Nat) : Int)) = s.2.2 a (i + k) := by omega
        simp only [e1] at g1
        cases Option.some.inj hy
        exact ⟨cell, g1, g2, g3⟩
    · cases f1.symm.trans f2
      rw [Vm.assignable, Vm.assignableAux]
      simp
    · have e3 : (wld cA adr s).set (b - 1).toNat (adr b, .inl (cA 3, ((s.2.1 b).2.toNat, .inr (.inr (.inr (.inr (va_cpy (fun k => cR adr (s.2.2 a (k : Int))) (fun k => cR adr (s.2.2 b (k : Int))) (Int32.ofInt i).toNatClampNeg (Int32.ofInt j).toNatClampNeg (Int32.ofInt n).toNatClampNeg))))))) = wld cA adr (s.1, s.2.1, cpy s.2.2 a i b j n) := by
        rw [← wld_set (cpy s.2.2 a i b j n) hpb.1 cpy_off, cE_ref (Or.inl q2'), q2', cpy_fn (cR adr) h1 h2 h0, o32_cl hi, o32_cl hj, o32_cl hn]
        rfl
      rw [show (103 - 100 : Int).toNat = 3 from rfl] at hP hD
      rw [e3] at hP hD
      exact ⟨hP, hD, hS⟩
end RUN
