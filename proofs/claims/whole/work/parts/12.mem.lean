/-! Fields and rows -/
section MEM
variable {p : Program} {l : Launch} {e : Env} {R : Room} {s0 : State} {m : MethodId} {args : Array Value} {below : List Frame} {meth : Method} {c : Code} {Q : State → Prop} {H : Heap} {locs : List Loc} {cells slots : Nat} {ls : Array Slot} {cc : ByteArray} {own : String} {pc nL : Nat}
variable {G : va_G} {cA : Nat → ClassId} {A : Nat → Prop} {adr : Int → Nat} {xs : Int → Int} {lo : Lcs} {st : List Vv} {s : Stt} {XL : Lay} {XD : Sto}
theorem own_ne {a : Int} (hs : okS XL XD s) (h1 : 0 ≤ kd s a) (h2 : kd s a < 200) : cV adr (2, a) = .ref (adr a) := cV_ref (by have := (hs.pos h1 h2).1; omega)
theorem sn_get (C : Cx p s0 m args c cc own G cA A adr xs) (hs : okS XL XD s) (hH : Hok G cA A adr s s0.heap H locs) {a ci k : Int} {idx : Nat} (hk : kd s a = ci) (h0 : 0 ≤ ci) (h12 : ci < 12) (hk0 : 0 ≤ k) (hkn : k < nfl ci)
    (hw : (Cond.fieldLink own idx (fkey ci k).1 (fkey ci k).2.1 (fkey ci k).2.2.1).before args s0 = true) (hd : decode cc pc = .ok (.getfield idx, 3))
    (kk : W p l e R s0 m args below meth c H locs cells slots Q (F0 m (pc + 3) ls (((ftg ci k, s.2.2 a k) :: st).map (cV adr)))) : W p l e R s0 m args below meth c H locs cells slots Q (F0 m pc ls (((2, a) :: st).map (cV adr))) := by
  obtain ⟨hx, hb, hown, hts, hK, -⟩ := C
  obtain ⟨hP, hD, hS⟩ := hH
  obtain ⟨r, hr⟩ := cls_some h0 h12
  obtain ⟨ty0, hty, hnm, hin, htc, hN⟩ := clOk_all hr
  rw [fkey_of hr] at hw
  obtain ⟨C, T, N⟩ := r
  have hp := hs.pos (a := a) (by omega) (by omega)
  have hg := wld_get (cA := cA) (adr := adr) hp.1 hp.2
  have hl : (s.2.1 a).1 = ci := hk
  rw [cE_obj (by omega), hl] at hg
  have e1 : ((k.toNat : Nat) : Int) = k := by omega
  have e2 : ((ci.toNat : Nat) : Int) = ci := by omega
  have hlt : k.toNat < N := by
    have : N = nfl (ci.toNat : Int) := hN
    rw [this, e2]
    omega
  rw [List.map_cons, own_ne hs (by omega) (by omega)]
  refine va_get (D := G) (ci := ci.toNat) (v := cV adr (ftg ci k, s.2.2 a k)) (C := C) (T := T) (N := N) hx hb hts hin hown hK hP (a - 1).toNat hg hr k.toNat hlt hw (fun _ h9 => h9) ?_ hd kk
  rw [cF_get (by have q : N = nfl (ci.toNat : Int) := hN; rw [e2] at q; omega), e1]
theorem sn_put (C : Cx p s0 m args c cc own G cA A adr xs) (hs : okS XL XD s) (hH : Hok G cA A adr s s0.heap H locs) {a ci k v : Int} {idx : Nat} (hk : kd s a = ci) (h0 : 0 ≤ ci) (h12 : ci < 12) (hk0 : 0 ≤ k) (hkn : k < nfl ci) (hbit : fcode ci k = 3 → bit01 v = true) (hfin : (fkey ci k).2.2.2 = false) (hv : okV s.2.1 (ftg ci k, v))
    (hw : (Cond.fieldLink own idx (fkey ci k).1 (fkey ci k).2.1 (fkey ci k).2.2.1).before args s0 = true) (hd : decode cc pc = .ok (.putfield idx, 3))
    (kk : ∀ H' locs', Hok G cA A adr (s.1, s.2.1, up s.2.2 a k v) s0.heap H' locs' → okS XL XD (s.1, s.2.1, up s.2.2 a k v) → W p l e R s0 m args below meth c H' locs' cells slots Q (F0 m (pc + 3) ls (st.map (cV adr)))) : W p l e R s0 m args below meth c H locs cells slots Q (F0 m pc ls (((ftg ci k, v) :: (2, a) :: st).map (cV adr))) := by
  obtain ⟨hx, hb, hown, hts, hK, -⟩ := C
  obtain ⟨hP, hD, hS⟩ := hH
  obtain ⟨r, hr⟩ := cls_some h0 h12
  obtain ⟨ty0, hty, hnm, hin, htc, hN⟩ := clOk_all hr
  rw [fkey_of hr] at hw hfin
  obtain ⟨C, T, N⟩ := r
  have hp := hs.pos (a := a) (by omega) (by omega)
  have hg := wld_get (cA := cA) (adr := adr) hp.1 hp.2
  have hl : (s.2.1 a).1 = ci := hk
  rw [cE_obj (by omega), hl] at hg
  have e1 : ((k.toNat : Nat) : Int) = k := by omega
  have e2 : ((ci.toNat : Nat) : Int) = ci := by omega
  have hlt : k.toNat < N := by
    have : N = nfl (ci.toNat : Int) := hN
    rw [this, e2]
    omega
  have ht := htc k.toNat hlt
  rw [e1, e2] at ht
  have hf := fit_ok (adr := adr) ht hbit
  have hok := okS_up hs hp.1 (i := k) (v := v) (by rw [hk]; unfold tgk; rw [if_pos (by omega)]; exact hv)
  rw [List.map_cons, List.map_cons, own_ne hs (by omega) (by omega)]
  refine va_put (D := G) (ci := ci.toNat) (v := cV adr (ftg ci k, v)) (C := C) (T := T) (N := N) hx hb hts hin ty0 hty hnm hown hK hP hD hS (a - 1).toNat hg hr k.toNat hlt hw (fun _ h9 => h9) hfin (hty _ hlt) hf.1 hf.2 (by rw [cF_len]; omega) hd (fun H1 locs1 hP hD hS => kk H1 locs1 ?_ hok)
  have e3 : (wld cA adr s).set (a - 1).toNat (adr a, .inr (ci.toNat, (cF adr ci (s.2.2 a)).set k.toNat (cV adr (ftg ci k, v)))) = wld cA adr (s.1, s.2.1, up s.2.2 a k v) := by
    rw [cF_set v hk0, ← wld_set (up s.2.2 a k v) hp.1 up_off, cE_obj (by omega), hl]
  rw [e3] at hP hD
  exact ⟨hP, hD, hS⟩
theorem sn_putF (C : Cx p s0 m args c cc own G cA A adr xs) (hs : okS XL XD s) (hH : Hok G cA A adr s s0.heap H locs) {a ci k v : Int} {idx : Nat} (hk : kd s a = ci) (h0 : 0 ≤ ci) (h12 : ci < 12) (hk0 : 0 ≤ k) (hkn : k < nfl ci) (hbit : fcode ci k = 3 → bit01 v = true) (hfin : (fkey ci k).2.2.2 = true) (hini : meth.name = "<init>") (hdec : (fkey ci k).1 = own) (hv : okV s.2.1 (ftg ci k, v))
    (hw : (Cond.fieldLink own idx (fkey ci k).1 (fkey ci k).2.1 (fkey ci k).2.2.1).before args s0 = true) (hd : decode cc pc = .ok (.putfield idx, 3))
    (kk : ∀ H' locs', Hok G cA A adr (s.1, s.2.1, up s.2.2 a k v) s0.heap H' locs' → okS XL XD (s.1, s.2.1, up s.2.2 a k v) → W p l e R s0 m args below meth c H' locs' cells slots Q (F0 m (pc + 3) ls (st.map (cV adr)))) : W p l e R s0 m args below meth c H locs cells slots Q (F0 m pc ls (((ftg ci k, v) :: (2, a) :: st).map (cV adr))) := by
  obtain ⟨hx, hb, hown, hts, hK, -⟩ := C
  obtain ⟨hP, hD, hS⟩ := hH
  obtain ⟨r, hr⟩ := cls_some h0 h12
  obtain ⟨ty0, hty, hnm, hin, htc, hN⟩ := clOk_all hr
  rw [fkey_of hr] at hw hfin hdec
  obtain ⟨C, T, N⟩ := r
  have hp := hs.pos (a := a) (by omega) (by omega)
  have hg := wld_get (cA := cA) (adr := adr) hp.1 hp.2
  have hl : (s.2.1 a).1 = ci := hk
  rw [cE_obj (by omega), hl] at hg
  have e1 : ((k.toNat : Nat) : Int) = k := by omega
  have e2 : ((ci.toNat : Nat) : Int) = ci := by omega
  have hlt : k.toNat < N := by
    have : N = nfl (ci.toNat : Int) := hN
    rw [this, e2]
    omega
  have ht := htc k.toNat hlt
  rw [e1, e2] at ht
  have hf := fit_ok (adr := adr) ht hbit
  have hok := okS_up hs hp.1 (i := k) (v := v) (by rw [hk]; unfold tgk; rw [if_pos (by omega)]; exact hv)
  rw [List.map_cons, List.map_cons, own_ne hs (by omega) (by omega)]
  refine va_putF (D := G) (ci := ci.toNat) (v := cV adr (ftg ci k, v)) (C := C) (T := T) (N := N) hx hb hts hin ty0 hty hnm hown hK hP hD hS (a - 1).toNat hg hr k.toNat hlt hw (fun _ h9 => h9) hfin hini hdec (hty _ hlt) hf.1 hf.2 (by rw [cF_len]; omega) hd (fun H1 locs1 hP hD hS => kk H1 locs1 ?_ hok)
  have e3 : (wld cA adr s).set (a - 1).toNat (adr a, .inr (ci.toNat, (cF adr ci (s.2.2 a)).set k.toNat (cV adr (ftg ci k, v)))) = wld cA adr (s.1, s.2.1, up s.2.2 a k v) := by
    rw [cF_set v hk0, ← wld_set (up s.2.2 a k v) hp.1 up_off, cE_obj (by omega), hl]
  rw [e3] at hP hD
  exact ⟨hP, hD, hS⟩
theorem ln_alen {a : Int} (h : kd s a ≠ 200) : alen s a = ln s a := by unfold alen; rw [if_neg h]
theorem inb_iff {i n : Int} : inb i n = true ↔ 0 ≤ i ∧ i < n := by simp [inb]
theorem sn_ald0 (C : Cx p s0 m args c cc own G cA A adr xs) (hs : okS XL0 (XD0 xs) s) (hH : Hok G cA A adr s s0.heap H locs) {a i : Int} (hk : kd s a = 100 ∨ kd s a = 200 ∨ kd s a = 205) (hi : in32 i) (hb' : inb i (alen s a) = true) (hd : decode cc pc = .ok (.iaload, 1))
    (kk : W p l e R s0 m args below meth c H locs cells slots Q (F0 m (pc + 1) ls (((0, s.2.2 a i) :: st).map (cV adr)))) : W p l e R s0 m args below meth c H locs cells slots Q (F0 m pc ls (((0, i) :: (2, a) :: st).map (cV adr))) := by
  obtain ⟨hx, hb, hown, hts, hK, hX⟩ := C
  obtain ⟨hP, hD, hS⟩ := hH
  have hin := inb_iff.mp hb'
  have e1 : ((i.toNat : Nat) : Int) = i := by omega
  rcases hk with hk | hk | hk
  · rw [ln_alen (by omega)] at hb'
    have hp := hs.pos (a := a) (by omega) (by omega)
    have hg := wld_get (cA := cA) (adr := adr) hp.1 hp.2
    have hl : (s.2.1 a).1 = 100 := hk
    rw [cE_int hl] at hg
    rw [List.map_cons, List.map_cons, own_ne hs (by omega) (by omega)]
    refine va_iald hx hb hK hP (a - 1).toNat 0 hg rfl (o32_vin hi hb') hd ?_
    rw [o32_cl hi, e1]
    exact kk
  · have hn := hs.neg (a := a) (by omega)
    have h5 := (hs.2.2.2.2.1 a hn)
    have ea : a = -1 := by
      have h6 : (XL0 a).1 = 200 := by rw [← h5.1]; exact hk
      unfold XL0 at h6
      split at h6
      · assumption
      · split at h6
        · simp at h6
        · split at h6
          · simp at h6
          · split at h6
            · simp at h6
            · split at h6 <;> simp at h6
    subst ea
    obtain ⟨⟨n, f, hV, hlt, hnA, hxn, -, hf⟩, -⟩ := hX
    have el : alen s (-1) = n := by
      unfold alen
      rw [if_pos hk, h5.2]
      simp [XD0, hxn]
    rw [el] at hin
    rw [List.map_cons, List.map_cons, cV_ref (by decide)]
    refine va_sld hx hb hV hlt hnA hS (vp_in_iff.mpr (by rw [t32 hi]; exact hin)) hd ?_
    rw [o32_cl hi, hf _ (by omega), e1]
    have e9 : s.2.2 (-1) i = xs i := by rw [h5.2]; simp [XD0]
    rw [e9] at kk
    exact kk
  · have hn := hs.neg (a := a) (by omega)
    have h5 := (hs.2.2.2.2.1 a hn)
    have ea : a = -51 := by
      have h6 : (XL0 a).1 = 205 := by rw [← h5.1]; exact hk
      unfold XL0 at h6
      split at h6
      · simp at h6
      · split at h6
        · simp at h6
        · split at h6
          · assumption
          · split at h6
            · simp at h6
            · split at h6 <;> simp at h6
    subst ea
    obtain ⟨-, -, -, -, -, hT, -⟩ := hX
    have el : alen s (-51) = 38 := by
      rw [ln_alen (by omega)]
      show (s.2.1 (-51)).2 = 38
      rw [h5.1]
      rfl
    rw [el] at hin
    rw [List.map_cons, List.map_cons, cV_ref (by decide)]
    refine va_ti hx hb hT hS (vp_in_iff.mpr (by rw [t32 hi]; exact hin)) (v := .int (Int32.ofInt (s.2.2 (-51) i))) ?_ hd kk
    rw [o32_cl hi, h5.2]
    simp [XD0]
theorem sn_ald1 (C : Cx p s0 m args c cc own G cA A adr xs) (hs : okS XL XD s) (hH : Hok G cA A adr s s0.heap H locs) {a i : Int} (hk : kd s a = 101) (hi : in32 i) (hb' : inb i (alen s a) = true) (hd : decode cc pc = .ok (.laload, 1))
    (kk : W p l e R s0 m args below meth c H locs cells slots Q (F0 m (pc + 1) ls (((1, s.2.2 a i) :: st).map (cV adr)))) : W p l e R s0 m args below meth c H locs cells slots Q (F0 m pc ls (((0, i) :: (2, a) :: st).map (cV adr))) := by
  obtain ⟨hx, hb, hown, hts, hK, hX⟩ := C
  obtain ⟨hP, hD, hS⟩ := hH
  have hin := inb_iff.mp hb'
  have e1 : ((i.toNat : Nat) : Int) = i := by omega
  rw [ln_alen (by omega)] at hb'
  have hp := hs.pos (a := a) (by omega) (by omega)
  have hg := wld_get (cA := cA) (adr := adr) hp.1 hp.2
  have hl : (s.2.1 a).1 = 101 := hk
  rw [cE_long hl] at hg
  rw [List.map_cons, List.map_cons, own_ne hs (by omega) (by omega)]
  refine va_lald hx hb hK hP (a - 1).toNat 1 hg rfl (o32_vin hi hb') hd ?_
  rw [o32_cl hi, e1]
  exact kk
theorem sn_aldZ (C : Cx p s0 m args c cc own G cA A adr xs) (hs : okS XL XD s) (hH : Hok G cA A adr s s0.heap H locs) {a i : Int} (hk : kd s a = 102) (hi : in32 i) (hb' : inb i (alen s a) = true) (hd : decode cc pc = .ok (.baload, 1))
    (kk : W p l e R s0 m args below meth c H locs cells slots Q (F0 m (pc + 1) ls (((0, s.2.2 a i) :: st).map (cV adr)))) : W p l e R s0 m args below meth c H locs cells slots Q (F0 m pc ls (((0, i) :: (2, a) :: st).map (cV adr))) := by
  obtain ⟨hx, hb, hown, hts, hK, hX⟩ := C
  obtain ⟨hP, hD, hS⟩ := hH
  have hin := inb_iff.mp hb'
  have e1 : ((i.toNat : Nat) : Int) = i := by omega
  rw [ln_alen (by omega)] at hb'
  have hp := hs.pos (a := a) (by omega) (by omega)
  have hg := wld_get (cA := cA) (adr := adr) hp.1 hp.2
  have hl : (s.2.1 a).1 = 102 := hk
  rw [cE_bool hl] at hg
  rw [List.map_cons, List.map_cons, own_ne hs (by omega) (by omega)]
  refine va_zald hx hb hK hP (a - 1).toNat 2 hg rfl (o32_vin hi hb') hd ?_
  rw [o32_cl hi, e1]
  exact kk
theorem fn_up {α : Type} {D : Sto} {a i v : Int} (g : Int → α) (hi : 0 ≤ i) : (fun j : Nat => g (up D a i v a (j : Int))) = fun j : Nat => if j = i.toNat then g v else g (D a (j : Int)) := by
  funext j
  unfold up
  by_cases h : j = i.toNat
  · rw [if_pos h, if_pos ⟨rfl, by omega⟩]
  · rw [if_neg h, if_neg (by omega)]
theorem sn_ast0 (C : Cx p s0 m args c cc own G cA A adr xs) (hs : okS XL XD s) (hH : Hok G cA A adr s s0.heap H locs) {a i v : Int} (hk : kd s a = 100) (hi : in32 i) (hv : in32 v) (hb' : inb i (ln s a) = true) (hd : decode cc pc = .ok (.iastore, 1))
    (kk : ∀ H' locs', Hok G cA A adr (s.1, s.2.1, up s.2.2 a i v) s0.heap H' locs' → okS XL XD (s.1, s.2.1, up s.2.2 a i v) → W p l e R s0 m args below meth c H' locs' cells slots Q (F0 m (pc + 1) ls (st.map (cV adr)))) : W p l e R s0 m args below meth c H locs cells slots Q (F0 m pc ls (((0, v) :: (0, i) :: (2, a) :: st).map (cV adr))) := by
  obtain ⟨hx, hb, hown, hts, hK, hX⟩ := C
  obtain ⟨hP, hD, hS⟩ := hH
  have hin := inb_iff.mp hb'
  have hp := hs.pos (a := a) (by omega) (by omega)
  have hg := wld_get (cA := cA) (adr := adr) hp.1 hp.2
  have hl : (s.2.1 a).1 = 100 := hk
  rw [cE_int hl] at hg
  have hok := okS_up hs hp.1 (i := i) (v := v) (by rw [hk]; exact okV.mi hv)
  rw [List.map_cons, List.map_cons, List.map_cons, own_ne hs (by omega) (by omega)]
  refine va_iast hx hb hK hP hD hS (a - 1).toNat 0 hg rfl (o32_vin hi hb') hd (fun H1 locs1 hP hD hS => kk H1 locs1 ?_ hok)
  have e3 : (wld cA adr s).set (a - 1).toNat (adr a, .inl (cA 0, ((s.2.1 a).2.toNat, .inl (upd (fun j => Int32.ofInt (s.2.2 a (j : Int))) (Int32.ofInt i).toNatClampNeg (Int32.ofInt v))))) = wld cA adr (s.1, s.2.1, up s.2.2 a i v) := by
    rw [← wld_set (up s.2.2 a i v) hp.1 up_off, cE_int hl, fn_up Int32.ofInt hin.1, o32_cl hi]
    rfl
  rw [e3] at hP hD
  exact ⟨hP, hD, hS⟩
theorem sn_ast1 (C : Cx p s0 m args c cc own G cA A adr xs) (hs : okS XL XD s) (hH : Hok G cA A adr s s0.heap H locs) {a i v : Int} (hk : kd s a = 101) (hi : in32 i) (hv : in64 v) (hb' : inb i (ln s a) = true) (hd : decode cc pc = .ok (.lastore, 1))
    (kk : ∀ H' locs', Hok G cA A adr (s.1, s.2.1, up s.2.2 a i v) s0.heap H' locs' → okS XL XD (s.1, s.2.1, up s.2.2 a i v) → W p l e R s0 m args below meth c H' locs' cells slots Q (F0 m (pc + 1) ls (st.map (cV adr)))) : W p l e R s0 m args below meth c H locs cells slots Q (F0 m pc ls (((1, v) :: (0, i) :: (2, a) :: st).map (cV adr))) := by
  obtain ⟨hx, hb, hown, hts, hK, hX⟩ := C
  obtain ⟨hP, hD, hS⟩ := hH
  have hin := inb_iff.mp hb'
  have hp := hs.pos (a := a) (by omega) (by omega)
  have hg := wld_get (cA := cA) (adr := adr) hp.1 hp.2
  have hl : (s.2.1 a).1 = 101 := hk
  rw [cE_long hl] at hg
  have hok := okS_up hs hp.1 (i := i) (v := v) (by rw [hk]; exact okV.ml hv)
  rw [List.map_cons, List.map_cons, List.map_cons, own_ne hs (by omega) (by omega)]
  refine va_last hx hb hK hP hD hS (a - 1).toNat 1 hg rfl (o32_vin hi hb') hd (fun H1 locs1 hP hD hS => kk H1 locs1 ?_ hok)
  have e3 : (wld cA adr s).set (a - 1).toNat (adr a, .inl (cA 1, ((s.2.1 a).2.toNat, .inr (.inl (vp_updL (fun j => Int64.ofInt (s.2.2 a (j : Int))) (Int32.ofInt i).toNatClampNeg (Int64.ofInt v)))))) = wld cA adr (s.1, s.2.1, up s.2.2 a i v) := by
    rw [← wld_set (up s.2.2 a i v) hp.1 up_off, cE_long hl, fn_up Int64.ofInt hin.1, o32_cl hi]
    rfl
  rw [e3] at hP hD
  exact ⟨hP, hD, hS⟩
end MEM
