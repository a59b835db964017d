/-! Straight steps, one by one -/
theorem fit_ok {ty : FieldType} {adr : Int → Nat} {k : Nat} {v : Int} (ht : tyc ty k = true) (hb : k = 3 → bit01 v = true) : narrow ty (cV adr ((if k = 3 then 0 else k), v)) = cV adr ((if k = 3 then 0 else k), v) ∧ fits ty (cV adr ((if k = 3 then 0 else k), v)) = true := by
  unfold tyc at ht
  split at ht
  · exact ⟨rfl, rfl⟩
  · exact ⟨rfl, rfl⟩
  · have := hb rfl
    simp only [bit01, Bool.or_eq_true, decide_eq_true_eq] at this
    rcases this with rfl | rfl
    · show narrow .boolean (.int 0) = .int 0 ∧ fits .boolean (.int 0) = true
      decide
    · show narrow .boolean (.int 1) = .int 1 ∧ fits .boolean (.int 1) = true
      decide
  · have e : cV adr ((if 2 = 3 then 0 else 2), v) = va_rf (cR adr v) := rfl
    rw [e]
    unfold cR
    split <;> exact ⟨rfl, rfl⟩
  · have e : cV adr ((if 2 = 3 then 0 else 2), v) = va_rf (cR adr v) := rfl
    rw [e]
    unfold cR
    split <;> exact ⟨rfl, rfl⟩
  · cases ht
/-- locals, stack and heap are as the numbers say -/
def Lok (adr : Int → Nat) (L : Lay) (nL : Nat) (lo : Lcs) (ls : Array Slot) : Prop := lo.length = nL ∧ lv_has ls nL (cLo adr lo) ∧ ∀ (i : Nat) (v : Vv), lo[i]? = some (some v) → okV L v
def Sok (L : Lay) (st : List Vv) : Prop := ∀ v ∈ st, okV L v
def Hok (G : va_G) (cA : Nat → ClassId) (A : Nat → Prop) (adr : Int → Nat) (s : Stt) (H0 H : Heap) (locs : List Loc) : Prop := va_P G cls0 (wld cA adr s) H ∧ va_D A (wld cA adr s) ∧ va_S A H0 H locs
def tysA (cA : Nat → ClassId) : List (ClassId × FieldType) := [(cA 0, .int), (cA 1, .long), (cA 2, .boolean), (cA 3, .object "MarkGuards$Kind"), (cA 4, .object "MarkGuards$Run")]
theorem Sok.tl {L : Lay} {v : Vv} {st : List Vv} (h : Sok L (v :: st)) : Sok L st := fun w hw => h w (List.mem_cons_of_mem _ hw)
theorem Sok.hd {L : Lay} {v : Vv} {st : List Vv} (h : Sok L (v :: st)) : okV L v := h v List.mem_cons_self
theorem Sok.cons {L : Lay} {v : Vv} {st : List Vv} (h : okV L v) (h2 : Sok L st) : Sok L (v :: st) := fun w hw => (List.mem_cons.mp hw).elim (fun e => e ▸ h) (h2 w)
theorem okV.i {L : Lay} {z : Int} (h : okV L (0, z)) : in32 z := by
  rcases h with h | h | h
  · exact h.2
  · exact absurd h.1 (by simp)
  · exact absurd h.1 (by simp)
theorem okV.l {L : Lay} {z : Int} (h : okV L (1, z)) : in64 z := by
  rcases h with h | h | h
  · exact absurd h.1 (by simp)
  · exact h.2
  · exact absurd h.1 (by simp)
theorem okV.r {L : Lay} {z : Int} (h : okV L (2, z)) : z = 0 ∨ (L z).1 ≠ -1 := by
  rcases h with h | h | h
  · exact absurd h.1 (by simp)
  · exact absurd h.1 (by simp)
  · exact h.2
theorem okV.mi {L : Lay} {z : Int} (h : in32 z) : okV L (0, z) := Or.inl ⟨rfl, h⟩
theorem okV.ml {L : Lay} {z : Int} (h : in64 z) : okV L (1, z) := Or.inr (Or.inl ⟨rfl, h⟩)
theorem okV.mr {L : Lay} {z : Int} (h : z = 0 ∨ (L z).1 ≠ -1) : okV L (2, z) := Or.inr (Or.inr ⟨rfl, h⟩)
theorem cV_ref {adr : Int → Nat} {a : Int} (h : a ≠ 0) : cV adr (2, a) = .ref (adr a) := by
  show va_rf (cR adr a) = _
  simp [cR, h, va_rf]
theorem Lok.set {adr : Int → Nat} {L : Lay} {nL : Nat} {lo : Lcs} {ls ls' : Array Slot} {i : Int} {v : Vv} (h : Lok adr L nL lo ls) (hv : okV L v) (hl : lv_has ls' nL (cLo adr (lset lo i v))) : Lok adr L nL (lset lo i v) ls' := by
  refine ⟨by rw [lset_len]; exact h.1, hl, fun j w hw => ?_⟩
  rcases lset_sub hw with ⟨-, rfl⟩ | ⟨-, q, -⟩
  · exact hv
  · exact h.2.2 j w q
theorem Lok.kil {adr : Int → Nat} {L : Lay} {nL : Nat} {lo : Lcs} {ls : Array Slot} (h : Lok adr L nL lo ls) (ks : List Nat) : Lok adr L nL (kil ks lo) ls := by
  refine ⟨by rw [kil_len]; exact h.1, lv_mono h.2.1 ?_, fun j w hw => h.2.2 j w (kil_sub ks lo j w hw)⟩
  intro q hq
  obtain ⟨v, h1, h2⟩ := cLo_mem.mp hq
  exact cLo_mem.mpr ⟨v, kil_sub ks lo _ _ h1, h2⟩
theorem set_mono1 {adr : Int → Nat} {lo : Lcs} {i : Int} {v : Vv} (h1 : v.1 ≠ 1) : ∀ q ∈ cLo adr (lset lo i v), q ∈ (i.toNat, cV adr v) :: (cLo adr lo).filter (fun q => !(q.1 == i.toNat) && !(q.1 + 1 == i.toNat && q.2.category == 2)) := by
  intro q hq
  obtain ⟨w, hw, e⟩ := cLo_mem.mp hq
  rcases lset_sub hw with ⟨e1, rfl⟩ | ⟨n1, hl, hc, -⟩
  · refine List.mem_cons.mpr (Or.inl ?_)
    rw [← e1, ← e]
  · refine List.mem_cons_of_mem _ (List.mem_filter.mpr ⟨cLo_mem.mpr ⟨w, hl, e⟩, ?_⟩)
    rw [e, cV_cat]
    simp only [Bool.and_eq_true, Bool.not_eq_true', beq_eq_false_iff_ne, ne_eq, Bool.and_eq_false_imp, beq_iff_eq]
    refine ⟨n1, fun h => ?_⟩
    have := hc h
    unfold cat
    rw [if_neg this]
    decide
theorem set_mono2 {adr : Int → Nat} {lo : Lcs} {i : Int} {v : Vv} (h1 : v.1 = 1) : ∀ q ∈ cLo adr (lset lo i v), q ∈ (i.toNat, cV adr v) :: (cLo adr lo).filter (fun q => !(q.1 == i.toNat) && (!(q.1 == i.toNat + 1) && !(q.1 + 1 == i.toNat && q.2.category == 2))) := by
  intro q hq
  obtain ⟨w, hw, e⟩ := cLo_mem.mp hq
  rcases lset_sub hw with ⟨e1, rfl⟩ | ⟨n1, hl, hc, h3⟩
  · refine List.mem_cons.mpr (Or.inl ?_)
    rw [← e1, ← e]
  · refine List.mem_cons_of_mem _ (List.mem_filter.mpr ⟨cLo_mem.mpr ⟨w, hl, e⟩, ?_⟩)
    rw [e, cV_cat]
    simp only [Bool.and_eq_true, Bool.not_eq_true', beq_eq_false_iff_ne, ne_eq, Bool.and_eq_false_imp, beq_iff_eq]
    refine ⟨n1, h3 h1, fun h => ?_⟩
    have := hc h
    unfold cat
    rw [if_neg this]
    decide
section STR
variable {p : Program} {l : Launch} {e : Env} {R : Room} {s0 : State} {m : MethodId} {args : Array Value} {below : List Frame} {meth : Method} {c : Code} {Q : State → Prop} {H : Heap} {locs : List Loc} {cells slots : Nat} {ls : Array Slot} {cc : ByteArray} {pc nL : Nat}
variable {G : va_G} {cA : Nat → ClassId} {A : Nat → Prop} {adr : Int → Nat} {L : Lay} {lo : Lcs} {st : List Vv} {s : Stt}
theorem sn_load0n (hx : p.tables.exec = Jvm.exec) (hb : c.code = cc) {i : Int} {z : Int} (hi : 0 ≤ i) (hi4 : i < 4) (hd : decode cc pc = .ok (.iload_n (Fin.ofNat 4 i.toNat), 1)) (hl : Lok adr L nL lo ls) (hg : lget lo i = some (0, z))
    (k : W p l e R s0 m args below meth c H locs cells slots Q (F0 m (pc + 1) ls (((0, z) :: st).map (cV adr)))) : W p l e R s0 m args below meth c H locs cells slots Q (F0 m pc ls (st.map (cV adr))) :=
  lv_iload_n hx hb hd (show (Fin.ofNat 4 i.toNat).val = i.toNat from Nat.mod_eq_of_lt (by omega)) (hl.2.1.2.2 (i.toNat, cV adr (0, z)) (cLo_mem.mpr ⟨_, lget_some hg, rfl⟩)) k
theorem sn_load0 (hx : p.tables.exec = Jvm.exec) (hb : c.code = cc) {i : Int} {z : Int} (hd : decode cc pc = .ok (.iload i.toNat, 2)) (hl : Lok adr L nL lo ls) (hg : lget lo i = some (0, z))
    (k : W p l e R s0 m args below meth c H locs cells slots Q (F0 m (pc + 2) ls (((0, z) :: st).map (cV adr)))) : W p l e R s0 m args below meth c H locs cells slots Q (F0 m pc ls (st.map (cV adr))) :=
  lv_iload hx hb hd (hl.2.1.2.2 (i.toNat, cV adr (0, z)) (cLo_mem.mpr ⟨_, lget_some hg, rfl⟩)) k
theorem sn_load1n (hx : p.tables.exec = Jvm.exec) (hb : c.code = cc) {i : Int} {z : Int} (hi : 0 ≤ i) (hi4 : i < 4) (hd : decode cc pc = .ok (.lload_n (Fin.ofNat 4 i.toNat), 1)) (hl : Lok adr L nL lo ls) (hg : lget lo i = some (1, z))
    (k : W p l e R s0 m args below meth c H locs cells slots Q (F0 m (pc + 1) ls (((1, z) :: st).map (cV adr)))) : W p l e R s0 m args below meth c H locs cells slots Q (F0 m pc ls (st.map (cV adr))) :=
  lv_lload_n hx hb hd (show (Fin.ofNat 4 i.toNat).val = i.toNat from Nat.mod_eq_of_lt (by omega)) (hl.2.1.2.2 (i.toNat, cV adr (1, z)) (cLo_mem.mpr ⟨_, lget_some hg, rfl⟩)) k
theorem sn_load1 (hx : p.tables.exec = Jvm.exec) (hb : c.code = cc) {i : Int} {z : Int} (hd : decode cc pc = .ok (.lload i.toNat, 2)) (hl : Lok adr L nL lo ls) (hg : lget lo i = some (1, z))
    (k : W p l e R s0 m args below meth c H locs cells slots Q (F0 m (pc + 2) ls (((1, z) :: st).map (cV adr)))) : W p l e R s0 m args below meth c H locs cells slots Q (F0 m pc ls (st.map (cV adr))) :=
  lv_lload hx hb hd (hl.2.1.2.2 (i.toNat, cV adr (1, z)) (cLo_mem.mpr ⟨_, lget_some hg, rfl⟩)) k
theorem sn_load2n (hx : p.tables.exec = Jvm.exec) (hb : c.code = cc) {i : Int} {z : Int} (hi : 0 ≤ i) (hi4 : i < 4) (hd : decode cc pc = .ok (.aload_n (Fin.ofNat 4 i.toNat), 1)) (hl : Lok adr L nL lo ls) (hg : lget lo i = some (2, z))
    (k : W p l e R s0 m args below meth c H locs cells slots Q (F0 m (pc + 1) ls (((2, z) :: st).map (cV adr)))) : W p l e R s0 m args below meth c H locs cells slots Q (F0 m pc ls (st.map (cV adr))) := by
  have e1 : (Fin.ofNat 4 i.toNat).val = i.toNat := Nat.mod_eq_of_lt (by omega)
  have e2 := hl.2.1.2.2 (i.toNat, cV adr (2, z)) (cLo_mem.mpr ⟨_, lget_some hg, rfl⟩)
  by_cases hz : z = 0
  · subst hz
    exact lv_aload_nN hx hb hd e1 e2 k
  · simp only [List.map_cons, cV_ref hz] at e2 k ⊢
    exact lv_aload_n hx hb hd e1 e2 k
theorem sn_load2 (hx : p.tables.exec = Jvm.exec) (hb : c.code = cc) {i : Int} {z : Int} (hd : decode cc pc = .ok (.aload i.toNat, 2)) (hl : Lok adr L nL lo ls) (hg : lget lo i = some (2, z))
    (k : W p l e R s0 m args below meth c H locs cells slots Q (F0 m (pc + 2) ls (((2, z) :: st).map (cV adr)))) : W p l e R s0 m args below meth c H locs cells slots Q (F0 m pc ls (st.map (cV adr))) := by
  have e2 := hl.2.1.2.2 (i.toNat, cV adr (2, z)) (cLo_mem.mpr ⟨_, lget_some hg, rfl⟩)
  by_cases hz : z = 0
  · subst hz
    exact lv_aloadN hx hb hd e2 k
  · simp only [List.map_cons, cV_ref hz] at e2 k ⊢
    exact lv_aload hx hb hd e2 k
theorem sn_store0n (hx : p.tables.exec = Jvm.exec) (hb : c.code = cc) {i : Int} {z : Int} (hi : 0 ≤ i) (hi4 : i < 4) (hd : decode cc pc = .ok (.istore_n (Fin.ofNat 4 i.toNat), 1)) (hl : Lok adr L nL lo ls) (hv : okV L (0, z)) (hn : i.toNat < lo.length)
    (k : ∀ ls', Lok adr L nL (lset lo i (0, z)) ls' → W p l e R s0 m args below meth c H locs cells slots Q (F0 m (pc + 1) ls' (st.map (cV adr)))) : W p l e R s0 m args below meth c H locs cells slots Q (F0 m pc ls (((0, z) :: st).map (cV adr))) :=
  lv_istore_n hx hb hd (show (Fin.ofNat 4 i.toNat).val = i.toNat from Nat.mod_eq_of_lt (by omega)) hl.2.1 (by rw [← hl.1]; exact hn) rfl (fun ls' h => k ls' (hl.set hv (lv_mono h (set_mono1 (v := (0, z)) (by simp)))))
theorem sn_store0 (hx : p.tables.exec = Jvm.exec) (hb : c.code = cc) {i : Int} {z : Int} (hd : decode cc pc = .ok (.istore i.toNat, 2)) (hl : Lok adr L nL lo ls) (hv : okV L (0, z)) (hn : i.toNat < lo.length)
    (k : ∀ ls', Lok adr L nL (lset lo i (0, z)) ls' → W p l e R s0 m args below meth c H locs cells slots Q (F0 m (pc + 2) ls' (st.map (cV adr)))) : W p l e R s0 m args below meth c H locs cells slots Q (F0 m pc ls (((0, z) :: st).map (cV adr))) :=
  lv_istore hx hb hd hl.2.1 (by rw [← hl.1]; exact hn) rfl (fun ls' h => k ls' (hl.set hv (lv_mono h (set_mono1 (v := (0, z)) (by simp)))))
theorem sn_store1n (hx : p.tables.exec = Jvm.exec) (hb : c.code = cc) {i : Int} {z : Int} (hi : 0 ≤ i) (hi4 : i < 4) (hd : decode cc pc = .ok (.lstore_n (Fin.ofNat 4 i.toNat), 1)) (hl : Lok adr L nL lo ls) (hv : okV L (1, z)) (hn : i.toNat + 1 < lo.length)
    (k : ∀ ls', Lok adr L nL (lset lo i (1, z)) ls' → W p l e R s0 m args below meth c H locs cells slots Q (F0 m (pc + 1) ls' (st.map (cV adr)))) : W p l e R s0 m args below meth c H locs cells slots Q (F0 m pc ls (((1, z) :: st).map (cV adr))) :=
  lv_lstore_n hx hb hd (show (Fin.ofNat 4 i.toNat).val = i.toNat from Nat.mod_eq_of_lt (by omega)) hl.2.1 (by rw [← hl.1]; exact hn) rfl (fun ls' h => k ls' (hl.set hv (lv_mono h (set_mono2 (v := (1, z)) rfl))))
theorem sn_store1 (hx : p.tables.exec = Jvm.exec) (hb : c.code = cc) {i : Int} {z : Int} (hd : decode cc pc = .ok (.lstore i.toNat, 2)) (hl : Lok adr L nL lo ls) (hv : okV L (1, z)) (hn : i.toNat + 1 < lo.length)
    (k : ∀ ls', Lok adr L nL (lset lo i (1, z)) ls' → W p l e R s0 m args below meth c H locs cells slots Q (F0 m (pc + 2) ls' (st.map (cV adr)))) : W p l e R s0 m args below meth c H locs cells slots Q (F0 m pc ls (((1, z) :: st).map (cV adr))) :=
  lv_lstore hx hb hd hl.2.1 (by rw [← hl.1]; exact hn) rfl (fun ls' h => k ls' (hl.set hv (lv_mono h (set_mono2 (v := (1, z)) rfl))))
theorem sn_store2n (hx : p.tables.exec = Jvm.exec) (hb : c.code = cc) {i : Int} {z : Int} (hi : 0 ≤ i) (hi4 : i < 4) (hd : decode cc pc = .ok (.astore_n (Fin.ofNat 4 i.toNat), 1)) (hl : Lok adr L nL lo ls) (hv : okV L (2, z)) (hn : i.toNat < lo.length)
    (k : ∀ ls', Lok adr L nL (lset lo i (2, z)) ls' → W p l e R s0 m args below meth c H locs cells slots Q (F0 m (pc + 1) ls' (st.map (cV adr)))) : W p l e R s0 m args below meth c H locs cells slots Q (F0 m pc ls (((2, z) :: st).map (cV adr))) := by
  have e1 : (Fin.ofNat 4 i.toNat).val = i.toNat := Nat.mod_eq_of_lt (by omega)
  have hm := set_mono1 (adr := adr) (lo := lo) (i := i) (v := (2, z)) (by simp)
  by_cases hz : z = 0
  · subst hz
    exact lv_astore_nN hx hb hd e1 hl.2.1 (by rw [← hl.1]; exact hn) rfl (fun ls' h => k ls' (hl.set hv (lv_mono h hm)))
  · rw [cV_ref hz] at hm
    simp only [List.map_cons, cV_ref hz]
    exact lv_astore_n hx hb hd e1 hl.2.1 (by rw [← hl.1]; exact hn) rfl (fun ls' h => k ls' (hl.set hv (lv_mono h hm)))
theorem sn_store2 (hx : p.tables.exec = Jvm.exec) (hb : c.code = cc) {i : Int} {z : Int} (hd : decode cc pc = .ok (.astore i.toNat, 2)) (hl : Lok adr L nL lo ls) (hv : okV L (2, z)) (hn : i.toNat < lo.length)
    (k : ∀ ls', Lok adr L nL (lset lo i (2, z)) ls' → W p l e R s0 m args below meth c H locs cells slots Q (F0 m (pc + 2) ls' (st.map (cV adr)))) : W p l e R s0 m args below meth c H locs cells slots Q (F0 m pc ls (((2, z) :: st).map (cV adr))) := by
  have hm := set_mono1 (adr := adr) (lo := lo) (i := i) (v := (2, z)) (by simp)
  by_cases hz : z = 0
  · subst hz
    exact lv_astoreN hx hb hd hl.2.1 (by rw [← hl.1]; exact hn) rfl (fun ls' h => k ls' (hl.set hv (lv_mono h hm)))
  · rw [cV_ref hz] at hm
    simp only [List.map_cons, cV_ref hz]
    exact lv_astore hx hb hd hl.2.1 (by rw [← hl.1]; exact hn) rfl (fun ls' h => k ls' (hl.set hv (lv_mono h hm)))
theorem sn_iinc (hx : p.tables.exec = Jvm.exec) (hb : c.code = cc) {i n : Int} {z : Int} (hd : decode cc pc = .ok (.iinc i.toNat n, 3)) (hl : Lok adr L nL lo ls) (hg : lget lo i = some (0, z))
    (k : ∀ ls', Lok adr L nL (lset lo i (0, w32 (z + n))) ls' → W p l e R s0 m args below meth c H locs cells slots Q (F0 m (pc + 3) ls' (st.map (cV adr)))) : W p l e R s0 m args below meth c H locs cells slots Q (F0 m pc ls (st.map (cV adr))) := by
  have h1 := lget_some hg
  obtain ⟨q, hq⟩ := List.getElem?_of_mem (cLo_mem.mpr ⟨(0, z), h1, rfl⟩ : (i.toNat, cV adr (0, z)) ∈ cLo adr lo)
  refine lv_iinc hx hb hd hl.2.1 hq (v := Int32.ofInt (w32 (z + n))) (by rw [o32_w, Int32.ofInt_add]) (by rw [← hl.1]; exact (List.getElem?_eq_some_iff.mp h1).1) rfl (fun ls' h => k ls' (hl.set (okV.mi (w32_in _)) (lv_mono h (set_mono1 (v := (0, w32 (z + n))) (by simp)))))
end STR
