/-! Steps: what a step makes of a run, apart from class and reference -/
abbrev PSt : Type := (Int → Int) × (Int → Int)
def u1 (f : Int → Int) (i v : Int) : Int → Int := fun j => if j = i then v else f j
theorem u1_at {f : Int → Int} {i v : Int} : u1 f i v i = v := by
  unfold u1
  rw [if_pos rfl]
theorem u1_ne {f : Int → Int} {i v j : Int} (h : ¬ j = i) : u1 f i v j = f j := by
  unfold u1
  rw [if_neg h]
section P85
variable (D : Sto) (nb m : Nat) (sg : Int → Int) (w tb bn : Int)
def dfP (b : Int) : Int := if rbs D m b = -1 then sg b else i_xor (sg (rbs D m b)) (sg b)
def ajP (e : Int) : Int := if cntE (D 137) (D 137 e) m < 2 then 0 else i_xor (sg (rbs D m (D 137 e))) (sg (D 136 e))
def wkP (b : Int) : Int := if w = 2 ∧ b = tb then 0 else D 134 b
def nmP (p : PSt) (b : Int) : Int → Int := fun k => if k = 0 then wkP D w tb b else if k = 1 then p.2 b else if k = 2 then p.1 5 else if k = 3 then b else if k = 4 then cntE (D 136) b m else if k = 5 then p.1 7 else p.1 3
def lwP (rule : Int) (p : PSt) (b : Int) : Option Int := lawV D (nmP D m w tb p b) rule
def ouP (p : PSt) (b : Int) : Int := match lwP D m w tb 0 p b with
  | some v => max 0 (min 999 v)
  | none => wkP D w tb b
def saP (p : PSt) : PSt := (u1 (u1 (u1 p.1 4 0) 5 (sg 0)) 6 0, p.2)
def mkP (p : PSt) (b : Int) : Int := i_xor (i_xor (p.1 5) (dfP D m sg b)) (if 1 < cntE (D 137) b m then p.1 6 else 0)
/-- a block is entered: mark, place, visits -/
def e1P (p : PSt) (b : Int) : PSt := (u1 (u1 p.1 5 (mkP D m sg p b)) 4 b, u1 p.2 b (min (p.2 b + 1) 9999))
/-- the total -/
def e2P (p : PSt) (b : Int) : PSt := (u1 p.1 7 (min (p.1 7 + ouP D m w tb p b) 999999), p.2)
/-- whether there is an alarm -/
def alP (p : PSt) (b : Int) : Bool := (p.1 2).toNat.testBit b.toNat && decide (¬ p.1 5 = sg b)
def enP (p : PSt) (b : Int) : PSt := if alP sg (e2P D m w tb (e1P D m sg p b) b) b = true then saP sg (u1 (e2P D m w tb (e1P D m sg p b) b).1 8 (w32 ((e2P D m w tb (e1P D m sg p b) b).1 8 + 1)), (e2P D m w tb (e1P D m sg p b) b).2) else e2P D m w tb (e1P D m sg p b) b
def nnP (x : Int) : Int := (x * 1103515245 + 12345) % 2147483648
def drP (p : PSt) : PSt := (u1 p.1 11 (nnP (p.1 11)), p.2)
/-- whether there is a jump; the run behind that -/
def juP (p : PSt) : Bool × PSt := if w = 5 then (false, p) else if w = 3 then (true, p) else if bn = 0 ∨ D 131 4 = 0 ∨ D 131 4 = 100 then (decide (50 ≤ D 131 4), p) else (decide (nnP (p.1 11) / 65536 % 100 < D 131 4), drP p)
/-- where it lands -/
def laP (p : PSt) : Int × PSt := match lwP D m w tb 2 p (p.1 4) with
  | some v => (v % nb, p)
  | none => if bn = 0 then ((nb : Int) - 1, p) else (nnP (p.1 11) / 65536 % nb, drP p)
/-- which of the edges -/
def tuP (p : PSt) : Int := if w = 4 then 0 else match lwP D m w tb 1 p (p.1 4) with
  | some v => v % cntE (D 136) (p.1 4) m
  | none => p.2 (p.1 4) % cntE (D 136) (p.1 4) m
def moP (p : PSt) : PSt := if cntE (D 136) (p.1 4) m = 0 then saP sg (u1 p.1 10 (w32 (p.1 10 + 1)), p.2) else
  let e := nthE (D 136) (fun z => z) (p.1 4) m m (tuP D m w tb p)
  let p1 : PSt := (u1 p.1 6 (ajP D m sg e), p.2)
  let j := juP D w bn p1
  if j.1 = true then
    let l := laP D nb m w tb bn (u1 j.2.1 9 (w32 (j.2.1 9 + 1)), j.2.2)
    enP D m sg w tb l.2 l.1
  else enP D m sg w tb j.2 (D 137 e)
def stP (p : PSt) : PSt := if nb = 0 then (u1 p.1 3 (w32 (p.1 3 + 1)), p.2) else (u1 (moP D nb m sg w tb bn p).1 3 (w32 ((moP D nb m sg w tb bn p).1 3 + 1)), (moP D nb m sg w tb bn p).2)
def itP : Nat → PSt → PSt
  | 0, p => p
  | k + 1, p => itP k (stP D nb m sg w tb bn p)
end P85
theorem itP_s (D : Sto) (nb m : Nat) (sg : Int → Int) (w tb bn : Int) : ∀ k p, itP D nb m sg w tb bn (k + 1) p = stP D nb m sg w tb bn (itP D nb m sg w tb bn k p) := by
  intro k
  induction k with
  | zero => intro p; rfl
  | succ k ih =>
    intro p
    show itP D nb m sg w tb bn (k + 1) (stP D nb m sg w tb bn p) = _
    rw [ih]
    rfl
/-- what stays so from step to step -/
def PI (nb : Nat) (p : PSt) : Prop := (0 ≤ p.1 2 ∧ p.1 2 < 256) ∧ (0 ≤ p.1 3 ∧ p.1 3 ≤ 1000000) ∧ (0 ≤ p.1 4 ∧ p.1 4 < nb) ∧ (0 ≤ p.1 5 ∧ p.1 5 < 256) ∧ (0 ≤ p.1 6 ∧ p.1 6 < 256) ∧ (0 ≤ p.1 7 ∧ p.1 7 ≤ 999999) ∧ (in32 (p.1 8) ∧ in32 (p.1 9) ∧ in32 (p.1 10)) ∧ (0 ≤ p.1 11 ∧ p.1 11 < 2147483648) ∧ (∀ b : Nat, b < nb → 0 ≤ p.2 b ∧ p.2 b ≤ 9999)
/-- the signs of a run, what a step reads -/
def EV (D : Sto) (nb m : Nat) (sg : Int → Int) : Prop := (RG D nb m ∧ LE D) ∧ (∀ b : Nat, b < nb → 0 ≤ sg b ∧ sg b < 256) ∧ (∀ b : Nat, b < nb → -1 ≤ rbs D m b ∧ rbs D m b < nb ∧ (0 < cntE (D 137) b m → 0 ≤ rbs D m b)) ∧ (∀ b : Nat, b < nb → cntE (D 136) b m ≤ 3 ∧ 0 ≤ D 134 b ∧ D 134 b ≤ 99) ∧ (0 ≤ D 131 4 ∧ D 131 4 ≤ 100)
theorem w32_inP (z : Int) : in32 (w32 z) := by
  unfold in32 w32
  omega
section Q85
variable {D : Sto} {nb m : Nat} {sg : Int → Int} {w tb bn : Int} {p : PSt}
theorem sg_i (E : EV D nb m sg) {b : Int} (h0 : 0 ≤ b) (h1 : b < nb) : 0 ≤ sg b ∧ sg b < 256 := by
  have := E.2.1 b.toNat (by omega)
  rw [Int.toNat_of_nonneg h0] at this
  exact this
theorem dfP_l (E : EV D nb m sg) {b : Int} (h0 : 0 ≤ b) (h1 : b < nb) : 0 ≤ dfP D m sg b ∧ dfP D m sg b < 256 := by
  have r := E.2.2.1 b.toNat (by omega)
  rw [Int.toNat_of_nonneg h0] at r
  unfold dfP
  split
  · exact sg_i E h0 h1
  · exact xr256 (sg_i E (by omega) (by omega)) (sg_i E h0 h1)
theorem ajP_l (E : EV D nb m sg) {e : Nat} (he : e < m) : 0 ≤ ajP D m sg e ∧ ajP D m sg e < 256 := by
  obtain ⟨f1, f2⟩ := E.1.1.2.2.2.2 e he
  have hp := cnt_pos (f := D 137) (v := D 137 e) (k := e) m he rfl
  have r := E.2.2.1 (D 137 e).toNat (by omega)
  rw [Int.toNat_of_nonneg f2.1] at r
  unfold ajP
  split
  · omega
  · exact xr256 (sg_i E (r.2.2 hp) r.2.1) (sg_i E f1.1 f1.2)
theorem wkP_l (E : EV D nb m sg) {b : Int} (h0 : 0 ≤ b) (h1 : b < nb) : 0 ≤ wkP D w tb b ∧ wkP D w tb b ≤ 99 := by
  have r := (E.2.2.2.1 b.toNat (by omega)).2
  rw [Int.toNat_of_nonneg h0] at r
  unfold wkP
  split
  · omega
  · exact r
theorem nmP_l (E : EV D nb m sg) (P : PI nb p) {b : Int} (h0 : 0 ≤ b) (h1 : b < nb) : ∀ k : Int, inL (nmP D m w tb p b k) := by
  have h8 := E.1.1.2.1
  have h16 := E.1.1.2.2.2.1
  have hw := wkP_l (w := w) (tb := tb) E h0 h1
  have hc := cntE_b (D 136) b m
  obtain ⟨p1, p2, p3, p4, p5, p6, p7, p8', p9⟩ := P
  have hv := p9 b.toNat (by omega)
  rw [Int.toNat_of_nonneg h0] at hv
  intro k
  unfold nmP inL
  (repeat' split) <;> omega
theorem ouP_l (E : EV D nb m sg) {b : Int} (h0 : 0 ≤ b) (h1 : b < nb) : 0 ≤ ouP D m w tb p b ∧ ouP D m w tb p b ≤ 999 := by
  have hw := wkP_l (w := w) (tb := tb) E h0 h1
  unfold ouP
  split <;> omega
theorem saP_I (E : EV D nb m sg) (P : PI nb p) : PI nb (saP sg p) := by
  obtain ⟨p1, p2, p3, p4, p5, p6, p7, p8', p9⟩ := P
  have s0 := sg_i E (b := 0) (by omega) (by omega)
  exact ⟨p1, p2, ⟨by show (0 : Int) ≤ 0; omega, by show (0 : Int) < nb; omega⟩, s0, ⟨by show (0 : Int) ≤ 0; omega, by show (0 : Int) < 256; omega⟩, p6, p7, p8', p9⟩
theorem e1P_I (E : EV D nb m sg) (P : PI nb p) {b : Int} (h0 : 0 ≤ b) (h1 : b < nb) : PI nb (e1P D m sg p b) := by
  obtain ⟨p1, p2, p3, p4, p5, p6, p7, p8', p9⟩ := P
  have hm : 0 ≤ mkP D m sg p b ∧ mkP D m sg p b < 256 := by
    unfold mkP
    apply xr256 (xr256 p4 (dfP_l E h0 h1))
    split
    · exact p5
    · omega
  refine ⟨p1, p2, ⟨h0, h1⟩, hm, p5, p6, p7, p8', fun c hc => ?_⟩
  show 0 ≤ u1 p.2 b (min (p.2 b + 1) 9999) c ∧ u1 p.2 b (min (p.2 b + 1) 9999) c ≤ 9999
  by_cases q : (c : Int) = b
  · have := p9 c hc
    rw [q] at this ⊢
    rw [u1_at]
    omega
  · rw [u1_ne q]
    exact p9 c hc
theorem e2P_I (E : EV D nb m sg) (P : PI nb p) {b : Int} (h0 : 0 ≤ b) (h1 : b < nb) : PI nb (e2P D m w tb p b) := by
  have ho := ouP_l (w := w) (tb := tb) (p := p) E h0 h1
  obtain ⟨p1, p2, p3, p4, p5, p6, p7, p8', p9⟩ := P
  refine ⟨p1, p2, p3, p4, p5, ?_, p7, p8', p9⟩
  show 0 ≤ min (p.1 7 + ouP D m w tb p b) 999999 ∧ min (p.1 7 + ouP D m w tb p b) 999999 ≤ 999999
  omega
theorem enP_I (E : EV D nb m sg) (P : PI nb p) {b : Int} (h0 : 0 ≤ b) (h1 : b < nb) : PI nb (enP D m sg w tb p b) := by
  have P2 := e2P_I (w := w) (tb := tb) E (e1P_I E P h0 h1) h0 h1
  unfold enP
  split
  · apply saP_I E
    generalize e2P D m w tb (e1P D m sg p b) b = q at P2 ⊢
    obtain ⟨p1, p2, p3, p4, p5, p6, p7, p8', p9⟩ := P2
    exact ⟨p1, p2, p3, p4, p5, p6, ⟨w32_inP _, p7.2⟩, p8', p9⟩
  · exact P2
theorem nnP_l (x : Int) : 0 ≤ nnP x ∧ nnP x < 2147483648 := by
  unfold nnP
  omega
theorem drP_I (P : PI nb p) : PI nb (drP p) := by
  obtain ⟨p1, p2, p3, p4, p5, p6, p7, p8', p9⟩ := P
  exact ⟨p1, p2, p3, p4, p5, p6, p7, nnP_l _, p9⟩
theorem juP_I (P : PI nb p) : PI nb (juP D w bn p).2 := by
  unfold juP
  split
  · exact P
  · split
    · exact P
    · split
      · exact P
      · exact drP_I P
theorem laP_I (P : PI nb p) : PI nb (laP D nb m w tb bn p).2 ∧ 0 ≤ (laP D nb m w tb bn p).1 ∧ (laP D nb m w tb bn p).1 < nb := by
  have hn : 0 < (nb : Int) := by
    obtain ⟨_, _, p3, _⟩ := P
    omega
  unfold laP
  cases lwP D m w tb 2 p (p.1 4) with
  | some v => exact ⟨P, Int.emod_nonneg _ (by omega), Int.emod_lt_of_pos _ hn⟩
  | none =>
    show PI nb (if bn = 0 then ((nb : Int) - 1, p) else (nnP (p.1 11) / 65536 % nb, drP p)).2 ∧ _
    split
    · exact ⟨P, by show 0 ≤ (nb : Int) - 1; omega, by show (nb : Int) - 1 < nb; omega⟩
    · exact ⟨drP_I P, Int.emod_nonneg _ (by omega), Int.emod_lt_of_pos _ hn⟩
theorem tuP_l (h : 0 < cntE (D 136) (p.1 4) m) : 0 ≤ tuP D m w tb p ∧ tuP D m w tb p < cntE (D 136) (p.1 4) m := by
  unfold tuP
  split
  · omega
  · split
    · exact ⟨Int.emod_nonneg _ (by omega), Int.emod_lt_of_pos _ h⟩
    · exact ⟨Int.emod_nonneg _ (by omega), Int.emod_lt_of_pos _ h⟩
theorem moP_I (E : EV D nb m sg) (P : PI nb p) : PI nb (moP D nb m sg w tb bn p) := by
  have hc := cntE_b (D 136) (p.1 4) m
  unfold moP
  by_cases z : cntE (D 136) (p.1 4) m = 0
  · rw [if_pos z]
    apply saP_I E
    obtain ⟨p1, p2, p3, p4, p5, p6, p7, p8', p9⟩ := P
    exact ⟨p1, p2, p3, p4, p5, p6, ⟨p7.1, p7.2.1, w32_inP _⟩, p8', p9⟩
  · rw [if_neg z]
    have ht := tuP_l (D := D) (m := m) (w := w) (tb := tb) (p := p) (by omega)
    obtain ⟨e, e1, e2, e3⟩ := nth_ok (f := D 136) (g := fun z => z) (v := p.1 4) (m := m) ht.1 ht.2
    have e3' : nthE (D 136) (fun z => z) (p.1 4) m m (tuP D m w tb p) = e := e3
    show PI nb (if (juP D w bn (u1 p.1 6 (ajP D m sg (nthE (D 136) (fun z => z) (p.1 4) m m (tuP D m w tb p))), p.2)).1 = true then _ else _)
    rw [e3']
    have P1 : PI nb (u1 p.1 6 (ajP D m sg e), p.2) := by
      obtain ⟨p1, p2, p3, p4, p5, p6, p7, p8', p9⟩ := P
      exact ⟨p1, p2, p3, p4, ajP_l E e1, p6, p7, p8', p9⟩
    have P2 := juP_I (D := D) (w := w) (bn := bn) P1
    have ft := (E.1.1.2.2.2.2 e e1).2
    generalize juP D w bn (u1 p.1 6 (ajP D m sg e), p.2) = j at P2 ⊢
    split
    · have P3 : PI nb (u1 j.2.1 9 (w32 (j.2.1 9 + 1)), j.2.2) := by
        obtain ⟨p1, p2, p3, p4, p5, p6, p7, p8', p9⟩ := P2
        exact ⟨p1, p2, p3, p4, p5, p6, ⟨p7.1, w32_inP _, p7.2.2⟩, p8', p9⟩
      have P4 := laP_I (D := D) (m := m) (w := w) (tb := tb) (bn := bn) P3
      exact enP_I E P4.1 P4.2.1 P4.2.2
    · exact enP_I E P2 ft.1 ft.2
end Q85
theorem evR_ex {KS KV nm nn : Int → Int} {s : Int} : ∀ i, (∀ j : Nat, j < i → KS (s + j) = 1 → 0 ≤ KV (s + j) ∧ KV (s + j) ≤ 6) → (∀ k : Nat, k < 7 → nm k = nn k) → evR KS KV nm s i = evR KS KV nn s i := by
  intro i
  induction i with
  | zero => intro _ _; rfl
  | succ i ih =>
    intro h1 h2
    unfold evR
    rw [ih (fun j hj => h1 j (by omega)) h2]
    congr 1
    funext st
    unfold evK
    by_cases c : KS (s + i) = 1
    · have t := h1 i (by omega) c
      have e := h2 (KV (s + i)).toNat (by omega)
      rw [Int.toNat_of_nonneg t.1] at e
      rw [e]
    · by_cases c0 : KS (s + i) = 0
      · rw [if_pos c0, if_pos c0]
      · rw [if_neg c0, if_neg c0, if_neg c, if_neg c]
theorem lawV_ex {D : Sto} {nm nn : Int → Int} {k : Nat} (L : LE1 D k) (h : ∀ j : Nat, j < 7 → nm j = nn j) : lawV D nm k = lawV D nn k := by
  unfold lawV
  by_cases q : D 138 k < D 139 k
  · rw [if_pos q, if_pos q, evR_ex _ (fun j hj hs => ?_) h]
    obtain ⟨_, ⟨l3, l4, l5⟩, l6, _⟩ := L
    have kn := l6 (D 138 k + j).toNat (by omega) (by omega)
    rw [Int.toNat_of_nonneg (by omega)] at kn
    obtain ⟨n1, _⟩ | ⟨n1, n2, n3, n4⟩ | ⟨n1, _⟩ := kn
    · omega
    · exact ⟨n3, n4⟩
    · omega
  · rw [if_neg q, if_neg q]
theorem LE_k {D : Sto} (L : LE D) {k : Nat} (hk : k ≤ 2) : LE1 D k := by
  have : k = 0 ∨ k = 1 ∨ k = 2 := by omega
  obtain h | h | h := this
  · rw [h]; exact L.1
  · rw [h]; exact L.2.1
  · rw [h]; exact L.2.2
theorem lawV_l {D : Sto} {nm : Int → Int} {k : Nat} {v : Int} (L : LE1 D k) (h : ∀ j : Nat, j < 7 → inL (nm j)) (hv : lawV D nm k = some v) : inL v := by
  unfold lawV at hv
  by_cases q : D 138 k < D 139 k
  · rw [if_pos q] at hv
    obtain ⟨_, ⟨l3, l4, l5⟩, l6, _⟩ := L
    have key : ∀ i : Nat, D 138 k + i ≤ D 139 k → ∀ st, evR (D 140) (D 141) nm (D 138 k) i = some st → ∀ x, x ∈ st → inL x := by
      intro i
      induction i with
      | zero =>
        intro _ st h1 x hx
        unfold evR at h1
        injection h1 with h1
        rw [← h1] at hx
        cases hx
      | succ i ih =>
        intro hi st h1 x hx
        unfold evR at h1
        cases h2 : evR (D 140) (D 141) nm (D 138 k) i with
        | none => rw [h2] at h1; cases h1
        | some su =>
          rw [h2] at h1
          have ihs := ih (by omega) su h2
          have kn := l6 (D 138 k + i).toNat (by omega) (by omega)
          rw [Int.toNat_of_nonneg (by omega)] at kn
          have h1' : evK (D 140 (D 138 k + i)) (D 141 (D 138 k + i)) nm su = some st := h1
          unfold evK at h1'
          obtain ⟨n1, n2, n3, n4, n5⟩ | ⟨n1, n2, n3, n4⟩ | ⟨n1, n2⟩ := kn
          · rw [if_pos n1] at h1'
            injection h1' with h1'
            rw [← h1'] at hx
            obtain hx | hx := List.mem_cons.mp hx
            · rw [hx]; constructor <;> omega
            · exact ihs x hx
          · rw [if_neg (by omega), if_pos n1] at h1'
            injection h1' with h1'
            rw [← h1'] at hx
            obtain hx | hx := List.mem_cons.mp hx
            · have := h (D 141 (D 138 k + i)).toNat (by omega)
              rw [Int.toNat_of_nonneg n3] at this
              rw [hx]; exact this
            · exact ihs x hx
          · rw [if_neg (by omega), if_neg (by omega)] at h1'
            by_cases c : D 141 (D 138 k + i) = 260
            · rw [if_pos c] at h1'
              cases su with
              | nil => cases h1'
              | cons y r =>
                have h1'' : some (bB (y = 0) :: r) = some st := h1'
                injection h1'' with h1''
                rw [← h1''] at hx
                obtain hx | hx := List.mem_cons.mp hx
                · have := bB_01 (y = 0)
                  rw [hx]; constructor <;> omega
                · exact ihs x (List.mem_cons_of_mem _ hx)
            · rw [if_neg c] at h1'
              cases su with
              | nil => cases h1'
              | cons y r =>
                cases r with
                | nil => cases h1'
                | cons z r =>
                  have h1'' : (opV (D 141 (D 138 k + i)) z y).map (fun v => v :: r) = some st := h1'
                  cases ho : opV (D 141 (D 138 k + i)) z y with
                  | none => rw [ho] at h1''; cases h1''
                  | some u =>
                    rw [ho] at h1''
                    have h1a : some (u :: r) = some st := h1''
                    injection h1a with h1a
                    rw [← h1a] at hx
                    obtain hx | hx := List.mem_cons.mp hx
                    · rw [hx]
                      exact op_l (ihs z (List.mem_cons_of_mem _ (List.mem_cons_self))) (ihs y (List.mem_cons_self)) ho
                    · exact ihs x (List.mem_cons_of_mem _ (List.mem_cons_of_mem _ hx))
    cases h2 : evR (D 140) (D 141) nm (D 138 k) (D 139 k - D 138 k).toNat with
    | none => rw [h2] at hv; cases hv
    | some su =>
      rw [h2] at hv
      cases su with
      | nil => cases hv
      | cons y r =>
        have hv' : some y = some v := hv
        injection hv' with hv'
        rw [← hv']
        exact key _ (by omega) _ h2 y (List.mem_cons_self)
  · rw [if_neg q] at hv; cases hv
