/-! Steps: the class's run at 49 -/
section S87b
variable {xs : Int → Int} {n : Int × Int} {D G : Sto} {nb m : Nat} {sg : Int → Int} {w tb bn : Int} {p : PSt}
theorem k135b (d : Nat) (rule b : Int) (hr : 0 ≤ rule ∧ rule ≤ 2) (h : ofR 49 G D) (C : CE D nb m sg 49) (W : WF D w tb bn) (hp : CR G 49 nb p) (P : PI nb p) (h0 : 0 ≤ b) (h1 : b < nb) : ∃ G', ofL G' G ∧ den (d + 6) 135 [(2, 52), (0, rule), (2, 49), (0, b)] (Sg xs n G) = some ((1, ovI (lwP D m w tb rule p b)), Sg xs n G') := by
  have h8 := C.1.1.2.1
  have er : (rule.toNat : Int) = rule := Int.toNat_of_nonneg hr.1
  have t33 := (C.2.2.1 b.toNat (by omega)).1.1
  have tv := hp.2 b.toNat (by omega)
  rw [Int.toNat_of_nonneg h0] at t33 tv
  have tv' : G 51 b = p.2 b := tv
  have N : nm7 G (wkP D w tb b) (G 51 b) (G 49 5) b (G 33 b) (G 49 7) (G 49 3) = nm7 G (wkP D w tb b) (p.2 b) (p.1 5) b (cntE (D 136) b m) (p.1 7) (p.1 3) := by
    rw [tv', hp.1 5 (by omega) (by omega), hp.1 7 (by omega) (by omega), hp.1 3 (by omega) (by omega), ofR_z h (by omega) 33 (by omega), t33]
  have at7 := nm7_at (G := G) (a0 := wkP D w tb b) (a1 := p.2 b) (a2 := p.1 5) (a3 := b) (a4 := cntE (D 136) b m) (a5 := p.1 7) (a6 := p.1 3)
  have ne7 : ∀ z j : Int, ¬ z = 53 → nm7 G (wkP D w tb b) (p.2 b) (p.1 5) b (cntE (D 136) b m) (p.1 7) (p.1 3) z j = G z j := fun z j hz => nm7_ne hz
  generalize hG1 : nm7 G (wkP D w tb b) (p.2 b) (p.1 5) b (cntE (D 136) b m) (p.1 7) (p.1 3) = G1 at N at7 ne7
  have nmj : ∀ j : Nat, j < 7 → G1 53 j = nmP D m w tb p b j := by
    intro j hj
    have : j = 0 ∨ j = 1 ∨ j = 2 ∨ j = 3 ∨ j = 4 ∨ j = 5 ∨ j = 6 := by omega
    obtain q | q | q | q | q | q | q := this
    · rw [q]; exact at7.1
    · rw [q]; exact at7.2.1
    · rw [q]; exact at7.2.2.1
    · rw [q]; exact at7.2.2.2.1
    · rw [q]; exact at7.2.2.2.2.1
    · rw [q]; exact at7.2.2.2.2.2.1
    · rw [q]; exact at7.2.2.2.2.2.2
  have fz : ∀ z : Int, (41 ≤ z ∧ z ≤ 44) ∨ (138 ≤ z ∧ z ≤ 141) → G1 z = D z := fun z hz => funext (fun j => by rw [ne7 z j (by omega), ofR_z h (by omega) z (by omega)])
  have EVD := C.2.2.2.2.2
  have nml := nmP_l (w := w) (tb := tb) EVD P h0 h1
  obtain ⟨G', a1, a2⟩ := c42 (xs := xs) (n := n) (D := G1) d rule (LE_D fz EVD.1.2) (fun j hj => by rw [nmj j hj]; exact nml j)
  rw [if_pos hr, lawV_D (D := D) ⟨fz 138 (by omega), fz 139 (by omega), fz 140 (by omega), fz 141 (by omega)⟩] at a2
  have ex := lawV_ex (k := rule.toNat) (LE_k EVD.1.2 (by omega)) nmj
  rw [er] at ex
  rw [ex] at a2
  refine ⟨G', fun z j x1 x2 x3 => (a1 z j x2 x3).trans (ne7 z j x1), ?_⟩
  rw [n135b, h135b_0, k134 (d + 4) b h (by omega) W C h0 h1, cK0, pR0, h135b_15, if_pos (by rfl), inb_t h0 (show b < 8 by omega), if_pos rfl, if_pos rfl]
  show cK (den (d + 5) 42 [(2, 40), (0, rule), (2, 53)] (Sg xs n (nm7 G (wkP D w tb b) (G 51 b) (G 49 5) b (G 33 b) (G 49 7) (G 49 3)))) _ = _
  rw [N, a2, cK1, pR1, h135b_135]
  rfl
theorem k93b (d : Nat) (h : ofR 49 G D) (C : CE D nb m sg 49) (hp : CR G 49 nb p) (P : PI nb p) : ∃ G', ofR 49 G' D ∧ CR G' 49 nb (saP sg p) ∧ den (d + 1) 93 [(2, 49)] (Sg xs n G) = some ((9, 0), Sg xs n G') := by
  have hn : 0 < nb := by have := P.2.2.1; omega
  have s0 : G 50 0 = sg 0 := by
    rw [ofR_z h (by omega) 50 (by omega)]
    exact (C.2.2.2.1 0 hn).2
  refine ⟨up (up (up G 49 4 0) 49 5 (sg 0)) 49 6 0, ofR_f (ofR_f (ofR_f h)), CR_f (CR_f (CR_f hp)), ?_⟩
  rw [n93b, h93b_0, s0]
theorem k131b (d : Nat) (h : ofR 49 G D) (hp : CR G 49 nb p) (P : PI nb p) : ∃ G', ofR 49 G' D ∧ CR G' 49 nb (drP p) ∧ den (d + 1) 131 [(2, 49)] (Sg xs n G) = some ((0, nnP (p.1 11) / 65536), Sg xs n G') := by
  have e := hp.1 11 (by omega) (by omega)
  refine ⟨up G 49 11 (nnP (p.1 11)), ofR_f h, CR_f hp, ?_⟩
  rw [n131b, h131b_0, e, draw_c P.2.2.2.2.2.2.2.1.1 P.2.2.2.2.2.2.2.1.2, draw_v]
  rfl
theorem k129b (d : Nat) (h : ofR 49 G D) (C : CE D nb m sg 49) (W : WF D w tb bn) (hp : CR G 49 nb p) (P : PI nb p) : ∃ G', ofR 49 G' D ∧ CR G' 49 nb (juP D w bn p).2 ∧ den (d + 2) 129 [(2, 52), (2, 49)] (Sg xs n G) = some ((0, bB ((juP D w bn p).1 = true)), Sg xs n G') := by
  have hr : ret01 129 0 = true ∧ ret01 129 1 = true := ⟨rfl, rfl⟩
  obtain ⟨⟨w1', w2'⟩, w3', w4', w5'⟩ := W
  have eo := C.2.2.2.2.1
  rw [n129b, h129b_0, ofR_z h (by omega) 52 (by omega), ofR_z h (by omega) 26 (by omega), w1', w3', eo]
  simp only [h129b_20, h129b_50, h129b_67, hr, if_true]
  unfold juP
  by_cases q5 : w = 5
  · refine ⟨G, h, by rw [if_pos q5]; exact hp, ?_⟩
    rw [if_pos q5, if_pos q5, if_neg (by decide), if_pos (by decide)]
    rfl
  rw [if_neg q5, if_neg q5]
  by_cases q3 : w = 3
  · refine ⟨G, h, by rw [if_pos q3]; exact hp, ?_⟩
    rw [if_pos q3, if_pos q3, if_neg (by decide), if_neg (by decide)]
    rfl
  rw [if_neg q3, if_neg q3, if_pos rfl, ofR_z h (by omega) 26 (by omega), eo]
  have fin : den (d + 2) 129 [(2, 52), (2, 49)] (Sg xs n G) = den (d + 2) 129 [(2, 52), (2, 49)] (Sg xs n G) := rfl
  have e50 : (if D 131 4 < 50 then some (((0, 0) : Vv), Sg xs n G) else some (((0, 1) : Vv), Sg xs n G)) = some ((0, bB (decide (50 ≤ D 131 4) = true)), Sg xs n G) := by
    by_cases q : D 131 4 < 50
    · rw [if_pos q, bB_f (by simp; omega)]
    · rw [if_neg q, bB_t (by simp; omega)]
  by_cases q : bn = 0 ∨ D 131 4 = 0 ∨ D 131 4 = 100
  · refine ⟨G, h, by rw [if_pos q]; exact hp, ?_⟩
    rw [if_pos q, ← e50]
    by_cases q1 : bn = 0
    · rw [if_pos q1]
    · rw [if_neg q1]
      by_cases q2 : D 131 4 = 0
      · rw [if_pos q2]
      · rw [if_neg q2, if_neg (fun z => by omega)]
  · obtain ⟨G', a1, a2, a3⟩ := k131b (xs := xs) (n := n) d h hp P
    refine ⟨G', a1, by rw [if_neg q]; exact a2, ?_⟩
    rw [if_neg q, if_neg (fun z => q (Or.inl z)), if_neg (fun z => q (Or.inr (Or.inl z))), if_pos (fun z => q (Or.inr (Or.inr z))), a3, cK0, pR0, h129b_72, if_pos (by rfl), ofR_z a1 (by omega) 26 (by omega), eo]
    simp only [h129b_90, hr, if_true]
    have hn := nnP_l (p.1 11)
    unfold i_rem
    rw [Int.tmod_eq_emod_of_nonneg (by omega)]
    by_cases q2 : nnP (p.1 11) / 65536 % 100 < D 131 4
    · rw [if_neg (fun z => z q2), bB_t (by simp [q2])]
    · rw [if_pos q2, bB_f (by simp [q2])]
theorem k128b (d : Nat) (h : ofR 49 G D) (C : CE D nb m sg 49) (W : WF D w tb bn) (hp : CR G 49 nb p) (P : PI nb p) : ∃ G', ofL G' G ∧ den (d + 7) 128 [(2, 52), (2, 49)] (Sg xs n G) = some ((0, if cntE (D 136) (p.1 4) m = 0 then 0 else tuP D m w tb p), Sg xs n G') := by
  have h8 := C.1.1.2.1
  have EVD := C.2.2.2.2.2
  obtain ⟨pl0, pl1⟩ := P.2.2.1
  have t33 := (C.2.2.1 (p.1 4).toNat (by omega)).1
  have tv := hp.2 (p.1 4).toNat (by omega)
  have pv := P.2.2.2.2.2.2.2.2 (p.1 4).toNat (by omega)
  rw [Int.toNat_of_nonneg pl0] at t33 tv pv
  have tv' : G 51 (p.1 4) = p.2 (p.1 4) := tv
  have hcb := cntE_b (D 136) (p.1 4) m
  rw [n128b, h128b_0, hp.1 4 (by omega) (by omega), if_pos (inb_t pl0 (by omega)), ofR_z h (by omega) 33 (by omega), ofR_z h (by omega) 52 (by omega), t33.1, W.2.2.1, h128b_28]
  by_cases z : cntE (D 136) (p.1 4) m = 0
  · refine ⟨G, fun _ _ _ _ _ => rfl, ?_⟩
    rw [if_pos (by omega), if_pos z]
  rw [if_neg (by omega), if_neg z]
  unfold tuP
  by_cases q4 : w = 4
  · refine ⟨G, fun _ _ _ _ _ => rfl, ?_⟩
    rw [if_pos q4, if_pos q4, if_neg (by decide)]
  rw [if_neg q4, if_neg q4, if_pos rfl]
  obtain ⟨G', a1, a2⟩ := k135b (xs := xs) (n := n) d 1 (p.1 4) (by omega) h C W hp P pl0 pl1
  have hp' := CR_L a1 (by omega) hp
  have tv2 : G' 51 (p.1 4) = p.2 (p.1 4) := by
    have := hp'.2 (p.1 4).toNat (by omega)
    rw [Int.toNat_of_nonneg pl0] at this
    exact this
  refine ⟨G', a1, ?_⟩
  rw [a2, cK1, pR1, h128b_40, hp'.1 4 (by omega) (by omega), if_pos (inb_t pl0 (by omega)), tv2]
  simp only [lcZ, h128b_63]
  have nml := nmP_l (w := w) (tb := tb) EVD P pl0 pl1
  cases hl : lwP D m w tb 1 p (p.1 4) with
  | none =>
    rw [if_neg (fun q => q rfl), c320 (d + 4) _ _ (by constructor <;> omega) (by omega) (by omega), cK0, pR0, h128b_67]
  | some v =>
    have hv : inL v := lawV_l (k := 1) (LE_k EVD.1.2 (by omega)) (fun j _ => nml j) hl
    have hv' := hv
    unfold inL at hv'
    rw [if_pos (by show ¬ v = -9223372036854775808; omega)]
    show cK (den (d + 6) 320 [(1, v), (0, cntE (D 136) (p.1 4) m)] (Sg xs n G')) _ = _
    rw [c320 (d + 4) _ _ hv (by omega) (by omega), cK0, pR0, h128b_67]
theorem k130b (d : Nat) (h : ofR 49 G D) (C : CE D nb m sg 49) (W : WF D w tb bn) (hp : CR G 49 nb p) (P : PI nb p) : ∃ G', ofR 49 G' D ∧ CR G' 49 nb (laP D nb m w tb bn p).2 ∧ den (d + 7) 130 [(2, 52), (2, 49)] (Sg xs n G) = some ((0, (laP D nb m w tb bn p).1), Sg xs n G') := by
  have h8 := C.1.1.2.1
  have EVD := C.2.2.2.2.2
  obtain ⟨pl0, pl1⟩ := P.2.2.1
  have nml := nmP_l (w := w) (tb := tb) EVD P pl0 pl1
  obtain ⟨G1, a1, a2⟩ := k135b (xs := xs) (n := n) d 2 (p.1 4) (by omega) h C W hp P pl0 pl1
  have hp1 := CR_L a1 (by omega) hp
  have h1 := ofR_L a1 h
  have st : den (d + 7) 130 [(2, 52), (2, 49)] (Sg xs n G) = Rn (d + 6) 130 28 [some (2, 52), some (2, 49), some (0, (nb : Int)), none, none] [(1, ovI (lwP D m w tb 2 p (p.1 4)))] (Sg xs n G1) := by
    rw [n130b, h130b_0, ofR_z h (by omega) 30 (by omega), C.1.1.1, if_pos (by omega), hp.1 4 (by omega) (by omega), a2, cK1, pR1]
  rw [st, h130b_28]
  simp only [lcZ]
  unfold laP
  cases hl : lwP D m w tb 2 p (p.1 4) with
  | some v =>
    have hv : inL v := lawV_l (k := 2) (LE_k EVD.1.2 (by omega)) (fun j _ => nml j) hl
    have hv' := hv
    unfold inL at hv'
    refine ⟨G1, h1, hp1, ?_⟩
    rw [if_neg (by show ¬ v = -9223372036854775808; omega)]
    show cK (den (d + 6) 320 [(1, v), (0, (nb : Int))] (Sg xs n G1)) _ = _
    rw [c320 (d + 4) _ _ hv (by omega) (by omega), cK0, pR0, h130b_42]
  | none =>
    rw [if_pos (show ovI none = -9223372036854775808 from rfl), ofR_z h1 (by omega) 52 (by omega), W.1.1]
    by_cases q : bn = 0
    · refine ⟨G1, h1, by show CR G1 49 nb (if bn = 0 then ((nb : Int) - 1, p) else _).2; rw [if_pos q]; exact hp1, ?_⟩
      show _ = some ((0, (if bn = 0 then ((nb : Int) - 1, p) else (nnP (p.1 11) / 65536 % nb, drP p)).1), Sg xs n G1)
      rw [if_pos q, if_pos q, h130b_62, w32_idP (by omega) (by omega)]
    · obtain ⟨G2, b1, b2, b3⟩ := k131b (xs := xs) (n := n) (d + 5) h1 hp1 P
      have hn := nnP_l (p.1 11)
      refine ⟨G2, b1, by show CR G2 49 nb (if bn = 0 then _ else (nnP (p.1 11) / 65536 % (nb : Int), drP p)).2; rw [if_neg q]; exact b2, ?_⟩
      show _ = some ((0, (if bn = 0 then ((nb : Int) - 1, p) else (nnP (p.1 11) / 65536 % nb, drP p)).1), Sg xs n G2)
      rw [if_neg q, if_neg q, b3, cK0, pR0, h130b_54, if_pos (by simp; omega), h130b_62]
      unfold i_rem
      rw [Int.tmod_eq_emod_of_nonneg (by omega)]
theorem k133b (d : Nat) (b : Int) (h : ofR 49 G D) (C : CE D nb m sg 49) (W : WF D w tb bn) (hp : CR G 49 nb p) (P : PI nb p) (h0 : 0 ≤ b) (h1 : b < nb) : den (d + 2) 133 [(2, 52), (1, ovI (lwP D m w tb 0 p b)), (0, b)] (Sg xs n G) = some ((0, ouP D m w tb p b), Sg xs n G) := by
  have EVD := C.2.2.2.2.2
  have nml := nmP_l (w := w) (tb := tb) EVD P h0 h1
  rw [n133, h133_0]
  simp only [lcZ]
  unfold ouP
  cases hl : lwP D m w tb 0 p b with
  | none => rw [if_neg (fun q => q rfl), k134 d b h (by omega) W C h0 h1, cK0, pR0, h133_13, h133_28]
  | some v =>
    have hv : inL v := lawV_l (k := 0) (LE_k EVD.1.2 (by omega)) (fun j _ => nml j) hl
    have hv' := hv
    unfold inL at hv'
    rw [if_pos (by show ¬ v = -9223372036854775808; omega)]
    show cK (den (d + 1) 322 [(1, v), (1, 0)] (Sg xs n G)) _ = _
    rw [c322, cK1, pR1, h133_21, c324, cK1, pR1, h133_27, h133_28, w32_idP (by omega) (by omega)]
    show some ((0, min (max v 0) 999), _) = some ((0, max 0 (min 999 v)), _)
    congr 3
    omega
theorem k132b (d : Nat) (b : Int) (h : ofR 49 G D) (C : CE D nb m sg 49) (W : WF D w tb bn) (hp : CR G 49 nb p) (P : PI nb p) (h0 : 0 ≤ b) (h1 : b < nb) : ∃ G', ofR 49 G' D ∧ CR G' 49 nb (enP D m sg w tb p b) ∧ den (d + 7) 132 [(2, 52), (2, 49), (0, b)] (Sg xs n G) = some ((0, bB (alP sg (e2P D m w tb (e1P D m sg p b) b) b = true)), Sg xs n G') := by
  have h8 := C.1.1.2.1
  have EVD := C.2.2.2.2.2
  have e1 := c11b (xs := xs) (n := n) (D := G) (d + 4) b (by rw [ofR_z h (by omega) 30 (by omega), C.1.1.1]; omega) h0 (by omega)
  rw [ofR_z h (by omega) 30 (by omega), ofR_z h (by omega) 50 (by omega), ofR_z h (by omega) 36 (by omega)] at e1
  have e1' : diffS (D 30 0) (D 50) (D 36) b = dfP D m sg b := dfS_eq C h0 h1
  rw [e1'] at e1
  have pm := hp.1 5 (by omega) (by omega)
  -- the mark
  have hp1 : CR (up G 49 5 (i_xor (p.1 5) (dfP D m sg b))) 49 nb (u1 p.1 5 (i_xor (p.1 5) (dfP D m sg b)), p.2) := CR_f hp
  have h1' : ofR 49 (up G 49 5 (i_xor (p.1 5) (dfP D m sg b))) D := ofR_f h
  have e2 := c9 (xs := xs) (n := n) (D := up G 49 5 (i_xor (p.1 5) (dfP D m sg b))) (d + 5) b (by rw [ofR_z h1' (by omega) 30 (by omega), C.1.1.1]; omega)
  have ti := C.1.2.2.2 b.toNat (by omega)
  rw [Int.toNat_of_nonneg h0] at ti
  rw [ofR_z h1' (by omega) 30 (by omega), ofR_z h1' (by omega) 34 (by omega), C.1.1.1, ti] at e2
  have mk : ∃ G2, ofR 49 G2 D ∧ CR G2 49 nb (u1 p.1 5 (mkP D m sg p b), p.2) ∧ den (d + 7) 132 [(2, 52), (2, 49), (0, b)] (Sg xs n G) = Rn (d + 6) 132 51 [some (2, 52), some (2, 49), some (0, b), some (2, 30), none] [] (Sg xs n G2) := by
    have st : den (d + 7) 132 [(2, 52), (2, 49), (0, b)] (Sg xs n G) = Rn (d + 6) 132 35 [some (2, 52), some (2, 49), some (0, b), some (2, 30), none] [(0, bB (0 ≤ b ∧ b < (nb : Int) ∧ 1 < cntE (D 137) b m))] (Sg xs n (up G 49 5 (i_xor (p.1 5) (dfP D m sg b)))) := by
      rw [n132b, h132b_0, e1, cK0, pR0, h132b_26, pm, e2, cK0, pR0]
    rw [st, h132b_35]
    by_cases q : 1 < cntE (D 137) b m
    · have q6 : (up G 49 5 (i_xor (p.1 5) (dfP D m sg b))) 49 6 = p.1 6 := by
        rw [up_ni (by decide)]
        exact hp.1 6 (by omega) (by omega)
      have em : mkP D m sg p b = i_xor (i_xor (p.1 5) (dfP D m sg b)) (p.1 6) := by
        unfold mkP
        rw [if_pos q]
      refine ⟨up (up G 49 5 (i_xor (p.1 5) (dfP D m sg b))) 49 5 (mkP D m sg p b), ofR_f h1', ?_, ?_⟩
      · have := CR_f (i := 5) (v := mkP D m sg p b) hp1
        have ee : u1 (u1 p.1 5 (i_xor (p.1 5) (dfP D m sg b))) 5 (mkP D m sg p b) = u1 p.1 5 (mkP D m sg p b) := by
          funext j
          unfold u1
          split <;> rfl
        have this' : CR _ 49 nb (u1 (u1 p.1 5 (i_xor (p.1 5) (dfP D m sg b))) 5 (mkP D m sg p b), p.2) := this
        rw [ee] at this'
        exact this'
      · rw [bB_t ⟨h0, h1, q⟩, if_neg (by decide), up_at, q6, em]
    · have em : mkP D m sg p b = i_xor (p.1 5) (dfP D m sg b) := by
        unfold mkP
        rw [if_neg q, i_xor_z]
      refine ⟨up G 49 5 (i_xor (p.1 5) (dfP D m sg b)), h1', ?_, ?_⟩
      · rw [em]; exact hp1
      · rw [bB_f (fun z => q z.2.2), if_pos rfl]
  obtain ⟨G2, m1, m2', m3⟩ := mk
  rw [m3]
  have tv := m2'.2 b.toNat (by omega)
  have pv := P.2.2.2.2.2.2.2.2 b.toNat (by omega)
  rw [Int.toNat_of_nonneg h0] at tv pv
  have tv' : G2 51 b = p.2 b := tv
  -- place and visits
  have hp3 : CR (up (up G2 49 4 b) 51 b (min (p.2 b + 1) 9999)) 49 nb (e1P D m sg p b) := CR_v (r := 49) (CR_f (i := 4) (v := b) m2')
  have h3 : ofR 49 (up (up G2 49 4 b) 51 b (min (p.2 b + 1) 9999)) D := ofR_v (r := 49) (ofR_f m1)
  have P3 := e1P_I EVD P h0 h1
  obtain ⟨G4, a1, a2⟩ := k135b (xs := xs) (n := n) d 0 b (by omega) h3 C W hp3 P3 h0 h1
  have hp4 := CR_L a1 (by omega) hp3
  have h4 := ofR_L a1 h3
  have e3 := k133b (xs := xs) (n := n) (d + 4) b h4 C W hp4 P3 h0 h1
  have s1 : Rn (d + 6) 132 51 [some (2, 52), some (2, 49), some (0, b), some (2, 30), none] [] (Sg xs n G2) = Rn (d + 6) 132 88 [some (2, 52), some (2, 49), some (0, b), none, none] [(0, ouP D m w tb (e1P D m sg p b) b)] (Sg xs n G4) := by
    rw [h132b_51, if_pos (inb_t h0 (by omega)), tv', w32_idP (by omega) (by omega), c323, cK0, pR0, h132b_75, if_pos (inb_t h0 (by omega)), a2, cK1, pR1, h132b_84, e3, cK0, pR0]
  rw [s1, h132b_88, hp4.1 7 (by omega) (by omega)]
  have ho := ouP_l (w := w) (tb := tb) (p := e1P D m sg p b) EVD h0 h1
  have pt := P3.2.2.2.2.2.1
  have hp5 : CR (up G4 49 7 (min ((e1P D m sg p b).1 7 + ouP D m w tb (e1P D m sg p b) b) 999999)) 49 nb (e2P D m w tb (e1P D m sg p b) b) := CR_f hp4
  have h5 : ofR 49 (up G4 49 7 (min ((e1P D m sg p b).1 7 + ouP D m w tb (e1P D m sg p b) b) 999999)) D := ofR_f h4
  have P5 := e2P_I (w := w) (tb := tb) EVD P3 h0 h1
  rw [w32_idP (by omega) (by omega), c323, cK0, pR0, h132b_103, hp4.1 2 (by omega) (by omega)]
  generalize hG5 : up G4 49 7 (min ((e1P D m sg p b).1 7 + ouP D m w tb (e1P D m sg p b) b) 999999) = G5 at hp5 h5
  have eck : (e1P D m sg p b).1 2 = (((e2P D m w tb (e1P D m sg p b) b).1 2).toNat : Int) := (Int.toNat_of_nonneg P5.1.1).symm
  rw [eck, c181n (d + 5) _ b (by have := P5.1; omega) h0 (by omega), cK0, pR0, h132b_114, bB_if, inb_t h0 (show b < 8 by omega), if_pos rfl, hp5.1 5 (by omega) (by omega), hp5.1 8 (by omega) (by omega), h132b_130]
  have sS : G5 50 b = sg b := by
    rw [ofR_z h5 (by omega) 50 (by omega)]
    have := (C.2.2.2.1 b.toNat (by omega)).2
    rw [Int.toNat_of_nonneg h0] at this
    exact this
  rw [sS]
  unfold enP
  generalize e2P D m w tb (e1P D m sg p b) b = q at hp5 P5 ⊢
  by_cases al : alP sg q b = true
  · have al' := al
    unfold alP at al'
    rw [Bool.and_eq_true, decide_eq_true_eq] at al'
    have P6 : PI nb (u1 q.1 8 (w32 (q.1 8 + 1)), q.2) := by
      obtain ⟨p1, p2, p3, p4, p5, p6, p7, p8', p9⟩ := P5
      exact ⟨p1, p2, p3, p4, p5, p6, ⟨w32_inP _, p7.2⟩, p8', p9⟩
    obtain ⟨G6, b1, b2, b3⟩ := k93b (xs := xs) (n := n) (d + 5) (ofR_f (i := 8) (v := w32 (q.1 8 + 1)) h5) C (CR_f (i := 8) (v := w32 (q.1 8 + 1)) hp5) P6
    refine ⟨G6, b1, by rw [if_pos al]; exact b2, ?_⟩
    rw [if_pos al'.1, if_pos al'.2, b3, cK9, bB_t al]
    show Rn (d + 6) 132 146 [some (2, 52), some (2, 49), some (0, b), none, some (0, ouP D m w tb (e1P D m sg p b) b)] [] (Sg xs n G6) = _
    rw [h132b_146]
  · refine ⟨G5, h5, by rw [if_neg al]; exact hp5, ?_⟩
    rw [bB_f al]
    by_cases c1 : (q.1 2).toNat.testBit b.toNat = true
    · rw [if_pos c1, if_neg (fun z => al (by unfold alP; rw [Bool.and_eq_true, decide_eq_true_eq]; exact ⟨c1, z⟩))]
    · rw [if_neg c1]
theorem k127b (d : Nat) (h : ofR 49 G D) (C : CE D nb m sg 49) (W : WF D w tb bn) (hp : CR G 49 nb p) (P : PI nb p) : ∃ G', ofR 49 G' D ∧ CR G' 49 nb (moP D nb m sg w tb bn p) ∧ den (d + 8) 127 [(2, 52), (2, 49)] (Sg xs n G) = some ((9, 0), Sg xs n G') := by
  have h8 := C.1.1.2.1
  have h16 := C.1.1.2.2.2.1
  have EVD := C.2.2.2.2.2
  obtain ⟨pl0, pl1⟩ := P.2.2.1
  have epl : ((p.1 4).toNat : Int) = p.1 4 := Int.toNat_of_nonneg pl0
  have gg := C.2.2.1 (p.1 4).toNat (by omega)
  rw [epl] at gg
  have hcb := cntE_b (D 136) (p.1 4) m
  obtain ⟨G1, a1, a2⟩ := k128b (xs := xs) (n := n) d h C W hp P
  have hp1 := CR_L a1 (by omega) hp
  have h1 := ofR_L a1 h
  have e10 : ∀ i : Int, den (d + 7) 10 [(2, 30), (0, p.1 4), (0, i)] (Sg xs n G1) = some ((0, if 0 ≤ i ∧ i < cntE (D 136) (p.1 4) m then D 37 (p.1 4 * 3 + i) else -1), Sg xs n G1) := by
    intro i
    have := c10 (xs := xs) (n := n) (D := G1) (d + 5) (p.1 4) i (by rw [ofR_z h1 (by omega) 30 (by omega), C.1.1.1]; omega) (fun _ _ => by rw [ofR_z h1 (by omega) 33 (by omega)]; exact gg.1.2)
    rw [ofR_z h1 (by omega) 30 (by omega), ofR_z h1 (by omega) 33 (by omega), ofR_z h1 (by omega) 37 (by omega), C.1.1.1, gg.1.1] at this
    rw [this]
    congr 3
    by_cases q : 0 ≤ i ∧ i < cntE (D 136) (p.1 4) m
    · rw [if_pos ⟨pl0, pl1, q⟩, if_pos q]
    · rw [if_neg (fun z => q z.2.2), if_neg q]
  rw [n127b, h127b_0, hp.1 4 (by omega) (by omega), a2, cK0, pR0, h127b_18, e10, cK0, pR0, h127b_21]
  unfold moP
  by_cases z : cntE (D 136) (p.1 4) m = 0
  · obtain ⟨G2, b1, b2, b3⟩ := k93b (xs := xs) (n := n) (d + 6) h1 C hp1 P
    refine ⟨up G2 49 10 (w32 (p.1 10 + 1)), ofR_f b1, ?_, ?_⟩
    · rw [if_pos z]
      have := CR_f (i := 10) (v := w32 (p.1 10 + 1)) b2
      have ee : (u1 (saP sg p).1 10 (w32 (p.1 10 + 1)), (saP sg p).2) = saP sg (u1 p.1 10 (w32 (p.1 10 + 1)), p.2) := by
        unfold saP
        congr 1
        funext j
        unfold u1
        show (if j = 10 then _ else if j = 6 then _ else _) = (if j = 6 then _ else if j = 5 then _ else if j = 4 then _ else if j = 10 then _ else _)
        by_cases j10 : j = 10
        · subst j10; rfl
        · rw [if_neg j10, if_neg j10]
      rw [ee] at this
      exact this
    · rw [if_pos z, if_neg (show ¬ (0 ≤ (0 : Int) ∧ (0 : Int) < cntE (D 136) (p.1 4) m) by omega), if_neg (by decide), b3, cK9]
      show Rn (d + 7) 127 30 [some (2, 52), some (2, 49), some (2, 30), some (0, -1), none] [] (Sg xs n G2) = _
      rw [h127b_30]
      have := b2.1 10 (by omega) (by omega)
      have this' : G2 49 10 = p.1 10 := this
      rw [this']
  · rw [if_neg z, if_neg z]
    have ht := tuP_l (D := D) (m := m) (w := w) (tb := tb) (p := p) (by omega)
    obtain ⟨e, e1, e2, e3⟩ := nth_ok (f := D 136) (g := fun z => z) (v := p.1 4) (m := m) ht.1 ht.2
    have e3' : nthE (D 136) (fun z => z) (p.1 4) m m (tuP D m w tb p) = e := e3
    have e37 : D 37 (p.1 4 * 3 + tuP D m w tb p) = e := by
      have := gg.2.1 (tuP D m w tb p).toNat (by rw [gg.1.1]; omega)
      rw [Int.toNat_of_nonneg ht.1] at this
      rw [this]
      exact e3'
    obtain ⟨f1, f2⟩ := C.1.2.1.2.2.2.2 e e1
    obtain ⟨x1, x2⟩ := C.1.2.2.1 e e1
    have e12 := c12b (xs := xs) (n := n) (D := G1) (d + 5) (e : Int) (by rw [ofR_z h1 (by omega) 30 (by omega), C.1.1.1]; omega) (by omega) (by omega) (by rw [ofR_z h1 (by omega) 32 (by omega), x2]; exact f2.1) (by rw [ofR_z h1 (by omega) 32 (by omega), x2]; omega) (by rw [ofR_z h1 (by omega) 31 (by omega), x1]; exact f1.1) (by rw [ofR_z h1 (by omega) 31 (by omega), x1]; omega)
    rw [ofR_z h1 (by omega) 30 (by omega), ofR_z h1 (by omega) 31 (by omega), ofR_z h1 (by omega) 32 (by omega), ofR_z h1 (by omega) 34 (by omega), ofR_z h1 (by omega) 50 (by omega), ofR_z h1 (by omega) 36 (by omega)] at e12
    have e12' : adjS (D 30 0) (D 31) (D 32) (D 34) (D 50) (D 36) e = ajP D m sg e := ajS_eq C e1
    rw [e12'] at e12
    have P2 : PI nb (u1 p.1 6 (ajP D m sg e), p.2) := by
      obtain ⟨p1, p2, p3, p4, p5, p6, p7, p8', p9⟩ := P
      exact ⟨p1, p2, p3, p4, ajP_l EVD e1, p6, p7, p8', p9⟩
    have hp2 : CR (up G1 49 6 (ajP D m sg e)) 49 nb (u1 p.1 6 (ajP D m sg e), p.2) := CR_f hp1
    have h2 : ofR 49 (up G1 49 6 (ajP D m sg e)) D := ofR_f h1
    obtain ⟨G3, b1, b2, b3⟩ := k129b (xs := xs) (n := n) (d + 5) h2 C W hp2 P2
    have P3 := juP_I (D := D) (w := w) (bn := bn) P2
    have ev : (if 0 ≤ tuP D m w tb p ∧ tuP D m w tb p < cntE (D 136) (p.1 4) m then D 37 (p.1 4 * 3 + tuP D m w tb p) else -1) = (e : Int) := by rw [if_pos ht, e37]
    rw [ev, if_pos (show ¬ (e : Int) < 0 by omega), e12, cK0, pR0, h127b_55, if_pos (inb_t (by omega) (by omega)), b3, cK0, pR0, ofR_z h1 (by omega) 32 (by omega), x2, h127b_71, bB_if]
    show ∃ G', ofR 49 G' D ∧ CR G' 49 nb (if (juP D w bn (u1 p.1 6 (ajP D m sg (nthE (D 136) (fun z => z) (p.1 4) m m (tuP D m w tb p))), p.2)).1 = true then enP D m sg w tb (laP D nb m w tb bn (u1 (juP D w bn (u1 p.1 6 (ajP D m sg (nthE (D 136) (fun z => z) (p.1 4) m m (tuP D m w tb p))), p.2)).2.1 9 (w32 ((juP D w bn (u1 p.1 6 (ajP D m sg (nthE (D 136) (fun z => z) (p.1 4) m m (tuP D m w tb p))), p.2)).2.1 9 + 1)), (juP D w bn (u1 p.1 6 (ajP D m sg (nthE (D 136) (fun z => z) (p.1 4) m m (tuP D m w tb p))), p.2)).2.2)).2 (laP D nb m w tb bn (u1 (juP D w bn (u1 p.1 6 (ajP D m sg (nthE (D 136) (fun z => z) (p.1 4) m m (tuP D m w tb p))), p.2)).2.1 9 (w32 ((juP D w bn (u1 p.1 6 (ajP D m sg (nthE (D 136) (fun z => z) (p.1 4) m m (tuP D m w tb p))), p.2)).2.1 9 + 1)), (juP D w bn (u1 p.1 6 (ajP D m sg (nthE (D 136) (fun z => z) (p.1 4) m m (tuP D m w tb p))), p.2)).2.2)).1 else enP D m sg w tb (juP D w bn (u1 p.1 6 (ajP D m sg (nthE (D 136) (fun z => z) (p.1 4) m m (tuP D m w tb p))), p.2)).2 (D 137 (nthE (D 136) (fun z => z) (p.1 4) m m (tuP D m w tb p)))) ∧ _
    rw [e3']
    generalize juP D w bn (u1 p.1 6 (ajP D m sg e), p.2) = j at b2 P3 ⊢
    by_cases jq : j.1 = true
    · rw [if_pos jq, if_pos jq]
      have P4 : PI nb (u1 j.2.1 9 (w32 (j.2.1 9 + 1)), j.2.2) := by
        obtain ⟨p1, p2, p3, p4, p5, p6, p7, p8', p9⟩ := P3
        exact ⟨p1, p2, p3, p4, p5, p6, ⟨p7.1, w32_inP _, p7.2.2⟩, p8', p9⟩
      have e9 := b2.1 9 (by omega) (by omega)
      obtain ⟨G4, c1, c2, c3⟩ := k130b (xs := xs) (n := n) d (ofR_f (i := 9) (v := w32 (j.2.1 9 + 1)) b1) C W (CR_f (i := 9) (v := w32 (j.2.1 9 + 1)) b2) P4
      have P5 := laP_I (D := D) (m := m) (w := w) (tb := tb) (bn := bn) P4
      obtain ⟨G5, d1, d2, d3⟩ := k132b (xs := xs) (n := n) d _ c1 C W c2 P5.1 P5.2.1 P5.2.2
      refine ⟨G5, d1, d2, ?_⟩
      rw [e9, c3, cK0, pR0, h127b_89, h127b_91, d3, cK0, pR0, h127b_98]
    · rw [if_neg jq, if_neg jq]
      obtain ⟨G5, d1, d2, d3⟩ := k132b (xs := xs) (n := n) d (D 137 e) b1 C W b2 P3 f2.1 f2.2
      refine ⟨G5, d1, d2, ?_⟩
      rw [h127b_91, d3, cK0, pR0, h127b_98]
theorem k126b (d : Nat) (C : CE D nb m sg 49) (W : WF D w tb bn) (q : Nat) (hq : q < 1000) : ∀ (r i : Nat) (G : Sto) (p : PSt), i + r = q → ofR 49 G D → CR G 49 nb p → (0 < nb → PI nb p) → p.1 3 + r ≤ 1000000 → 0 ≤ p.1 3 → ∃ G', ofR 49 G' D ∧ CR G' 49 nb (itP D nb m sg w tb bn r p) ∧ Rn (d + 8) 126 2 [some (2, 52), some (2, 49), some (0, (q : Int)), some (0, (i : Int))] [] (Sg xs n G) = some ((9, 0), Sg xs n G') := by
  have EVD := C.2.2.2.2.2
  intro r
  induction r with
  | zero =>
    intro i G p hi h hp _ _ _
    refine ⟨G, h, hp, ?_⟩
    rw [h126b_2, if_pos (by omega)]
  | succ r ih =>
    intro i G p hi h hp P hs hs0
    rw [h126b_2, if_neg (by omega), ofR_z h (by omega) 30 (by omega), C.1.1.1]
    by_cases z : nb = 0
    · have e3 := hp.1 3 (by omega) (by omega)
      have es : stP D nb m sg w tb bn p = (u1 p.1 3 (w32 (p.1 3 + 1)), p.2) := by
        unfold stP
        rw [if_pos z]
      obtain ⟨G', a1, a2, a3⟩ := ih (i + 1) (up G 49 3 (w32 (p.1 3 + 1))) (u1 p.1 3 (w32 (p.1 3 + 1)), p.2) (by omega) (ofR_f h) (CR_f hp) (fun q => by omega) (by show u1 p.1 3 (w32 (p.1 3 + 1)) 3 + (r : Int) ≤ 1000000; rw [u1_at, w32_idP (by omega) (by omega)]; omega) (by show 0 ≤ u1 p.1 3 (w32 (p.1 3 + 1)) 3; rw [u1_at, w32_idP (by omega) (by omega)]; omega)
      refine ⟨G', a1, ?_, ?_⟩
      · show CR G' 49 nb (itP D nb m sg w tb bn r (stP D nb m sg w tb bn p))
        rw [es]
        exact a2
      · rw [if_pos (by omega), h126b_25, e3, w1 (by omega)]
        exact a3
    · obtain ⟨G1, b1, b2, b3⟩ := k127b (xs := xs) (n := n) d h C W hp (P (by omega))
      have P1 := moP_I (w := w) (tb := tb) (bn := bn) EVD (P (by omega))
      have e3 := b2.1 3 (by omega) (by omega)
      have es : stP D nb m sg w tb bn p = (u1 (moP D nb m sg w tb bn p).1 3 (w32 ((moP D nb m sg w tb bn p).1 3 + 1)), (moP D nb m sg w tb bn p).2) := by
        unfold stP
        rw [if_neg z]
      have e33 : (moP D nb m sg w tb bn p).1 3 = p.1 3 := moP_3 p
      have P2 : PI nb (u1 (moP D nb m sg w tb bn p).1 3 (w32 ((moP D nb m sg w tb bn p).1 3 + 1)), (moP D nb m sg w tb bn p).2) := by
        have e34 : w32 ((moP D nb m sg w tb bn p).1 3 + 1) = p.1 3 + 1 := by rw [e33, w32_idP (by omega) (by omega)]
        obtain ⟨p1, p2, p3, p4, p5, p6, p7, p8', p9⟩ := P1
        refine ⟨p1, ?_, p3, p4, p5, p6, p7, p8', p9⟩
        show 0 ≤ u1 (moP D nb m sg w tb bn p).1 3 (w32 ((moP D nb m sg w tb bn p).1 3 + 1)) 3 ∧ u1 (moP D nb m sg w tb bn p).1 3 (w32 ((moP D nb m sg w tb bn p).1 3 + 1)) 3 ≤ 1000000
        rw [u1_at, e34]
        omega
      obtain ⟨G', a1, a2, a3⟩ := ih (i + 1) (up G1 49 3 (w32 ((moP D nb m sg w tb bn p).1 3 + 1))) (u1 (moP D nb m sg w tb bn p).1 3 (w32 ((moP D nb m sg w tb bn p).1 3 + 1)), (moP D nb m sg w tb bn p).2) (by omega) (ofR_f b1) (CR_f b2) (fun _ => P2) (by show u1 (moP D nb m sg w tb bn p).1 3 (w32 ((moP D nb m sg w tb bn p).1 3 + 1)) 3 + (r : Int) ≤ 1000000; rw [u1_at, e33, w32_idP (by omega) (by omega)]; omega) (by show 0 ≤ u1 (moP D nb m sg w tb bn p).1 3 (w32 ((moP D nb m sg w tb bn p).1 3 + 1)) 3; rw [u1_at, e33, w32_idP (by omega) (by omega)]; omega)
      refine ⟨G', a1, ?_, ?_⟩
      · show CR G' 49 nb (itP D nb m sg w tb bn r (stP D nb m sg w tb bn p))
        rw [es]
        exact a2
      · rw [if_neg (by omega), b3, cK9]
        show Rn (d + 8) 126 25 [some (2, 52), some (2, 49), some (0, (q : Int)), some (0, (i : Int))] [] (Sg xs n G1) = _
        rw [h126b_25, e3, w1 (by omega)]
        exact a3
theorem c126b (d q : Nat) (hq : q < 1000) (h : ofR 49 G D) (C : CE D nb m sg 49) (W : WF D w tb bn) (hp : CR G 49 nb p) (P : 0 < nb → PI nb p) (hs : 0 ≤ p.1 3 ∧ p.1 3 ≤ 20000) : ∃ G', ofR 49 G' D ∧ CR G' 49 nb (itP D nb m sg w tb bn q p) ∧ den (d + 9) 126 [(2, 52), (2, 49), (0, (q : Int))] (Sg xs n G) = some ((9, 0), Sg xs n G') := by
  obtain ⟨G', a1, a2, a3⟩ := k126b (xs := xs) (n := n) d C W q hq q 0 G p (by omega) h hp P (by omega) hs.1
  refine ⟨G', a1, a2, ?_⟩
  rw [n126b, h126b_0]
  exact a3
end S87b
