/-! Steps: the reference enters a block -/
section S88a
variable {xs : Int → Int} {n : Int × Int} {D G : Sto} {nb m : Nat} {sg : Int → Int} {s w tb bn : Int} {p : PSt}
theorem k246a (d : Nat) (b : Int) (h : ofQ s G D) (V : RV D nb m sg s w tb) (hp : RR G s nb w p) (P : PI nb p) (h0 : 0 ≤ b) (h1 : b < nb) : ∃ G', ofQ s G' D ∧ RR G' s nb w (e1P D m sg p b) ∧ (∀ j : Nat, j < 7 → G' 142 j = nmP D m w tb (e1P D m sg p b) b j) ∧ den (d + 5) 246 [(2, 129), (0, s), (0, b)] (Sg xs n G) = Rn (d + 4) 246 64 [some (2, 129), some (0, s), some (0, b), some (0, 8 * s + b), none] [] (Sg xs n G') := by
  have EVD := V.1.2
  have h8 := EVD.1.1.2.1
  obtain ⟨s0, s1⟩ := V.2.2.2.2
  have t := inb_t s0 s1
  have pv := P.2.2.2.2.2.2.2.2 b.toNat (by omega)
  rw [Int.toNat_of_nonneg h0] at pv
  have f5 : G 147 s = p.1 5 := hp.2.1 5 (by omega) (by omega)
  have f6 : G 148 s = p.1 6 := hp.2.1 6 (by omega) (by omega)
  have hp1 : RR (up G 146 s b) s nb w (u1 p.1 4 b, p.2) := RR_f (i := 4) (by omega) (by omega) hp
  have q1 : ofQ s (up G 146 s b) D := ofQ_f (i := 4) (by omega) (by omega) h
  have m1 := ofQ_m2 q1
  have e241 : den (d + 4) 241 [(2, 129), (0, s), (0, b), (0, p.1 5), (0, p.1 6)] (Sg xs n (up G 146 s b)) = some ((0, mkP D m sg p b), Sg xs n (up G 146 s b)) := by
    have := c241 (xs := xs) (n := n) d b.toNat s (p.1 5) (p.1 6) (mrk_RG m1.1 EVD.1.1) (mrk_RB m1.1 V.1.1) (by omega) s0 s1
    rw [Int.toNat_of_nonneg h0] at this
    rw [this]
    unfold rmb mkP
    rw [m2_df m1, rdf_P V h0 h1, m1.1.2.2.2.1]
  have hp2 : RR (up (up G 146 s b) 147 s (mkP D m sg p b)) s nb w (u1 (u1 p.1 4 b) 5 (mkP D m sg p b), p.2) := RR_f (i := 5) (by omega) (by omega) hp1
  have q2 : ofQ s (up (up G 146 s b) 147 s (mkP D m sg p b)) D := ofQ_f (i := 5) (by omega) (by omega) q1
  rw [u1_c (show ¬ (4 : Int) = 5 by decide)] at hp2
  obtain ⟨v1, v2, v3⟩ := vis_q V hp1 h0 h1
  have v2' : (up G 146 s b) 155 (8 * s + b) = p.2 b := v2
  have hp3 : RR (up (up (up G 146 s b) 147 s (mkP D m sg p b)) 155 (8 * s + b) (min (p.2 b + 1) 9999)) s nb w (e1P D m sg p b) := RR_v hp2
  have q3 : ofQ s (up (up (up G 146 s b) 147 s (mkP D m sg p b)) 155 (8 * s + b) (min (p.2 b + 1) 9999)) D := ofQ_v h0 (by omega) q2
  obtain ⟨G4, a1, a2, a3, a4, a5⟩ := kNm (xs := xs) (n := n) (d + 2) b q3 V hp3 h0 h1
  refine ⟨G4, a2, a3, a4, ?_⟩
  rw [n246, h246_0, if_pos t, if_pos t, if_pos t, v1, f5, f6, e241, cK0, pR0, h246_37, if_pos t, if_pos v3, v2', w32_idP (by omega) (by omega), c323, cK0, pR0, h246_57, if_pos v3, Int.min_comm 9999 (p.2 b + 1), a5, cK9]
  rfl
theorem k246b (d : Nat) (b : Int) (h : ofQ s G D) (V : RV D nb m sg s w tb) (hp : RR G s nb w p) (P : PI nb p) (h0 : 0 ≤ b) (h1 : b < nb) (hn : ∀ j : Nat, j < 7 → G 142 j = nmP D m w tb p b j) : ∃ G', ofQ s G' D ∧ RR G' s nb w p ∧ Rn (d + 4) 246 64 [some (2, 129), some (0, s), some (0, b), some (0, 8 * s + b), none] [] (Sg xs n G) = Rn (d + 4) 246 106 [some (2, 129), some (0, s), some (0, b), some (0, 8 * s + b), some (0, ouP D m w tb p b)] [] (Sg xs n G') := by
  rw [h246_64, k242 (d + 3) b h V h0 h1, cK0, pR0, h246_69]
  unfold ouP
  obtain ⟨l1, l2⟩ | ⟨l1, G2, l2, l3⟩ := kLaw (xs := xs) (n := n) (w := w) (tb := tb) d 0 b (by omega) h V P h0 h1 hn
  · rw [show ((0 : Nat) : Int) = 0 from rfl] at l1 l2
    refine ⟨G, h, hp, ?_⟩
    rw [l2, l1, cK0, pR0, h246_76, if_pos rfl]
  · rw [show ((0 : Nat) : Int) = 0 from rfl] at l1 l3
    refine ⟨G2, ofQ_M (ofV_M l2) h, RR_M (ofV_M l2) hp, ?_⟩
    rw [l1, cK0, pR0, h246_76, if_neg (by decide)]
    obtain ⟨m1, m2'⟩ | ⟨m1, m2', m3⟩ := l3
    · rw [m1, m2', cK0, pR0, h246_84, if_pos rfl]
    · rw [m1, m3, cK0, pR0, h246_84, if_neg (by decide), c324, cK1, pR1, h246_100, c322, cK1, pR1, h246_103, w32_idP (by omega) (by omega)]
theorem k246 (d : Nat) (b : Int) (h : ofQ s G D) (V : RV D nb m sg s w tb) (hp : RR G s nb w p) (P : PI nb p) (h0 : 0 ≤ b) (h1 : b < nb) : ∃ G', ofQ s G' D ∧ RR G' s nb w (enP D m sg w tb p b) ∧ den (d + 5) 246 [(2, 129), (0, s), (0, b)] (Sg xs n G) = some ((0, bB (¬ alP sg (e2P D m w tb (e1P D m sg p b) b) b = true)), Sg xs n G') := by
  have EVD := V.1.2
  have h8 := EVD.1.1.2.1
  obtain ⟨s0, s1⟩ := V.2.2.2.2
  have t := inb_t s0 s1
  obtain ⟨G1, a1, a2, a3, a4⟩ := k246a (xs := xs) (n := n) d b h V hp P h0 h1
  have P3 := e1P_I EVD P h0 h1
  obtain ⟨G2, b1, b2, b3⟩ := k246b (xs := xs) (n := n) d b a1 V a2 P3 h0 h1 a3
  rw [a4, b3]
  have ho := ouP_l (w := w) (tb := tb) (p := e1P D m sg p b) EVD h0 h1
  have pt := P3.2.2.2.2.2.1
  have f7 : G2 149 s = (e1P D m sg p b).1 7 := b2.2.1 7 (by omega) (by omega)
  have P5 := e2P_I (w := w) (tb := tb) EVD P3 h0 h1
  have hp5 : RR (up G2 149 s (min ((e1P D m sg p b).1 7 + ouP D m w tb (e1P D m sg p b) b) 999999)) s nb w (e2P D m w tb (e1P D m sg p b) b) := RR_f (i := 7) (by omega) (by omega) b2
  have h5 : ofQ s (up G2 149 s (min ((e1P D m sg p b).1 7 + ouP D m w tb (e1P D m sg p b) b) 999999)) D := ofQ_f (i := 7) (by omega) (by omega) b1
  rw [h246_106, if_pos t, f7, w32_idP (by omega) (by omega), c323, cK0, pR0, h246_126, if_pos t, ofQ_129 b1 48 (by decide), V.2.2.1, Int.min_comm 999999]
  have e153 : ∀ v, up G2 149 s v 153 s = G2 153 s := fun v => up_ne (by decide)
  have k153 : G2 153 s = (up G2 149 s (min ((e1P D m sg p b).1 7 + ouP D m w tb (e1P D m sg p b) b) 999999)) 153 s := (e153 _).symm
  have k147 : G2 147 s = (up G2 149 s (min ((e1P D m sg p b).1 7 + ouP D m w tb (e1P D m sg p b) b) 999999)) 147 s := (up_ne (by decide)).symm
  rw [k153, k147]
  generalize up G2 149 s (min ((e1P D m sg p b).1 7 + ouP D m w tb (e1P D m sg p b) b) 999999) = G5 at hp5 h5 ⊢
  have f5 : G5 147 s = (e2P D m w tb (e1P D m sg p b) b).1 5 := hp5.2.1 5 (by omega) (by omega)
  rw [f5]
  unfold enP
  generalize e2P D m w tb (e1P D m sg p b) b = q at hp5 P5 ⊢
  by_cases w1' : w = 1
  · have e2 : q.1 2 = 0 := by
      obtain ⟨_, z⟩ | ⟨z, _⟩ := hp5.1
      · exact z
      · exact absurd w1' z
    have al : ¬ alP sg q b = true := by
      unfold alP
      rw [e2]
      simp
    refine ⟨G5, h5, by rw [if_neg al]; exact hp5, ?_⟩
    rw [if_pos w1', h246_156, bB_t al]
  · have e2 : G5 153 s = q.1 2 := by
      obtain ⟨z, _⟩ | ⟨_, z⟩ := hp5.1
      · exact absurd z w1'
      · exact z
    have e245 : den (d + 4) 245 [(2, 129), (0, q.1 2), (0, s), (0, b), (0, q.1 5)] (Sg xs n G5) = some ((0, bB (alP sg q b = true)), Sg xs n G5) := by
      have := c245 (xs := xs) (n := n) (D := G5) (d + 2) (q.1 2).toNat b.toNat s (q.1 5) (by have := P5.1; omega) (by omega) s0 s1
      have m5 := ofQ_m2 h5
      rw [Int.toNat_of_nonneg h0, Int.toNat_of_nonneg P5.1.1, mrk_sg m5.1 m5.2.1 m5.2.2, rsg_i V h0 h1] at this
      rw [this]
      unfold alP
      simp only [Bool.and_eq_true, decide_eq_true_eq]
    rw [if_neg w1', if_pos t, if_pos t, e2, e245, cK0, pR0, h246_153]
    by_cases al : alP sg q b = true
    · have P6 : PI nb (u1 q.1 8 (w32 (q.1 8 + 1)), q.2) := by
        obtain ⟨p1, p2, p3, p4, p5, p6, p7, p8', p9⟩ := P5
        exact ⟨p1, p2, p3, p4, p5, p6, ⟨w32_inP _, p7.2⟩, p8', p9⟩
      have f8 : G5 150 s = q.1 8 := hp5.2.1 8 (by omega) (by omega)
      obtain ⟨G6, c1, c2, c3⟩ := k226 (xs := xs) (n := n) (d + 3) (ofQ_f (i := 8) (v := w32 (q.1 8 + 1)) (by omega) (by omega) h5) V (RR_f (i := 8) (v := w32 (q.1 8 + 1)) (by omega) (by omega) hp5) P6
      have c3' : den (d + 4) 226 [(2, 129), (0, s)] (Sg xs n (up G5 150 s (w32 (q.1 8 + 1)))) = some ((9, 0), Sg xs n G6) := c3
      refine ⟨G6, c1, by rw [if_pos al]; exact c2, ?_⟩
      rw [bB_t al, if_pos (show ¬ (1 : Int) = 0 by decide), if_pos t, if_pos t, f8, c3', cK9]
      show Rn (d + 4) 246 173 [some (2, 129), some (0, s), some (0, b), none, some (0, ouP D m w tb (e1P D m sg p b) b)] [] (Sg xs n G6) = _
      rw [h246_173, bB_f (fun z => z al)]
    · refine ⟨G5, h5, by rw [if_neg al]; exact hp5, ?_⟩
      rw [bB_f al, if_neg (fun z => z rfl), h246_156, bB_t al]
theorem k251 (d : Nat) (h : ofQ s G D) (V : RV D nb m sg s w tb) (hp : RR G s nb w p) (P : PI nb p) (hc : ¬ cntE (D 136) (p.1 4) m = 0) : ∃ G', ofQ s G' D ∧ RR G' s nb w (moP D nb m sg w tb bn p) ∧ den (d + 6) 251 [(2, 129), (0, s), (0, bn)] (Sg xs n G) = some ((9, 0), Sg xs n G') := by
  have EVD := V.1.2
  have h8 := EVD.1.1.2.1
  have h16 := EVD.1.1.2.2.2.1
  obtain ⟨s0, s1⟩ := V.2.2.2.2
  have t := inb_t s0 s1
  have hcb := cntE_b (D 136) (p.1 4) m
  obtain ⟨G1, a1, a2⟩ := k247 (xs := xs) (n := n) d h V hp P hc
  have h1 := ofQ_M a1 h
  have hp1 := RR_M a1 hp
  have ht := tuP_l (D := D) (m := m) (w := w) (tb := tb) (p := p) (by omega)
  obtain ⟨e, e1, e2, e3⟩ := nth_ok (f := D 136) (g := fun z => z) (v := p.1 4) (m := m) ht.1 ht.2
  have e3' : nthE (D 136) (fun z => z) (p.1 4) m m (tuP D m w tb p) = e := e3
  obtain ⟨f1, f2⟩ := EVD.1.1.2.2.2.2 e e1
  have m1 := ofQ_m2 h1
  have e240 := c240 (xs := xs) (n := n) (D := G1) (d + 2) e s (mrk_RG m1.1 EVD.1.1) (mrk_RB m1.1 V.1.1) e1 s0 s1
  rw [m2_aj m1, raj_P V e1] at e240
  have P2 : PI nb (u1 p.1 6 (ajP D m sg e), p.2) := by
    obtain ⟨p1, p2, p3, p4, p5, p6, p7, p8', p9⟩ := P
    exact ⟨p1, p2, p3, p4, ajP_l EVD e1, p6, p7, p8', p9⟩
  have hp2 : RR (up G1 148 s (ajP D m sg e)) s nb w (u1 p.1 6 (ajP D m sg e), p.2) := RR_f (i := 6) (by omega) (by omega) hp1
  have h2 : ofQ s (up G1 148 s (ajP D m sg e)) D := ofQ_f (i := 6) (by omega) (by omega) h1
  obtain ⟨G3, b1, b2, b3⟩ := k249 (xs := xs) (n := n) (bn := bn) (d + 3) h2 V hp2
  have P3 := juP_I (D := D) (w := w) (bn := bn) P2
  rw [n251, h251_0, a2, e3', cK0, pR0, h251_5, if_pos (inb_t (by omega) (by omega)), ofQ_z h1 137 (by omega), e240, cK0, pR0, h251_25, if_pos t, b3, cK0, pR0, h251_32, bB_if]
  unfold moP
  rw [if_neg hc]
  show ∃ G', ofQ s G' D ∧ RR G' s nb w (if (juP D w bn (u1 p.1 6 (ajP D m sg (nthE (D 136) (fun z => z) (p.1 4) m m (tuP D m w tb p))), p.2)).1 = true then enP D m sg w tb (laP D nb m w tb bn (u1 (juP D w bn (u1 p.1 6 (ajP D m sg (nthE (D 136) (fun z => z) (p.1 4) m m (tuP D m w tb p))), p.2)).2.1 9 (w32 ((juP D w bn (u1 p.1 6 (ajP D m sg (nthE (D 136) (fun z => z) (p.1 4) m m (tuP D m w tb p))), p.2)).2.1 9 + 1)), (juP D w bn (u1 p.1 6 (ajP D m sg (nthE (D 136) (fun z => z) (p.1 4) m m (tuP D m w tb p))), p.2)).2.2)).2 (laP D nb m w tb bn (u1 (juP D w bn (u1 p.1 6 (ajP D m sg (nthE (D 136) (fun z => z) (p.1 4) m m (tuP D m w tb p))), p.2)).2.1 9 (w32 ((juP D w bn (u1 p.1 6 (ajP D m sg (nthE (D 136) (fun z => z) (p.1 4) m m (tuP D m w tb p))), p.2)).2.1 9 + 1)), (juP D w bn (u1 p.1 6 (ajP D m sg (nthE (D 136) (fun z => z) (p.1 4) m m (tuP D m w tb p))), p.2)).2.2)).1 else enP D m sg w tb (juP D w bn (u1 p.1 6 (ajP D m sg (nthE (D 136) (fun z => z) (p.1 4) m m (tuP D m w tb p))), p.2)).2 (D 137 (nthE (D 136) (fun z => z) (p.1 4) m m (tuP D m w tb p)))) ∧ _
  rw [e3']
  generalize juP D w bn (u1 p.1 6 (ajP D m sg e), p.2) = j at b2 P3 ⊢
  by_cases jq : j.1 = true
  · rw [if_pos jq, if_pos jq]
    have P4 : PI nb (u1 j.2.1 9 (w32 (j.2.1 9 + 1)), j.2.2) := by
      obtain ⟨p1, p2, p3, p4, p5, p6, p7, p8', p9⟩ := P3
      exact ⟨p1, p2, p3, p4, p5, p6, ⟨p7.1, w32_inP _, p7.2.2⟩, p8', p9⟩
    have e9 : G3 151 s = j.2.1 9 := b2.2.1 9 (by omega) (by omega)
    obtain ⟨G4, c1, c2, c3⟩ := k250 (xs := xs) (n := n) (bn := bn) d (ofQ_f (i := 9) (v := w32 (j.2.1 9 + 1)) (by omega) (by omega) b1) V (RR_f (i := 9) (v := w32 (j.2.1 9 + 1)) (by omega) (by omega) b2) P4
    have c3' : den (d + 5) 250 [(2, 129), (0, s), (0, bn)] (Sg xs n (up G3 151 s (w32 (j.2.1 9 + 1)))) = some ((0, (laP D nb m w tb bn (u1 j.2.1 9 (w32 (j.2.1 9 + 1)), j.2.2)).1), Sg xs n G4) := c3
    have P5 := laP_I (D := D) (m := m) (w := w) (tb := tb) (bn := bn) P4
    obtain ⟨G5, d1, d2, d3⟩ := k246 (xs := xs) (n := n) d _ c1 V c2 P5.1 P5.2.1 P5.2.2
    refine ⟨G5, d1, d2, ?_⟩
    rw [if_pos t, if_pos t, e9, c3', cK0, pR0, h251_51, h251_53, d3, cK0, pR0, h251_60]
  · rw [if_neg jq, if_neg jq]
    obtain ⟨G5, d1, d2, d3⟩ := k246 (xs := xs) (n := n) d (D 137 e) b1 V b2 P3 f2.1 f2.2
    refine ⟨G5, d1, d2, ?_⟩
    rw [h251_53, d3, cK0, pR0, h251_60]
theorem k252 (d : Nat) (h : ofQ s G D) (V : RV D nb m sg s w tb) (hp : RR G s nb w p) (P : 0 < nb → PI nb p) : ∃ G', ofQ s G' D ∧ RR G' s nb w (stP D nb m sg w tb bn p) ∧ den (d + 7) 252 [(2, 129), (0, s), (0, bn)] (Sg xs n G) = some ((9, 0), Sg xs n G') := by
  have EVD := V.1.2
  have h16 := EVD.1.1.2.2.2.1
  obtain ⟨s0, s1⟩ := V.2.2.2.2
  have t := inb_t s0 s1
  have hnb : G 131 0 = nb := by
    rw [ofQ_z h 131 (by omega)]
    exact EVD.1.1.1
  have last : ∀ {F : Sto} {q : PSt} (o2 : Option Vv), ofQ s F D → RR F s nb w q → ∃ G', ofQ s G' D ∧ RR G' s nb w (u1 q.1 3 (w32 (q.1 3 + 1)), q.2) ∧ Rn (d + 6) 252 46 [some (2, 129), some (0, s), o2] [] (Sg xs n F) = some ((9, 0), Sg xs n G') := by
    intro F q o2 hF hq
    have f3 : F 144 s = q.1 3 := hq.2.1 3 (by omega) (by omega)
    refine ⟨up F (fc 3) s (w32 (q.1 3 + 1)), ofQ_f (by omega) (by omega) hF, RR_f (by omega) (by omega) hq, ?_⟩
    rw [h252_46, if_pos t, if_pos t, f3]
    rfl
  rw [n252, h252_0, hnb]
  unfold stP
  by_cases z : nb = 0
  · rw [if_pos z, if_pos (by omega)]
    exact last _ h hp
  · rw [if_neg z, if_neg (by omega)]
    have P' := P (by omega)
    have f4 : G 146 s = p.1 4 := hp.2.1 4 (by omega) (by omega)
    have hcb := cntE_b (D 136) (p.1 4) m
    have e235 : den (d + 6) 235 [(2, 129), (0, p.1 4)] (Sg xs n G) = some ((0, cntE (D 136) (p.1 4) m), Sg xs n G) := by
      have := c235 (xs := xs) (n := n) (D := G) (d + 5) (p.1 4) m (by rw [ofQ_z h 131 (by omega)]; exact EVD.1.1.2.2.1) h16
      rw [ofQ_z h 136 (by omega)] at this
      exact this
    rw [if_pos t, f4, e235, cK0, pR0, h252_19]
    by_cases c : cntE (D 136) (p.1 4) m = 0
    · have em : moP D nb m sg w tb bn p = saP sg (u1 p.1 10 (w32 (p.1 10 + 1)), p.2) := by
        unfold moP
        rw [if_pos c]
      have P6 : PI nb (u1 p.1 10 (w32 (p.1 10 + 1)), p.2) := by
        obtain ⟨p1, p2, p3, p4, p5, p6, p7, p8', p9⟩ := P'
        exact ⟨p1, p2, p3, p4, p5, p6, ⟨p7.1, p7.2.1, w32_inP _⟩, p8', p9⟩
      have f10 : G 152 s = p.1 10 := hp.2.1 10 (by omega) (by omega)
      obtain ⟨G6, c1, c2, c3⟩ := k226 (xs := xs) (n := n) (d + 5) (ofQ_f (i := 10) (v := w32 (p.1 10 + 1)) (by omega) (by omega) h) V (RR_f (i := 10) (v := w32 (p.1 10 + 1)) (by omega) (by omega) hp) P6
      have c3' : den (d + 6) 226 [(2, 129), (0, s)] (Sg xs n (up G 152 s (w32 (p.1 10 + 1)))) = some ((9, 0), Sg xs n G6) := c3
      rw [if_pos (by omega), if_pos t, if_pos t, f10, c3', cK9, em]
      exact last _ c1 c2
    · obtain ⟨G6, c1, c2, c3⟩ := k251 (xs := xs) (n := n) (bn := bn) d h V hp P' c
      rw [if_neg (by omega), c3, cK9]
      show ∃ G', ofQ s G' D ∧ _ ∧ Rn (d + 6) 252 28 [some (2, 129), some (0, s), some (0, bn)] [] (Sg xs n G6) = _
      rw [h252_28]
      exact last _ c1 c2
end S88a
