/-! The best question: class and reference -/
theorem dv8 (k : Nat) (h : k < 1000) : i_div (k : Int) 8 = ((k / 8 : Nat) : Int) ∧ i_rem (k : Int) 8 = ((k % 8 : Nat) : Int) := by
  constructor
  · show w32 (((k / 8 : Nat) : Int)) = _
    rw [w32_idP (by omega) (by omega)]
  · rfl
def agQ (F E : Sto) : Prop := ∀ z j : Int, ¬ z = 173 → ¬ z = 174 → ¬ (z = 129 ∧ (j = 0 ∨ j = 46 ∨ j = 47)) → F z j = E z j
theorem agQ_mrk {F E : Sto} (h : agQ F E) : mrk F E := by
  have hf : ∀ c : Int, ¬ c = 173 → ¬ c = 174 → ¬ c = 129 → F c = E c := fun c h1 h2 h3 => funext (fun j => h c j h1 h2 (fun q => h3 q.1))
  exact ⟨hf 131 (by decide) (by decide) (by decide), hf 135 (by decide) (by decide) (by decide), hf 136 (by decide) (by decide) (by decide), hf 137 (by decide) (by decide) (by decide), hf 154 (by decide) (by decide) (by decide), hf 156 (by decide) (by decide) (by decide), h 129 45 (by decide) (by decide) (by decide)⟩
theorem agQ_M {F G E : Sto} (h1 : agM F G) (h2 : agQ G E) : agQ F E := fun z j a b c => (h1 z j b (fun q => c ⟨q.1, Or.inr q.2⟩)).trans (h2 z j a b c)
theorem agQ_N {F G E : Sto} (h1 : agN F G) (h2 : agQ G E) : agQ F E := fun z j a b c => (h1 z j a (fun q => c ⟨q.1, Or.inr q.2⟩)).trans (h2 z j a b c)
theorem mrk_t {F G E : Sto} (h1 : mrk F E) (h2 : mrk G E) : mrk F G := by
  obtain ⟨a1, a2, a3, a4, a5, a6, a7⟩ := h1
  obtain ⟨b1, b2, b3, b4, b5, b6, b7⟩ := h2
  exact ⟨a1.trans b1.symm, a2.trans b2.symm, a3.trans b3.symm, a4.trans b4.symm, a5.trans b5.symm, a6.trans b6.symm, a7.trans b7.symm⟩
theorem mrk_v {E : Sto} {i v : Int} (hi : ¬ i = 45) : mrk (up E 129 i v) E := by
  have hf : ∀ c : Int, ¬ c = 129 → up E 129 i v c = E c := fun c h => funext (fun j => up_ne h)
  exact ⟨hf 131 (by decide), hf 135 (by decide), hf 136 (by decide), hf 137 (by decide), hf 154 (by decide), hf 156 (by decide), up_ni (fun q => hi q.symm)⟩
theorem mrk_2 {F G E : Sto} (h1 : mrk F G) (h2 : mrk G E) : mrk F E := by
  obtain ⟨a1, a2, a3, a4, a5, a6, a7⟩ := h1
  obtain ⟨b1, b2, b3, b4, b5, b6, b7⟩ := h2
  exact ⟨a1.trans b1, a2.trans b2, a3.trans b3, a4.trans b4, a5.trans b5, a6.trans b6, a7.trans b7⟩
def aAns (l2 : Int) (p : Nat × Nat) : Int := if p.2 = 99 then -2 else if l2 = 0 then ((p.1 / 8 : Nat) : Int) else if l2 = 1 then ((p.1 % 8 : Nat) : Int) else ((p.2 : Nat) : Int)
theorem z8 : (!decide ((8 : Int) = 0)) = true := rfl
section A4
variable {xs : Int → Int} {n : Int × Int} {D E : Sto} {nb m : Nat}
theorem k311 (d c set : Nat) (l2 : Int) (g : Nat → Nat → Nat → Nat) (H : RG E nb m) (hB : RB E nb m) (hs : set < 65536) (hg : ∀ e : Nat, e < m → ∀ b : Nat, b < nb → ∀ v : Nat, v < 16 → rmk (up (up E 129 46 c) 129 47 v) m e b = g e b v) : ∀ r k (F : Sto), k + r = 128 → agQ F E → F 129 46 = -1 → ∃ F' : Sto, agQ F' E ∧ F' 129 46 = -1 ∧ Rn (d + 8) 311 40 [some (2, 129), some (0, (c : Int)), some (0, l2), some (0, (set : Int)), some (0, if (rbP (qP (E 137) nb m) (qW g set) k).2 = 99 then -1 else (((rbP (qP (E 137) nb m) (qW g set) k).1 : Nat) : Int)), some (0, (((rbP (qP (E 137) nb m) (qW g set) k).2 : Nat) : Int)), some (0, ((k : Nat) : Int)), none] [] (Sg xs n F) = some ((0, aAns l2 (rbP (qP (E 137) nb m) (qW g set) 128)), Sg xs n F') := by
  have H' := H
  obtain ⟨hnb, h8, hm, h16, hE⟩ := H
  intro r
  induction r with
  | zero =>
    intro k F hk hA h46
    obtain rfl : k = 128 := by omega
    refine ⟨F, hA, h46, ?_⟩
    have hlt := rbP_lt (qP (E 137) nb m) (qW g set) (qW_le g set) 128
    generalize rbP (qP (E 137) nb m) (qW g set) 128 = p at hlt ⊢
    rw [h311_40, if_pos (by decide)]
    unfold aAns
    by_cases hp : p.2 = 99
    · rw [if_pos hp, if_pos hp, if_neg (by decide)]
    · have hd := dv8 p.1 (by omega)
      rw [if_neg hp, if_neg hp, if_pos (by omega), hd.1, hd.2, z8, if_pos rfl, if_pos rfl]
      by_cases h0 : l2 = 0
      · rw [if_pos h0, if_neg (by simp [h0]), h311_146]
      · rw [if_neg h0, if_pos h0]
        by_cases h1 : l2 = 1
        · rw [if_pos h1, if_neg (by simp [h1]), h311_146]
        · rw [if_neg h1, if_pos h1, h311_146]
  | succ r ih =>
    intro k F hk hA h46
    have hM := agQ_mrk hA
    have hlt := rbP_lt (qP (E 137) nb m) (qW g set) (qW_le g set) k
    have hw := qW_le g set k
    have hd := dv8 k (by omega)
    have es := rbP_s (qP (E 137) nb m) (qW g set) k
    have hi := fun F => ih (k + 1) F (by omega)
    rw [es] at hi
    generalize rbP (qP (E 137) nb m) (qW g set) k = p at hlt hi ⊢
    rw [h311_40, if_neg (by omega), hd.1, hd.2, z8, if_pos rfl, if_pos rfl, c266 (d + 6) _ _ (by rw [hM.1, hm]; omega), cK0, pR0, h311_62, hM.1, hM.2.2.2.1, hm, hnb]
    by_cases hP : qP (E 137) nb m k = true
    · have hP2 : k / 8 < m ∧ k % 8 < nb ∧ ¬ E 137 ((k / 8 : Nat) : Int) = ((k % 8 : Nat) : Int) := by
        unfold qP at hP
        simpa [and_assoc] using hP
      have e0 : bB ((0 ≤ ((k / 8 : Nat) : Int) ∧ ((k / 8 : Nat) : Int) < m) ∧ (0 ≤ ((k % 8 : Nat) : Int) ∧ ((k % 8 : Nat) : Int) < nb) ∧ ¬ E 137 ((k / 8 : Nat) : Int) = ((k % 8 : Nat) : Int)) = 1 := by
        unfold bB
        rw [if_pos ⟨by omega, by omega, hP2.2.2⟩]
      have hgF : ∀ v : Nat, v < 16 → rmk (up (up F 129 46 c) 129 47 v) m ((k / 8 : Nat) : Int) ((k % 8 : Nat) : Int) = g (k / 8) (k % 8) v := by
        intro v hv
        rw [← hg _ hP2.1 _ hP2.2.1 v hv]
        refine mrk_mk ?_ ?_ ?_ _ _
        · exact mrk_t (mrk_2 (mrk_v (by decide)) (mrk_2 (mrk_v (by decide)) hM)) (mrk_2 (mrk_v (by decide)) (mrk_v (by decide)))
        · rw [up_ni (by decide), up_at, up_ni (by decide), up_at]
        · rw [up_at, up_at]
      obtain ⟨G, g1, g2, g3⟩ := c310 (xs := xs) (n := n) (d + 2) (k / 8) (k % 8) set c (g (k / 8) (k % 8)) (mrk_RG hM H') (mrk_RB hM hB) hP2.1 hP2.2.1 hs hgF
      rw [← mx_ws, show mxV (g (k / 8) (k % 8)) set 16 = qW g set k from rfl] at g3
      rw [e0, if_pos (by decide), hd.1, hd.2, z8, if_pos rfl, if_pos rfl, g3, cK0, pR0, h311_84]
      obtain ⟨F', b1, b2, b3⟩ := hi G (agQ_M g1 hA) g2
      refine ⟨F', b1, b2, ?_⟩
      by_cases hl : qW g set k < p.2
      · rw [if_pos (by omega), h311_104, w1 (show k < 2147483647 by omega)]
        rw [show (if qP (E 137) nb m k = true ∧ qW g set k < p.2 then (k, qW g set k) else p) = (k, qW g set k) from if_pos ⟨hP, hl⟩] at b3
        rw [show (if ((k, qW g set k) : Nat × Nat).2 = 99 then (-1 : Int) else ((((k, qW g set k) : Nat × Nat).1 : Nat) : Int)) = (k : Int) from if_neg (show ¬ qW g set k = 99 by omega)] at b3
        exact b3
      · rw [if_neg (by omega), h311_104, w1 (show k < 2147483647 by omega)]
        rw [show (if qP (E 137) nb m k = true ∧ qW g set k < p.2 then (k, qW g set k) else p) = p from if_neg (fun q => hl q.2)] at b3
        exact b3
    · have e0 : bB ((0 ≤ ((k / 8 : Nat) : Int) ∧ ((k / 8 : Nat) : Int) < m) ∧ (0 ≤ ((k % 8 : Nat) : Int) ∧ ((k % 8 : Nat) : Int) < nb) ∧ ¬ E 137 ((k / 8 : Nat) : Int) = ((k % 8 : Nat) : Int)) = 0 := by
        unfold bB
        rw [if_neg]
        intro q
        apply hP
        unfold qP
        obtain ⟨⟨_, q1⟩, ⟨_, q2⟩, q3⟩ := q
        rw [show decide (k / 8 < m) = true from decide_eq_true (by omega), show decide (k % 8 < nb) = true from decide_eq_true (by omega)]
        simp only [q3, decide_false, Bool.not_false, Bool.and_self]
      obtain ⟨F', b1, b2, b3⟩ := hi F hA h46
      refine ⟨F', b1, b2, ?_⟩
      rw [e0, if_neg (by decide), h311_104, w1 (show k < 2147483647 by omega)]
      rw [show (if qP (E 137) nb m k = true ∧ qW g set k < p.2 then (k, qW g set k) else p) = p from if_neg (fun q => hP q.1)] at b3
      exact b3
end A4
