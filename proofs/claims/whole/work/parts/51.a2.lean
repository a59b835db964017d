/-! The reference's worst answer -/
def mrk (F E : Sto) : Prop := F 131 = E 131 ∧ F 135 = E 135 ∧ F 136 = E 136 ∧ F 137 = E 137 ∧ F 154 = E 154 ∧ F 156 = E 156 ∧ F 129 45 = E 129 45
def agM (F E : Sto) : Prop := ∀ c j : Int, ¬ c = 174 → ¬ (c = 129 ∧ (j = 46 ∨ j = 47)) → F c j = E c j
theorem agM_mrk {F E : Sto} (h : agM F E) : mrk F E := by
  have hf : ∀ c : Int, ¬ c = 174 → ¬ c = 129 → F c = E c := fun c h1 h2 => funext (fun j => h c j h1 (fun q => h2 q.1))
  exact ⟨hf 131 (by decide) (by decide), hf 135 (by decide) (by decide), hf 136 (by decide) (by decide), hf 137 (by decide) (by decide), hf 154 (by decide) (by decide), hf 156 (by decide) (by decide), h 129 45 (by decide) (by decide)⟩
section A2
variable {xs : Int → Int} {n : Int × Int} {E F : Sto} {nb m : Nat}
theorem mrk_RG (h : mrk F E) (H : RG E nb m) : RG F nb m := by
  obtain ⟨h1, h2, h3, h4, h5, h6, h7⟩ := h
  unfold RG
  rw [h1, h3, h4]
  exact H
theorem mrk_bs (h : mrk F E) (b : Int) : rbs F m b = rbs E m b := by
  obtain ⟨h1, h2, h3, h4, h5, h6, h7⟩ := h
  unfold rbs
  rw [h2, h3, h4, h6, h7]
theorem mrk_RB (h : mrk F E) (H : RB E nb m) : RB F nb m := by
  intro b hb
  rw [mrk_bs h, h.2.1, h.2.2.2.1]
  exact H b hb
theorem mrk_sg (h : mrk F E) (h1 : F 129 46 = E 129 46) (h2 : F 129 47 = E 129 47) (s b : Int) : rsg F s b = rsg E s b := by
  unfold rsg
  rw [h1, h2, h.2.2.2.2.1]
theorem mrk_mk (h : mrk F E) (h1 : F 129 46 = E 129 46) (h2 : F 129 47 = E 129 47) (e b : Int) : rmk F m e b = rmk E m e b := by
  unfold rmk rmb rdf raj
  simp only [mrk_sg h h1 h2, mrk_bs h, h.2.2.1, h.2.2.2.1]
theorem agM_u {i v : Int} (h : agM F E) : agM (up F 174 i v) E := by
  intro c j h1 h2
  rw [up_ne h1]
  exact h c j h1 h2
theorem agM_v {i v : Int} (hi : i = 46 ∨ i = 47) (h : agM F E) : agM (up F 129 i v) E := by
  intro c j h1 h2
  by_cases e : c = 129
  · rw [up_ni (fun q => h2 ⟨e, by rw [q]; exact hi⟩)]
    exact h c j h1 h2
  · rw [up_ne e]
    exact h c j h1 h2
theorem k310a (d e b set : Nat) (cc : Int) (g : Nat → Nat) (H : RG E nb m) (hB : RB E nb m) (he : e < m) (hb : b < nb) (hg : ∀ v : Nat, v < 16 → rmk (up (up E 129 46 cc) 129 47 v) m e b = g v) : ∀ r v (F : Sto) o, v + r = 16 → agM F E → F 129 46 = cc → (∀ j : Nat, j < v → F 174 j = ((g j : Nat) : Int)) → ∃ F' : Sto, agM F' E ∧ F' 129 46 = -1 ∧ (∀ j : Nat, j < 16 → F' 174 j = ((g j : Nat) : Int)) ∧ Rn (d + 5) 310 8 [some (2, 129), some (0, (set : Int)), o, some (0, (e : Int)), some (0, (b : Int)), some (0, ((v : Nat) : Int)), none, none, none] [] (Sg xs n F) = Rn (d + 5) 310 52 [some (2, 129), some (0, (set : Int)), none, some (0, (e : Int)), some (0, (b : Int)), some (0, 0), some (0, 0), none, none] [] (Sg xs n F') := by
  intro r
  induction r with
  | zero =>
    intro v F o hv hA h46 h174
    refine ⟨up F 129 46 (-1), agM_v (Or.inl rfl) hA, up_at, ?_, ?_⟩
    · intro j hj
      rw [up_ne (by decide)]
      exact h174 j (by omega)
    · rw [h310_8, if_pos (by omega)]
  | succ r ih =>
    intro v F o hv hA h46 h174
    have hA2 : agM (up F 129 47 v) E := agM_v (Or.inr rfl) hA
    have e1 := c267 (xs := xs) (n := n) (D := up F 129 47 v) d e b (mrk_RG (agM_mrk hA2) H) (mrk_RB (agM_mrk hA2) hB) he hb
    have e2 : rmk (up F 129 47 v) m e b = g v := by
      rw [← hg v (by omega)]
      have q1 : agM (up (up E 129 46 cc) 129 47 v) E := agM_v (Or.inr rfl) (agM_v (Or.inl rfl) (fun c j _ _ => rfl))
      have a1 := agM_mrk hA2
      have a2 := agM_mrk q1
      refine mrk_mk ?_ ?_ ?_ _ _
      · exact ⟨a1.1.trans a2.1.symm, a1.2.1.trans a2.2.1.symm, a1.2.2.1.trans a2.2.2.1.symm, a1.2.2.2.1.trans a2.2.2.2.1.symm, a1.2.2.2.2.1.trans a2.2.2.2.2.1.symm, a1.2.2.2.2.2.1.trans a2.2.2.2.2.2.1.symm, a1.2.2.2.2.2.2.trans a2.2.2.2.2.2.2.symm⟩
      · rw [up_ni (by decide), up_ni (by decide), up_at]
        exact h46
      · rw [up_at, up_at]
    obtain ⟨F', b1, b2, b3, b4⟩ := ih (v + 1) (up (up F 129 47 v) 174 v (g v)) none (by omega) (agM_u hA2) (by rw [up_ne (by decide), up_ni (by decide)]; exact h46) (by
      intro j hj
      by_cases q : j = v
      · rw [q, up_at]
      · rw [up_ni (by omega), up_ne (by decide)]
        exact h174 j (by omega))
    refine ⟨F', b1, b2, b3, ?_⟩
    rw [h310_8, if_neg (by omega), e1, cK0, pR0, e2, h310_34, if_pos (inb_t (by omega) (by omega)), w1 (show v < 2147483647 by omega)]
    exact b4
theorem k310b (d set v : Nat) (acc : Int) (g : Nat → Nat) (hv : v < 16) (hs : set < 65536) (h174 : ∀ j : Nat, j < 16 → F 174 j = ((g j : Nat) : Int)) : ∀ r w, w + r = 16 → Rn (d + 5) 310 65 [some (2, 129), some (0, (set : Int)), none, none, none, some (0, acc), some (0, (v : Int)), some (0, ((cntV g set (g v) w : Nat) : Int)), some (0, ((w : Nat) : Int))] [] (Sg xs n F) = Rn (d + 5) 310 52 [some (2, 129), some (0, (set : Int)), none, none, none, some (0, if set.testBit v = true then max acc ((cntV g set (g v) 16 : Nat) : Int) else acc), some (0, ((v + 1 : Nat) : Int)), none, none] [] (Sg xs n F) := by
  intro r
  induction r with
  | zero =>
    intro w hw
    obtain rfl : w = 16 := by omega
    rw [h310_65, if_pos (by decide), tb_val (by omega) (by omega), bB_if1]
    by_cases h : set.testBit v = true
    · rw [if_pos h, if_pos h, c321 (d + 4), cK0, pR0, h310_132, h310_134, w1 (show v < 2147483647 by omega)]
    · rw [if_neg h, if_neg h, h310_134, w1 (show v < 2147483647 by omega)]
  | succ r ih =>
    intro w hw
    have hc := cntV_le g set (g v) w
    have hi := ih (w + 1) (by omega)
    rw [h310_65, if_neg (by omega), tb_val (by omega) (by omega), bB_if1]
    have et : cntV g set (g v) (w + 1) = if set.testBit w = true ∧ g w = g v then cntV g set (g v) w + 1 else cntV g set (g v) w := rfl
    rw [et] at hi
    have z1 : w32 ((cntV g set (g v) w : Nat) + (0 : Int)) = ((cntV g set (g v) w : Nat) : Int) := by
      rw [Int.add_zero, w32_idP (by omega) (by omega)]
    by_cases h : set.testBit w = true
    · rw [if_pos h, if_pos (inb_t (by omega) (by omega)), if_pos (inb_t (by omega) (by omega)), h174 w (by omega), h174 v hv]
      by_cases q : g w = g v
      · rw [if_neg (by omega), h310_106, w1 (show cntV g set (g v) w < 2147483647 by omega), w1 (show w < 2147483647 by omega)]
        rw [if_pos ⟨h, q⟩] at hi
        exact hi
      · rw [if_pos (by omega), h310_105, h310_106, z1, w1 (show w < 2147483647 by omega)]
        rw [if_neg (fun a => q a.2)] at hi
        exact hi
    · rw [if_neg h, h310_105, h310_106, z1, w1 (show w < 2147483647 by omega)]
      rw [if_neg (fun a => h a.1)] at hi
      exact hi
theorem k310c (d set : Nat) (g : Nat → Nat) (hs : set < 65536) (h174 : ∀ j : Nat, j < 16 → F 174 j = ((g j : Nat) : Int)) : ∀ r v o3 o4, v + r = 16 → Rn (d + 5) 310 52 [some (2, 129), some (0, (set : Int)), none, o3, o4, some (0, ((wrV g set 16 v : Nat) : Int)), some (0, ((v : Nat) : Int)), none, none] [] (Sg xs n F) = some ((0, ((wrV g set 16 16 : Nat) : Int)), Sg xs n F) := by
  intro r
  induction r with
  | zero =>
    intro v o3 o4 hv
    obtain rfl : v = 16 := by omega
    rw [h310_52, if_pos (by decide)]
  | succ r ih =>
    intro v o3 o4 hv
    have hi := ih (v + 1) none none (by omega)
    have e := k310b (xs := xs) (n := n) d set v ((wrV g set 16 v : Nat) : Int) g (by omega) hs h174 16 0 (by omega)
    rw [h310_52, if_neg (by omega)]
    refine e.trans ?_
    have et : wrV g set 16 (v + 1) = if set.testBit v = true then max (wrV g set 16 v) (cntV g set (g v) 16) else wrV g set 16 v := rfl
    rw [et] at hi
    by_cases h : set.testBit v = true
    · rw [if_pos h] at hi ⊢
      rw [show ((max (wrV g set 16 v) (cntV g set (g v) 16) : Nat) : Int) = max ((wrV g set 16 v : Nat) : Int) ((cntV g set (g v) 16 : Nat) : Int) by omega] at hi
      exact hi
    · rw [if_neg h] at hi ⊢
      exact hi
theorem c310 (d e b set : Nat) (cc : Int) (g : Nat → Nat) (H : RG E nb m) (hB : RB E nb m) (he : e < m) (hb : b < nb) (hs : set < 65536) (hg : ∀ v : Nat, v < 16 → rmk (up (up E 129 46 cc) 129 47 v) m e b = g v) : ∃ F, agM F E ∧ F 129 46 = -1 ∧ den (d + 6) 310 [(2, 129), (0, (set : Int)), (0, cc), (0, (e : Int)), (0, (b : Int))] (Sg xs n E) = some ((0, ((wrV g set 16 16 : Nat) : Int)), Sg xs n F) := by
  obtain ⟨F, a1, a2, a3, a4⟩ := k310a (xs := xs) (n := n) d e b set cc g H hB he hb hg 16 0 (up E 129 46 cc) (some (0, cc)) (by omega) (agM_v (Or.inl rfl) (fun c j _ _ => rfl)) up_at (fun j hj => by omega)
  refine ⟨F, a1, a2, ?_⟩
  rw [n310, h310_0]
  exact a4.trans (k310c d set g hs a3 16 0 _ _ (by omega))
end A2
