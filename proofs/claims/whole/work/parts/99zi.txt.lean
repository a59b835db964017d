/-! Text: the call as a whole -/
section S99zi
variable {xs : Int → Int} {n : Int × Int} {D : Sto}
theorem cb_f {C : Sto} {z : Int} (h : z < 26 ∨ z = 38 ∨ z = 39 ∨ 44 < z) : kDT (kC (kB (kA C))) z = C z := by
  rw [kD_f (by omega), kC_f (by omega), kB_f (by omega), kA_f (by omega)]
theorem cc_f {C : Sto} {nb : Nat} {z : Int} (h : ¬ (z = 46 ∨ z = 47 ∨ z = 48)) : (if 0 < nb then rn1 (z48 (cpy C 28 0 47 0 8) 8) else rn0 (z48 (cpy C 28 0 47 0 8) 8)) z = C z := by
  have e : z48 (cpy C 28 0 47 0 8) 8 z = C z := by
    funext j
    unfold z48
    rw [if_neg (by omega), cpy_ne (by omega)]
  by_cases q : 0 < nb
  · rw [if_pos q, (rn_f (by omega)).2, e]
  · rw [if_neg q, (rn_f (by omega)).1, e]
theorem cc_v {C : Sto} {nb : Nat} : ∃ F : Sto, F = (if 0 < nb then rn1 (z48 (cpy C 28 0 47 0 8) 8) else rn0 (z48 (cpy C 28 0 47 0 8) 8)) ∧ (∀ j : Int, 0 ≤ j → j < 8 → F 47 j = C 28 j ∧ F 48 j = 0) ∧ F 46 2 = C 26 5 ∧ F 46 3 = 0 ∧ F 46 4 = 0 ∧ F 46 5 = (if 0 < nb then C 28 0 else 0) ∧ F 46 6 = 0 ∧ F 46 7 = 0 ∧ F 46 8 = 0 ∧ F 46 9 = 0 ∧ F 46 10 = 0 ∧ F 46 11 = C 26 8 := by
  have e47 : ∀ j : Int, 0 ≤ j → j < 8 → z48 (cpy C 28 0 47 0 8) 8 47 j = C 28 j := fun j h0 h1 => by
    unfold z48
    rw [if_neg (by omega), cpy_at h0 h1]
  have e48 : ∀ j : Int, 0 ≤ j → j < 8 → z48 (cpy C 28 0 47 0 8) 8 48 j = 0 := fun j h0 h1 => by
    unfold z48
    rw [if_pos ⟨rfl, h0, h1⟩]
  have e26 : z48 (cpy C 28 0 47 0 8) 8 26 = C 26 := by
    funext j
    unfold z48
    rw [if_neg (by omega), cpy_ne (by decide)]
  refine ⟨_, rfl, ?_⟩
  by_cases q : 0 < nb
  · rw [if_pos q, if_pos q]
    have v := rn_v1 (C := z48 (cpy C 28 0 47 0 8) 8)
    rw [e26, e47 0 (by decide) (by decide)] at v
    refine ⟨fun j h0 h1 => ?_, v⟩
    rw [(rn_f (by decide)).2, (rn_f (by decide)).2]
    exact ⟨e47 j h0 h1, e48 j h0 h1⟩
  · rw [if_neg q, if_neg q]
    have v := rn_v0 (C := z48 (cpy C 28 0 47 0 8) 8)
    rw [e26] at v
    refine ⟨fun j h0 h1 => ?_, v⟩
    rw [(rn_f (by decide)).1, (rn_f (by decide)).1]
    exact ⟨e47 j h0 h1, e48 j h0 h1⟩
theorem rc_f {F : Sto} {nb : Nat} {z : Int} (h : ¬ (144 ≤ z ∧ z ≤ 155)) : r0b (stS (r0a F) (nb : Int) 8) z = F z := by
  funext j
  unfold r0b
  rw [up_ne (by omega), up_ne (by omega), up_ne (by omega)]
  unfold stS
  rw [if_neg (by omega), if_neg (by omega)]
  unfold r0a
  rw [up_ne (by omega), up_ne (by omega), up_ne (by omega), up_ne (by omega), up_ne (by omega), up_ne (by omega), up_ne (by omega)]
theorem rc_v {F : Sto} {nb : Nat} : (r0b (stS (r0a F) (nb : Int) 8) 144 0 = 0 ∧ r0b (stS (r0a F) (nb : Int) 8) 145 0 = F 131 5 ∧ r0b (stS (r0a F) (nb : Int) 8) 146 0 = 0 ∧ r0b (stS (r0a F) (nb : Int) 8) 147 0 = (if 0 < nb then F 133 0 else 0) ∧ r0b (stS (r0a F) (nb : Int) 8) 148 0 = 0 ∧ r0b (stS (r0a F) (nb : Int) 8) 149 0 = 0 ∧ r0b (stS (r0a F) (nb : Int) 8) 150 0 = 0 ∧ r0b (stS (r0a F) (nb : Int) 8) 151 0 = 0 ∧ r0b (stS (r0a F) (nb : Int) 8) 152 0 = 0 ∧ r0b (stS (r0a F) (nb : Int) 8) 153 0 = F 131 2) ∧ (∀ b : Nat, b < 8 → b < nb → r0b (stS (r0a F) (nb : Int) 8) 154 b = F 133 b ∧ r0b (stS (r0a F) (nb : Int) 8) 155 b = 0) := by
  have a133 : r0a F 133 = F 133 := by
    funext j
    unfold r0a
    rw [up_ne (by decide), up_ne (by decide), up_ne (by decide), up_ne (by decide), up_ne (by decide), up_ne (by decide), up_ne (by decide)]
  refine ⟨⟨rfl, rfl, rfl, ?_, rfl, rfl, rfl, rfl, rfl, rfl⟩, fun b hb hn => ⟨?_, ?_⟩⟩
  · unfold r0b
    rw [up_ne (by decide), up_at]
    unfold stS
    rw [if_pos (by decide), a133]
    by_cases q : 0 < nb
    · rw [if_pos q, if_pos (by omega)]
    · rw [if_neg q, if_neg (by omega)]
  · unfold r0b
    rw [up_ne (by decide), up_ne (by decide), up_ne (by decide)]
    unfold stS
    rw [if_pos ⟨rfl, by omega, by omega⟩, if_pos (by omega), a133]
  · unfold r0b
    rw [up_ne (by decide), up_ne (by decide), up_ne (by decide)]
    unfold stS
    rw [if_neg (by omega), if_pos ⟨rfl, by omega, by omega⟩]
theorem ts_text (R : Rel D) (d : Nat) (l1 : Int) : tws xs n (d + 200) 0 138 219 [(0, l1)] D := by
  have R0 := R
  obtain ⟨nb0, m0, ⟨q0, q0', ⟨_, _, _, h46, _, _, h45⟩, _⟩, X0⟩ := R
  obtain ⟨_, _, _, _, ⟨_, tt, ⟨_, tt1, _, _, tt2⟩, _⟩, ⟨L, ⟨t1, t1', t1''⟩, t2, t3, t4⟩, z1, z2⟩ := X0
  by_cases q : 0 ≤ l1 ∧ l1 ≤ (L : Int)
  · obtain ⟨nn, rfl⟩ : ∃ nn : Nat, l1 = (nn : Int) := ⟨l1.toNat, by omega⟩
    obtain ⟨C1, R1, b1, b2, b3, b4, b5, b6, b7, b8⟩ := BEGIN (xs := xs) (n := n) (d0 := d + 186) (C := D) (R := D) (nn := nn) t1 t1' t1'' (by omega) t2 z2
    obtain ⟨R2, c1, c2, c3⟩ := LOOP (xs := xs) (n := n) (d0 := d + 186) (N := (nn : Int)) 700 0 0 0 0 C1 R1 rfl b3 b4 b5 (by decide) b6
    have rf : ∀ C0 : Sto, den (d + 200) 219 [(2, 129), (0, (nn : Int))] (Sg xs n (mix C0 D)) = Rn (d + 199) 219 149 [some (2, 129), none, none] [] (Sg xs n (mix C0 R2)) := fun C0 => (b2 (d + 196) C0).trans (c1 (d + 199) C0 _ (by omega))
    have cl : ∀ (v : Int) (F : Sto), Rn (d + 198) 69 27 [some (2, 2), some (0, (nn : Int)), some (0, ((0 : Nat) : Int))] [] (Sg xs n (mix C1 D)) = some ((0, v), Sg xs n (mix F D)) → den (d + 200) 138 [(2, 1), (0, (nn : Int))] (Sg xs n D) = Rn (d + 199) 138 29 [some (2, 1), some (0, (nn : Int)), none] [(0, v)] (Sg xs n (mix F D)) := by
      intro v F h
      have e := b1 D
      rw [mix_s] at e
      have e' : den (d + 199) 69 [(2, 2), (0, (nn : Int))] (Sg xs n D) = some ((0, v), Sg xs n (mix F D)) := e.trans h
      rw [n138, h138_0, if_neg (by omega), t1, if_pos (by omega), e', cK0, pR0]
    have rr : ∀ z j : Int, relv z j → R2 z j = D z j := fun z j h => by
      unfold relv at h
      rw [c2 z j (by omega), b8 z j (by omega)]
      by_cases y : z = 129
      · rw [up_ni (by omega), up_ni (by omega)]
      · rw [up_ne y, up_ne y]
    have r2 : R2 129 2 = 0 := by rw [c2 129 2 (by decide), b8 129 2 (by decide), up_at]
    obtain ⟨C2, e1, e2, e3, e4⟩ | ⟨C2, nb, m, T, j, e1, e2, e3⟩ := c3
    · -- a fault
      have fc := fC0_t b7 e3
      refine ⟨mix (up (up (up C2 3 1 0) 1 8 (C2 2 2)) 1 9 (C2 2 3)) D, mix (up (up (up C2 3 1 0) 1 8 (C2 2 2)) 1 9 (C2 2 3)) (up (up R2 129 23 (R2 129 21)) 129 24 (R2 129 22)), -1, ?_, ?_, ?_⟩
      · rw [cl 0 C2 (e1 D _), h138_29, if_neg (fun z => z rfl)]
        simp only [mc1, uc1, mc2, uc2, mc3, uc3, mc4, uc4, mc5, uc5, mc6, uc6, mc7, uc7, mc8, uc8, mc9, uc9, mc10, uc10, mc11, uc11, mc12, uc12, mc13, uc13, mc14, uc14, mc15, uc15, mc16, uc16, mc17, uc17, mc18, uc18, mc19, uc19, mc20, uc20, mc21, uc21, mc22, uc22, mc23, uc23, mc24, uc24, mc25, uc25]
      · have s := rf (up (up (up C2 3 1 0) 1 8 (C2 2 2)) 1 9 (C2 2 3))
        rw [s, h219_149]
        simp only [mr129, ur129]
        rw [if_neg e2.2.2]
      · refine Rel_L R0 (fun z j h => ?_) ?_ ?_
        · have h' := h
          unfold relv at h'
          by_cases y : z < 129
          · rw [mix_c y, up_ne (by omega), up_ne (by omega), up_ne (by omega)]
            exact fc z j (by omega)
          · rw [mix_r y]
            by_cases w : z = 129
            · rw [up_ni (by omega), up_ni (by omega)]
              exact rr z j h
            · rw [up_ne w, up_ne w]
              exact rr z j h
        · refine ⟨0, ⟨?_, ?_, by decide⟩, fun j hj => absurd hj (Nat.not_lt_zero j), ?_, ?_⟩
          · rw [mc3, up_ne (by decide), up_ne (by decide), up_at]
            rfl
          · rw [mr129, up_ni (by decide), up_ni (by decide)]
            exact r2
          · rw [mc1, mr129, up_ni (by decide), up_at, up_ni (by decide), up_at]
            exact e2.1
          · rw [mc1, mr129, up_at, up_at]
            exact e2.2.1
        · unfold ok20
          rw [mc20]
          intro k hk
          rw [up_ne (by decide), up_ne (by decide), up_ne (by decide)]
          exact e4 k hk
    · -- the text is read
      have fc := fC0_t b7 e3
      obtain ⟨g1, g2, g3, g4, g5, g6⟩ := e2.2.1.1
      have gb := e2.2.1.2.1
      have ge := e2.2.1.2.2.1
      have x2 := e2.1
      have s5 := e2.2.2.1.2.2.2.2.1
      have okC := e2.2.2.2.choose_spec.2.2.1
      have f5 := e5 (xs := xs) (n := n) (C := C2) (nb := nb) (m := m) (d + 197) g4 g6 g3 (fun b hb => (gb b hb).2.2.2.2.1) (fun k hk => ⟨(ge k hk).1.2, (ge k hk).2.2⟩)
      have fz : ∀ z : Int, ¬ z = 15 → fnS C2 (nb : Int) m z = C2 z := fun z hz => by
        funext y
        unfold fnS
        rw [if_neg (fun w => hz w.1)]
      have f15 : ∀ b : Nat, b < nb → fnS C2 (nb : Int) m 15 b = if C2 15 b < 0 then fsE (C2 11) (C2 10) b m else C2 15 b := fun b hb => by
        unfold fnS
        by_cases y : C2 15 b < 0
        · rw [if_pos ⟨rfl, by omega, by omega, y⟩, if_pos y]
        · rw [if_neg (fun w => y w.2.2.2), if_neg y]
      generalize fnS C2 (nb : Int) m = F1 at f5 fz f15
      have c69 : Rn (d + 198) 69 27 [some (2, 2), some (0, (nn : Int)), some (0, ((0 : Nat) : Int))] [] (Sg xs n (mix C1 D)) = some ((0, 1), Sg xs n (mix F1 D)) := by
        have s := e1 D (some (0, (nn : Int)))
        refine s.trans ?_
        rw [h69_85, f5 D, cK9, pRv, h69_95]
      have kl := cl 1 F1 c69
      -- the class's store
      generalize hCa : up (up (up F1 3 1 0) 1 8 (F1 2 2)) 1 9 (F1 2 3) = Ca
      have caz : ∀ z : Int, ¬ (z = 1 ∨ z = 3) → Ca z = F1 z := fun z hz => by
        funext y
        rw [← hCa, up_ne (by omega), up_ne (by omega), up_ne (by omega)]
      have ca1 : Ca 3 1 = 0 ∧ Ca 1 8 = 0 ∧ Ca 1 9 = -1 := by
        rw [← hCa]
        refine ⟨by rw [up_ne (by decide), up_ne (by decide), up_at], by rw [up_ni (by decide), up_at, fz 2 (by decide)]; exact x2.2.1, by rw [up_at, fz 2 (by decide)]; exact x2.2.2.1⟩
      have okA : ok20 Ca := by
        unfold ok20
        rw [caz 20 (by decide), fz 20 (by decide)]
        exact okC
      have k63 := e63 (xs := xs) (n := n) (C := Ca) (d + 197) okA
      have b30 : kDT (kC (kB (kA Ca))) 30 0 = (nb : Int) := by
        rw [kD_f (by decide), kC_f (by decide), kB_0.1, kA_f (by decide), caz 9 (by decide), fz 9 (by decide)]
        exact g1
      generalize hCb : kDT (kC (kB (kA Ca))) = Cb at k63 b30
      have k92 := e92 (xs := xs) (n := n) (C := Cb) (nb := nb) (d + 197) b30
      obtain ⟨Cc, hCc, v47, v2, v3, v4, v5, v6, v7, v8, v9, v10, v11⟩ := cc_v (C := Cb) (nb := nb)
      have ccz : ∀ z : Int, ¬ (z = 46 ∨ z = 47 ∨ z = 48) → Cc z = Cb z := fun z hz => by
        rw [hCc]
        exact cc_f hz
      rw [← hCc] at k92
      clear hCc
      generalize hCd : up (up (up (up Cc 58 0 0) 58 4 (-1)) 64 0 0) 64 3 0 = Cd
      have cdz : ∀ z : Int, ¬ (z = 58 ∨ z = 64) → Cd z = Cc z := fun z hz => by
        funext y
        rw [← hCd, up_ne (by omega), up_ne (by omega), up_ne (by omega), up_ne (by omega)]
      have cbz : ∀ z : Int, (z < 26 ∨ z = 38 ∨ z = 39 ∨ 44 < z) → Cb z = Ca z := fun z hz => by
        rw [← hCb]
        exact cb_f hz
      -- the answer of the class
      have a269 : Cd 26 9 = (j : Int) := by
        rw [cdz 26 (by decide), ccz 26 (by decide), ← hCb, kD_v.2.2.2.2, kC_f (by decide), kB_f (by decide), kA_f (by decide), caz 5 (by decide), fz 5 (by decide)]
        exact s5.1
      have ec : den (d + 200) 138 [(2, 1), (0, (nn : Int))] (Sg xs n D) = some ((0, (j : Int)), Sg xs n (mix Cd D)) := by
        have u58 : ∀ (G : Sto) (y v : Int), up (mix G D) 58 y v = mix (up G 58 y v) D := fun G y v => mix_uc (by decide)
        have u64 : ∀ (G : Sto) (y v : Int), up (mix G D) 64 y v = mix (up G 64 y v) D := fun G y v => mix_uc (by decide)
        rw [kl, h138_29, if_pos (by decide)]
        simp only [mc1, uc1, mc2, uc2, mc3, uc3, mc4, uc4, mc5, uc5, mc6, uc6, mc7, uc7, mc8, uc8, mc9, uc9, mc10, uc10, mc11, uc11, mc12, uc12, mc13, uc13, mc14, uc14, mc15, uc15, mc16, uc16, mc17, uc17, mc18, uc18, mc19, uc19, mc20, uc20, mc21, uc21, mc22, uc22, mc23, uc23, mc24, uc24, mc25, uc25]
        rw [hCa, k63 D, cK9, pRv, h138_83, k92 D, cK9, pRv, h138_94, n51, h51_0]
        simp only [u58]
        rw [cK9, pRv, h138_101, n27, h27_0]
        simp only [u64]
        rw [cK9, pRv, h138_108, hCd, mix_c (by decide), a269]
      -- the reference's store
      generalize hRa : up (up R2 129 23 (R2 129 21)) 129 24 (R2 129 22) = Ra
      have raz : ∀ z : Int, ¬ z = 129 → Ra z = R2 z := fun z hz => by
        funext y
        rw [← hRa, up_ne hz, up_ne hz]
      have ra9 : ∀ y : Int, ¬ (y = 23 ∨ y = 24) → Ra 129 y = R2 129 y := fun y hy => by rw [← hRa, up_ni (by omega), up_ni (by omega)]
      have ra23 : Ra 129 23 = 0 ∧ Ra 129 24 = -1 := by
        rw [← hRa]
        exact ⟨by rw [up_ni (by decide), up_at]; exact x2.1, by rw [up_at]; exact x2.2.2.2.1⟩
      generalize hRb : up (up (up (up (hll Ra) 129 64 0) 129 65 (-1)) 129 42 0) 129 43 0 = Rb
      have rbz : ∀ z : Int, ¬ z = 129 → Rb z = hll Ra z := fun z hz => by
        funext y
        rw [← hRb, up_ne hz, up_ne hz, up_ne hz, up_ne hz]
      have rb9 : ∀ y : Int, ¬ (y = 64 ∨ y = 65 ∨ y = 42 ∨ y = 43) → Rb 129 y = Ra 129 y := fun y hy => by rw [← hRb, up_ni (by omega), up_ni (by omega), up_ni (by omega), up_ni (by omega), hll_f (by decide)]
      have rbv : Rb 129 42 = 0 ∧ Rb 129 43 = 0 ∧ Rb 129 64 = 0 ∧ Rb 129 65 = -1 := by
        rw [← hRb]
        exact ⟨by rw [up_ni (by decide), up_at], by rw [up_at], by rw [up_ni (by decide), up_ni (by decide), up_ni (by decide), up_at], by rw [up_ni (by decide), up_ni (by decide), up_at]⟩
      have b131 : ∀ y : Nat, y < 7 → Rb 131 y = R2 131 (7 + y) := fun y hy => by rw [rbz 131 (by decide), hll_7 (by omega) (by omega), raz 131 (by decide)]
      have b131_0 : Rb 131 0 = (nb : Int) := by
        have e := b131 0 (by decide)
        exact e.trans g2
      have k228 := r228 (xs := xs) (n := n) (R := Rb) (nb := nb) (d + 196) b131_0 g3
      have rcz : ∀ z : Int, ¬ (144 ≤ z ∧ z ≤ 155) → r0b (stS (r0a Rb) (nb : Int) 8) z = Rb z := fun z hz => rc_f hz
      have rcv := rc_v (F := Rb) (nb := nb)
      generalize r0b (stS (r0a Rb) (nb : Int) 8) = Rc at k228 rcz rcv
      have er : den (d + 200) 219 [(2, 129), (0, (nn : Int))] (Sg xs n (mix Cd D)) = some ((0, (j : Int)), Sg xs n (mix Cd Rc)) := by
        have a15 : Rc 129 15 = (j : Int) := by
          rw [rcz 129 (by decide), rb9 15 (by decide), ra9 15 (by decide)]
          exact s5.2
        rw [rf Cd, h219_149]
        simp only [mr129, ur129]
        rw [if_pos x2.1, hRa, r218a (d + 198) Cd, cK9, pRv, h219_181, r218b (d + 198) Cd, cK9, pRv, h219_188, r218c (d + 198) Cd, cK9, pRv, h219_195, r218d (d + 198) Cd, cK9, pRv, h219_202, r218e (d + 198) Cd, cK9, pRv, h219_209, r218f (d + 198) Cd, cK9, pRv, h219_216, r218g (d + 198) Cd, cK9, pRv, h219_223, r218h (d + 198) Cd, cK9, pRv, h219_230, r218i (d + 198) Cd, cK9, pRv, h219_237, r218j (d + 198) Cd, cK9, pRv, h219_244, r218k (d + 198) Cd, cK9, pRv, h219_251]
        simp only [ur129]
        show cK (den (d + 199) 228 [(2, 129)] (Sg xs n (mix Cd (up (up (up (up (hll Ra) 129 64 0) 129 65 (-1)) 129 42 0) 129 43 0)))) _ = _
        rw [hRb, k228 Cd, cK9, pRv, h219_275, mr129, a15]
      refine ⟨mix Cd D, mix Cd Rc, (j : Int), ec, er, ?_⟩
      have mC : ∀ z : Int, z < 129 → mix Cd Rc z = Cd z := fun z hz => mix_c hz
      have mR : ∀ z : Int, 129 ≤ z → mix Cd Rc z = Rc z := fun z hz => mix_r (by omega)
      have big : ∀ z : Int, ¬ (z = 46 ∨ z = 47 ∨ z = 48 ∨ z = 58 ∨ z = 64) → z < 129 → mix Cd Rc z = Cb z := fun z hz hz2 => by rw [mC z hz2, cdz z (by omega), ccz z (by omega)]
      have c9 : ∀ y : Int, ¬ (y = 23 ∨ y = 24 ∨ y = 64 ∨ y = 65 ∨ y = 42 ∨ y = 43) → mix Cd Rc 129 y = R2 129 y := fun y hy => by rw [mR 129 (by decide), rcz 129 (by decide), rb9 y (by omega), ra9 y (by omega)]
      have hl : ∀ z : Int, 131 ≤ z → z ≤ 141 → mix Cd Rc z = hll Ra z := fun z h1 h2 => by rw [mR z (by omega), rcz z (by omega), rbz z (by omega)]
      refine Rel_new (C := C2) (R := R2) (i := j) (T := T) e2 ?_ ?_ ?_ ?_ ?_ ?_ ?_ ?_ ?_ ?_ ?_ ?_ ?_ ?_ ?_ ?_ ?_ ?_ ?_ ?_ ?_ ?_ ?_ ?_
      · rw [big 26 (by decide) (by decide), ← hCb, kD_v.2.1, kD_v.2.2.1, kC_f (by decide), kB_f (by decide), kA_f (by decide), caz 5 (by decide), fz 5 (by decide)]
        exact ⟨rfl, rfl⟩
      · intro b hb
        rw [big 27 (by decide) (by decide), big 29 (by decide) (by decide), ← hCb, kD_f (by decide), kD_f (by decide), kC_f (by decide), kC_f (by decide), kB_f (by decide), kB_f (by decide), (kA_v (by omega) (by omega)).1, (kA_v (by omega) (by omega)).2.2, caz 6 (by decide), caz 8 (by decide), fz 6 (by decide), fz 8 (by decide)]
        exact ⟨rfl, rfl⟩
      · rw [big 30 (by decide) (by decide), ← hCb, kD_f (by decide), kC_f (by decide), kB_0.1, kB_0.2, kA_f (by decide), caz 9 (by decide), fz 9 (by decide)]
        exact ⟨rfl, rfl⟩
      · intro k hk
        rw [big 31 (by decide) (by decide), big 32 (by decide) (by decide), ← hCb, kD_f (by decide), kD_f (by decide), kC_f (by decide), kC_f (by decide), (kB_16 (by omega) (by omega)).1, (kB_16 (by omega) (by omega)).2, kA_f (by decide), kA_f (by decide), caz 10 (by decide), caz 11 (by decide), fz 10 (by decide), fz 11 (by decide)]
        exact ⟨rfl, rfl⟩
      · intro b hb
        rw [big 33 (by decide) (by decide), big 34 (by decide) (by decide), big 35 (by decide) (by decide), ← hCb, kD_f (by decide), kD_f (by decide), kD_f (by decide), kC_f (by decide), kC_f (by decide), kC_f (by decide), (kB_8 (by omega) (by omega)).1, (kB_8 (by omega) (by omega)).2.1, (kB_8 (by omega) (by omega)).2.2.1, kA_f (by decide), kA_f (by decide), kA_f (by decide), caz 12 (by decide), caz 13 (by decide), caz 14 (by decide), fz 12 (by decide), fz 13 (by decide), fz 14 (by decide)]
        exact ⟨rfl, rfl, rfl⟩
      · intro b hb
        rw [big 36 (by decide) (by decide), ← hCb, kD_f (by decide), kC_f (by decide), (kB_8 (by omega) (by omega)).2.2.2, kA_f (by decide), caz 15 (by decide)]
        exact f15 b hb
      · intro y h0 h1
        rw [big 37 (by decide) (by decide), ← hCb, kD_f (by decide), kC_f (by decide), kB_24 h0 h1, kA_f (by decide), caz 16 (by decide), fz 16 (by decide)]
      · rw [big 40 (by decide) (by decide), ← hCb, kD_f (by decide), kC_0, kB_f (by decide), kA_f (by decide), caz 19 (by decide), fz 19 (by decide)]
      · intro k hk
        rw [big 41 (by decide) (by decide), big 42 (by decide) (by decide), ← hCb, kD_f (by decide), kD_f (by decide), (kC_64 (by omega) (by omega)).1, (kC_64 (by omega) (by omega)).2, kB_f (by decide), kB_f (by decide), kA_f (by decide), kA_f (by decide), caz 20 (by decide), caz 21 (by decide), fz 20 (by decide), fz 21 (by decide)]
        exact ⟨rfl, rfl⟩
      · intro k hk
        rw [big 43 (by decide) (by decide), big 44 (by decide) (by decide), ← hCb, kD_f (by decide), kD_f (by decide), (kC_3 (by omega) (by omega)).1, (kC_3 (by omega) (by omega)).2, kB_f (by decide), kB_f (by decide), kA_f (by decide), kA_f (by decide), caz 22 (by decide), caz 23 (by decide), fz 22 (by decide), fz 23 (by decide)]
        exact ⟨rfl, rfl⟩
      · have w5 : Cb 26 5 = C2 5 5 := by rw [← hCb, kD_v.1, kC_f (by decide), kB_f (by decide), kA_f (by decide), caz 5 (by decide), fz 5 (by decide)]
        have w8 : Cb 26 8 = C2 5 8 := by rw [← hCb, kD_v.2.2.2.1, kC_f (by decide), kB_f (by decide), kA_f (by decide), caz 5 (by decide), fz 5 (by decide)]
        have w28 : Cb 28 0 = C2 7 0 := by rw [← hCb, kD_f (by decide), kC_f (by decide), kB_f (by decide), (kA_v (by decide) (by decide)).2.1, caz 7 (by decide), fz 7 (by decide)]
        rw [mC 46 (by decide), cdz 46 (by decide), v2, v3, v4, v5, v6, v7, v8, v9, v10, v11, w5, w8, w28]
        exact ⟨rfl, rfl, rfl, rfl, rfl, rfl, rfl, rfl, rfl, rfl⟩
      · intro b hb
        rw [mC 47 (by decide), mC 48 (by decide), cdz 47 (by decide), cdz 48 (by decide), (v47 b (by omega) (by omega)).1, (v47 b (by omega) (by omega)).2, ← hCb, kD_f (by decide), kC_f (by decide), kB_f (by decide), (kA_v (by omega) (by omega)).2.1, caz 7 (by decide), fz 7 (by decide)]
        exact ⟨rfl, rfl⟩
      · rw [mC 58 (by decide), ← hCd, up_ne (by decide), up_ne (by decide), up_ni (by decide), up_at, up_ne (by decide), up_ne (by decide), up_at]
        exact ⟨rfl, rfl⟩
      · rw [mC 64 (by decide), ← hCd]
        refine ⟨by rw [up_ni (by decide), up_at], by rw [up_at], tt, tt1, ?_⟩
        rw [up_ni (by decide), up_ni (by decide), up_ne (by decide), up_ne (by decide), ccz 64 (by decide), cbz 64 (by decide), caz 64 (by decide), fz 64 (by decide), fc 64 4 (by decide)]
        exact tt2
      · rw [big 3 (by decide) (by decide), big 1 (by decide) (by decide), cbz 3 (by decide), cbz 1 (by decide)]
        exact ca1
      · unfold ok20
        rw [big 20 (by decide) (by decide), cbz 20 (by decide)]
        exact okA
      · refine ⟨by rw [c9 2 (by decide)]; exact r2, by rw [mR 129 (by decide), rcz 129 (by decide), rb9 23 (by decide)]; exact ra23.1, by rw [mR 129 (by decide), rcz 129 (by decide), rb9 24 (by decide)]; exact ra23.2, by rw [mR 129 (by decide), rcz 129 (by decide)]; exact rbv.1, by rw [mR 129 (by decide), rcz 129 (by decide)]; exact rbv.2.1, by rw [c9 45 (by decide), rr 129 45 (by unfold relv; omega)]; exact h45, by rw [c9 46 (by decide), rr 129 46 (by unfold relv; omega)]; exact h46, by rw [c9 48 (by decide), rr 129 48 (by unfold relv; omega)]; exact z1, by rw [mR 129 (by decide), rcz 129 (by decide)]; exact rbv.2.2.1, by rw [mR 129 (by decide), rcz 129 (by decide)]; exact rbv.2.2.2⟩
      · intro y hy
        rw [mR 131 (by decide), rcz 131 (by decide)]
        exact b131 y hy
      · intro b hb
        have v := hll_8 (R := Ra) (j := (b : Int)) (by omega) (by omega)
        rw [hl 132 (by decide) (by decide), hl 134 (by decide) (by decide), hl 135 (by decide) (by decide), v.1, v.2.2.1, v.2.2.2, raz 132 (by decide), raz 134 (by decide), raz 135 (by decide)]
        exact ⟨rfl, rfl, rfl⟩
      · intro k hk
        have v := hll_16 (R := Ra) (j := (k : Int)) (by omega) (by omega)
        rw [hl 136 (by decide) (by decide), hl 137 (by decide) (by decide), v.1, v.2, raz 136 (by decide), raz 137 (by decide)]
        exact ⟨rfl, rfl⟩
      · intro k hk
        have v := hll_3 (R := Ra) (j := (k : Int)) (by omega) (by omega)
        rw [hl 138 (by decide) (by decide), hl 139 (by decide) (by decide), v.1, v.2, raz 138 (by decide), raz 139 (by decide)]
        exact ⟨rfl, rfl⟩
      · intro k hk
        have v := hll_64 (R := Ra) (j := (k : Int)) (by omega) (by omega)
        rw [hl 140 (by decide) (by decide), hl 141 (by decide) (by decide), v.1, v.2, raz 140 (by decide), raz 141 (by decide)]
        exact ⟨rfl, rfl⟩
      · have x5 : Rb 131 5 = R2 131 12 := b131 5 (by decide)
        have x2' : Rb 131 2 = R2 131 9 := b131 2 (by decide)
        have x133 : Rb 133 0 = R2 133 8 := by
          rw [rbz 133 (by decide), (hll_8 (by decide) (by decide)).2.1, raz 133 (by decide)]
          rfl
        have v := rcv.1
        rw [x5, x2', x133] at v
        rw [mR 144 (by decide), mR 145 (by decide), mR 146 (by decide), mR 147 (by decide), mR 148 (by decide), mR 149 (by decide), mR 150 (by decide), mR 151 (by decide), mR 152 (by decide), mR 153 (by decide)]
        exact v
      · intro b hb
        have v := rcv.2 b (by omega) hb
        rw [mR 154 (by decide), mR 155 (by decide), v.1, v.2, rbz 133 (by decide), (hll_8 (by omega) (by omega)).2.1, raz 133 (by decide)]
        exact ⟨rfl, rfl⟩
  · refine tws_sim (D1 := D) (D2 := up D 129 0 0) (a := -2) R0 ?_ ?_ sim_129_0
    · rw [n138, h138_0, t1]
      by_cases w : l1 < 0
      · rw [if_pos w, h138_18]
      · rw [if_neg w, if_neg (by omega), h138_18]
    · rw [n219, h219_0, t1']
      by_cases w : l1 < 0
      · rw [if_pos w, h219_17]
      · rw [if_neg w, if_neg (by omega), h219_17]
end S99zi
