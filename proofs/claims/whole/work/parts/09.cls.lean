/-! What the tables say of the fields -/
def lw_good : List Cond := lw_tbl.filter goodWord
def tyc (t : FieldType) (k : Nat) : Bool := match t, k with
  | .int, 0 => true
  | .long, 1 => true
  | .boolean, 3 => true
  | .object _, 2 => true
  | .array _, 2 => true
  | _, _ => false
def clOk (ci : Nat) (r : vw_C) (ty0 : Nat → FieldType) : Prop := (∀ k, k < r.2.2 → parseFieldDescriptor (r.2.1 k).2.2.1 = some (ty0 k)) ∧ (∀ a, a < r.2.2 → ∀ b, b < r.2.2 → a ≠ b → (r.2.1 a).2.1 ≠ (r.2.1 b).2.1) ∧
  (∀ w ∈ u_ws r.1 r.2.1 r.2.2, w ∈ lw_good) ∧ (∀ k, k < r.2.2 → tyc (ty0 k) (fcode (ci : Int) (k : Int)) = true) ∧ r.2.2 = nfl (ci : Int)
theorem in_good {ws : List Cond} (h : ws.all (fun w => lw_tbl.contains w && goodWord w) = true) : ∀ w ∈ ws, w ∈ lw_good := by
  intro w hw
  have := List.all_eq_true.mp h w hw
  simp only [Bool.and_eq_true] at this
  exact List.mem_filter.mpr ⟨List.contains_iff_mem.mp this.1, this.2⟩
theorem clOk_0 : clOk 0 (RX1, TX1, 11) tyX1 := ⟨tyX1_ok, nmX1, in_good (by decide +kernel), by decide +kernel, by decide +kernel⟩
theorem clOk_1 : clOk 1 (RX2, TX2, 5) tyX2 := ⟨tyX2_ok, nmX2, in_good (by decide +kernel), by decide +kernel, by decide +kernel⟩
theorem clOk_2 : clOk 2 (RX4, TX4, 8) tyX4 := ⟨tyX4_ok, nmX4, in_good (by decide +kernel), by decide +kernel, by decide +kernel⟩
theorem clOk_3 : clOk 3 (RX5, TX5, 11) tyX5 := ⟨tyX5_ok, nmX5, in_good (by decide +kernel), by decide +kernel, by decide +kernel⟩
theorem clOk_4 : clOk 4 (RX6, TX6, 13) tyX6 := ⟨tyX6_ok, nmX6, in_good (by decide +kernel), by decide +kernel, by decide +kernel⟩
theorem clOk_5 : clOk 5 (RX7, TX7, 7) tyX7 := ⟨tyX7_ok, nmX7, in_good (by decide +kernel), by decide +kernel, by decide +kernel⟩
theorem clOk_6 : clOk 6 (RX8, TX8, 12) tyX8 := ⟨tyX8_ok, nmX8, in_good (by decide +kernel), by decide +kernel, by decide +kernel⟩
theorem clOk_7 : clOk 7 (RX9, TX9, 4) tyX9 := ⟨tyX9_ok, nmX9, in_good (by decide +kernel), by decide +kernel, by decide +kernel⟩
theorem clOk_8 : clOk 8 (RX10, TX10, 8) tyX10 := ⟨tyX10_ok, nmX10, in_good (by decide +kernel), by decide +kernel, by decide +kernel⟩
theorem clOk_9 : clOk 9 (RX11, TX11, 6) tyX11 := ⟨tyX11_ok, nmX11, in_good (by decide +kernel), by decide +kernel, by decide +kernel⟩
theorem clOk_10 : clOk 10 (RX12, TX12, 10) tyX12 := ⟨tyX12_ok, nmX12, in_good (by decide +kernel), by decide +kernel, by decide +kernel⟩
theorem clOk_11 : clOk 11 (RX13, TX13, 72) tyX13 := ⟨tyX13_ok, nmX13, in_good (by decide +kernel), by decide +kernel, by decide +kernel⟩
theorem clOk_all {ci : Nat} {r : vw_C} (h : cls0[ci]? = some r) : ∃ ty0, clOk ci r ty0 := by
  match ci, h with
  | 0, h => cases h; exact ⟨_, clOk_0⟩
  | 1, h => cases h; exact ⟨_, clOk_1⟩
  | 2, h => cases h; exact ⟨_, clOk_2⟩
  | 3, h => cases h; exact ⟨_, clOk_3⟩
  | 4, h => cases h; exact ⟨_, clOk_4⟩
  | 5, h => cases h; exact ⟨_, clOk_5⟩
  | 6, h => cases h; exact ⟨_, clOk_6⟩
  | 7, h => cases h; exact ⟨_, clOk_7⟩
  | 8, h => cases h; exact ⟨_, clOk_8⟩
  | 9, h => cases h; exact ⟨_, clOk_9⟩
  | 10, h => cases h; exact ⟨_, clOk_10⟩
  | 11, h => cases h; exact ⟨_, clOk_11⟩
  | n + 12, h => simp [cls0] at h
def fkey (ci k : Int) : String × String × String × Bool := (cls0.getD ci.toNat (RX1, TX1, 0)).2.1 k.toNat
theorem fkey_of {ci k : Int} {r : vw_C} (h : cls0[ci.toNat]? = some r) : fkey ci k = r.2.1 k.toNat := by
  unfold fkey
  rw [List.getD_eq_getElem?_getD, h]
  rfl
theorem cls_some {ci : Int} (h1 : 0 ≤ ci) (h2 : ci < 12) : ∃ r, cls0[ci.toNat]? = some r := by
  have : ci.toNat < cls0.length := by show _ < 12; omega
  exact ⟨_, List.getElem?_eq_getElem this⟩
