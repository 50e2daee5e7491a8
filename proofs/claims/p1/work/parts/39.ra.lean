/-! ===== every script has its run ===== -/
theorem gs_all : ∀ k : Nat, k < 6 → ∃ n, sYes (pGo n (eS k)) = true
  | 0, _ => ⟨_, gs_0⟩
  | 1, _ => ⟨_, gs_1⟩
  | 2, _ => ⟨_, gs_2⟩
  | 3, _ => ⟨_, gs_3⟩
  | 4, _ => ⟨_, gs_4⟩
  | 5, _ => ⟨_, gs_5⟩
  | k + 6, h => by omega
theorem go_all : ∀ k : Nat, k < 32 → k ≠ 29 → ∃ n, sYes (pGo n (eK k)) = true
  | 0, _, _ => ⟨_, go_0⟩
  | 1, _, _ => ⟨_, go_1⟩
  | 2, _, _ => ⟨_, go_2⟩
  | 3, _, _ => ⟨_, go_3⟩
  | 4, _, _ => ⟨_, go_4⟩
  | 5, _, _ => ⟨_, go_5⟩
  | 6, _, _ => ⟨_, go_6⟩
  | 7, _, _ => ⟨_, go_7⟩
  | 8, _, _ => ⟨_, go_8⟩
  | 9, _, _ => ⟨_, go_9⟩
  | 10, _, _ => ⟨_, go_10⟩
  | 11, _, _ => ⟨_, go_11⟩
  | 12, _, _ => ⟨_, go_12⟩
  | 13, _, _ => ⟨_, go_13⟩
  | 14, _, _ => ⟨_, go_14⟩
  | 15, _, _ => ⟨_, go_15⟩
  | 16, _, _ => ⟨_, go_16⟩
  | 17, _, _ => ⟨_, go_17⟩
  | 18, _, _ => ⟨_, go_18⟩
  | 19, _, _ => ⟨_, go_19⟩
  | 20, _, _ => ⟨_, go_20⟩
  | 21, _, _ => ⟨_, go_21⟩
  | 22, _, _ => ⟨_, go_22⟩
  | 23, _, _ => ⟨_, go_23⟩
  | 24, _, _ => ⟨_, go_24⟩
  | 25, _, _ => ⟨_, go_25⟩
  | 26, _, _ => ⟨_, go_26⟩
  | 27, _, _ => ⟨_, go_27⟩
  | 28, _, _ => ⟨_, go_28⟩
  | 29, _, h => (h rfl).elim
  | 30, _, _ => ⟨_, go_30⟩
  | 31, _, _ => ⟨_, go_31⟩
  | k + 32, h, _ => by omega
theorem gy_all : ∀ k : Nat, k < 41 → ∃ n, sYes (pGo n (eY k)) = true
  | 0, _ => ⟨_, gy_0⟩
  | 1, _ => ⟨_, gy_1⟩
  | 2, _ => ⟨_, gy_2⟩
  | 3, _ => ⟨_, gy_3⟩
  | 4, _ => ⟨_, gy_4⟩
  | 5, _ => ⟨_, gy_5⟩
  | 6, _ => ⟨_, gy_6⟩
  | 7, _ => ⟨_, gy_7⟩
  | 8, _ => ⟨_, gy_8⟩
  | 9, _ => ⟨_, gy_9⟩
  | 10, _ => ⟨_, gy_10⟩
  | 11, _ => ⟨_, gy_11⟩
  | 12, _ => ⟨_, gy_12⟩
  | 13, _ => ⟨_, gy_13⟩
  | 14, _ => ⟨_, gy_14⟩
  | 15, _ => ⟨_, gy_15⟩
  | 16, _ => ⟨_, gy_16⟩
  | 17, _ => ⟨_, gy_17⟩
  | 18, _ => ⟨_, gy_18⟩
  | 19, _ => ⟨_, gy_19⟩
  | 20, _ => ⟨_, gy_20⟩
  | 21, _ => ⟨_, gy_21⟩
  | 22, _ => ⟨_, gy_22⟩
  | 23, _ => ⟨_, gy_23⟩
  | 24, _ => ⟨_, gy_24⟩
  | 25, _ => ⟨_, gy_25⟩
  | 26, _ => ⟨_, gy_26⟩
  | 27, _ => ⟨_, gy_27⟩
  | 28, _ => ⟨_, gy_28⟩
  | 29, _ => ⟨_, gy_29⟩
  | 30, _ => ⟨_, gy_30⟩
  | 31, _ => ⟨_, gy_31⟩
  | 32, _ => ⟨_, gy_32⟩
  | 33, _ => ⟨_, gy_33⟩
  | 34, _ => ⟨_, gy_34⟩
  | 35, _ => ⟨_, gy_35⟩
  | 36, _ => ⟨_, gy_36⟩
  | 37, _ => ⟨_, gy_37⟩
  | 38, _ => ⟨_, gy_38⟩
  | 39, _ => ⟨_, gy_39⟩
  | 40, _ => ⟨_, gy_40⟩
  | k + 41, h => by omega
theorem eB_ok (x : Int32) : eB.1 ≤ x.toInt ∧ x.toInt ≤ eB.2 := by
  have h1 := x.minValue_le_toInt
  have h2 := x.toInt_le
  exact ⟨h1, h2⟩
theorem sSat8 {ρ : Nat → Int32} {e0 e1 e2 e3 e4 e5 e6 e7 : Int × Int} (h0 : e0.1 ≤ (ρ 0).toInt ∧ (ρ 0).toInt ≤ e0.2) (h1 : e1.1 ≤ (ρ 1).toInt ∧ (ρ 1).toInt ≤ e1.2) (h2 : e2.1 ≤ (ρ 2).toInt ∧ (ρ 2).toInt ≤ e2.2) (h3 : e3.1 ≤ (ρ 3).toInt ∧ (ρ 3).toInt ≤ e3.2) (h4 : e4.1 ≤ (ρ 4).toInt ∧ (ρ 4).toInt ≤ e4.2) (h5 : e5.1 ≤ (ρ 5).toInt ∧ (ρ 5).toInt ≤ e5.2) (h6 : e6.1 ≤ (ρ 6).toInt ∧ (ρ 6).toInt ≤ e6.2) (h7 : e7.1 ≤ (ρ 7).toInt ∧ (ρ 7).toInt ≤ e7.2) : sSat ρ [e0, e1, e2, e3, e4, e5, e6, e7]
  | 0, _, _, h => by cases h; exact h0
  | 1, _, _, h => by cases h; exact h1
  | 2, _, _, h => by cases h; exact h2
  | 3, _, _, h => by cases h; exact h3
  | 4, _, _, h => by cases h; exact h4
  | 5, _, _, h => by cases h; exact h5
  | 6, _, _, h => by cases h; exact h6
  | 7, _, _, h => by cases h; exact h7
  | i + 8, _, _, h => by simp at h
def weR (xs : Nat → Int32) (L : Nat) : Nat → Int32 := fun j => if j < 6 then xs j else if j = 6 then xs 0 &&& 31 else Int32.ofNat L
theorem weR_6 (xs : Nat → Int32) (L : Nat) : weR xs L 6 = xs 0 &&& 31 := rfl
theorem weR_7 (xs : Nat → Int32) (L : Nat) : weR xs L 7 = Int32.ofNat L := rfl
theorem we_L {L : Nat} (h : L ≤ 6) : (Int32.ofNat L).toInt = (L : Int) := by
  rcases (by omega : L = 0 ∨ L = 1 ∨ L = 2 ∨ L = 3 ∨ L = 4 ∨ L = 5 ∨ L = 6) with rfl | rfl | rfl | rfl | rfl | rfl | rfl <;> decide
theorem we_31 (x : Int32) : ∃ k : Nat, k < 32 ∧ (x &&& 31).toInt = (k : Int) := by
  have hle : (x &&& 31).toBitVec.toNat ≤ 31 := by
    rw [Int32.toBitVec_and, BitVec.toNat_and]
    exact Nat.le_trans Nat.and_le_right (by decide)
  refine ⟨(x &&& 31).toBitVec.toNat, by omega, ?_⟩
  show (x &&& 31).toBitVec.toInt = _
  rw [BitVec.toInt_eq_toNat_of_lt (by omega)]
theorem we_run {L : Nat} (hL : L ≤ 6) (xs : Nat → Int32) : ∃ (n : Nat) (env : sE), sSat (weR xs L) env ∧ sYes (pGo n env) = true := by
  obtain ⟨k, hk, e6⟩ := we_31 (xs 0)
  have e7 : (weR xs L 7).toInt = (L : Int) := we_L hL
  by_cases h6 : L < 6
  · obtain ⟨n, hn⟩ := gs_all L h6
    refine ⟨n, eS L, sSat8 (eB_ok _) (eB_ok _) (eB_ok _) (eB_ok _) (eB_ok _) (eB_ok _) ?_ ?_, hn⟩
    · rw [weR_6, e6]
      constructor
      · show (0 : Int) ≤ _
        omega
      · show _ ≤ (31 : Int)
        omega
    · rw [e7]
      exact ⟨Int.le_refl _, Int.le_refl _⟩
  · have hL6 : L = 6 := by omega
    subst hL6
    have e7' : (6 : Int) ≤ (weR xs 6 7).toInt ∧ (weR xs 6 7).toInt ≤ 6 := by
      rw [e7]
      exact ⟨Int.le_refl _, Int.le_refl _⟩
    by_cases h29 : k = 29
    · subst h29
      have e6' : (29 : Int) ≤ (weR xs 6 6).toInt ∧ (weR xs 6 6).toInt ≤ 29 := by
        rw [weR_6, e6]
        exact ⟨Int.le_refl _, Int.le_refl _⟩
      have hb := eB_ok (xs 2)
      by_cases hn : (xs 2).toInt < 0
      · exact ⟨_, eYn, sSat8 (eB_ok _) (eB_ok _) ⟨hb.1, show (xs 2).toInt ≤ -1 by omega⟩ (eB_ok _) (eB_ok _) (eB_ok _) e6' e7', gy_n⟩
      · by_cases hp : 40 < (xs 2).toInt
        · exact ⟨_, eYp, sSat8 (eB_ok _) (eB_ok _) ⟨show (41 : Int) ≤ (xs 2).toInt by omega, hb.2⟩ (eB_ok _) (eB_ok _) (eB_ok _) e6' e7', gy_p⟩
        · obtain ⟨j, hj⟩ : ∃ j : Nat, (xs 2).toInt = (j : Int) := ⟨(xs 2).toInt.toNat, by omega⟩
          obtain ⟨n, hn⟩ := gy_all j (by omega)
          exact ⟨n, eY j, sSat8 (eB_ok _) (eB_ok _) ⟨show (j : Int) ≤ (xs 2).toInt by omega, show (xs 2).toInt ≤ (j : Int) by omega⟩ (eB_ok _) (eB_ok _) (eB_ok _) e6' e7', hn⟩
    · obtain ⟨n, hn⟩ := go_all k hk h29
      refine ⟨n, eK k, sSat8 (eB_ok _) (eB_ok _) (eB_ok _) (eB_ok _) (eB_ok _) (eB_ok _) ?_ e7', hn⟩
      rw [weR_6, e6]
      exact ⟨Int.le_refl _, Int.le_refl _⟩
