noncomputable section
/-! ===== division, unary operations, the lesser and the greater ===== -/
theorem sDv_n {x y : Int32} (hx : 0 ≤ x.toInt) (hy : 0 < y.toInt) : 0 ≤ (x - x / y * y).toInt ∧ (x - x / y * y).toInt ≤ y.toInt - 1 := by
  have hq : (x / y).toInt = x.toInt / y.toInt := by
    have e := Int32.toInt_div x y
    have h1 : x.toInt.tdiv y.toInt = x.toInt / y.toInt := Int.tdiv_eq_ediv_of_nonneg hx
    rw [h1] at e
    have b0 : 0 ≤ x.toInt / y.toInt := Int.ediv_nonneg hx (by omega)
    have b1 : x.toInt / y.toInt ≤ x.toInt := Int.ediv_le_self _ hx
    have hl := x.toInt_lt
    rw [e]
    exact Int.bmod_eq_of_le (by omega) (by omega)
  have ex : x - x / y * y = Int32.ofInt (x.toInt - x.toInt / y.toInt * y.toInt) := by
    rw [Int32.ofInt_sub, Int32.ofInt_mul, ← hq, Int32.ofInt_toInt, Int32.ofInt_toInt, Int32.ofInt_toInt]
  have hm : x.toInt - x.toInt / y.toInt * y.toInt = x.toInt % y.toInt := by
    rw [Int.mul_comm, Int.emod_def]
  have m0 := Int.emod_nonneg x.toInt (show y.toInt ≠ 0 by omega)
  have m1 := Int.emod_lt_of_pos x.toInt hy
  have hl := y.toInt_lt
  rw [ex, hm, sI_toInt (sI_iff.mpr (by omega))]
  omega
/-- the divisor isn't 0 -/
def sDiv (f : Int32 → Int32 → Int32) (κ : sCx) (a b : sV) : Option (sCx × sV) := if sNz κ.2.1 b = true then sKn f κ a b else none
def sRem (κ : sCx) (a b : sV) : Option (sCx × sV) := if sNz κ.2.1 b = true then (if a.1 = 0 ∧ b.1 = 0 then some (sK2 (fun x y => x - x / y * y) κ a b) else (match sRg κ.2.1 a, sRg κ.2.1 b with
  | some (a0, _), some (b0, b1) => if 0 ≤ a0 ∧ 0 < b0 then some (sFx κ 0 (b1 - 1)) else some (sAny κ)
  | _, _ => none)) else none
theorem sDiv_ok (f : Int32 → Int32 → Int32) : sOpr (sDiv f) f := by
  intro ρ κ κ' a b r m n h ka kb hm hn he
  unfold sDiv at he
  split at he
  · exact sKn_ok f h ka kb hm hn he
  · cases he
theorem sRem_ok : sOpr sRem (fun x y => x - x / y * y) := by
  intro ρ κ κ' a b r m n h ka kb hm hn he
  unfold sRem at he
  split at he
  · split at he
    · rename_i h0
      obtain ⟨rfl, rfl⟩ := sPair he
      exact sK2_ok (f := fun x y => x - x / y * y) h h0 hm hn
    · split at he
      · rename_i a0 a1 b0 b1 ha hb
        obtain ⟨p1, p2, p3⟩ := sRg_ev h.1 hm ha
        obtain ⟨q1, q2, q3⟩ := sRg_ev h.1 hn hb
        have em := sI32 p3
        have en := sI32 q3
        split at he
        · rename_i hc
          obtain ⟨rfl, rfl⟩ := sPair he
          have := sDv_n (x := Int32.ofInt m) (y := Int32.ofInt n) (by omega) (by omega)
          exact sFx_res h (Int32.ofInt m - Int32.ofInt m / Int32.ofInt n * Int32.ofInt n) (fun w1 w2 => by omega)
        · obtain ⟨rfl, rfl⟩ := sPair he
          exact sAny_res h _
      · cases he
  · cases he
theorem sNz_n {ρ : List Int} {nx : Nat} {env : sE} (h : sOk ρ nx env) {t : sV} {k : Int} (hk : sEv ρ t = some k) (hz : sNz env t = true) : ¬ Int32.ofInt k = 0 := by
  have h0 := sNz_ok h hk hz
  unfold sNz at hz
  split at hz
  · rename_i lo hi hr
    obtain ⟨-, -, h3⟩ := sRg_ev h hk hr
    intro q
    have e := sI_toInt h3
    rw [q] at e
    exact h0 e.symm
  · cases hz
/-- the lesser (f true) or the greater of two -/
def sMnx (g : Bool) (x y : Int32) : Int32 := if g = true then (if y < x then y else x) else (if x < y then y else x)
def sMmx (g : Bool) (κ : sCx) (a b : sV) : Option (sCx × sV) := if a.1 = 0 ∧ b.1 = 0 then some (sK2 (sMnx g) κ a b) else (match sRg κ.2.1 a, sRg κ.2.1 b with
  | some (a0, a1), some (b0, b1) => if g = true then (if a1 ≤ b0 then some (κ, a) else if b1 ≤ a0 then some (κ, b) else (match sFx κ (sMn2 a0 b0) (sMn2 a1 b1) with
    | q => some (sPlus q (if a.1 = 0 ∧ a.2 = 100000 then [(5, [q.2, a, b], [2])] else [])))) else if b1 ≤ a0 then some (κ, a) else if a1 ≤ b0 then some (κ, b) else some (sFx κ (sMx2 a0 b0) (sMx2 a1 b1))
  | _, _ => none)
theorem sMmx_ok (g : Bool) : sOpr (sMmx g) (sMnx g) := by
  intro ρ κ κ' a b r m n h ka kb hm hn he
  unfold sMmx at he
  split at he
  · rename_i h0
    obtain ⟨rfl, rfl⟩ := sPair he
    exact sK2_ok h h0 hm hn
  · split at he
    · rename_i a0 a1 b0 b1 ha hb
      obtain ⟨p1, p2, p3⟩ := sRg_ev h.1 hm ha
      obtain ⟨q1, q2, q3⟩ := sRg_ev h.1 hn hb
      have em := sI32 p3
      have en := sI32 q3
      split at he
      · rename_i hg
        subst hg
        have hv : (sMnx true (Int32.ofInt m) (Int32.ofInt n)).toInt = if n < m then n else m := by
          simp only [sMnx, if_true]
          by_cases hlt : Int32.ofInt n < Int32.ofInt m
          · rw [if_pos hlt]
            have := Int32.lt_iff_toInt_lt.mp hlt
            rw [if_pos (by omega), en]
          · rw [if_neg hlt]
            have : ¬ (Int32.ofInt n).toInt < (Int32.ofInt m).toInt := fun q => hlt (Int32.lt_iff_toInt_lt.mpr q)
            rw [if_neg (by omega), em]
        split at he
        · cases he
          refine ⟨ρ, List.prefix_rfl, h, ka, m, hm, ?_⟩
          rw [← Int32.toInt_inj, hv, em]
          split <;> omega
        · split at he
          · cases he
            refine ⟨ρ, List.prefix_rfl, h, kb, n, hn, ?_⟩
            rw [← Int32.toInt_inj, hv, en]
            split <;> omega
          · obtain ⟨rfl, rfl⟩ := sPair he
            obtain ⟨ρ', r1, r2, r3, r4⟩ := sFx_ok h (sMnx true (Int32.ofInt m) (Int32.ofInt n)) (lo := sMn2 a0 b0) (hi := sMn2 a1 b1) (fun w1 w2 => by
              rw [hv]
              simp only [sMn2_eq]
              constructor <;> split <;> split <;> omega)
            refine sPlus_res r1 r2 r3 r4 (Int32.ofInt_toInt _) (fun f hf => ?_)
            split at hf
            · rw [List.mem_singleton] at hf
              subst hf
              refine ⟨_, m, n, r4, sEv_mono r1 hm, sEv_mono r1 hn, fun q => ?_⟩
              rw [hv]
              split <;> omega
            · cases hf
      · rename_i hg
        have hv : (sMnx g (Int32.ofInt m) (Int32.ofInt n)).toInt = if m < n then n else m := by
          simp only [sMnx, if_neg hg]
          by_cases hlt : Int32.ofInt m < Int32.ofInt n
          · rw [if_pos hlt]
            have := Int32.lt_iff_toInt_lt.mp hlt
            rw [if_pos (by omega), en]
          · rw [if_neg hlt]
            have : ¬ (Int32.ofInt m).toInt < (Int32.ofInt n).toInt := fun q => hlt (Int32.lt_iff_toInt_lt.mpr q)
            rw [if_neg (by omega), em]
        split at he
        · cases he
          refine ⟨ρ, List.prefix_rfl, h, ka, m, hm, ?_⟩
          rw [← Int32.toInt_inj, hv, em]
          split <;> omega
        · split at he
          · cases he
            refine ⟨ρ, List.prefix_rfl, h, kb, n, hn, ?_⟩
            rw [← Int32.toInt_inj, hv, en]
            split <;> omega
          · obtain ⟨rfl, rfl⟩ := sPair he
            refine sFx_res h _ (fun w1 w2 => ?_)
            rw [hv]
            simp only [sMx2_eq]
            constructor <;> split <;> split <;> omega
    · cases he
/-- one number -/
def sUpr (op : sCx → sV → Option (sCx × sV)) (G : Int32 → Int32) : Prop := ∀ {ρ : List Int} {κ κ' : sCx} {a r : sV} {m : Int}, sCok ρ κ → sK a = 0 → sEv ρ a = some m → op κ a = some (κ', r) → sRes ρ κ' r (G (Int32.ofInt m))
def sU1 (f : Int32 → Int32) (lo hi : Int) (κ : sCx) (a : sV) : Option (sCx × sV) := if a.1 = 0 then some (κ, (0, (f (Int32.ofInt a.2)).toInt)) else some (sFx κ lo hi)
theorem sU1_ok {f : Int32 → Int32} {lo hi : Int} (hf : ∀ x : Int32, lo ≤ (f x).toInt ∧ (f x).toInt ≤ hi) : sUpr (sU1 f lo hi) f := by
  intro ρ κ κ' a r m h ka hm he
  unfold sU1 at he
  split at he
  · rename_i h0
    cases he
    rw [sEv0 h0 hm]
    exact ⟨ρ, List.prefix_rfl, h, rfl, _, rfl, Int32.ofInt_toInt _⟩
  · obtain ⟨rfl, rfl⟩ := sPair he
    exact sFx_res h _ (fun _ _ => hf _)
/-- a char stays as it is where it is one -/
def sI2c (κ : sCx) (a : sV) : Option (sCx × sV) := if a.1 = 0 then some (κ, (0, ((Int32.ofInt a.2).toUInt32 % 65536).toInt32.toInt)) else (match sRg κ.2.1 a with
  | some (lo, hi) => if 0 ≤ lo ∧ hi < 65536 then some (κ, a) else some (sFx κ 0 65535)
  | none => none)
theorem sChr (x : Int32) : 0 ≤ ((x.toUInt32 % 65536).toInt32).toInt ∧ ((x.toUInt32 % 65536).toInt32).toInt ≤ 65535 := by
  have e : ((x.toUInt32 % 65536).toInt32).toBitVec.toNat = x.toBitVec.toNat % 65536 := by
    show (x.toUInt32 % 65536).toBitVec.toNat = _
    rw [UInt32.toBitVec_mod, BitVec.toNat_umod]
    rfl
  have hl : x.toBitVec.toNat % 65536 < 65536 := Nat.mod_lt _ (by decide)
  have q := sNt (x := (x.toUInt32 % 65536).toInt32) (by omega)
  omega
theorem sChr_id {x : Int32} (h0 : 0 ≤ x.toInt) (h1 : x.toInt < 65536) : (x.toUInt32 % 65536).toInt32 = x := by
  obtain ⟨a1, a2⟩ := sTn h0
  apply Int32.toInt_inj.mp
  have e : ((x.toUInt32 % 65536).toInt32).toBitVec.toNat = x.toBitVec.toNat % 65536 := by
    show (x.toUInt32 % 65536).toBitVec.toNat = _
    rw [UInt32.toBitVec_mod, BitVec.toNat_umod]
    rfl
  rw [Nat.mod_eq_of_lt (by omega)] at e
  rw [sNt (by omega), e, a1]
theorem sI2c_ok : sUpr sI2c (fun x => (x.toUInt32 % 65536).toInt32) := by
  intro ρ κ κ' a r m h ka hm he
  unfold sI2c at he
  split at he
  · rename_i h0
    cases he
    rw [sEv0 h0 hm]
    exact ⟨ρ, List.prefix_rfl, h, rfl, _, rfl, Int32.ofInt_toInt _⟩
  · split at he
    · rename_i lo hi hr
      obtain ⟨p1, p2, p3⟩ := sRg_ev h.1 hm hr
      have em := sI32 p3
      split at he
      · rename_i hc
        cases he
        simp only
        rw [sChr_id (by omega) (by omega)]
        exact sRes_here h ka hm
      · obtain ⟨rfl, rfl⟩ := sPair he
        exact sFx_res h _ (fun _ _ => sChr _)
    · cases he
theorem sByt (x : Int32) : -128 ≤ (x.toInt8.toInt32).toInt ∧ (x.toInt8.toInt32).toInt ≤ 127 := by
  rw [Int8.toInt_toInt32]
  have h1 := x.toInt8.le_toInt
  have h2 := x.toInt8.toInt_lt
  omega
theorem sByV (x : Int32) : (x.toInt8.toInt32).toInt = gSg (x.toInt % 256) := by
  rw [Int8.toInt_toInt32, Int32.toInt_toInt8]
  unfold gSg
  rw [Int.bmod_def]
  split <;> split <;> omega
/-- a signed byte: itself where it is one -/
def sI2b (κ : sCx) (a : sV) : Option (sCx × sV) := if a.1 = 0 then some (κ, (0, ((Int32.ofInt a.2).toInt8.toInt32).toInt)) else (match sRg κ.2.1 a with
  | some (lo, hi) => if -128 ≤ lo ∧ hi ≤ 127 ∧ 16 ≤ a.1 then some (κ, a) else if 128 ≤ lo ∧ hi ≤ 255 ∧ 16 ≤ a.1 then some (κ, (a.1, a.2 + -256)) else (match sFx κ (-128) 127 with
    | q => some (sPlus q [(5, [q.2, a, (0, 0)], [5])]))
  | none => some (sFx κ (-128) 127))
theorem sI2b_ok : sUpr sI2b (fun x => x.toInt8.toInt32) := by
  intro ρ κ κ' a r m h ka hm he
  unfold sI2b at he
  split at he
  · rename_i h0
    cases he
    rw [sEv0 h0 hm]
    exact ⟨ρ, List.prefix_rfl, h, rfl, _, rfl, Int32.ofInt_toInt _⟩
  · split at he
    · rename_i lo hi hr
      obtain ⟨p1, p2, p3⟩ := sRg_ev h.1 hm hr
      have em := sI32 p3
      have hv : ((Int32.ofInt m).toInt8.toInt32).toInt = gSg (m % 256) := by rw [sByV, em]
      split at he
      · rename_i hc
        cases he
        refine ⟨ρ, List.prefix_rfl, h, ka, m, hm, ?_⟩
        rw [← Int32.toInt_inj, hv, em]
        unfold gSg
        split <;> omega
      · split at he
        · rename_i hc
          cases he
          refine ⟨ρ, List.prefix_rfl, h, (sOff ka hc.2.2 hm (-256)).2, m + -256, (sOff ka hc.2.2 hm (-256)).1, ?_⟩
          rw [← Int32.toInt_inj, hv, sI_toInt (sI_iff.mpr (by omega))]
          unfold gSg
          split <;> omega
        · obtain ⟨rfl, rfl⟩ := sPair he
          obtain ⟨ρ', r1, r2, r3, r4⟩ := sFx_ok h ((Int32.ofInt m).toInt8.toInt32) (lo := -128) (hi := 127) (fun _ _ => sByt _)
          refine sPlus_res r1 r2 r3 r4 (Int32.ofInt_toInt _) (fun f hf => ?_)
          rw [List.mem_singleton] at hf
          subst hf
          exact ⟨_, m, 0, r4, sEv_mono r1 hm, rfl, hv⟩
    · obtain ⟨rfl, rfl⟩ := sPair he
      exact sFx_res h _ (fun _ _ => sByt _)
theorem sFul (x : Int32) : -2147483648 ≤ x.toInt ∧ x.toInt ≤ 2147483647 := by
  have h := sI_of x
  rw [sI_iff] at h
  exact h
end
