noncomputable section
/-! ===== bits, shifts, division ===== -/
theorem sTn {x : Int32} (h : 0 ≤ x.toInt) : x.toInt = (x.toBitVec.toNat : Int) ∧ x.toBitVec.toNat < 2147483648 := by
  have e : x.toInt = x.toBitVec.toInt := rfl
  rw [BitVec.toInt_eq_toNat_cond] at e
  have hl := x.toBitVec.isLt
  split at e
  · exact ⟨e, by omega⟩
  · omega
theorem sNt {x : Int32} (h : x.toBitVec.toNat < 2147483648) : x.toInt = (x.toBitVec.toNat : Int) := by
  have e : x.toInt = x.toBitVec.toInt := rfl
  rw [BitVec.toInt_eq_toNat_cond] at e
  split at e
  · exact e
  · omega
theorem sAnd_n {x y : Int32} (h : 0 ≤ y.toInt) : 0 ≤ (x &&& y).toInt ∧ (x &&& y).toInt ≤ y.toInt := by
  obtain ⟨h1, h2⟩ := sTn h
  have e : (x &&& y).toBitVec.toNat = x.toBitVec.toNat &&& y.toBitVec.toNat := by rw [Int32.toBitVec_and, BitVec.toNat_and]
  have hle : (x &&& y).toBitVec.toNat ≤ y.toBitVec.toNat := by rw [e]; exact Nat.and_le_right
  have := sNt (x := x &&& y) (by omega)
  omega
theorem sAnd_c (x y : Int32) : x &&& y = y &&& x := by
  apply Int32.toBitVec_inj.mp
  rw [Int32.toBitVec_and, Int32.toBitVec_and, BitVec.and_comm]
theorem sAnd_m {x y : Int32} (h : 0 ≤ x.toInt) : 0 ≤ (x &&& y).toInt ∧ (x &&& y).toInt ≤ x.toInt := by
  rw [sAnd_c]
  exact sAnd_n h
theorem sOr_n {x y : Int32} {k : Nat} (hk : k ≤ 31) (hx : 0 ≤ x.toInt) (hy : 0 ≤ y.toInt) (h1 : x.toInt < 2 ^ k) (h2 : y.toInt < 2 ^ k) : 0 ≤ (x ||| y).toInt ∧ (x ||| y).toInt < 2 ^ k := by
  obtain ⟨a1, a2⟩ := sTn hx
  obtain ⟨b1, b2⟩ := sTn hy
  have e : (x ||| y).toBitVec.toNat = x.toBitVec.toNat ||| y.toBitVec.toNat := by rw [Int32.toBitVec_or, BitVec.toNat_or]
  have p1 : x.toBitVec.toNat < 2 ^ k := by rw [a1] at h1; exact_mod_cast h1
  have p2 : y.toBitVec.toNat < 2 ^ k := by rw [b1] at h2; exact_mod_cast h2
  have hlt : (x ||| y).toBitVec.toNat < 2 ^ k := by rw [e]; exact Nat.or_lt_two_pow p1 p2
  have hp : 2 ^ k ≤ 2 ^ 31 := Nat.pow_le_pow_right (by decide) hk
  have q := sNt (x := x ||| y) (by omega)
  rw [q]
  exact ⟨by omega, by exact_mod_cast hlt⟩
theorem sXor_n {x y : Int32} {k : Nat} (hk : k ≤ 31) (hx : 0 ≤ x.toInt) (hy : 0 ≤ y.toInt) (h1 : x.toInt < 2 ^ k) (h2 : y.toInt < 2 ^ k) : 0 ≤ (x ^^^ y).toInt ∧ (x ^^^ y).toInt < 2 ^ k := by
  obtain ⟨a1, a2⟩ := sTn hx
  obtain ⟨b1, b2⟩ := sTn hy
  have e : (x ^^^ y).toBitVec.toNat = x.toBitVec.toNat ^^^ y.toBitVec.toNat := by rw [Int32.toBitVec_xor, BitVec.toNat_xor]
  have p1 : x.toBitVec.toNat < 2 ^ k := by rw [a1] at h1; exact_mod_cast h1
  have p2 : y.toBitVec.toNat < 2 ^ k := by rw [b1] at h2; exact_mod_cast h2
  have hlt : (x ^^^ y).toBitVec.toNat < 2 ^ k := by rw [e]; exact Nat.xor_lt_two_pow p1 p2
  have hp : 2 ^ k ≤ 2 ^ 31 := Nat.pow_le_pow_right (by decide) hk
  have q := sNt (x := x ^^^ y) (by omega)
  rw [q]
  exact ⟨by omega, by exact_mod_cast hlt⟩
/-- known numbers: the machine's own reckoning -/
def sK2 (f : Int32 → Int32 → Int32) (κ : sCx) (a b : sV) : sCx × sV := (κ, (0, (f (Int32.ofInt a.2) (Int32.ofInt b.2)).toInt))
theorem sK2_ok {ρ : List Int} {κ : sCx} {a b : sV} {m n : Int} {f : Int32 → Int32 → Int32} (h : sCok ρ κ) (h0 : a.1 = 0 ∧ b.1 = 0) (hm : sEv ρ a = some m) (hn : sEv ρ b = some n) : sRes ρ (sK2 f κ a b).1 (sK2 f κ a b).2 (f (Int32.ofInt m) (Int32.ofInt n)) := by
  rw [sEv0 h0.1 hm, sEv0 h0.2 hn]
  exact ⟨ρ, List.prefix_rfl, h, rfl, _, rfl, Int32.ofInt_toInt _⟩
/-- a fresh number, and what it is made of -/
theorem sFx5 {ρ : List Int} {κ : sCx} {a b : sV} {m n : Int} (h : sCok ρ κ) (w : Int32) {lo hi : Int} {op : Nat} (hb : -2147483648 ≤ lo → hi ≤ 2147483647 → lo ≤ w.toInt ∧ w.toInt ≤ hi) (hm : sEv ρ a = some m) (hn : sEv ρ b = some n) (ho : sOp5 op w.toInt m n) : sRes ρ (sPlus (sFx κ lo hi) [(5, [(sFx κ lo hi).2, a, b], [op])]).1 (sPlus (sFx κ lo hi) [(5, [(sFx κ lo hi).2, a, b], [op])]).2 w := by
  obtain ⟨ρ', r1, r2, r3, r4⟩ := sFx_ok h w hb
  refine sPlus_res r1 r2 r3 r4 (Int32.ofInt_toInt _) (fun f hf => ?_)
  rw [List.mem_singleton] at hf
  subst hf
  exact ⟨_, m, n, r4, sEv_mono r1 hm, sEv_mono r1 hn, ho⟩
theorem sFb {w : Int32} : -2147483648 ≤ (-2147483648 : Int) → (2147483647 : Int) ≤ 2147483647 → -2147483648 ≤ w.toInt ∧ w.toInt ≤ 2147483647 := fun _ _ => sI_iff.mp (sI_of w)
/-- the low byte, unsigned -/
theorem sAnd255 (x : Int32) : (x &&& 255).toInt = x.toInt % 256 := by
  have h1 : (x &&& 255).toBitVec.toNat = x.toBitVec.toNat % 256 := by
    rw [Int32.toBitVec_and, BitVec.toNat_and]
    exact Nat.and_two_pow_sub_one_eq_mod _ 8
  have h2 : (x &&& 255).toBitVec.toNat < 2147483648 := by omega
  rw [sNt h2, h1]
  have h3 : x.toInt = (x.toBitVec.toNat : Int) ∨ x.toInt = (x.toBitVec.toNat : Int) - 4294967296 := by
    have := BitVec.toInt_eq_toNat_cond x.toBitVec
    have e : x.toInt = x.toBitVec.toInt := rfl
    rw [e, this]
    split
    · exact Or.inl rfl
    · exact Or.inr rfl
  omega
/-- a byte that is known to be one: itself, or with 256 -/
def sA255 (κ : sCx) (a : sV) (a0 a1 : Int) (k : Option (sCx × sV)) : Option (sCx × sV) := if 0 ≤ a0 ∧ a1 ≤ 255 ∧ 16 ≤ a.1 then some (κ, a) else if -256 ≤ a0 ∧ a1 < 0 ∧ 16 ≤ a.1 then some (κ, (a.1, a.2 + 256)) else k
def sAndF (a y : sV) : List sFc := if 16 ≤ a.1 then [(0, [a, y], [])] else []
def sAnd (κ : sCx) (a b : sV) : Option (sCx × sV) := if a.1 = 0 ∧ b.1 = 0 then some (sK2 (fun x y => x &&& y) κ a b) else (match sRg κ.2.1 a, sRg κ.2.1 b with
  | some (a0, a1), some (b0, b1) => if b.1 = 0 ∧ b.2 = 1 then (match sFx κ 0 1 with
      | q => some (sPlus q [(5, [q.2, a, b], [7])])) else if b.1 = 0 ∧ b.2 = 255 then sA255 κ a a0 a1 (match sFx κ 0 255 with
      | q => some (sPlus q [(5, [q.2, a, b], [6])])) else if 0 ≤ b0 then (if 0 ≤ a0 then (match sFx κ 0 (sMn2 a1 b1) with
      | q => some (sPlus q (sAndF a q.2 ++ sAndF b q.2))) else some (sFx κ 0 b1)) else if 0 ≤ a0 then some (sFx κ 0 a1) else some (sAny κ)
  | _, _ => none)
theorem sAnd_ok : sOpr sAnd (fun x y => x &&& y) := by
  intro ρ κ κ' a b r m n h ka kb hm hn he
  unfold sAnd at he
  split at he
  · rename_i h0
    obtain ⟨rfl, rfl⟩ := sPair he
    exact sK2_ok h h0 hm hn
  · split at he
    · rename_i a0 a1 b0 b1 ha hb
      obtain ⟨p1, p2, p3⟩ := sRg_ev h.1 hm ha
      obtain ⟨q1, q2, q3⟩ := sRg_ev h.1 hn hb
      have em := sI32 p3
      have en := sI32 q3
      split at he
      · rename_i h1
        have eb : n = 1 := by rw [sEv0 h1.1 hn]; exact h1.2
        subst eb
        have k1 := sAnd_n (x := Int32.ofInt m) (y := Int32.ofInt 1) (by decide)
        have k2 : (Int32.ofInt 1).toInt = 1 := by decide
        obtain ⟨rfl, rfl⟩ := sPair he
        exact sFx5 h (Int32.ofInt m &&& Int32.ofInt 1) (fun _ _ => by omega) hm hn rfl
      split at he
      · rename_i h255
        have eb : n = 255 := by rw [sEv0 h255.1 hn]; exact h255.2
        subst eb
        have hv : (Int32.ofInt m &&& Int32.ofInt 255).toInt = m % 256 := by
          rw [show Int32.ofInt 255 = 255 from rfl, sAnd255, em]
        unfold sA255 at he
        split at he
        · rename_i hc
          cases he
          refine ⟨ρ, List.prefix_rfl, h, ka, m, hm, ?_⟩
          rw [← Int32.toInt_inj, hv, em]
          omega
        · split at he
          · rename_i hc
            cases he
            refine ⟨ρ, List.prefix_rfl, h, (sOff ka hc.2.2 hm 256).2, m + 256, (sOff ka hc.2.2 hm 256).1, ?_⟩
            rw [← Int32.toInt_inj, hv, sI_toInt (sI_iff.mpr (by omega))]
            omega
          · obtain ⟨rfl, rfl⟩ := sPair he
            obtain ⟨ρ', r1, r2, r3, r4⟩ := sFx_ok h (Int32.ofInt m &&& Int32.ofInt 255) (lo := 0) (hi := 255) (fun w1 w2 => by rw [hv]; omega)
            refine sPlus_res r1 r2 r3 r4 (Int32.ofInt_toInt _) (fun f hf => ?_)
            rw [List.mem_singleton] at hf
            subst hf
            exact ⟨_, m, 255, r4, sEv_mono r1 hm, sEv_mono r1 hn, hv⟩
      split at he
      · rename_i hb0
        have k1 := sAnd_n (x := Int32.ofInt m) (y := Int32.ofInt n) (by omega)
        split at he
        · rename_i ha0
          have k2 := sAnd_m (x := Int32.ofInt m) (y := Int32.ofInt n) (by omega)
          obtain ⟨rfl, rfl⟩ := sPair he
          obtain ⟨ρ', r1, r2, r3, r4⟩ := sFx_ok h (Int32.ofInt m &&& Int32.ofInt n) (lo := 0) (hi := sMn2 a1 b1) (fun w1 w2 => by rw [sMn2_eq]; split <;> omega)
          refine sPlus_res r1 r2 r3 r4 (Int32.ofInt_toInt _) (fun f hf => ?_)
          unfold sAndF at hf
          rcases List.mem_append.mp hf with hf | hf
          · split at hf
            · rw [List.mem_singleton] at hf
              subst hf
              exact ⟨m, _, sEv_mono r1 hm, r4, by omega⟩
            · cases hf
          · split at hf
            · rw [List.mem_singleton] at hf
              subst hf
              exact ⟨n, _, sEv_mono r1 hn, r4, by omega⟩
            · cases hf
        · obtain ⟨rfl, rfl⟩ := sPair he
          exact sFx_res h (Int32.ofInt m &&& Int32.ofInt n) (fun w1 w2 => by omega)
      · split at he
        · rename_i ha0
          have k2 := sAnd_m (x := Int32.ofInt m) (y := Int32.ofInt n) (by omega)
          obtain ⟨rfl, rfl⟩ := sPair he
          exact sFx_res h (Int32.ofInt m &&& Int32.ofInt n) (fun w1 w2 => by omega)
        · obtain ⟨rfl, rfl⟩ := sPair he
          exact sAny_res h _
    · cases he
/-- the least of 2^0 .. 2^31 above a number -/
def sPw : List Nat → Int → Nat
  | [], _ => 31
  | k :: t, z => if z < 2 ^ k then k else sPw t z
def sPwL : List Nat := [0, 1, 2, 3, 4, 5, 6, 7, 8, 9, 10, 11, 12, 13, 14, 15, 16, 17, 18, 19, 20, 21, 22, 23, 24, 25, 26, 27, 28, 29, 30]
theorem sPw_ok {z : Int} (h : z ≤ 2147483647) : ∀ l : List Nat, (∀ k ∈ l, k ≤ 31) → z < 2 ^ (sPw l z) ∧ sPw l z ≤ 31
  | [], _ => by
    simp only [sPw]
    exact ⟨by omega, by omega⟩
  | k :: t, hl => by
    simp only [sPw]
    split
    · rename_i hz
      exact ⟨hz, hl k List.mem_cons_self⟩
    · exact sPw_ok h t (fun j hj => hl j (List.mem_cons_of_mem _ hj))
def sBor (f : Int32 → Int32 → Int32) (op : Nat) (κ : sCx) (a b : sV) : Option (sCx × sV) := if a.1 = 0 ∧ b.1 = 0 then some (sK2 f κ a b) else (match sRg κ.2.1 a, sRg κ.2.1 b with
  | some (a0, a1), some (b0, b1) => if 0 ≤ a0 ∧ 0 ≤ b0 then (match sFx κ 0 (2 ^ sPw sPwL (sMx2 a1 b1) - 1) with
      | q => some (sPlus q [(5, [q.2, a, b], [op])])) else (match sFx κ (-2147483648) 2147483647 with
      | q => some (sPlus q [(5, [q.2, a, b], [op])]))
  | _, _ => none)
theorem sBor_ok {f : Int32 → Int32 → Int32} {op : Nat} (ho : ∀ m n : Int, sOp5 op (f (Int32.ofInt m) (Int32.ofInt n)).toInt m n) (hf : ∀ {x y : Int32} {k : Nat}, k ≤ 31 → 0 ≤ x.toInt → 0 ≤ y.toInt → x.toInt < 2 ^ k → y.toInt < 2 ^ k → 0 ≤ (f x y).toInt ∧ (f x y).toInt < 2 ^ k) : sOpr (sBor f op) f := by
  intro ρ κ κ' a b r m n h ka kb hm hn he
  unfold sBor at he
  split at he
  · rename_i h0
    obtain ⟨rfl, rfl⟩ := sPair he
    exact sK2_ok h h0 hm hn
  · split at he
    · rename_i a0 a1 b0 b1 ha hb
      obtain ⟨p1, p2, p3⟩ := sRg_ev h.1 hm ha
      obtain ⟨q1, q2, q3⟩ := sRg_ev h.1 hn hb
      have em := sI32 p3
      have en := sI32 q3
      split at he
      · rename_i hc
        obtain ⟨rfl, rfl⟩ := sPair he
        have hx : a1 ≤ 2147483647 ∧ b1 ≤ 2147483647 := by
          rw [sRg_eq] at ha hb
          constructor
          · split at ha
            · split at ha
              · rename_i hI; cases ha; rw [sI_iff] at hI; exact hI.2
              · cases ha
            · split at ha
              · simp only at ha
                split at ha
                · rename_i hh; cases ha; exact hh.2
                · cases ha
              · cases ha
          · split at hb
            · split at hb
              · rename_i hI; cases hb; rw [sI_iff] at hI; exact hI.2
              · cases hb
            · split at hb
              · simp only at hb
                split at hb
                · rename_i hh; cases hb; exact hh.2
                · cases hb
              · cases hb
        have hmx : sMx2 a1 b1 ≤ 2147483647 := by rw [sMx2_eq]; split <;> omega
        have hm1 : a1 ≤ sMx2 a1 b1 := by rw [sMx2_eq]; split <;> omega
        have hm2 : b1 ≤ sMx2 a1 b1 := by rw [sMx2_eq]; split <;> omega
        obtain ⟨g1, g2⟩ := sPw_ok hmx sPwL (by decide)
        generalize sPw sPwL (sMx2 a1 b1) = k at *
        have := hf (x := Int32.ofInt m) (y := Int32.ofInt n) g2 (by omega) (by omega) (by omega) (by omega)
        exact sFx5 h _ (fun w1 w2 => by omega) hm hn (ho m n)
      · obtain ⟨rfl, rfl⟩ := sPair he
        exact sFx5 h _ sFb hm hn (ho m n)
    · cases he
/-- nothing is known of it but where both are known -/
def sKn (f : Int32 → Int32 → Int32) (κ : sCx) (a b : sV) : Option (sCx × sV) := if a.1 = 0 ∧ b.1 = 0 then some (sK2 f κ a b) else some (sAny κ)
theorem sKn_ok (f : Int32 → Int32 → Int32) : sOpr (sKn f) f := by
  intro ρ κ κ' a b r m n h ka kb hm hn he
  unfold sKn at he
  split at he
  · rename_i h0
    obtain ⟨rfl, rfl⟩ := sPair he
    exact sK2_ok h h0 hm hn
  · obtain ⟨rfl, rfl⟩ := sPair he
    exact sAny_res h _
/-- a shift to the right by a known number is minded -/
def sShr (κ : sCx) (a b : sV) : Option (sCx × sV) := if a.1 = 0 ∧ b.1 = 0 then some (sK2 (fun x y => x >>> (y &&& 31)) κ a b) else if b.1 = 0 ∧ 0 ≤ b.2 ∧ b.2 < 31 ∧ (sRg κ.2.1 a).isSome = true then (match sAny κ with
  | q => some (sPlus q [(5, [q.2, a, b], [4]), (5, [q.2, a, b], [11])])) else (match sFx κ (-2147483648) 2147483647 with
  | q => some (sPlus q [(5, [q.2, a, b], [11])]))
theorem sShc : ∀ n, n < 31 → ((Int32.ofNat n &&& 31).toBitVec.smod 32).toNat = n := by decide +kernel
theorem sShr_n {x y : Int32} {k : Nat} (hk : k < 31) (hy : y.toInt = (k : Int)) : (x >>> (y &&& 31)).toInt = x.toInt / 2 ^ k := by
  have ey : y = Int32.ofNat k := by
    rw [← Int32.toInt_inj, hy, Int32.toInt_ofNat_of_lt (by omega)]
  rw [ey]
  show ((x.toBitVec.sshiftRight' ((Int32.ofNat k &&& 31).toBitVec.smod 32))).toInt = _
  rw [BitVec.toInt_sshiftRight', sShc k hk, Int.shiftRight_eq_div_pow]
  rfl
theorem sShr_ok : sOpr sShr (fun x y => x >>> (y &&& 31)) := by
  intro ρ κ κ' a b r m n h ka kb hm hn he
  unfold sShr at he
  split at he
  · rename_i h0
    obtain ⟨rfl, rfl⟩ := sPair he
    exact sK2_ok h h0 hm hn
  · split at he
    · rename_i hc
      have eb := sEv0 hc.1 hn
      obtain ⟨rfl, rfl⟩ := sPair he
      obtain ⟨ρ', r1, r2, r3, r4⟩ := sFx_ok h (Int32.ofInt m >>> (Int32.ofInt n &&& 31)) (lo := -2147483648) (hi := 2147483647) (fun _ _ => sI_iff.mp (sI_of _))
      have ea : sAny κ = sFx κ (-2147483648) 2147483647 := rfl
      refine sPlus_res r1 r2 r3 r4 (Int32.ofInt_toInt _) (fun f hf => ?_)
      rcases (List.mem_cons.mp hf).symm with hf | rfl
      · rw [List.mem_singleton] at hf
        subst hf
        exact ⟨_, m, n, r4, sEv_mono r1 hm, sEv_mono r1 hn, rfl⟩
      refine ⟨_, m, n, r4, sEv_mono r1 hm, sEv_mono r1 hn, ?_⟩
      obtain ⟨qr, hqr⟩ := Option.isSome_iff_exists.mp hc.2.2.2
      have hI : sI m = true := (sRg_ev (lo := qr.1) (hi := qr.2) h.1 hm hqr).2.2
      have hn31 : (Int32.ofInt n).toInt = ((n.toNat : Nat) : Int) := by
        rw [sI_toInt (sI_iff.mpr (by omega))]
        omega
      show (Int32.ofInt m >>> (Int32.ofInt n &&& 31)).toInt = m / 2 ^ n.toNat
      rw [sShr_n (k := n.toNat) (by omega) hn31, sI_toInt hI]
    · obtain ⟨rfl, rfl⟩ := sPair he
      exact sFx5 h _ sFb hm hn rfl
theorem sShl_n {x y : Int32} {k : Nat} (hk : k < 31) (hy : y.toInt = (k : Int)) (hx : 0 ≤ x.toInt) (h : x.toInt * 2 ^ k < 2147483648) : (x <<< (y &&& 31)).toInt = x.toInt * 2 ^ k := by
  obtain ⟨a1, a2⟩ := sTn hx
  have ey : y = Int32.ofNat k := by
    apply Int32.toInt_inj.mp
    rw [hy, ← Int32.ofInt_eq_ofNat, sI_toInt (sI_iff.mpr (by omega))]
  have e : (x <<< (y &&& 31)).toBitVec.toNat = (x.toBitVec.toNat * 2 ^ k) % 2 ^ 32 := by
    rw [Int32.toBitVec_shiftLeft, ey, BitVec.shiftLeft_eq', BitVec.toNat_shiftLeft, sShc k hk, Nat.shiftLeft_eq]
  have hlt : x.toBitVec.toNat * 2 ^ k < 2147483648 := by
    rw [a1] at h
    refine Int.ofNat_lt.mp ?_
    rw [Int.natCast_mul, Int.natCast_pow]
    exact h
  rw [Nat.mod_eq_of_lt (by omega)] at e
  rw [sNt (by omega), e, a1, Int.natCast_mul, Int.natCast_pow]
  rfl
def sShl (κ : sCx) (a b : sV) : Option (sCx × sV) := if a.1 = 0 ∧ b.1 = 0 then some (sK2 (fun x y => x <<< (y &&& 31)) κ a b) else (match sRg κ.2.1 a, sRg κ.2.1 b with
  | some (a0, a1), some (b0, b1) => if 0 ≤ a0 ∧ 0 ≤ b0 ∧ b1 ≤ 30 ∧ a1 * 2 ^ b1.toNat ≤ 2147483647 then (match sFx κ (a0 * 2 ^ b0.toNat) (a1 * 2 ^ b1.toNat) with
      | q => some (sPlus q [(5, [q.2, a, b], [10])])) else (match sFx κ (-2147483648) 2147483647 with
      | q => some (sPlus q [(5, [q.2, a, b], [10])]))
  | _, _ => none)
theorem sShl_ok : sOpr sShl (fun x y => x <<< (y &&& 31)) := by
  intro ρ κ κ' a b r m n h ka kb hm hn he
  unfold sShl at he
  split at he
  · rename_i h0
    obtain ⟨rfl, rfl⟩ := sPair he
    exact sK2_ok h h0 hm hn
  · split at he
    · rename_i a0 a1 b0 b1 ha hb
      obtain ⟨p1, p2, p3⟩ := sRg_ev h.1 hm ha
      obtain ⟨q1, q2, q3⟩ := sRg_ev h.1 hn hb
      have em := sI32 p3
      have en := sI32 q3
      split at he
      · rename_i hc
        obtain ⟨c1, c2, c3, c4⟩ := hc
        obtain ⟨rfl, rfl⟩ := sPair he
        obtain ⟨k, hk⟩ : ∃ k : Nat, n = (k : Int) := ⟨n.toNat, by omega⟩
        subst hk
        have w1 : (2 : Int) ^ b0.toNat ≤ 2 ^ k := by
          have : 2 ^ b0.toNat ≤ 2 ^ k := Nat.pow_le_pow_right (by decide) (by omega)
          exact_mod_cast this
        have w2 : (2 : Int) ^ k ≤ 2 ^ b1.toNat := by
          have : 2 ^ k ≤ 2 ^ b1.toNat := Nat.pow_le_pow_right (by decide) (by omega)
          exact_mod_cast this
        have w0 : (0 : Int) ≤ 2 ^ b0.toNat := by
          have : 0 ≤ 2 ^ b0.toNat := Nat.zero_le _
          exact_mod_cast this
        have l1 : a0 * 2 ^ b0.toNat ≤ m * 2 ^ k := Int.mul_le_mul p1 w1 w0 (by omega)
        have l2 : m * 2 ^ k ≤ a1 * 2 ^ b1.toNat := Int.mul_le_mul p2 w2 (by omega) (by omega)
        have e := sShl_n (x := Int32.ofInt m) (y := Int32.ofInt (k : Int)) (k := k) (by omega) en (by omega) (by rw [em]; omega)
        rw [em] at e
        exact sFx5 h _ (fun _ _ => by show _ ≤ (Int32.ofInt m <<< (Int32.ofInt (k : Int) &&& 31)).toInt ∧ (Int32.ofInt m <<< (Int32.ofInt (k : Int) &&& 31)).toInt ≤ _; rw [e]; exact ⟨l1, l2⟩) hm hn rfl
      · obtain ⟨rfl, rfl⟩ := sPair he
        exact sFx5 h _ sFb hm hn rfl
    · cases he
end
